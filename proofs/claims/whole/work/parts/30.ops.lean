/-! THE LAW'S STEPS -/
abbrev lwA (s : State) : Nat → Prop := fun q => s.heap.size ≤ q
theorem w_other {g : wG} {A : Nat → Prop} {s : State} {H H1 : Heap} {locs locs1 : List Loc} {μ μ' ν : wMu} (hX1 : wX g A s H1 locs1 μ') (hY : wX g A s H locs ν) (hfr : ∀ q : Nat, q < H.size → μ q = none → H1[q]? = H[q]?) (hdm : ∀ q, μ' q ≠ none → wA μ H.size q) (hdj : ∀ q, μ q ≠ none → ν q = none) : wX g A s H1 locs1 ν ∧ (∀ q, μ' q ≠ none → ν q = none) := by
  obtain ⟨a1, a2, a3, a4, a5, a6⟩ := hX1
  have hn : ∀ q, ν q ≠ none → q < H.size ∧ μ q = none := fun q hq => by
    cases he : ν q with
    | none => exact absurd he hq
    | some e => exact ⟨hY.lt he, Classical.byContradiction fun z => hq (hdj q z)⟩
  refine ⟨⟨a1, a2, a3, a4, fun q e hq => ?_, hY.dom⟩, fun q hq => Classical.byContradiction fun z => ?_⟩
  · have h9 := hn q (by rw [hq]; exact Option.some_ne_none _)
    exact (hY.P q e hq).kept (hfr q h9.1 h9.2)
  · obtain ⟨z1, z2⟩ := hn q z
    rcases hdm q hq with h | h
    · exact h z2
    · omega
def lwK (p : Program) (l : Launch) (e : Env) (s : State) (m : MethodId) (below : List Frame) (meth : Method) (c : Code) (b : Nat) (g : wG) (Ω : Nat → Nat) (i : Nat) : Prop :=
  ∀ (d : Drawn) (Λ' σ' : sSt) (w' : Int64) (th' : Nat) (μ' ν' : wMu) (H' : Heap) (locs' : List Loc) (ls' : Array Slot) (cells' slots' : Nat), s.drawn.sameBut d lw_cs → gd σ' (i + 1) → fD g Λ' (some w') σ' μ' → mD g Ω th' σ' ν' → (∀ q, μ' q ≠ none → ν' q = none) → wX g (lwA s) (s.setDrawn d) H' locs' μ' → wX g (lwA s) (s.setDrawn d) H' locs' ν' → cells' ≤ 20 + 1000 * (i + 1) → slots' ≤ 200 + 10000 * (i + 1) →
    lv_has ls' 9 [(4, .int (nI (4 * i))), (3, .ref (Λ' 9 0)), (2, .ref (Ω 0)), (1, .ref (Λ' 0 0)), (0, .ref b)] → W p l e room_1 (s.setDrawn d) m #[Value.ref b] below meth c H' locs' cells' slots' (lw_Z below #[Value.ref b] s) (F0 m 1609 ls' [])
theorem cd1_l (p : Prop) [Decidable p] : cd1 p < 2 ^ 31 := by
  unfold cd1; split <;> decide
theorem cd2_l (p q : Prop) [Decidable p] [Decidable q] : cd2 p q < 2 ^ 31 := by
  unfold cd2; repeat' split
  all_goals decide
theorem cd3_l (p q r : Prop) [Decidable p] [Decidable q] [Decidable r] : cd3 p q r < 2 ^ 31 := by
  unfold cd3; repeat' split
  all_goals decide
theorem lgc0 (x : Int64) : lg_cmp x x = 0 := by simp [lg_cmp]
set_option maxHeartbeats 4000000 in
set_option maxRecDepth 100000 in
/-- addWand -/
theorem lw_op_addWand {p : Program} {l : Launch} {e : Env} {s : State} {m : MethodId} {below : List Frame} {meth : Method} {c : Code} (hflt : l.stackTraces = false) {b L : Nat} {xs : Nat → Int32} (hL : L ≤ 2048) (C0 : lw_At p s m meth c b L xs) {g : wG} {d0 : Drawn} (hd0 : s.drawn.sameBut d0 lw_cs) {i : Nat} {H : Heap} {locs : List Loc} {ls : Array Slot} {cells slots : Nat} {Λ σ : sSt} {w9 : Int64} {Ω : Nat → Nat} {th : Nat} {μ ν : wMu} (hi : 4 * i + 4 ≤ L) (hg : gd σ i) (hF : fD g Λ (some w9) σ μ) (hM : mD g Ω th σ ν) (hdj : ∀ q, μ q ≠ none → ν q = none) (hX : wX g (lwA s) (s.setDrawn d0) H locs μ) (hY : wX g (lwA s) (s.setDrawn d0) H locs ν) (hc : cells ≤ 20 + 1000 * i) (hs : slots ≤ 200 + 10000 * i) (hl : lv_has ls 9 [(4, .int (nI (4 * i))), (3, .ref (Λ 9 0)), (2, .ref (Ω 0)), (1, .ref (Λ 0 0)), (0, .ref b)]) (kk : lwK p l e s m below meth c b g Ω i) : W p l e room_1 (s.setDrawn d0) m #[Value.ref b] below meth c H locs cells slots (lw_Z below #[Value.ref b] s) (F0 m 172 ls []) := by
  obtain ⟨hx, hb, hr, hml, hown, hts, hXs, hbl, hlocks, hgv⟩ := id C0
  have hown : (s.setDrawn d0).vm.findClass "FairyDustLaw" = some m.cls := hown
  have hXs : va_X b L xs (s.setDrawn d0) s.heap := hXs
  have hbA : ¬ lwA s b := Nat.not_le.mpr hbl
  refine lv_aload_n hx hb dL_law_172 rfl (lv_at hl 3 rfl) ?_
  refine lv_aload_n hx hb dL_law_173 rfl (lv_at hl 4 rfl) ?_
  refine lv_iload hx hb dL_law_174 (lv_at hl 0 rfl) ?_
  refine lv_iconst (v := nI 1) hx hb dL_law_176 (by decide) ?_
  refine n_iadd hx hb dL_law_177 (nI_add _ _) ?_
  refine va_sld hx hb hXs hbl hbA hX.S (vp_in_nI (by omega) (by omega)) dL_law_178 ?_
  obtain ⟨vx, hvx⟩ : ∃ z, z = xs (nI ((4 * i) + 1)).toNatClampNeg := ⟨_, rfl⟩
  refine W.eq (g2 := F0 m 179 ls [.int vx, .ref (Λ 0 0)]) (by rw [hvx]) ?_
  refine lv_aload_n hx hb dL_law_179 rfl (lv_at hl 4 rfl) ?_
  refine lv_iload hx hb dL_law_180 (lv_at hl 0 rfl) ?_
  refine lv_iconst (v := nI 2) hx hb dL_law_182 (by decide) ?_
  refine n_iadd hx hb dL_law_183 (nI_add _ _) ?_
  refine va_sld hx hb hXs hbl hbA hX.S (vp_in_nI (by omega) (by omega)) dL_law_184 ?_
  obtain ⟨vy, hvy⟩ : ∃ z, z = xs (nI ((4 * i) + 2)).toNatClampNeg := ⟨_, rfl⟩
  refine W.eq (g2 := F0 m 185 ls [.int vy, .int vx, .ref (Λ 0 0)]) (by rw [hvy]) ?_
  refine lv_aload_n hx hb dL_law_185 rfl (lv_at hl 1 rfl) ?_
  refine w_callF (w_runSW (n := 4) (As := [.ref (Λ 0 0), .int vx, .int vy, .ref (Λ 9 0)]) (rest := []) hx hb hml hown hX (c_L_addWand l hflt g μ H.size hF hg.1) kw440 kw0 kw438 kw439 wn_L_addWand rfl ⟨Nat.le_of_ble_eq_true rfl, Nat.le_of_ble_eq_true rfl⟩ hl.1 rfl (Nat.le_of_ble_eq_true rfl) dL_law_186 ⟨(show _ ≤ 601024 by omega), (show _ ≤ 7293034 by omega)⟩) hX (fun r1 μ1 H1 locs1 q1 hX1 hz1 hfr1 hdm1 => ?_)
  obtain ⟨rfl, Λ1, w1, hF1, hL0, hL9, hv⟩ := q1
  have hY1 := w_other hX1 hY hfr1 hdm1 hdj
  refine W.eq (g2 := F0 m 189 ls [.int (nI (cd2 (isI vx 1 60 ∧ isI vy 0 9) (σ 3 0 < 4)))]) rfl ?_
  refine lv_istore (lv' := [(5, .int (nI (cd2 (isI vx 1 60 ∧ isI vy 0 9) (σ 3 0 < 4)))), (4, .int (nI (4 * i))), (3, .ref (Λ 9 0)), (2, .ref (Ω 0)), (1, .ref (Λ 0 0)), (0, .ref b)]) hx hb dL_law_189 hl (by decide) rfl (fun ls hl => ?_)
  refine lv_aload_n hx hb dL_law_191 rfl (lv_at hl 3 rfl) ?_
  refine lv_aload_n hx hb dL_law_192 rfl (lv_at hl 5 rfl) ?_
  refine lv_iload hx hb dL_law_193 (lv_at hl 1 rfl) ?_
  refine lv_iconst (v := nI 1) hx hb dL_law_195 (by decide) ?_
  refine n_iadd hx hb dL_law_196 (nI_add _ _) ?_
  refine va_sld hx hb hXs hbl hbA hX1.S (vp_in_nI (by omega) (by omega)) dL_law_197 ?_
  refine W.eq (g2 := F0 m 198 ls [.int vx, .ref (Ω 0)]) (by rw [hvx]) ?_
  refine lv_aload_n hx hb dL_law_198 rfl (lv_at hl 5 rfl) ?_
  refine lv_iload hx hb dL_law_199 (lv_at hl 1 rfl) ?_
  refine lv_iconst (v := nI 2) hx hb dL_law_201 (by decide) ?_
  refine n_iadd hx hb dL_law_202 (nI_add _ _) ?_
  refine va_sld hx hb hXs hbl hbA hX1.S (vp_in_nI (by omega) (by omega)) dL_law_203 ?_
  refine W.eq (g2 := F0 m 204 ls [.int vy, .int vx, .ref (Ω 0)]) (by rw [hvy]) ?_
  refine w_callF (w_runV (n := 2) (As := [.int vx, .int vy]) (rest := []) hx hb hml hown hY1.1 (c_X3_addWand l g ν H1.size hM hg.1) kw683 kw7 kw680 kw681 kw682 wn_X3_addWand rfl hM.1 rfl ⟨Nat.le_of_ble_eq_true rfl, Nat.le_of_ble_eq_true rfl⟩ hl.1 rfl (Nat.le_of_ble_eq_true rfl) dL_law_204 ⟨(show _ ≤ 601024 by omega), (show _ ≤ 7293034 by omega)⟩) hY1.1 (fun r2 ν1 H2 locs2 q2 hY2 hz2 hfr2 hdm2 => ?_)
  obtain ⟨v, rfl, hM1, hv2⟩ := q2
  have hX2 := w_other hY2 hX1 hfr2 hdm2 (fun q h => Classical.byContradiction fun z => h (hY1.2 q z))
  have hgn : gd (nx (cd2 (isI vx 1 60 ∧ isI vy 0 9) (σ 3 0 < 4)) (nAddW σ (toN vx) (toN vy)) σ) (i + 1) := gd_nx hg (fun z => hg.addW (isI.nI (a := 1) (b := 60) (cd2_v z).1.1).2.1 (isI.nI (a := 1) (b := 60) (cd2_v z).1.1).2.2 (isI.nI (a := 0) (b := 9) (cd2_v z).1.2).2.2 (cd2_v z).2)
  refine W.eq (g2 := F0 m 207 ls [.int v]) rfl ?_
  refine lv_istore (lv' := [(6, .int v), (5, .int (nI (cd2 (isI vx 1 60 ∧ isI vy 0 9) (σ 3 0 < 4)))), (4, .int (nI (4 * i))), (3, .ref (Λ 9 0)), (2, .ref (Ω 0)), (1, .ref (Λ 0 0)), (0, .ref b)]) hx hb dL_law_207 hl (by decide) rfl (fun ls hl => ?_)
  refine lv_aload_n hx hb dL_law_209 rfl (lv_at hl 4 rfl) ?_
  refine w_callF (w_runV (n := 0) (As := []) (rest := []) hx hb hml hown hY2 (c_X3_thrown l g ν1 H2.size hM1 hgn.1) kw679 kw7 kw676 kw677 kw678 wn_X3_thrown rfl hM1.1 rfl ⟨Nat.le_of_ble_eq_true rfl, Nat.le_of_ble_eq_true rfl⟩ hl.1 rfl (Nat.le_of_ble_eq_true rfl) dL_law_210 ⟨(show _ ≤ 601024 by omega), (show _ ≤ 7293034 by omega)⟩) hY2 (fun r3 ν2 H3 locs3 q3 hY3 hz3 hfr3 hdm3 => ?_)
  obtain ⟨rfl, hne⟩ := q3
  rw [hne] at hY3 hdm3
  have hX3 := w_other hY3 hX2.1 hfr3 hdm3 hX2.2
  refine W.eq (g2 := F0 m 213 ls [.int (nI (cd2 (isI vx 1 60 ∧ isI vy 0 9) (σ 3 0 < 4)))]) rfl ?_
  refine lv_iload hx hb dL_law_213 (lv_at hl 1 rfl) ?_
  refine lv_icmp_eq (tgt := 220) hx hb dL_law_215 (by decide) (fun _ => ?_) (fun h => absurd rfl h)
  refine lv_iload hx hb dL_law_220 (lv_at hl 1 rfl) ?_
  refine n_if_ne (tgt := 237) hx hb (cd2_l _ _) dL_law_222 (by decide) (fun hcz_1 => ?_) (fun hcz_1 => ?_)
  · skip
    refine lv_goto (tgt := 1609) hx hb dL_law_237 (by decide) ?_
    have hl := lv_sub (l' := [(4, .int (nI (4 * i))), (3, .ref (Λ 9 0)), (2, .ref (Ω 0)), (1, .ref (Λ 0 0)), (0, .ref b)]) hl [2, 3, 4, 5, 6] rfl
    rw [← hL0, ← hL9] at hl
    exact kk d0 Λ1 _ w1 _ μ1 ν1 H3 locs3 ls _ _ hd0 hgn hF1 hM1 (fun q h => Classical.byContradiction fun z => h (hX3.2 q z)) hX3.1 hY3 (by omega) (by omega) hl
  · skip
    refine lv_aload_n hx hb dL_law_225 rfl (lv_at hl 3 rfl) ?_
    refine lv_iconst (v := nI 0) hx hb dL_law_226 (by decide) ?_
    have f98 := hF1.out9
    rw [hL9] at f98
    refine n_lald hx hb hX3.1 f98 (by decide) (by decide) dL_law_227 ?_
    refine W.eq (g2 := F0 m 228 ls [.long w1]) rfl ?_
    refine lv_iload hx hb dL_law_228 (lv_at hl 0 rfl) ?_
    refine lv_i2l hx hb dL_law_230 rfl ?_
    refine W.lcmp hx hb dL_law_231 ?_
    refine lv_if_eq (tgt := 237) hx hb dL_law_232 (by decide) (fun _ => ?_) (fun h => absurd (by rw [hv hcz_1, hv2 hcz_1]; exact lgc0 _) h)
    refine lv_goto (tgt := 1609) hx hb dL_law_237 (by decide) ?_
    have hl := lv_sub (l' := [(4, .int (nI (4 * i))), (3, .ref (Λ 9 0)), (2, .ref (Ω 0)), (1, .ref (Λ 0 0)), (0, .ref b)]) hl [2, 3, 4, 5, 6] rfl
    rw [← hL0, ← hL9] at hl
    exact kk d0 Λ1 _ w1 _ μ1 ν1 H3 locs3 ls _ _ hd0 hgn hF1 hM1 (fun q h => Classical.byContradiction fun z => h (hX3.2 q z)) hX3.1 hY3 (by omega) (by omega) hl

set_option maxHeartbeats 4000000 in
set_option maxRecDepth 100000 in
/-- addChild -/
theorem lw_op_addChild {p : Program} {l : Launch} {e : Env} {s : State} {m : MethodId} {below : List Frame} {meth : Method} {c : Code} (hflt : l.stackTraces = false) {b L : Nat} {xs : Nat → Int32} (hL : L ≤ 2048) (C0 : lw_At p s m meth c b L xs) {g : wG} {d0 : Drawn} (hd0 : s.drawn.sameBut d0 lw_cs) {i : Nat} {H : Heap} {locs : List Loc} {ls : Array Slot} {cells slots : Nat} {Λ σ : sSt} {w9 : Int64} {Ω : Nat → Nat} {th : Nat} {μ ν : wMu} (hi : 4 * i + 4 ≤ L) (hg : gd σ i) (hF : fD g Λ (some w9) σ μ) (hM : mD g Ω th σ ν) (hdj : ∀ q, μ q ≠ none → ν q = none) (hX : wX g (lwA s) (s.setDrawn d0) H locs μ) (hY : wX g (lwA s) (s.setDrawn d0) H locs ν) (hc : cells ≤ 20 + 1000 * i) (hs : slots ≤ 200 + 10000 * i) (hl : lv_has ls 9 [(4, .int (nI (4 * i))), (3, .ref (Λ 9 0)), (2, .ref (Ω 0)), (1, .ref (Λ 0 0)), (0, .ref b)]) (kk : lwK p l e s m below meth c b g Ω i) : W p l e room_1 (s.setDrawn d0) m #[Value.ref b] below meth c H locs cells slots (lw_Z below #[Value.ref b] s) (F0 m 240 ls []) := by
  obtain ⟨hx, hb, hr, hml, hown, hts, hXs, hbl, hlocks, hgv⟩ := id C0
  have hown : (s.setDrawn d0).vm.findClass "FairyDustLaw" = some m.cls := hown
  have hXs : va_X b L xs (s.setDrawn d0) s.heap := hXs
  have hbA : ¬ lwA s b := Nat.not_le.mpr hbl
  refine lv_aload_n hx hb dL_law_240 rfl (lv_at hl 3 rfl) ?_
  refine lv_aload_n hx hb dL_law_241 rfl (lv_at hl 4 rfl) ?_
  refine lv_iload hx hb dL_law_242 (lv_at hl 0 rfl) ?_
  refine lv_iconst (v := nI 1) hx hb dL_law_244 (by decide) ?_
  refine n_iadd hx hb dL_law_245 (nI_add _ _) ?_
  refine va_sld hx hb hXs hbl hbA hX.S (vp_in_nI (by omega) (by omega)) dL_law_246 ?_
  obtain ⟨vx, hvx⟩ : ∃ z, z = xs (nI ((4 * i) + 1)).toNatClampNeg := ⟨_, rfl⟩
  refine W.eq (g2 := F0 m 247 ls [.int vx, .ref (Λ 0 0)]) (by rw [hvx]) ?_
  refine lv_aload_n hx hb dL_law_247 rfl (lv_at hl 4 rfl) ?_
  refine lv_iload hx hb dL_law_248 (lv_at hl 0 rfl) ?_
  refine lv_iconst (v := nI 2) hx hb dL_law_250 (by decide) ?_
  refine n_iadd hx hb dL_law_251 (nI_add _ _) ?_
  refine va_sld hx hb hXs hbl hbA hX.S (vp_in_nI (by omega) (by omega)) dL_law_252 ?_
  obtain ⟨vy, hvy⟩ : ∃ z, z = xs (nI ((4 * i) + 2)).toNatClampNeg := ⟨_, rfl⟩
  refine W.eq (g2 := F0 m 253 ls [.int vy, .int vx, .ref (Λ 0 0)]) (by rw [hvy]) ?_
  refine lv_aload_n hx hb dL_law_253 rfl (lv_at hl 1 rfl) ?_
  refine w_callF (w_runSW (n := 4) (As := [.ref (Λ 0 0), .int vx, .int vy, .ref (Λ 9 0)]) (rest := []) hx hb hml hown hX (c_L_addChild l hflt g μ H.size hF hg.1) kw516 kw0 kw514 kw515 wn_L_addChild rfl ⟨Nat.le_of_ble_eq_true rfl, Nat.le_of_ble_eq_true rfl⟩ hl.1 rfl (Nat.le_of_ble_eq_true rfl) dL_law_254 ⟨(show _ ≤ 601024 by omega), (show _ ≤ 7293034 by omega)⟩) hX (fun r1 μ1 H1 locs1 q1 hX1 hz1 hfr1 hdm1 => ?_)
  obtain ⟨rfl, Λ1, w1, hF1, hL0, hL9, hv⟩ := q1
  have hY1 := w_other hX1 hY hfr1 hdm1 hdj
  refine W.eq (g2 := F0 m 257 ls [.int (nI (cd3 (isX vx (σ 3 0)) (isI vy 0 29) (σ 4 0 < 10)))]) rfl ?_
  refine lv_istore (lv' := [(5, .int (nI (cd3 (isX vx (σ 3 0)) (isI vy 0 29) (σ 4 0 < 10)))), (4, .int (nI (4 * i))), (3, .ref (Λ 9 0)), (2, .ref (Ω 0)), (1, .ref (Λ 0 0)), (0, .ref b)]) hx hb dL_law_257 hl (by decide) rfl (fun ls hl => ?_)
  refine lv_aload_n hx hb dL_law_259 rfl (lv_at hl 3 rfl) ?_
  refine lv_aload_n hx hb dL_law_260 rfl (lv_at hl 5 rfl) ?_
  refine lv_iload hx hb dL_law_261 (lv_at hl 1 rfl) ?_
  refine lv_iconst (v := nI 1) hx hb dL_law_263 (by decide) ?_
  refine n_iadd hx hb dL_law_264 (nI_add _ _) ?_
  refine va_sld hx hb hXs hbl hbA hX1.S (vp_in_nI (by omega) (by omega)) dL_law_265 ?_
  refine W.eq (g2 := F0 m 266 ls [.int vx, .ref (Ω 0)]) (by rw [hvx]) ?_
  refine lv_aload_n hx hb dL_law_266 rfl (lv_at hl 5 rfl) ?_
  refine lv_iload hx hb dL_law_267 (lv_at hl 1 rfl) ?_
  refine lv_iconst (v := nI 2) hx hb dL_law_269 (by decide) ?_
  refine n_iadd hx hb dL_law_270 (nI_add _ _) ?_
  refine va_sld hx hb hXs hbl hbA hX1.S (vp_in_nI (by omega) (by omega)) dL_law_271 ?_
  refine W.eq (g2 := F0 m 272 ls [.int vy, .int vx, .ref (Ω 0)]) (by rw [hvy]) ?_
  refine w_callF (w_runV (n := 2) (As := [.int vx, .int vy]) (rest := []) hx hb hml hown hY1.1 (c_X3_addChild l g ν H1.size hM hg.1) kw694 kw7 kw691 kw692 kw693 wn_X3_addChild rfl hM.1 rfl ⟨Nat.le_of_ble_eq_true rfl, Nat.le_of_ble_eq_true rfl⟩ hl.1 rfl (Nat.le_of_ble_eq_true rfl) dL_law_272 ⟨(show _ ≤ 601024 by omega), (show _ ≤ 7293034 by omega)⟩) hY1.1 (fun r2 ν1 H2 locs2 q2 hY2 hz2 hfr2 hdm2 => ?_)
  obtain ⟨v, rfl, hM1, hv2⟩ := q2
  have hX2 := w_other hY2 hX1 hfr2 hdm2 (fun q h => Classical.byContradiction fun z => h (hY1.2 q z))
  have hgn : gd (nx (cd3 (isX vx (σ 3 0)) (isI vy 0 29) (σ 4 0 < 10)) (nAddC σ (toN vx) (toN vy)) σ) (i + 1) := gd_nx hg (fun z => hg.addC (isX.nI (cd3_v z).1).2 (isI.nI (a := 0) (b := 29) (cd3_v z).2.1).2.2 (cd3_v z).2.2)
  refine W.eq (g2 := F0 m 275 ls [.int v]) rfl ?_
  refine lv_istore (lv' := [(6, .int v), (5, .int (nI (cd3 (isX vx (σ 3 0)) (isI vy 0 29) (σ 4 0 < 10)))), (4, .int (nI (4 * i))), (3, .ref (Λ 9 0)), (2, .ref (Ω 0)), (1, .ref (Λ 0 0)), (0, .ref b)]) hx hb dL_law_275 hl (by decide) rfl (fun ls hl => ?_)
  refine lv_aload_n hx hb dL_law_277 rfl (lv_at hl 4 rfl) ?_
  refine w_callF (w_runV (n := 0) (As := []) (rest := []) hx hb hml hown hY2 (c_X3_thrown l g ν1 H2.size hM1 hgn.1) kw679 kw7 kw676 kw677 kw678 wn_X3_thrown rfl hM1.1 rfl ⟨Nat.le_of_ble_eq_true rfl, Nat.le_of_ble_eq_true rfl⟩ hl.1 rfl (Nat.le_of_ble_eq_true rfl) dL_law_278 ⟨(show _ ≤ 601024 by omega), (show _ ≤ 7293034 by omega)⟩) hY2 (fun r3 ν2 H3 locs3 q3 hY3 hz3 hfr3 hdm3 => ?_)
  obtain ⟨rfl, hne⟩ := q3
  rw [hne] at hY3 hdm3
  have hX3 := w_other hY3 hX2.1 hfr3 hdm3 hX2.2
  refine W.eq (g2 := F0 m 281 ls [.int (nI (cd3 (isX vx (σ 3 0)) (isI vy 0 29) (σ 4 0 < 10)))]) rfl ?_
  refine lv_iload hx hb dL_law_281 (lv_at hl 1 rfl) ?_
  refine lv_icmp_eq (tgt := 288) hx hb dL_law_283 (by decide) (fun _ => ?_) (fun h => absurd rfl h)
  refine lv_iload hx hb dL_law_288 (lv_at hl 1 rfl) ?_
  refine n_if_ne (tgt := 305) hx hb (cd3_l _ _ _) dL_law_290 (by decide) (fun hcz_1 => ?_) (fun hcz_1 => ?_)
  · skip
    refine lv_goto (tgt := 1609) hx hb dL_law_305 (by decide) ?_
    have hl := lv_sub (l' := [(4, .int (nI (4 * i))), (3, .ref (Λ 9 0)), (2, .ref (Ω 0)), (1, .ref (Λ 0 0)), (0, .ref b)]) hl [2, 3, 4, 5, 6] rfl
    rw [← hL0, ← hL9] at hl
    exact kk d0 Λ1 _ w1 _ μ1 ν1 H3 locs3 ls _ _ hd0 hgn hF1 hM1 (fun q h => Classical.byContradiction fun z => h (hX3.2 q z)) hX3.1 hY3 (by omega) (by omega) hl
  · skip
    refine lv_aload_n hx hb dL_law_293 rfl (lv_at hl 3 rfl) ?_
    refine lv_iconst (v := nI 0) hx hb dL_law_294 (by decide) ?_
    have f98 := hF1.out9
    rw [hL9] at f98
    refine n_lald hx hb hX3.1 f98 (by decide) (by decide) dL_law_295 ?_
    refine W.eq (g2 := F0 m 296 ls [.long w1]) rfl ?_
    refine lv_iload hx hb dL_law_296 (lv_at hl 0 rfl) ?_
    refine lv_i2l hx hb dL_law_298 rfl ?_
    refine W.lcmp hx hb dL_law_299 ?_
    refine lv_if_eq (tgt := 305) hx hb dL_law_300 (by decide) (fun _ => ?_) (fun h => absurd (by rw [hv hcz_1, hv2 hcz_1]; exact lgc0 _) h)
    refine lv_goto (tgt := 1609) hx hb dL_law_305 (by decide) ?_
    have hl := lv_sub (l' := [(4, .int (nI (4 * i))), (3, .ref (Λ 9 0)), (2, .ref (Ω 0)), (1, .ref (Λ 0 0)), (0, .ref b)]) hl [2, 3, 4, 5, 6] rfl
    rw [← hL0, ← hL9] at hl
    exact kk d0 Λ1 _ w1 _ μ1 ν1 H3 locs3 ls _ _ hd0 hgn hF1 hM1 (fun q h => Classical.byContradiction fun z => h (hX3.2 q z)) hX3.1 hY3 (by omega) (by omega) hl

set_option maxHeartbeats 4000000 in
set_option maxRecDepth 100000 in
/-- give -/
theorem lw_op_give {p : Program} {l : Launch} {e : Env} {s : State} {m : MethodId} {below : List Frame} {meth : Method} {c : Code} (hflt : l.stackTraces = false) {b L : Nat} {xs : Nat → Int32} (hL : L ≤ 2048) (C0 : lw_At p s m meth c b L xs) {g : wG} {d0 : Drawn} (hd0 : s.drawn.sameBut d0 lw_cs) {i : Nat} {H : Heap} {locs : List Loc} {ls : Array Slot} {cells slots : Nat} {Λ σ : sSt} {w9 : Int64} {Ω : Nat → Nat} {th : Nat} {μ ν : wMu} (hi : 4 * i + 4 ≤ L) (hg : gd σ i) (hF : fD g Λ (some w9) σ μ) (hM : mD g Ω th σ ν) (hdj : ∀ q, μ q ≠ none → ν q = none) (hX : wX g (lwA s) (s.setDrawn d0) H locs μ) (hY : wX g (lwA s) (s.setDrawn d0) H locs ν) (hc : cells ≤ 20 + 1000 * i) (hs : slots ≤ 200 + 10000 * i) (hl : lv_has ls 9 [(4, .int (nI (4 * i))), (3, .ref (Λ 9 0)), (2, .ref (Ω 0)), (1, .ref (Λ 0 0)), (0, .ref b)]) (kk : lwK p l e s m below meth c b g Ω i) : W p l e room_1 (s.setDrawn d0) m #[Value.ref b] below meth c H locs cells slots (lw_Z below #[Value.ref b] s) (F0 m 308 ls []) := by
  obtain ⟨hx, hb, hr, hml, hown, hts, hXs, hbl, hlocks, hgv⟩ := id C0
  have hown : (s.setDrawn d0).vm.findClass "FairyDustLaw" = some m.cls := hown
  have hXs : va_X b L xs (s.setDrawn d0) s.heap := hXs
  have hbA : ¬ lwA s b := Nat.not_le.mpr hbl
  refine lv_aload_n hx hb dL_law_308 rfl (lv_at hl 3 rfl) ?_
  refine lv_aload_n hx hb dL_law_309 rfl (lv_at hl 4 rfl) ?_
  refine lv_iload hx hb dL_law_310 (lv_at hl 0 rfl) ?_
  refine lv_iconst (v := nI 1) hx hb dL_law_312 (by decide) ?_
  refine n_iadd hx hb dL_law_313 (nI_add _ _) ?_
  refine va_sld hx hb hXs hbl hbA hX.S (vp_in_nI (by omega) (by omega)) dL_law_314 ?_
  obtain ⟨vx, hvx⟩ : ∃ z, z = xs (nI ((4 * i) + 1)).toNatClampNeg := ⟨_, rfl⟩
  refine W.eq (g2 := F0 m 315 ls [.int vx, .ref (Λ 0 0)]) (by rw [hvx]) ?_
  refine lv_aload_n hx hb dL_law_315 rfl (lv_at hl 4 rfl) ?_
  refine lv_iload hx hb dL_law_316 (lv_at hl 0 rfl) ?_
  refine lv_iconst (v := nI 2) hx hb dL_law_318 (by decide) ?_
  refine n_iadd hx hb dL_law_319 (nI_add _ _) ?_
  refine va_sld hx hb hXs hbl hbA hX.S (vp_in_nI (by omega) (by omega)) dL_law_320 ?_
  obtain ⟨vy, hvy⟩ : ∃ z, z = xs (nI ((4 * i) + 2)).toNatClampNeg := ⟨_, rfl⟩
  refine W.eq (g2 := F0 m 321 ls [.int vy, .int vx, .ref (Λ 0 0)]) (by rw [hvy]) ?_
  refine lv_aload_n hx hb dL_law_321 rfl (lv_at hl 1 rfl) ?_
  refine w_callF (w_runSW (n := 4) (As := [.ref (Λ 0 0), .int vx, .int vy, .ref (Λ 9 0)]) (rest := []) hx hb hml hown hX (c_L_give l hflt g μ H.size hF hg.1) kw526 kw0 kw524 kw525 wn_L_give rfl ⟨Nat.le_of_ble_eq_true rfl, Nat.le_of_ble_eq_true rfl⟩ hl.1 rfl (Nat.le_of_ble_eq_true rfl) dL_law_322 ⟨(show _ ≤ 601024 by omega), (show _ ≤ 7293034 by omega)⟩) hX (fun r1 μ1 H1 locs1 q1 hX1 hz1 hfr1 hdm1 => ?_)
  obtain ⟨rfl, Λ1, w1, hF1, hL0, hL9, hv⟩ := q1
  have hY1 := w_other hX1 hY hfr1 hdm1 hdj
  refine W.eq (g2 := F0 m 325 ls [.int (nI (cd1 (isX vx (σ 4 0) ∧ isX vy (σ 3 0))))]) rfl ?_
  refine lv_istore (lv' := [(5, .int (nI (cd1 (isX vx (σ 4 0) ∧ isX vy (σ 3 0))))), (4, .int (nI (4 * i))), (3, .ref (Λ 9 0)), (2, .ref (Ω 0)), (1, .ref (Λ 0 0)), (0, .ref b)]) hx hb dL_law_325 hl (by decide) rfl (fun ls hl => ?_)
  refine lv_aload_n hx hb dL_law_327 rfl (lv_at hl 3 rfl) ?_
  refine lv_aload_n hx hb dL_law_328 rfl (lv_at hl 5 rfl) ?_
  refine lv_iload hx hb dL_law_329 (lv_at hl 1 rfl) ?_
  refine lv_iconst (v := nI 1) hx hb dL_law_331 (by decide) ?_
  refine n_iadd hx hb dL_law_332 (nI_add _ _) ?_
  refine va_sld hx hb hXs hbl hbA hX1.S (vp_in_nI (by omega) (by omega)) dL_law_333 ?_
  refine W.eq (g2 := F0 m 334 ls [.int vx, .ref (Ω 0)]) (by rw [hvx]) ?_
  refine lv_aload_n hx hb dL_law_334 rfl (lv_at hl 5 rfl) ?_
  refine lv_iload hx hb dL_law_335 (lv_at hl 1 rfl) ?_
  refine lv_iconst (v := nI 2) hx hb dL_law_337 (by decide) ?_
  refine n_iadd hx hb dL_law_338 (nI_add _ _) ?_
  refine va_sld hx hb hXs hbl hbA hX1.S (vp_in_nI (by omega) (by omega)) dL_law_339 ?_
  refine W.eq (g2 := F0 m 340 ls [.int vy, .int vx, .ref (Ω 0)]) (by rw [hvy]) ?_
  refine w_callF (w_runV (n := 2) (As := [.int vx, .int vy]) (rest := []) hx hb hml hown hY1.1 (c_X3_give l g ν H1.size hM hg.1) kw705 kw7 kw702 kw703 kw704 wn_X3_give rfl hM.1 rfl ⟨Nat.le_of_ble_eq_true rfl, Nat.le_of_ble_eq_true rfl⟩ hl.1 rfl (Nat.le_of_ble_eq_true rfl) dL_law_340 ⟨(show _ ≤ 601024 by omega), (show _ ≤ 7293034 by omega)⟩) hY1.1 (fun r2 ν1 H2 locs2 q2 hY2 hz2 hfr2 hdm2 => ?_)
  obtain ⟨v, rfl, hM1, hv2⟩ := q2
  have hX2 := w_other hY2 hX1 hfr2 hdm2 (fun q h => Classical.byContradiction fun z => h (hY1.2 q z))
  have hgn : gd (nx (cd1 (isX vx (σ 4 0) ∧ isX vy (σ 3 0))) (up2 σ 8 (toN vx) (toN vy)) σ) (i + 1) := gd_nx hg (fun z => hg.give (isX.nI (cd1_v z).1).2 (isX.nI (cd1_v z).2).2)
  refine W.eq (g2 := F0 m 343 ls [.int v]) rfl ?_
  refine lv_istore (lv' := [(6, .int v), (5, .int (nI (cd1 (isX vx (σ 4 0) ∧ isX vy (σ 3 0))))), (4, .int (nI (4 * i))), (3, .ref (Λ 9 0)), (2, .ref (Ω 0)), (1, .ref (Λ 0 0)), (0, .ref b)]) hx hb dL_law_343 hl (by decide) rfl (fun ls hl => ?_)
  refine lv_aload_n hx hb dL_law_345 rfl (lv_at hl 4 rfl) ?_
  refine w_callF (w_runV (n := 0) (As := []) (rest := []) hx hb hml hown hY2 (c_X3_thrown l g ν1 H2.size hM1 hgn.1) kw679 kw7 kw676 kw677 kw678 wn_X3_thrown rfl hM1.1 rfl ⟨Nat.le_of_ble_eq_true rfl, Nat.le_of_ble_eq_true rfl⟩ hl.1 rfl (Nat.le_of_ble_eq_true rfl) dL_law_346 ⟨(show _ ≤ 601024 by omega), (show _ ≤ 7293034 by omega)⟩) hY2 (fun r3 ν2 H3 locs3 q3 hY3 hz3 hfr3 hdm3 => ?_)
  obtain ⟨rfl, hne⟩ := q3
  rw [hne] at hY3 hdm3
  have hX3 := w_other hY3 hX2.1 hfr3 hdm3 hX2.2
  refine W.eq (g2 := F0 m 349 ls [.int (nI (cd1 (isX vx (σ 4 0) ∧ isX vy (σ 3 0))))]) rfl ?_
  refine lv_iload hx hb dL_law_349 (lv_at hl 1 rfl) ?_
  refine lv_icmp_eq (tgt := 356) hx hb dL_law_351 (by decide) (fun _ => ?_) (fun h => absurd rfl h)
  refine lv_iload hx hb dL_law_356 (lv_at hl 1 rfl) ?_
  refine n_if_ne (tgt := 373) hx hb (cd1_l _) dL_law_358 (by decide) (fun hcz_1 => ?_) (fun hcz_1 => ?_)
  · skip
    refine lv_goto (tgt := 1609) hx hb dL_law_373 (by decide) ?_
    have hl := lv_sub (l' := [(4, .int (nI (4 * i))), (3, .ref (Λ 9 0)), (2, .ref (Ω 0)), (1, .ref (Λ 0 0)), (0, .ref b)]) hl [2, 3, 4, 5, 6] rfl
    rw [← hL0, ← hL9] at hl
    exact kk d0 Λ1 _ w1 _ μ1 ν1 H3 locs3 ls _ _ hd0 hgn hF1 hM1 (fun q h => Classical.byContradiction fun z => h (hX3.2 q z)) hX3.1 hY3 (by omega) (by omega) hl
  · skip
    refine lv_aload_n hx hb dL_law_361 rfl (lv_at hl 3 rfl) ?_
    refine lv_iconst (v := nI 0) hx hb dL_law_362 (by decide) ?_
    have f98 := hF1.out9
    rw [hL9] at f98
    refine n_lald hx hb hX3.1 f98 (by decide) (by decide) dL_law_363 ?_
    refine W.eq (g2 := F0 m 364 ls [.long w1]) rfl ?_
    refine lv_iload hx hb dL_law_364 (lv_at hl 0 rfl) ?_
    refine lv_i2l hx hb dL_law_366 rfl ?_
    refine W.lcmp hx hb dL_law_367 ?_
    refine lv_if_eq (tgt := 373) hx hb dL_law_368 (by decide) (fun _ => ?_) (fun h => absurd (by rw [hv hcz_1, hv2 hcz_1]; exact lgc0 _) h)
    refine lv_goto (tgt := 1609) hx hb dL_law_373 (by decide) ?_
    have hl := lv_sub (l' := [(4, .int (nI (4 * i))), (3, .ref (Λ 9 0)), (2, .ref (Ω 0)), (1, .ref (Λ 0 0)), (0, .ref b)]) hl [2, 3, 4, 5, 6] rfl
    rw [← hL0, ← hL9] at hl
    exact kk d0 Λ1 _ w1 _ μ1 ν1 H3 locs3 ls _ _ hd0 hgn hF1 hM1 (fun q h => Classical.byContradiction fun z => h (hX3.2 q z)) hX3.1 hY3 (by omega) (by omega) hl

set_option maxHeartbeats 4000000 in
set_option maxRecDepth 100000 in
/-- setFall -/
theorem lw_op_setFall {p : Program} {l : Launch} {e : Env} {s : State} {m : MethodId} {below : List Frame} {meth : Method} {c : Code} (hflt : l.stackTraces = false) {b L : Nat} {xs : Nat → Int32} (hL : L ≤ 2048) (C0 : lw_At p s m meth c b L xs) {g : wG} {d0 : Drawn} (hd0 : s.drawn.sameBut d0 lw_cs) {i : Nat} {H : Heap} {locs : List Loc} {ls : Array Slot} {cells slots : Nat} {Λ σ : sSt} {w9 : Int64} {Ω : Nat → Nat} {th : Nat} {μ ν : wMu} (hi : 4 * i + 4 ≤ L) (hg : gd σ i) (hF : fD g Λ (some w9) σ μ) (hM : mD g Ω th σ ν) (hdj : ∀ q, μ q ≠ none → ν q = none) (hX : wX g (lwA s) (s.setDrawn d0) H locs μ) (hY : wX g (lwA s) (s.setDrawn d0) H locs ν) (hc : cells ≤ 20 + 1000 * i) (hs : slots ≤ 200 + 10000 * i) (hl : lv_has ls 9 [(4, .int (nI (4 * i))), (3, .ref (Λ 9 0)), (2, .ref (Ω 0)), (1, .ref (Λ 0 0)), (0, .ref b)]) (kk : lwK p l e s m below meth c b g Ω i) : W p l e room_1 (s.setDrawn d0) m #[Value.ref b] below meth c H locs cells slots (lw_Z below #[Value.ref b] s) (F0 m 376 ls []) := by
  obtain ⟨hx, hb, hr, hml, hown, hts, hXs, hbl, hlocks, hgv⟩ := id C0
  have hown : (s.setDrawn d0).vm.findClass "FairyDustLaw" = some m.cls := hown
  have hXs : va_X b L xs (s.setDrawn d0) s.heap := hXs
  have hbA : ¬ lwA s b := Nat.not_le.mpr hbl
  refine lv_aload_n hx hb dL_law_376 rfl (lv_at hl 3 rfl) ?_
  refine lv_aload_n hx hb dL_law_377 rfl (lv_at hl 4 rfl) ?_
  refine lv_iload hx hb dL_law_378 (lv_at hl 0 rfl) ?_
  refine lv_iconst (v := nI 1) hx hb dL_law_380 (by decide) ?_
  refine n_iadd hx hb dL_law_381 (nI_add _ _) ?_
  refine va_sld hx hb hXs hbl hbA hX.S (vp_in_nI (by omega) (by omega)) dL_law_382 ?_
  obtain ⟨vx, hvx⟩ : ∃ z, z = xs (nI ((4 * i) + 1)).toNatClampNeg := ⟨_, rfl⟩
  refine W.eq (g2 := F0 m 383 ls [.int vx, .ref (Λ 0 0)]) (by rw [hvx]) ?_
  refine lv_aload_n hx hb dL_law_383 rfl (lv_at hl 4 rfl) ?_
  refine lv_iload hx hb dL_law_384 (lv_at hl 0 rfl) ?_
  refine lv_iconst (v := nI 2) hx hb dL_law_386 (by decide) ?_
  refine n_iadd hx hb dL_law_387 (nI_add _ _) ?_
  refine va_sld hx hb hXs hbl hbA hX.S (vp_in_nI (by omega) (by omega)) dL_law_388 ?_
  obtain ⟨vy, hvy⟩ : ∃ z, z = xs (nI ((4 * i) + 2)).toNatClampNeg := ⟨_, rfl⟩
  refine W.eq (g2 := F0 m 389 ls [.int vy, .int vx, .ref (Λ 0 0)]) (by rw [hvy]) ?_
  refine lv_aload_n hx hb dL_law_389 rfl (lv_at hl 1 rfl) ?_
  refine w_callF (w_runSW (n := 4) (As := [.ref (Λ 0 0), .int vx, .int vy, .ref (Λ 9 0)]) (rest := []) hx hb hml hown hX (c_L_setFall l hflt g μ H.size hF hg.1) kw533 kw0 kw531 kw532 wn_L_setFall rfl ⟨Nat.le_of_ble_eq_true rfl, Nat.le_of_ble_eq_true rfl⟩ hl.1 rfl (Nat.le_of_ble_eq_true rfl) dL_law_390 ⟨(show _ ≤ 601024 by omega), (show _ ≤ 7293034 by omega)⟩) hX (fun r1 μ1 H1 locs1 q1 hX1 hz1 hfr1 hdm1 => ?_)
  obtain ⟨rfl, Λ1, w1, hF1, hL0, hL9, hv⟩ := q1
  have hY1 := w_other hX1 hY hfr1 hdm1 hdj
  refine W.eq (g2 := F0 m 393 ls [.int (nI (cd2 (isX vx (σ 3 0)) (isI vy 0 9)))]) rfl ?_
  refine lv_istore (lv' := [(5, .int (nI (cd2 (isX vx (σ 3 0)) (isI vy 0 9)))), (4, .int (nI (4 * i))), (3, .ref (Λ 9 0)), (2, .ref (Ω 0)), (1, .ref (Λ 0 0)), (0, .ref b)]) hx hb dL_law_393 hl (by decide) rfl (fun ls hl => ?_)
  refine lv_aload_n hx hb dL_law_395 rfl (lv_at hl 3 rfl) ?_
  refine lv_aload_n hx hb dL_law_396 rfl (lv_at hl 5 rfl) ?_
  refine lv_iload hx hb dL_law_397 (lv_at hl 1 rfl) ?_
  refine lv_iconst (v := nI 1) hx hb dL_law_399 (by decide) ?_
  refine n_iadd hx hb dL_law_400 (nI_add _ _) ?_
  refine va_sld hx hb hXs hbl hbA hX1.S (vp_in_nI (by omega) (by omega)) dL_law_401 ?_
  refine W.eq (g2 := F0 m 402 ls [.int vx, .ref (Ω 0)]) (by rw [hvx]) ?_
  refine lv_aload_n hx hb dL_law_402 rfl (lv_at hl 5 rfl) ?_
  refine lv_iload hx hb dL_law_403 (lv_at hl 1 rfl) ?_
  refine lv_iconst (v := nI 2) hx hb dL_law_405 (by decide) ?_
  refine n_iadd hx hb dL_law_406 (nI_add _ _) ?_
  refine va_sld hx hb hXs hbl hbA hX1.S (vp_in_nI (by omega) (by omega)) dL_law_407 ?_
  refine W.eq (g2 := F0 m 408 ls [.int vy, .int vx, .ref (Ω 0)]) (by rw [hvy]) ?_
  refine w_callF (w_runV (n := 2) (As := [.int vx, .int vy]) (rest := []) hx hb hml hown hY1.1 (c_X3_setFall l g ν H1.size hM hg.1) kw713 kw7 kw710 kw711 kw712 wn_X3_setFall rfl hM.1 rfl ⟨Nat.le_of_ble_eq_true rfl, Nat.le_of_ble_eq_true rfl⟩ hl.1 rfl (Nat.le_of_ble_eq_true rfl) dL_law_408 ⟨(show _ ≤ 601024 by omega), (show _ ≤ 7293034 by omega)⟩) hY1.1 (fun r2 ν1 H2 locs2 q2 hY2 hz2 hfr2 hdm2 => ?_)
  obtain ⟨v, rfl, hM1, hv2⟩ := q2
  have hX2 := w_other hY2 hX1 hfr2 hdm2 (fun q h => Classical.byContradiction fun z => h (hY1.2 q z))
  have hgn : gd (nx (cd2 (isX vx (σ 3 0)) (isI vy 0 9)) (up2 σ 6 (toN vx) (toN vy)) σ) (i + 1) := gd_nx hg (fun z => hg.fall (isX.nI (cd2_v z).1).2 (isI.nI (a := 0) (b := 9) (cd2_v z).2).2.2)
  refine W.eq (g2 := F0 m 411 ls [.int v]) rfl ?_
  refine lv_istore (lv' := [(6, .int v), (5, .int (nI (cd2 (isX vx (σ 3 0)) (isI vy 0 9)))), (4, .int (nI (4 * i))), (3, .ref (Λ 9 0)), (2, .ref (Ω 0)), (1, .ref (Λ 0 0)), (0, .ref b)]) hx hb dL_law_411 hl (by decide) rfl (fun ls hl => ?_)
  refine lv_aload_n hx hb dL_law_413 rfl (lv_at hl 4 rfl) ?_
  refine w_callF (w_runV (n := 0) (As := []) (rest := []) hx hb hml hown hY2 (c_X3_thrown l g ν1 H2.size hM1 hgn.1) kw679 kw7 kw676 kw677 kw678 wn_X3_thrown rfl hM1.1 rfl ⟨Nat.le_of_ble_eq_true rfl, Nat.le_of_ble_eq_true rfl⟩ hl.1 rfl (Nat.le_of_ble_eq_true rfl) dL_law_414 ⟨(show _ ≤ 601024 by omega), (show _ ≤ 7293034 by omega)⟩) hY2 (fun r3 ν2 H3 locs3 q3 hY3 hz3 hfr3 hdm3 => ?_)
  obtain ⟨rfl, hne⟩ := q3
  rw [hne] at hY3 hdm3
  have hX3 := w_other hY3 hX2.1 hfr3 hdm3 hX2.2
  refine W.eq (g2 := F0 m 417 ls [.int (nI (cd2 (isX vx (σ 3 0)) (isI vy 0 9)))]) rfl ?_
  refine lv_iload hx hb dL_law_417 (lv_at hl 1 rfl) ?_
  refine lv_icmp_eq (tgt := 424) hx hb dL_law_419 (by decide) (fun _ => ?_) (fun h => absurd rfl h)
  refine lv_iload hx hb dL_law_424 (lv_at hl 1 rfl) ?_
  refine n_if_ne (tgt := 441) hx hb (cd2_l _ _) dL_law_426 (by decide) (fun hcz_1 => ?_) (fun hcz_1 => ?_)
  · skip
    refine lv_goto (tgt := 1609) hx hb dL_law_441 (by decide) ?_
    have hl := lv_sub (l' := [(4, .int (nI (4 * i))), (3, .ref (Λ 9 0)), (2, .ref (Ω 0)), (1, .ref (Λ 0 0)), (0, .ref b)]) hl [2, 3, 4, 5, 6] rfl
    rw [← hL0, ← hL9] at hl
    exact kk d0 Λ1 _ w1 _ μ1 ν1 H3 locs3 ls _ _ hd0 hgn hF1 hM1 (fun q h => Classical.byContradiction fun z => h (hX3.2 q z)) hX3.1 hY3 (by omega) (by omega) hl
  · skip
    refine lv_aload_n hx hb dL_law_429 rfl (lv_at hl 3 rfl) ?_
    refine lv_iconst (v := nI 0) hx hb dL_law_430 (by decide) ?_
    have f98 := hF1.out9
    rw [hL9] at f98
    refine n_lald hx hb hX3.1 f98 (by decide) (by decide) dL_law_431 ?_
    refine W.eq (g2 := F0 m 432 ls [.long w1]) rfl ?_
    refine lv_iload hx hb dL_law_432 (lv_at hl 0 rfl) ?_
    refine lv_i2l hx hb dL_law_434 rfl ?_
    refine W.lcmp hx hb dL_law_435 ?_
    refine lv_if_eq (tgt := 441) hx hb dL_law_436 (by decide) (fun _ => ?_) (fun h => absurd (by rw [hv hcz_1, hv2 hcz_1]; exact lgc0 _) h)
    refine lv_goto (tgt := 1609) hx hb dL_law_441 (by decide) ?_
    have hl := lv_sub (l' := [(4, .int (nI (4 * i))), (3, .ref (Λ 9 0)), (2, .ref (Ω 0)), (1, .ref (Λ 0 0)), (0, .ref b)]) hl [2, 3, 4, 5, 6] rfl
    rw [← hL0, ← hL9] at hl
    exact kk d0 Λ1 _ w1 _ μ1 ν1 H3 locs3 ls _ _ hd0 hgn hF1 hM1 (fun q h => Classical.byContradiction fun z => h (hX3.2 q z)) hX3.1 hY3 (by omega) (by omega) hl

set_option maxHeartbeats 4000000 in
set_option maxRecDepth 100000 in
/-- wish -/
theorem lw_op_wish {p : Program} {l : Launch} {e : Env} {s : State} {m : MethodId} {below : List Frame} {meth : Method} {c : Code} (hflt : l.stackTraces = false) {b L : Nat} {xs : Nat → Int32} (hL : L ≤ 2048) (C0 : lw_At p s m meth c b L xs) {g : wG} {d0 : Drawn} (hd0 : s.drawn.sameBut d0 lw_cs) {i : Nat} {H : Heap} {locs : List Loc} {ls : Array Slot} {cells slots : Nat} {Λ σ : sSt} {w9 : Int64} {Ω : Nat → Nat} {th : Nat} {μ ν : wMu} (hi : 4 * i + 4 ≤ L) (hg : gd σ i) (hF : fD g Λ (some w9) σ μ) (hM : mD g Ω th σ ν) (hdj : ∀ q, μ q ≠ none → ν q = none) (hX : wX g (lwA s) (s.setDrawn d0) H locs μ) (hY : wX g (lwA s) (s.setDrawn d0) H locs ν) (hc : cells ≤ 20 + 1000 * i) (hs : slots ≤ 200 + 10000 * i) (hl : lv_has ls 9 [(4, .int (nI (4 * i))), (3, .ref (Λ 9 0)), (2, .ref (Ω 0)), (1, .ref (Λ 0 0)), (0, .ref b)]) (kk : lwK p l e s m below meth c b g Ω i) : W p l e room_1 (s.setDrawn d0) m #[Value.ref b] below meth c H locs cells slots (lw_Z below #[Value.ref b] s) (F0 m 444 ls []) := by
  obtain ⟨hx, hb, hr, hml, hown, hts, hXs, hbl, hlocks, hgv⟩ := id C0
  have hown : (s.setDrawn d0).vm.findClass "FairyDustLaw" = some m.cls := hown
  have hXs : va_X b L xs (s.setDrawn d0) s.heap := hXs
  have hbA : ¬ lwA s b := Nat.not_le.mpr hbl
  refine lv_aload_n hx hb dL_law_444 rfl (lv_at hl 3 rfl) ?_
  refine lv_aload_n hx hb dL_law_445 rfl (lv_at hl 4 rfl) ?_
  refine lv_iload hx hb dL_law_446 (lv_at hl 0 rfl) ?_
  refine lv_iconst (v := nI 1) hx hb dL_law_448 (by decide) ?_
  refine n_iadd hx hb dL_law_449 (nI_add _ _) ?_
  refine va_sld hx hb hXs hbl hbA hX.S (vp_in_nI (by omega) (by omega)) dL_law_450 ?_
  obtain ⟨vx, hvx⟩ : ∃ z, z = xs (nI ((4 * i) + 1)).toNatClampNeg := ⟨_, rfl⟩
  refine W.eq (g2 := F0 m 451 ls [.int vx, .ref (Λ 0 0)]) (by rw [hvx]) ?_
  refine lv_aload_n hx hb dL_law_451 rfl (lv_at hl 4 rfl) ?_
  refine lv_iload hx hb dL_law_452 (lv_at hl 0 rfl) ?_
  refine lv_iconst (v := nI 2) hx hb dL_law_454 (by decide) ?_
  refine n_iadd hx hb dL_law_455 (nI_add _ _) ?_
  refine va_sld hx hb hXs hbl hbA hX.S (vp_in_nI (by omega) (by omega)) dL_law_456 ?_
  obtain ⟨vy, hvy⟩ : ∃ z, z = xs (nI ((4 * i) + 2)).toNatClampNeg := ⟨_, rfl⟩
  refine W.eq (g2 := F0 m 457 ls [.int vy, .int vx, .ref (Λ 0 0)]) (by rw [hvy]) ?_
  refine lv_aload_n hx hb dL_law_457 rfl (lv_at hl 1 rfl) ?_
  refine w_callF (w_runSW (n := 4) (As := [.ref (Λ 0 0), .int vx, .int vy, .ref (Λ 9 0)]) (rest := []) hx hb hml hown hX (c_L_wish l hflt g μ H.size hF hg.1) kw540 kw0 kw538 kw539 wn_L_wish rfl ⟨Nat.le_of_ble_eq_true rfl, Nat.le_of_ble_eq_true rfl⟩ hl.1 rfl (Nat.le_of_ble_eq_true rfl) dL_law_458 ⟨(show _ ≤ 601024 by omega), (show _ ≤ 7293034 by omega)⟩) hX (fun r1 μ1 H1 locs1 q1 hX1 hz1 hfr1 hdm1 => ?_)
  obtain ⟨rfl, Λ1, w1, hF1, hL0, hL9, hv⟩ := q1
  have hY1 := w_other hX1 hY hfr1 hdm1 hdj
  refine W.eq (g2 := F0 m 461 ls [.int (nI (cd2 (isX vx (σ 4 0)) (isI vy 1 20)))]) rfl ?_
  refine lv_istore (lv' := [(5, .int (nI (cd2 (isX vx (σ 4 0)) (isI vy 1 20)))), (4, .int (nI (4 * i))), (3, .ref (Λ 9 0)), (2, .ref (Ω 0)), (1, .ref (Λ 0 0)), (0, .ref b)]) hx hb dL_law_461 hl (by decide) rfl (fun ls hl => ?_)
  refine lv_aload_n hx hb dL_law_463 rfl (lv_at hl 3 rfl) ?_
  refine lv_aload_n hx hb dL_law_464 rfl (lv_at hl 5 rfl) ?_
  refine lv_iload hx hb dL_law_465 (lv_at hl 1 rfl) ?_
  refine lv_iconst (v := nI 1) hx hb dL_law_467 (by decide) ?_
  refine n_iadd hx hb dL_law_468 (nI_add _ _) ?_
  refine va_sld hx hb hXs hbl hbA hX1.S (vp_in_nI (by omega) (by omega)) dL_law_469 ?_
  refine W.eq (g2 := F0 m 470 ls [.int vx, .ref (Ω 0)]) (by rw [hvx]) ?_
  refine lv_aload_n hx hb dL_law_470 rfl (lv_at hl 5 rfl) ?_
  refine lv_iload hx hb dL_law_471 (lv_at hl 1 rfl) ?_
  refine lv_iconst (v := nI 2) hx hb dL_law_473 (by decide) ?_
  refine n_iadd hx hb dL_law_474 (nI_add _ _) ?_
  refine va_sld hx hb hXs hbl hbA hX1.S (vp_in_nI (by omega) (by omega)) dL_law_475 ?_
  refine W.eq (g2 := F0 m 476 ls [.int vy, .int vx, .ref (Ω 0)]) (by rw [hvy]) ?_
  refine w_callF (w_runV (n := 2) (As := [.int vx, .int vy]) (rest := []) hx hb hml hown hY1.1 (c_X3_wish l g ν H1.size hM hg.1) kw717 kw7 kw714 kw715 kw716 wn_X3_wish rfl hM.1 rfl ⟨Nat.le_of_ble_eq_true rfl, Nat.le_of_ble_eq_true rfl⟩ hl.1 rfl (Nat.le_of_ble_eq_true rfl) dL_law_476 ⟨(show _ ≤ 601024 by omega), (show _ ≤ 7293034 by omega)⟩) hY1.1 (fun r2 ν1 H2 locs2 q2 hY2 hz2 hfr2 hdm2 => ?_)
  obtain ⟨v, rfl, hM1, hv2⟩ := q2
  have hX2 := w_other hY2 hX1 hfr2 hdm2 (fun q h => Classical.byContradiction fun z => h (hY1.2 q z))
  have hgn : gd (nx (cd2 (isX vx (σ 4 0)) (isI vy 1 20)) (nWis σ (toN vx) (toN vy)) σ) (i + 1) := gd_nx hg (fun z => hg.wis (isX.nI (cd2_v z).1).2 (by omega))
  refine W.eq (g2 := F0 m 479 ls [.int v]) rfl ?_
  refine lv_istore (lv' := [(6, .int v), (5, .int (nI (cd2 (isX vx (σ 4 0)) (isI vy 1 20)))), (4, .int (nI (4 * i))), (3, .ref (Λ 9 0)), (2, .ref (Ω 0)), (1, .ref (Λ 0 0)), (0, .ref b)]) hx hb dL_law_479 hl (by decide) rfl (fun ls hl => ?_)
  refine lv_aload_n hx hb dL_law_481 rfl (lv_at hl 4 rfl) ?_
  refine w_callF (w_runV (n := 0) (As := []) (rest := []) hx hb hml hown hY2 (c_X3_thrown l g ν1 H2.size hM1 hgn.1) kw679 kw7 kw676 kw677 kw678 wn_X3_thrown rfl hM1.1 rfl ⟨Nat.le_of_ble_eq_true rfl, Nat.le_of_ble_eq_true rfl⟩ hl.1 rfl (Nat.le_of_ble_eq_true rfl) dL_law_482 ⟨(show _ ≤ 601024 by omega), (show _ ≤ 7293034 by omega)⟩) hY2 (fun r3 ν2 H3 locs3 q3 hY3 hz3 hfr3 hdm3 => ?_)
  obtain ⟨rfl, hne⟩ := q3
  rw [hne] at hY3 hdm3
  have hX3 := w_other hY3 hX2.1 hfr3 hdm3 hX2.2
  refine W.eq (g2 := F0 m 485 ls [.int (nI (cd2 (isX vx (σ 4 0)) (isI vy 1 20)))]) rfl ?_
  refine lv_iload hx hb dL_law_485 (lv_at hl 1 rfl) ?_
  refine lv_icmp_eq (tgt := 492) hx hb dL_law_487 (by decide) (fun _ => ?_) (fun h => absurd rfl h)
  refine lv_iload hx hb dL_law_492 (lv_at hl 1 rfl) ?_
  refine n_if_ne (tgt := 516) hx hb (cd2_l _ _) dL_law_494 (by decide) (fun hcz_1 => ?_) (fun hcz_1 => ?_)
  · skip
    refine lv_goto (tgt := 1609) hx hb dL_law_516 (by decide) ?_
    have hl := lv_sub (l' := [(4, .int (nI (4 * i))), (3, .ref (Λ 9 0)), (2, .ref (Ω 0)), (1, .ref (Λ 0 0)), (0, .ref b)]) hl [2, 3, 4, 5, 6] rfl
    rw [← hL0, ← hL9] at hl
    exact kk d0 Λ1 _ w1 _ μ1 ν1 H3 locs3 ls _ _ hd0 hgn hF1 hM1 (fun q h => Classical.byContradiction fun z => h (hX3.2 q z)) hX3.1 hY3 (by omega) (by omega) hl
  · skip
    refine lv_aload_n hx hb dL_law_497 rfl (lv_at hl 3 rfl) ?_
    refine lv_iconst (v := nI 0) hx hb dL_law_498 (by decide) ?_
    have f98 := hF1.out9
    rw [hL9] at f98
    refine n_lald hx hb hX3.1 f98 (by decide) (by decide) dL_law_499 ?_
    obtain rfl := hv2 hcz_1
    refine W.eq (g2 := F0 m 500 ls [.long w1]) rfl ?_
    refine lv_iload hx hb dL_law_500 (lv_at hl 0 rfl) ?_
    refine n_if_eq (tgt := 509) hx hb (by have := fwG_le (toN vy) (σ 7 (σ 8 (toN vx))) (σ 10 (toN vx)) (σ 11 (toN vx)); omega) dL_law_502 (by decide) (fun hwz_2 => ?_) (fun hwz_2 => ?_)
    · skip
      refine lv_lconst (v := 0) hx hb dL_law_509 (by decide) ?_
      refine W.lcmp hx hb dL_law_510 ?_
      have hfe : fwG (toN vy) (σ 7 (σ 8 (toN vx))) (σ 10 (toN vx)) (σ 11 (toN vx)) = 0 := by have := fwG_le (toN vy) (σ 7 (σ 8 (toN vx))) (σ 10 (toN vx)) (σ 11 (toN vx)); omega
      refine lv_if_eq (tgt := 516) hx hb dL_law_511 (by decide) (fun _ => ?_) (fun h => absurd (by rw [hv hcz_1, hfe]; exact lgc0 _) h)
      refine lv_goto (tgt := 1609) hx hb dL_law_516 (by decide) ?_
      have hl := lv_sub (l' := [(4, .int (nI (4 * i))), (3, .ref (Λ 9 0)), (2, .ref (Ω 0)), (1, .ref (Λ 0 0)), (0, .ref b)]) hl [2, 3, 4, 5, 6] rfl
      rw [← hL0, ← hL9] at hl
      exact kk d0 Λ1 _ w1 _ μ1 ν1 H3 locs3 ls _ _ hd0 hgn hF1 hM1 (fun q h => Classical.byContradiction fun z => h (hX3.2 q z)) hX3.1 hY3 (by omega) (by omega) hl
    · skip
      refine lv_lconst (v := 1) hx hb dL_law_505 (by decide) ?_
      refine lv_goto (tgt := 510) hx hb dL_law_506 (by decide) ?_
      refine W.lcmp hx hb dL_law_510 ?_
      have hfe : fwG (toN vy) (σ 7 (σ 8 (toN vx))) (σ 10 (toN vx)) (σ 11 (toN vx)) = 1 := by have := fwG_le (toN vy) (σ 7 (σ 8 (toN vx))) (σ 10 (toN vx)) (σ 11 (toN vx)); omega
      refine lv_if_eq (tgt := 516) hx hb dL_law_511 (by decide) (fun _ => ?_) (fun h => absurd (by rw [hv hcz_1, hfe]; exact lgc0 _) h)
      refine lv_goto (tgt := 1609) hx hb dL_law_516 (by decide) ?_
      have hl := lv_sub (l' := [(4, .int (nI (4 * i))), (3, .ref (Λ 9 0)), (2, .ref (Ω 0)), (1, .ref (Λ 0 0)), (0, .ref b)]) hl [2, 3, 4, 5, 6] rfl
      rw [← hL0, ← hL9] at hl
      exact kk d0 Λ1 _ w1 _ μ1 ν1 H3 locs3 ls _ _ hd0 hgn hF1 hM1 (fun q h => Classical.byContradiction fun z => h (hX3.2 q z)) hX3.1 hY3 (by omega) (by omega) hl

set_option maxHeartbeats 4000000 in
set_option maxRecDepth 100000 in
/-- forgive -/
theorem lw_op_forgive {p : Program} {l : Launch} {e : Env} {s : State} {m : MethodId} {below : List Frame} {meth : Method} {c : Code} (hflt : l.stackTraces = false) {b L : Nat} {xs : Nat → Int32} (hL : L ≤ 2048) (C0 : lw_At p s m meth c b L xs) {g : wG} {d0 : Drawn} (hd0 : s.drawn.sameBut d0 lw_cs) {i : Nat} {H : Heap} {locs : List Loc} {ls : Array Slot} {cells slots : Nat} {Λ σ : sSt} {w9 : Int64} {Ω : Nat → Nat} {th : Nat} {μ ν : wMu} (hi : 4 * i + 4 ≤ L) (hg : gd σ i) (hF : fD g Λ (some w9) σ μ) (hM : mD g Ω th σ ν) (hdj : ∀ q, μ q ≠ none → ν q = none) (hX : wX g (lwA s) (s.setDrawn d0) H locs μ) (hY : wX g (lwA s) (s.setDrawn d0) H locs ν) (hc : cells ≤ 20 + 1000 * i) (hs : slots ≤ 200 + 10000 * i) (hl : lv_has ls 9 [(4, .int (nI (4 * i))), (3, .ref (Λ 9 0)), (2, .ref (Ω 0)), (1, .ref (Λ 0 0)), (0, .ref b)]) (kk : lwK p l e s m below meth c b g Ω i) : W p l e room_1 (s.setDrawn d0) m #[Value.ref b] below meth c H locs cells slots (lw_Z below #[Value.ref b] s) (F0 m 519 ls []) := by
  obtain ⟨hx, hb, hr, hml, hown, hts, hXs, hbl, hlocks, hgv⟩ := id C0
  have hown : (s.setDrawn d0).vm.findClass "FairyDustLaw" = some m.cls := hown
  have hXs : va_X b L xs (s.setDrawn d0) s.heap := hXs
  have hbA : ¬ lwA s b := Nat.not_le.mpr hbl
  refine lv_aload_n hx hb dL_law_519 rfl (lv_at hl 3 rfl) ?_
  refine lv_aload_n hx hb dL_law_520 rfl (lv_at hl 4 rfl) ?_
  refine lv_iload hx hb dL_law_521 (lv_at hl 0 rfl) ?_
  refine lv_iconst (v := nI 1) hx hb dL_law_523 (by decide) ?_
  refine n_iadd hx hb dL_law_524 (nI_add _ _) ?_
  refine va_sld hx hb hXs hbl hbA hX.S (vp_in_nI (by omega) (by omega)) dL_law_525 ?_
  obtain ⟨vx, hvx⟩ : ∃ z, z = xs (nI ((4 * i) + 1)).toNatClampNeg := ⟨_, rfl⟩
  refine W.eq (g2 := F0 m 526 ls [.int vx, .ref (Λ 0 0)]) (by rw [hvx]) ?_
  refine lv_aload_n hx hb dL_law_526 rfl (lv_at hl 1 rfl) ?_
  refine w_callF (w_runSW (n := 3) (As := [.ref (Λ 0 0), .int vx, .ref (Λ 9 0)]) (rest := []) hx hb hml hown hX (c_L_forgive l hflt g μ H.size hF hg.1) kw547 kw0 kw545 kw546 wn_L_forgive rfl ⟨Nat.le_of_ble_eq_true rfl, Nat.le_of_ble_eq_true rfl⟩ hl.1 rfl (Nat.le_of_ble_eq_true rfl) dL_law_527 ⟨(show _ ≤ 601024 by omega), (show _ ≤ 7293034 by omega)⟩) hX (fun r1 μ1 H1 locs1 q1 hX1 hz1 hfr1 hdm1 => ?_)
  obtain ⟨rfl, Λ1, w1, hF1, hL0, hL9, hv⟩ := q1
  have hY1 := w_other hX1 hY hfr1 hdm1 hdj
  refine W.eq (g2 := F0 m 530 ls [.int (nI (cd1 (isX vx (σ 4 0))))]) rfl ?_
  refine lv_istore (lv' := [(5, .int (nI (cd1 (isX vx (σ 4 0))))), (4, .int (nI (4 * i))), (3, .ref (Λ 9 0)), (2, .ref (Ω 0)), (1, .ref (Λ 0 0)), (0, .ref b)]) hx hb dL_law_530 hl (by decide) rfl (fun ls hl => ?_)
  refine lv_aload_n hx hb dL_law_532 rfl (lv_at hl 3 rfl) ?_
  refine lv_aload_n hx hb dL_law_533 rfl (lv_at hl 5 rfl) ?_
  refine lv_iload hx hb dL_law_534 (lv_at hl 1 rfl) ?_
  refine lv_iconst (v := nI 1) hx hb dL_law_536 (by decide) ?_
  refine n_iadd hx hb dL_law_537 (nI_add _ _) ?_
  refine va_sld hx hb hXs hbl hbA hX1.S (vp_in_nI (by omega) (by omega)) dL_law_538 ?_
  refine W.eq (g2 := F0 m 539 ls [.int vx, .ref (Ω 0)]) (by rw [hvx]) ?_
  refine w_callF (w_runV (n := 1) (As := [.int vx]) (rest := []) hx hb hml hown hY1.1 (c_X3_forgive l g ν H1.size hM hg.1) kw742 kw7 kw739 kw740 kw741 wn_X3_forgive rfl hM.1 rfl ⟨Nat.le_of_ble_eq_true rfl, Nat.le_of_ble_eq_true rfl⟩ hl.1 rfl (Nat.le_of_ble_eq_true rfl) dL_law_539 ⟨(show _ ≤ 601024 by omega), (show _ ≤ 7293034 by omega)⟩) hY1.1 (fun r2 ν1 H2 locs2 q2 hY2 hz2 hfr2 hdm2 => ?_)
  obtain ⟨v, rfl, hM1, hv2⟩ := q2
  have hX2 := w_other hY2 hX1 hfr2 hdm2 (fun q h => Classical.byContradiction fun z => h (hY1.2 q z))
  have hgn : gd (nx (cd1 (isX vx (σ 4 0))) (nFor σ (toN vx)) σ) (i + 1) := gd_nx hg (fun z => hg.forg)
  refine W.eq (g2 := F0 m 542 ls [.int v]) rfl ?_
  refine lv_istore (lv' := [(6, .int v), (5, .int (nI (cd1 (isX vx (σ 4 0))))), (4, .int (nI (4 * i))), (3, .ref (Λ 9 0)), (2, .ref (Ω 0)), (1, .ref (Λ 0 0)), (0, .ref b)]) hx hb dL_law_542 hl (by decide) rfl (fun ls hl => ?_)
  refine lv_aload_n hx hb dL_law_544 rfl (lv_at hl 4 rfl) ?_
  refine w_callF (w_runV (n := 0) (As := []) (rest := []) hx hb hml hown hY2 (c_X3_thrown l g ν1 H2.size hM1 hgn.1) kw679 kw7 kw676 kw677 kw678 wn_X3_thrown rfl hM1.1 rfl ⟨Nat.le_of_ble_eq_true rfl, Nat.le_of_ble_eq_true rfl⟩ hl.1 rfl (Nat.le_of_ble_eq_true rfl) dL_law_545 ⟨(show _ ≤ 601024 by omega), (show _ ≤ 7293034 by omega)⟩) hY2 (fun r3 ν2 H3 locs3 q3 hY3 hz3 hfr3 hdm3 => ?_)
  obtain ⟨rfl, hne⟩ := q3
  rw [hne] at hY3 hdm3
  have hX3 := w_other hY3 hX2.1 hfr3 hdm3 hX2.2
  refine W.eq (g2 := F0 m 548 ls [.int (nI (cd1 (isX vx (σ 4 0))))]) rfl ?_
  refine lv_iload hx hb dL_law_548 (lv_at hl 1 rfl) ?_
  refine lv_icmp_eq (tgt := 555) hx hb dL_law_550 (by decide) (fun _ => ?_) (fun h => absurd rfl h)
  refine lv_iload hx hb dL_law_555 (lv_at hl 1 rfl) ?_
  refine n_if_ne (tgt := 572) hx hb (cd1_l _) dL_law_557 (by decide) (fun hcz_1 => ?_) (fun hcz_1 => ?_)
  · skip
    refine lv_goto (tgt := 1609) hx hb dL_law_572 (by decide) ?_
    have hl := lv_sub (l' := [(4, .int (nI (4 * i))), (3, .ref (Λ 9 0)), (2, .ref (Ω 0)), (1, .ref (Λ 0 0)), (0, .ref b)]) hl [2, 3, 4, 5, 6] rfl
    rw [← hL0, ← hL9] at hl
    exact kk d0 Λ1 _ w1 _ μ1 ν1 H3 locs3 ls _ _ hd0 hgn hF1 hM1 (fun q h => Classical.byContradiction fun z => h (hX3.2 q z)) hX3.1 hY3 (by omega) (by omega) hl
  · skip
    refine lv_aload_n hx hb dL_law_560 rfl (lv_at hl 3 rfl) ?_
    refine lv_iconst (v := nI 0) hx hb dL_law_561 (by decide) ?_
    have f98 := hF1.out9
    rw [hL9] at f98
    refine n_lald hx hb hX3.1 f98 (by decide) (by decide) dL_law_562 ?_
    refine W.eq (g2 := F0 m 563 ls [.long w1]) rfl ?_
    refine lv_iload hx hb dL_law_563 (lv_at hl 0 rfl) ?_
    refine lv_i2l hx hb dL_law_565 rfl ?_
    refine W.lcmp hx hb dL_law_566 ?_
    refine lv_if_eq (tgt := 572) hx hb dL_law_567 (by decide) (fun _ => ?_) (fun h => absurd (by rw [hv hcz_1, hv2 hcz_1]; exact lgc0 _) h)
    refine lv_goto (tgt := 1609) hx hb dL_law_572 (by decide) ?_
    have hl := lv_sub (l' := [(4, .int (nI (4 * i))), (3, .ref (Λ 9 0)), (2, .ref (Ω 0)), (1, .ref (Λ 0 0)), (0, .ref b)]) hl [2, 3, 4, 5, 6] rfl
    rw [← hL0, ← hL9] at hl
    exact kk d0 Λ1 _ w1 _ μ1 ν1 H3 locs3 ls _ _ hd0 hgn hF1 hM1 (fun q h => Classical.byContradiction fun z => h (hX3.2 q z)) hX3.1 hY3 (by omega) (by omega) hl

set_option maxHeartbeats 4000000 in
set_option maxRecDepth 100000 in
/-- pass -/
theorem lw_op_pass {p : Program} {l : Launch} {e : Env} {s : State} {m : MethodId} {below : List Frame} {meth : Method} {c : Code} (hflt : l.stackTraces = false) {b L : Nat} {xs : Nat → Int32} (hL : L ≤ 2048) (C0 : lw_At p s m meth c b L xs) {g : wG} {d0 : Drawn} (hd0 : s.drawn.sameBut d0 lw_cs) {i : Nat} {H : Heap} {locs : List Loc} {ls : Array Slot} {cells slots : Nat} {Λ σ : sSt} {w9 : Int64} {Ω : Nat → Nat} {th : Nat} {μ ν : wMu} (hi : 4 * i + 4 ≤ L) (hg : gd σ i) (hF : fD g Λ (some w9) σ μ) (hM : mD g Ω th σ ν) (hdj : ∀ q, μ q ≠ none → ν q = none) (hX : wX g (lwA s) (s.setDrawn d0) H locs μ) (hY : wX g (lwA s) (s.setDrawn d0) H locs ν) (hc : cells ≤ 20 + 1000 * i) (hs : slots ≤ 200 + 10000 * i) (hl : lv_has ls 9 [(4, .int (nI (4 * i))), (3, .ref (Λ 9 0)), (2, .ref (Ω 0)), (1, .ref (Λ 0 0)), (0, .ref b)]) (kk : lwK p l e s m below meth c b g Ω i) : W p l e room_1 (s.setDrawn d0) m #[Value.ref b] below meth c H locs cells slots (lw_Z below #[Value.ref b] s) (F0 m 575 ls []) := by
  obtain ⟨hx, hb, hr, hml, hown, hts, hXs, hbl, hlocks, hgv⟩ := id C0
  have hown : (s.setDrawn d0).vm.findClass "FairyDustLaw" = some m.cls := hown
  have hXs : va_X b L xs (s.setDrawn d0) s.heap := hXs
  have hbA : ¬ lwA s b := Nat.not_le.mpr hbl
  refine lv_aload_n hx hb dL_law_575 rfl (lv_at hl 3 rfl) ?_
  refine lv_aload_n hx hb dL_law_576 rfl (lv_at hl 4 rfl) ?_
  refine lv_iload hx hb dL_law_577 (lv_at hl 0 rfl) ?_
  refine lv_iconst (v := nI 1) hx hb dL_law_579 (by decide) ?_
  refine n_iadd hx hb dL_law_580 (nI_add _ _) ?_
  refine va_sld hx hb hXs hbl hbA hX.S (vp_in_nI (by omega) (by omega)) dL_law_581 ?_
  obtain ⟨vx, hvx⟩ : ∃ z, z = xs (nI ((4 * i) + 1)).toNatClampNeg := ⟨_, rfl⟩
  refine W.eq (g2 := F0 m 582 ls [.int vx, .ref (Λ 0 0)]) (by rw [hvx]) ?_
  refine lv_aload_n hx hb dL_law_582 rfl (lv_at hl 1 rfl) ?_
  refine w_callF (w_runSW (n := 3) (As := [.ref (Λ 0 0), .int vx, .ref (Λ 9 0)]) (rest := []) hx hb hml hown hX (c_L_pass l hflt g μ H.size hF hg.1 (by have := hg.2.1; omega)) kw558 kw0 kw556 kw557 wn_L_pass rfl ⟨Nat.le_of_ble_eq_true rfl, Nat.le_of_ble_eq_true rfl⟩ hl.1 rfl (Nat.le_of_ble_eq_true rfl) dL_law_583 ⟨(show _ ≤ 601024 by omega), (show _ ≤ 7293034 by omega)⟩) hX (fun r1 μ1 H1 locs1 q1 hX1 hz1 hfr1 hdm1 => ?_)
  obtain ⟨rfl, Λ1, w1, hF1, hL0, hL9, hv⟩ := q1
  have hY1 := w_other hX1 hY hfr1 hdm1 hdj
  refine W.eq (g2 := F0 m 586 ls [.int (nI (cd1 (isI vx 1 100)))]) rfl ?_
  refine lv_istore (lv' := [(5, .int (nI (cd1 (isI vx 1 100)))), (4, .int (nI (4 * i))), (3, .ref (Λ 9 0)), (2, .ref (Ω 0)), (1, .ref (Λ 0 0)), (0, .ref b)]) hx hb dL_law_586 hl (by decide) rfl (fun ls hl => ?_)
  refine lv_aload_n hx hb dL_law_588 rfl (lv_at hl 3 rfl) ?_
  refine lv_aload_n hx hb dL_law_589 rfl (lv_at hl 5 rfl) ?_
  refine lv_iload hx hb dL_law_590 (lv_at hl 1 rfl) ?_
  refine lv_iconst (v := nI 1) hx hb dL_law_592 (by decide) ?_
  refine n_iadd hx hb dL_law_593 (nI_add _ _) ?_
  refine va_sld hx hb hXs hbl hbA hX1.S (vp_in_nI (by omega) (by omega)) dL_law_594 ?_
  refine W.eq (g2 := F0 m 595 ls [.int vx, .ref (Ω 0)]) (by rw [hvx]) ?_
  refine w_callF (w_runV (n := 1) (As := [.int vx]) (rest := []) hx hb hml hown hY1.1 (c_X3_pass l g ν H1.size hM hg.1 (by have := hg.2.1; omega)) kw746 kw7 kw743 kw744 kw745 wn_X3_pass rfl hM.1 rfl ⟨Nat.le_of_ble_eq_true rfl, Nat.le_of_ble_eq_true rfl⟩ hl.1 rfl (Nat.le_of_ble_eq_true rfl) dL_law_595 ⟨(show _ ≤ 601024 by omega), (show _ ≤ 7293034 by omega)⟩) hY1.1 (fun r2 ν1 H2 locs2 q2 hY2 hz2 hfr2 hdm2 => ?_)
  obtain ⟨v, rfl, hM1, hv2⟩ := q2
  have hX2 := w_other hY2 hX1 hfr2 hdm2 (fun q h => Classical.byContradiction fun z => h (hY1.2 q z))
  have hgn : gd (nx (cd1 (isI vx 1 100)) (nPas σ (toN vx)) σ) (i + 1) := gd_nx hg (fun z => hg.pas (isI.nI (a := 1) (b := 100) (cd1_v z)).2.2 (by omega))
  refine W.eq (g2 := F0 m 598 ls [.int v]) rfl ?_
  refine lv_istore (lv' := [(6, .int v), (5, .int (nI (cd1 (isI vx 1 100)))), (4, .int (nI (4 * i))), (3, .ref (Λ 9 0)), (2, .ref (Ω 0)), (1, .ref (Λ 0 0)), (0, .ref b)]) hx hb dL_law_598 hl (by decide) rfl (fun ls hl => ?_)
  refine lv_aload_n hx hb dL_law_600 rfl (lv_at hl 4 rfl) ?_
  refine w_callF (w_runV (n := 0) (As := []) (rest := []) hx hb hml hown hY2 (c_X3_thrown l g ν1 H2.size hM1 hgn.1) kw679 kw7 kw676 kw677 kw678 wn_X3_thrown rfl hM1.1 rfl ⟨Nat.le_of_ble_eq_true rfl, Nat.le_of_ble_eq_true rfl⟩ hl.1 rfl (Nat.le_of_ble_eq_true rfl) dL_law_601 ⟨(show _ ≤ 601024 by omega), (show _ ≤ 7293034 by omega)⟩) hY2 (fun r3 ν2 H3 locs3 q3 hY3 hz3 hfr3 hdm3 => ?_)
  obtain ⟨rfl, hne⟩ := q3
  rw [hne] at hY3 hdm3
  have hX3 := w_other hY3 hX2.1 hfr3 hdm3 hX2.2
  refine W.eq (g2 := F0 m 604 ls [.int (nI (cd1 (isI vx 1 100)))]) rfl ?_
  refine lv_iload hx hb dL_law_604 (lv_at hl 1 rfl) ?_
  refine lv_icmp_eq (tgt := 611) hx hb dL_law_606 (by decide) (fun _ => ?_) (fun h => absurd rfl h)
  refine lv_iload hx hb dL_law_611 (lv_at hl 1 rfl) ?_
  refine n_if_ne (tgt := 628) hx hb (cd1_l _) dL_law_613 (by decide) (fun hcz_1 => ?_) (fun hcz_1 => ?_)
  · skip
    refine lv_goto (tgt := 1609) hx hb dL_law_628 (by decide) ?_
    have hl := lv_sub (l' := [(4, .int (nI (4 * i))), (3, .ref (Λ 9 0)), (2, .ref (Ω 0)), (1, .ref (Λ 0 0)), (0, .ref b)]) hl [2, 3, 4, 5, 6] rfl
    rw [← hL0, ← hL9] at hl
    exact kk d0 Λ1 _ w1 _ μ1 ν1 H3 locs3 ls _ _ hd0 hgn hF1 hM1 (fun q h => Classical.byContradiction fun z => h (hX3.2 q z)) hX3.1 hY3 (by omega) (by omega) hl
  · skip
    refine lv_aload_n hx hb dL_law_616 rfl (lv_at hl 3 rfl) ?_
    refine lv_iconst (v := nI 0) hx hb dL_law_617 (by decide) ?_
    have f98 := hF1.out9
    rw [hL9] at f98
    refine n_lald hx hb hX3.1 f98 (by decide) (by decide) dL_law_618 ?_
    refine W.eq (g2 := F0 m 619 ls [.long w1]) rfl ?_
    refine lv_iload hx hb dL_law_619 (lv_at hl 0 rfl) ?_
    refine lv_i2l hx hb dL_law_621 rfl ?_
    refine W.lcmp hx hb dL_law_622 ?_
    refine lv_if_eq (tgt := 628) hx hb dL_law_623 (by decide) (fun _ => ?_) (fun h => absurd (by rw [hv hcz_1, hv2 hcz_1]; exact lgc0 _) h)
    refine lv_goto (tgt := 1609) hx hb dL_law_628 (by decide) ?_
    have hl := lv_sub (l' := [(4, .int (nI (4 * i))), (3, .ref (Λ 9 0)), (2, .ref (Ω 0)), (1, .ref (Λ 0 0)), (0, .ref b)]) hl [2, 3, 4, 5, 6] rfl
    rw [← hL0, ← hL9] at hl
    exact kk d0 Λ1 _ w1 _ μ1 ν1 H3 locs3 ls _ _ hd0 hgn hF1 hM1 (fun q h => Classical.byContradiction fun z => h (hX3.2 q z)) hX3.1 hY3 (by omega) (by omega) hl

set_option maxHeartbeats 4000000 in
set_option maxRecDepth 100000 in
/-- hoursUntil -/
theorem lw_op_hoursUntil {p : Program} {l : Launch} {e : Env} {s : State} {m : MethodId} {below : List Frame} {meth : Method} {c : Code} (hflt : l.stackTraces = false) {b L : Nat} {xs : Nat → Int32} (hL : L ≤ 2048) (C0 : lw_At p s m meth c b L xs) {g : wG} {d0 : Drawn} (hd0 : s.drawn.sameBut d0 lw_cs) {i : Nat} {H : Heap} {locs : List Loc} {ls : Array Slot} {cells slots : Nat} {Λ σ : sSt} {w9 : Int64} {Ω : Nat → Nat} {th : Nat} {μ ν : wMu} (hi : 4 * i + 4 ≤ L) (hg : gd σ i) (hF : fD g Λ (some w9) σ μ) (hM : mD g Ω th σ ν) (hdj : ∀ q, μ q ≠ none → ν q = none) (hX : wX g (lwA s) (s.setDrawn d0) H locs μ) (hY : wX g (lwA s) (s.setDrawn d0) H locs ν) (hc : cells ≤ 20 + 1000 * i) (hs : slots ≤ 200 + 10000 * i) (hl : lv_has ls 9 [(4, .int (nI (4 * i))), (3, .ref (Λ 9 0)), (2, .ref (Ω 0)), (1, .ref (Λ 0 0)), (0, .ref b)]) (kk : lwK p l e s m below meth c b g Ω i) : W p l e room_1 (s.setDrawn d0) m #[Value.ref b] below meth c H locs cells slots (lw_Z below #[Value.ref b] s) (F0 m 1226 ls []) := by
  obtain ⟨hx, hb, hr, hml, hown, hts, hXs, hbl, hlocks, hgv⟩ := id C0
  have hown : (s.setDrawn d0).vm.findClass "FairyDustLaw" = some m.cls := hown
  have hXs : va_X b L xs (s.setDrawn d0) s.heap := hXs
  have hbA : ¬ lwA s b := Nat.not_le.mpr hbl
  refine lv_aload_n hx hb dL_law_1226 rfl (lv_at hl 3 rfl) ?_
  refine lv_aload_n hx hb dL_law_1227 rfl (lv_at hl 4 rfl) ?_
  refine lv_iload hx hb dL_law_1228 (lv_at hl 0 rfl) ?_
  refine lv_iconst (v := nI 1) hx hb dL_law_1230 (by decide) ?_
  refine n_iadd hx hb dL_law_1231 (nI_add _ _) ?_
  refine va_sld hx hb hXs hbl hbA hX.S (vp_in_nI (by omega) (by omega)) dL_law_1232 ?_
  obtain ⟨vx, hvx⟩ : ∃ z, z = xs (nI ((4 * i) + 1)).toNatClampNeg := ⟨_, rfl⟩
  refine W.eq (g2 := F0 m 1233 ls [.int vx, .ref (Λ 0 0)]) (by rw [hvx]) ?_
  refine lv_aload_n hx hb dL_law_1233 rfl (lv_at hl 4 rfl) ?_
  refine lv_iload hx hb dL_law_1234 (lv_at hl 0 rfl) ?_
  refine lv_iconst (v := nI 2) hx hb dL_law_1236 (by decide) ?_
  refine n_iadd hx hb dL_law_1237 (nI_add _ _) ?_
  refine va_sld hx hb hXs hbl hbA hX.S (vp_in_nI (by omega) (by omega)) dL_law_1238 ?_
  obtain ⟨vy, hvy⟩ : ∃ z, z = xs (nI ((4 * i) + 2)).toNatClampNeg := ⟨_, rfl⟩
  refine W.eq (g2 := F0 m 1239 ls [.int vy, .int vx, .ref (Λ 0 0)]) (by rw [hvy]) ?_
  refine lv_aload_n hx hb dL_law_1239 rfl (lv_at hl 1 rfl) ?_
  refine w_callF (w_runSW (n := 4) (As := [.ref (Λ 0 0), .int vx, .int vy, .ref (Λ 9 0)]) (rest := []) hx hb hml hown hX (c_L_hoursUntil l hflt g μ H.size hF hg.1) kw605 kw0 kw603 kw604 wn_L_hoursUntil rfl ⟨Nat.le_of_ble_eq_true rfl, Nat.le_of_ble_eq_true rfl⟩ hl.1 rfl (Nat.le_of_ble_eq_true rfl) dL_law_1240 ⟨(show _ ≤ 601024 by omega), (show _ ≤ 7293034 by omega)⟩) hX (fun r1 μ1 H1 locs1 q1 hX1 hz1 hfr1 hdm1 => ?_)
  obtain ⟨rfl, Λ1, w1, hF1, hL0, hL9, hv⟩ := q1
  have hY1 := w_other hX1 hY hfr1 hdm1 hdj
  refine W.eq (g2 := F0 m 1243 ls [.int (nI (cd2 (isX vx (σ 4 0)) (isI vy 1 20)))]) rfl ?_
  refine lv_istore (lv' := [(5, .int (nI (cd2 (isX vx (σ 4 0)) (isI vy 1 20)))), (4, .int (nI (4 * i))), (3, .ref (Λ 9 0)), (2, .ref (Ω 0)), (1, .ref (Λ 0 0)), (0, .ref b)]) hx hb dL_law_1243 hl (by decide) rfl (fun ls hl => ?_)
  refine lv_aload_n hx hb dL_law_1245 rfl (lv_at hl 3 rfl) ?_
  refine lv_aload_n hx hb dL_law_1246 rfl (lv_at hl 5 rfl) ?_
  refine lv_iload hx hb dL_law_1247 (lv_at hl 1 rfl) ?_
  refine lv_iconst (v := nI 1) hx hb dL_law_1249 (by decide) ?_
  refine n_iadd hx hb dL_law_1250 (nI_add _ _) ?_
  refine va_sld hx hb hXs hbl hbA hX1.S (vp_in_nI (by omega) (by omega)) dL_law_1251 ?_
  refine W.eq (g2 := F0 m 1252 ls [.int vx, .ref (Ω 0)]) (by rw [hvx]) ?_
  refine lv_aload_n hx hb dL_law_1252 rfl (lv_at hl 5 rfl) ?_
  refine lv_iload hx hb dL_law_1253 (lv_at hl 1 rfl) ?_
  refine lv_iconst (v := nI 2) hx hb dL_law_1255 (by decide) ?_
  refine n_iadd hx hb dL_law_1256 (nI_add _ _) ?_
  refine va_sld hx hb hXs hbl hbA hX1.S (vp_in_nI (by omega) (by omega)) dL_law_1257 ?_
  refine W.eq (g2 := F0 m 1258 ls [.int vy, .int vx, .ref (Ω 0)]) (by rw [hvy]) ?_
  refine w_callF (w_runV (n := 2) (As := [.int vx, .int vy]) (rest := []) hx hb hml hown hY1.1 (c_X3_hoursUntil l g ν H1.size hM hg.1) kw842 kw7 kw839 kw840 kw841 wn_X3_hoursUntil rfl hM.1 rfl ⟨Nat.le_of_ble_eq_true rfl, Nat.le_of_ble_eq_true rfl⟩ hl.1 rfl (Nat.le_of_ble_eq_true rfl) dL_law_1258 ⟨(show _ ≤ 601024 by omega), (show _ ≤ 7293034 by omega)⟩) hY1.1 (fun r2 ν1 H2 locs2 q2 hY2 hz2 hfr2 hdm2 => ?_)
  obtain ⟨v, rfl, hM1, hv2⟩ := q2
  have hX2 := w_other hY2 hX1 hfr2 hdm2 (fun q h => Classical.byContradiction fun z => h (hY1.2 q z))
  have hgn : gd (σ) (i + 1) := hg.up
  refine W.eq (g2 := F0 m 1261 ls [.int v]) rfl ?_
  refine lv_istore (lv' := [(6, .int v), (5, .int (nI (cd2 (isX vx (σ 4 0)) (isI vy 1 20)))), (4, .int (nI (4 * i))), (3, .ref (Λ 9 0)), (2, .ref (Ω 0)), (1, .ref (Λ 0 0)), (0, .ref b)]) hx hb dL_law_1261 hl (by decide) rfl (fun ls hl => ?_)
  refine lv_aload_n hx hb dL_law_1263 rfl (lv_at hl 4 rfl) ?_
  refine w_callF (w_runV (n := 0) (As := []) (rest := []) hx hb hml hown hY2 (c_X3_thrown l g ν1 H2.size hM1 hgn.1) kw679 kw7 kw676 kw677 kw678 wn_X3_thrown rfl hM1.1 rfl ⟨Nat.le_of_ble_eq_true rfl, Nat.le_of_ble_eq_true rfl⟩ hl.1 rfl (Nat.le_of_ble_eq_true rfl) dL_law_1264 ⟨(show _ ≤ 601024 by omega), (show _ ≤ 7293034 by omega)⟩) hY2 (fun r3 ν2 H3 locs3 q3 hY3 hz3 hfr3 hdm3 => ?_)
  obtain ⟨rfl, hne⟩ := q3
  rw [hne] at hY3 hdm3
  have hX3 := w_other hY3 hX2.1 hfr3 hdm3 hX2.2
  refine W.eq (g2 := F0 m 1267 ls [.int (nI (cd2 (isX vx (σ 4 0)) (isI vy 1 20)))]) rfl ?_
  refine lv_iload hx hb dL_law_1267 (lv_at hl 1 rfl) ?_
  refine lv_icmp_eq (tgt := 1274) hx hb dL_law_1269 (by decide) (fun _ => ?_) (fun h => absurd rfl h)
  refine lv_iload hx hb dL_law_1274 (lv_at hl 1 rfl) ?_
  refine n_if_ne (tgt := 1291) hx hb (cd2_l _ _) dL_law_1276 (by decide) (fun hcz_1 => ?_) (fun hcz_1 => ?_)
  · skip
    refine lv_goto (tgt := 1609) hx hb dL_law_1291 (by decide) ?_
    have hl := lv_sub (l' := [(4, .int (nI (4 * i))), (3, .ref (Λ 9 0)), (2, .ref (Ω 0)), (1, .ref (Λ 0 0)), (0, .ref b)]) hl [2, 3, 4, 5, 6] rfl
    rw [← hL0, ← hL9] at hl
    exact kk d0 Λ1 _ w1 _ μ1 ν1 H3 locs3 ls _ _ hd0 hgn hF1 hM1 (fun q h => Classical.byContradiction fun z => h (hX3.2 q z)) hX3.1 hY3 (by omega) (by omega) hl
  · skip
    refine lv_aload_n hx hb dL_law_1279 rfl (lv_at hl 3 rfl) ?_
    refine lv_iconst (v := nI 0) hx hb dL_law_1280 (by decide) ?_
    have f98 := hF1.out9
    rw [hL9] at f98
    refine n_lald hx hb hX3.1 f98 (by decide) (by decide) dL_law_1281 ?_
    refine W.eq (g2 := F0 m 1282 ls [.long w1]) rfl ?_
    refine lv_iload hx hb dL_law_1282 (lv_at hl 0 rfl) ?_
    refine lv_i2l hx hb dL_law_1284 rfl ?_
    refine W.lcmp hx hb dL_law_1285 ?_
    refine lv_if_eq (tgt := 1291) hx hb dL_law_1286 (by decide) (fun _ => ?_) (fun h => absurd (by rw [hv hcz_1, hv2 hcz_1]; exact lgc0 _) h)
    refine lv_goto (tgt := 1609) hx hb dL_law_1291 (by decide) ?_
    have hl := lv_sub (l' := [(4, .int (nI (4 * i))), (3, .ref (Λ 9 0)), (2, .ref (Ω 0)), (1, .ref (Λ 0 0)), (0, .ref b)]) hl [2, 3, 4, 5, 6] rfl
    rw [← hL0, ← hL9] at hl
    exact kk d0 Λ1 _ w1 _ μ1 ν1 H3 locs3 ls _ _ hd0 hgn hF1 hM1 (fun q h => Classical.byContradiction fun z => h (hX3.2 q z)) hX3.1 hY3 (by omega) (by omega) hl

set_option maxHeartbeats 4000000 in
set_option maxRecDepth 100000 in
/-- grantedIn -/
theorem lw_op_grantedIn {p : Program} {l : Launch} {e : Env} {s : State} {m : MethodId} {below : List Frame} {meth : Method} {c : Code} (hflt : l.stackTraces = false) {b L : Nat} {xs : Nat → Int32} (hL : L ≤ 2048) (C0 : lw_At p s m meth c b L xs) {g : wG} {d0 : Drawn} (hd0 : s.drawn.sameBut d0 lw_cs) {i : Nat} {H : Heap} {locs : List Loc} {ls : Array Slot} {cells slots : Nat} {Λ σ : sSt} {w9 : Int64} {Ω : Nat → Nat} {th : Nat} {μ ν : wMu} (hi : 4 * i + 4 ≤ L) (hg : gd σ i) (hF : fD g Λ (some w9) σ μ) (hM : mD g Ω th σ ν) (hdj : ∀ q, μ q ≠ none → ν q = none) (hX : wX g (lwA s) (s.setDrawn d0) H locs μ) (hY : wX g (lwA s) (s.setDrawn d0) H locs ν) (hc : cells ≤ 20 + 1000 * i) (hs : slots ≤ 200 + 10000 * i) (hl : lv_has ls 9 [(4, .int (nI (4 * i))), (3, .ref (Λ 9 0)), (2, .ref (Ω 0)), (1, .ref (Λ 0 0)), (0, .ref b)]) (kk : lwK p l e s m below meth c b g Ω i) : W p l e room_1 (s.setDrawn d0) m #[Value.ref b] below meth c H locs cells slots (lw_Z below #[Value.ref b] s) (F0 m 1294 ls []) := by
  obtain ⟨hx, hb, hr, hml, hown, hts, hXs, hbl, hlocks, hgv⟩ := id C0
  have hown : (s.setDrawn d0).vm.findClass "FairyDustLaw" = some m.cls := hown
  have hXs : va_X b L xs (s.setDrawn d0) s.heap := hXs
  have hbA : ¬ lwA s b := Nat.not_le.mpr hbl
  refine lv_aload_n hx hb dL_law_1294 rfl (lv_at hl 3 rfl) ?_
  refine lv_aload_n hx hb dL_law_1295 rfl (lv_at hl 4 rfl) ?_
  refine lv_iload hx hb dL_law_1296 (lv_at hl 0 rfl) ?_
  refine lv_iconst (v := nI 1) hx hb dL_law_1298 (by decide) ?_
  refine n_iadd hx hb dL_law_1299 (nI_add _ _) ?_
  refine va_sld hx hb hXs hbl hbA hX.S (vp_in_nI (by omega) (by omega)) dL_law_1300 ?_
  obtain ⟨vx, hvx⟩ : ∃ z, z = xs (nI ((4 * i) + 1)).toNatClampNeg := ⟨_, rfl⟩
  refine W.eq (g2 := F0 m 1301 ls [.int vx, .ref (Λ 0 0)]) (by rw [hvx]) ?_
  refine lv_aload_n hx hb dL_law_1301 rfl (lv_at hl 4 rfl) ?_
  refine lv_iload hx hb dL_law_1302 (lv_at hl 0 rfl) ?_
  refine lv_iconst (v := nI 2) hx hb dL_law_1304 (by decide) ?_
  refine n_iadd hx hb dL_law_1305 (nI_add _ _) ?_
  refine va_sld hx hb hXs hbl hbA hX.S (vp_in_nI (by omega) (by omega)) dL_law_1306 ?_
  obtain ⟨vy, hvy⟩ : ∃ z, z = xs (nI ((4 * i) + 2)).toNatClampNeg := ⟨_, rfl⟩
  refine W.eq (g2 := F0 m 1307 ls [.int vy, .int vx, .ref (Λ 0 0)]) (by rw [hvy]) ?_
  refine lv_aload_n hx hb dL_law_1307 rfl (lv_at hl 4 rfl) ?_
  refine lv_iload hx hb dL_law_1308 (lv_at hl 0 rfl) ?_
  refine lv_iconst (v := nI 3) hx hb dL_law_1310 (by decide) ?_
  refine n_iadd hx hb dL_law_1311 (nI_add _ _) ?_
  refine va_sld hx hb hXs hbl hbA hX.S (vp_in_nI (by omega) (by omega)) dL_law_1312 ?_
  obtain ⟨vz, hvz⟩ : ∃ z, z = xs (nI ((4 * i) + 3)).toNatClampNeg := ⟨_, rfl⟩
  refine W.eq (g2 := F0 m 1313 ls [.int vz, .int vy, .int vx, .ref (Λ 0 0)]) (by rw [hvz]) ?_
  refine lv_aload_n hx hb dL_law_1313 rfl (lv_at hl 1 rfl) ?_
  refine w_callF (w_runSW (n := 5) (As := [.ref (Λ 0 0), .int vx, .int vy, .int vz, .ref (Λ 9 0)]) (rest := []) hx hb hml hown hX (c_L_grantedIn l hflt g μ H.size hF hg.1) kw609 kw0 kw607 kw608 wn_L_grantedIn rfl ⟨Nat.le_of_ble_eq_true rfl, Nat.le_of_ble_eq_true rfl⟩ hl.1 rfl (Nat.le_of_ble_eq_true rfl) dL_law_1314 ⟨(show _ ≤ 601024 by omega), (show _ ≤ 7293034 by omega)⟩) hX (fun r1 μ1 H1 locs1 q1 hX1 hz1 hfr1 hdm1 => ?_)
  obtain ⟨rfl, Λ1, w1, hF1, hL0, hL9, hv⟩ := q1
  have hY1 := w_other hX1 hY hfr1 hdm1 hdj
  refine W.eq (g2 := F0 m 1317 ls [.int (nI (cd2 (isX vx (σ 4 0)) (isI vy 1 20 ∧ isI vz 1 60)))]) rfl ?_
  refine lv_istore (lv' := [(5, .int (nI (cd2 (isX vx (σ 4 0)) (isI vy 1 20 ∧ isI vz 1 60)))), (4, .int (nI (4 * i))), (3, .ref (Λ 9 0)), (2, .ref (Ω 0)), (1, .ref (Λ 0 0)), (0, .ref b)]) hx hb dL_law_1317 hl (by decide) rfl (fun ls hl => ?_)
  refine lv_aload_n hx hb dL_law_1319 rfl (lv_at hl 3 rfl) ?_
  refine lv_aload_n hx hb dL_law_1320 rfl (lv_at hl 5 rfl) ?_
  refine lv_iload hx hb dL_law_1321 (lv_at hl 1 rfl) ?_
  refine lv_iconst (v := nI 1) hx hb dL_law_1323 (by decide) ?_
  refine n_iadd hx hb dL_law_1324 (nI_add _ _) ?_
  refine va_sld hx hb hXs hbl hbA hX1.S (vp_in_nI (by omega) (by omega)) dL_law_1325 ?_
  refine W.eq (g2 := F0 m 1326 ls [.int vx, .ref (Ω 0)]) (by rw [hvx]) ?_
  refine lv_aload_n hx hb dL_law_1326 rfl (lv_at hl 5 rfl) ?_
  refine lv_iload hx hb dL_law_1327 (lv_at hl 1 rfl) ?_
  refine lv_iconst (v := nI 2) hx hb dL_law_1329 (by decide) ?_
  refine n_iadd hx hb dL_law_1330 (nI_add _ _) ?_
  refine va_sld hx hb hXs hbl hbA hX1.S (vp_in_nI (by omega) (by omega)) dL_law_1331 ?_
  refine W.eq (g2 := F0 m 1332 ls [.int vy, .int vx, .ref (Ω 0)]) (by rw [hvy]) ?_
  refine lv_aload_n hx hb dL_law_1332 rfl (lv_at hl 5 rfl) ?_
  refine lv_iload hx hb dL_law_1333 (lv_at hl 1 rfl) ?_
  refine lv_iconst (v := nI 3) hx hb dL_law_1335 (by decide) ?_
  refine n_iadd hx hb dL_law_1336 (nI_add _ _) ?_
  refine va_sld hx hb hXs hbl hbA hX1.S (vp_in_nI (by omega) (by omega)) dL_law_1337 ?_
  refine W.eq (g2 := F0 m 1338 ls [.int vz, .int vy, .int vx, .ref (Ω 0)]) (by rw [hvz]) ?_
  refine w_callF (w_runV (n := 3) (As := [.int vx, .int vy, .int vz]) (rest := []) hx hb hml hown hY1.1 (c_X3_grantedIn l g ν H1.size hM hg.1) kw850 kw7 kw847 kw848 kw849 wn_X3_grantedIn rfl hM.1 rfl ⟨Nat.le_of_ble_eq_true rfl, Nat.le_of_ble_eq_true rfl⟩ hl.1 rfl (Nat.le_of_ble_eq_true rfl) dL_law_1338 ⟨(show _ ≤ 601024 by omega), (show _ ≤ 7293034 by omega)⟩) hY1.1 (fun r2 ν1 H2 locs2 q2 hY2 hz2 hfr2 hdm2 => ?_)
  obtain ⟨v, rfl, hM1, hv2⟩ := q2
  have hX2 := w_other hY2 hX1 hfr2 hdm2 (fun q h => Classical.byContradiction fun z => h (hY1.2 q z))
  have hgn : gd (σ) (i + 1) := hg.up
  refine W.eq (g2 := F0 m 1341 ls [.int v]) rfl ?_
  refine lv_istore (lv' := [(6, .int v), (5, .int (nI (cd2 (isX vx (σ 4 0)) (isI vy 1 20 ∧ isI vz 1 60)))), (4, .int (nI (4 * i))), (3, .ref (Λ 9 0)), (2, .ref (Ω 0)), (1, .ref (Λ 0 0)), (0, .ref b)]) hx hb dL_law_1341 hl (by decide) rfl (fun ls hl => ?_)
  refine lv_aload_n hx hb dL_law_1343 rfl (lv_at hl 4 rfl) ?_
  refine w_callF (w_runV (n := 0) (As := []) (rest := []) hx hb hml hown hY2 (c_X3_thrown l g ν1 H2.size hM1 hgn.1) kw679 kw7 kw676 kw677 kw678 wn_X3_thrown rfl hM1.1 rfl ⟨Nat.le_of_ble_eq_true rfl, Nat.le_of_ble_eq_true rfl⟩ hl.1 rfl (Nat.le_of_ble_eq_true rfl) dL_law_1344 ⟨(show _ ≤ 601024 by omega), (show _ ≤ 7293034 by omega)⟩) hY2 (fun r3 ν2 H3 locs3 q3 hY3 hz3 hfr3 hdm3 => ?_)
  obtain ⟨rfl, hne⟩ := q3
  rw [hne] at hY3 hdm3
  have hX3 := w_other hY3 hX2.1 hfr3 hdm3 hX2.2
  refine W.eq (g2 := F0 m 1347 ls [.int (nI (cd2 (isX vx (σ 4 0)) (isI vy 1 20 ∧ isI vz 1 60)))]) rfl ?_
  refine lv_iload hx hb dL_law_1347 (lv_at hl 1 rfl) ?_
  refine lv_icmp_eq (tgt := 1354) hx hb dL_law_1349 (by decide) (fun _ => ?_) (fun h => absurd rfl h)
  refine lv_iload hx hb dL_law_1354 (lv_at hl 1 rfl) ?_
  refine n_if_ne (tgt := 1371) hx hb (cd2_l _ _) dL_law_1356 (by decide) (fun hcz_1 => ?_) (fun hcz_1 => ?_)
  · skip
    refine lv_goto (tgt := 1609) hx hb dL_law_1371 (by decide) ?_
    have hl := lv_sub (l' := [(4, .int (nI (4 * i))), (3, .ref (Λ 9 0)), (2, .ref (Ω 0)), (1, .ref (Λ 0 0)), (0, .ref b)]) hl [2, 3, 4, 5, 6] rfl
    rw [← hL0, ← hL9] at hl
    exact kk d0 Λ1 _ w1 _ μ1 ν1 H3 locs3 ls _ _ hd0 hgn hF1 hM1 (fun q h => Classical.byContradiction fun z => h (hX3.2 q z)) hX3.1 hY3 (by omega) (by omega) hl
  · skip
    refine lv_aload_n hx hb dL_law_1359 rfl (lv_at hl 3 rfl) ?_
    refine lv_iconst (v := nI 0) hx hb dL_law_1360 (by decide) ?_
    have f98 := hF1.out9
    rw [hL9] at f98
    refine n_lald hx hb hX3.1 f98 (by decide) (by decide) dL_law_1361 ?_
    refine W.eq (g2 := F0 m 1362 ls [.long w1]) rfl ?_
    refine lv_iload hx hb dL_law_1362 (lv_at hl 0 rfl) ?_
    refine lv_i2l hx hb dL_law_1364 rfl ?_
    refine W.lcmp hx hb dL_law_1365 ?_
    refine lv_if_eq (tgt := 1371) hx hb dL_law_1366 (by decide) (fun _ => ?_) (fun h => absurd (by rw [hv hcz_1, hv2 hcz_1]; exact lgc0 _) h)
    refine lv_goto (tgt := 1609) hx hb dL_law_1371 (by decide) ?_
    have hl := lv_sub (l' := [(4, .int (nI (4 * i))), (3, .ref (Λ 9 0)), (2, .ref (Ω 0)), (1, .ref (Λ 0 0)), (0, .ref b)]) hl [2, 3, 4, 5, 6] rfl
    rw [← hL0, ← hL9] at hl
    exact kk d0 Λ1 _ w1 _ μ1 ν1 H3 locs3 ls _ _ hd0 hgn hF1 hM1 (fun q h => Classical.byContradiction fun z => h (hX3.2 q z)) hX3.1 hY3 (by omega) (by omega) hl

set_option maxHeartbeats 4000000 in
set_option maxRecDepth 100000 in
/-- fallWanted -/
theorem lw_op_fallWanted {p : Program} {l : Launch} {e : Env} {s : State} {m : MethodId} {below : List Frame} {meth : Method} {c : Code} (hflt : l.stackTraces = false) {b L : Nat} {xs : Nat → Int32} (hL : L ≤ 2048) (C0 : lw_At p s m meth c b L xs) {g : wG} {d0 : Drawn} (hd0 : s.drawn.sameBut d0 lw_cs) {i : Nat} {H : Heap} {locs : List Loc} {ls : Array Slot} {cells slots : Nat} {Λ σ : sSt} {w9 : Int64} {Ω : Nat → Nat} {th : Nat} {μ ν : wMu} (hi : 4 * i + 4 ≤ L) (hg : gd σ i) (hF : fD g Λ (some w9) σ μ) (hM : mD g Ω th σ ν) (hdj : ∀ q, μ q ≠ none → ν q = none) (hX : wX g (lwA s) (s.setDrawn d0) H locs μ) (hY : wX g (lwA s) (s.setDrawn d0) H locs ν) (hc : cells ≤ 20 + 1000 * i) (hs : slots ≤ 200 + 10000 * i) (hl : lv_has ls 9 [(4, .int (nI (4 * i))), (3, .ref (Λ 9 0)), (2, .ref (Ω 0)), (1, .ref (Λ 0 0)), (0, .ref b)]) (kk : lwK p l e s m below meth c b g Ω i) : W p l e room_1 (s.setDrawn d0) m #[Value.ref b] below meth c H locs cells slots (lw_Z below #[Value.ref b] s) (F0 m 1374 ls []) := by
  obtain ⟨hx, hb, hr, hml, hown, hts, hXs, hbl, hlocks, hgv⟩ := id C0
  have hown : (s.setDrawn d0).vm.findClass "FairyDustLaw" = some m.cls := hown
  have hXs : va_X b L xs (s.setDrawn d0) s.heap := hXs
  have hbA : ¬ lwA s b := Nat.not_le.mpr hbl
  refine lv_aload_n hx hb dL_law_1374 rfl (lv_at hl 3 rfl) ?_
  refine lv_aload_n hx hb dL_law_1375 rfl (lv_at hl 4 rfl) ?_
  refine lv_iload hx hb dL_law_1376 (lv_at hl 0 rfl) ?_
  refine lv_iconst (v := nI 1) hx hb dL_law_1378 (by decide) ?_
  refine n_iadd hx hb dL_law_1379 (nI_add _ _) ?_
  refine va_sld hx hb hXs hbl hbA hX.S (vp_in_nI (by omega) (by omega)) dL_law_1380 ?_
  obtain ⟨vx, hvx⟩ : ∃ z, z = xs (nI ((4 * i) + 1)).toNatClampNeg := ⟨_, rfl⟩
  refine W.eq (g2 := F0 m 1381 ls [.int vx, .ref (Λ 0 0)]) (by rw [hvx]) ?_
  refine lv_aload_n hx hb dL_law_1381 rfl (lv_at hl 4 rfl) ?_
  refine lv_iload hx hb dL_law_1382 (lv_at hl 0 rfl) ?_
  refine lv_iconst (v := nI 2) hx hb dL_law_1384 (by decide) ?_
  refine n_iadd hx hb dL_law_1385 (nI_add _ _) ?_
  refine va_sld hx hb hXs hbl hbA hX.S (vp_in_nI (by omega) (by omega)) dL_law_1386 ?_
  obtain ⟨vy, hvy⟩ : ∃ z, z = xs (nI ((4 * i) + 2)).toNatClampNeg := ⟨_, rfl⟩
  refine W.eq (g2 := F0 m 1387 ls [.int vy, .int vx, .ref (Λ 0 0)]) (by rw [hvy]) ?_
  refine lv_aload_n hx hb dL_law_1387 rfl (lv_at hl 1 rfl) ?_
  refine w_callF (w_runSW (n := 4) (As := [.ref (Λ 0 0), .int vx, .int vy, .ref (Λ 9 0)]) (rest := []) hx hb hml hown hX (c_L_fallWanted l hflt g μ H.size hF hg.1) kw613 kw0 kw611 kw612 wn_L_fallWanted rfl ⟨Nat.le_of_ble_eq_true rfl, Nat.le_of_ble_eq_true rfl⟩ hl.1 rfl (Nat.le_of_ble_eq_true rfl) dL_law_1388 ⟨(show _ ≤ 601024 by omega), (show _ ≤ 7293034 by omega)⟩) hX (fun r1 μ1 H1 locs1 q1 hX1 hz1 hfr1 hdm1 => ?_)
  obtain ⟨rfl, Λ1, w1, hF1, hL0, hL9, hv⟩ := q1
  have hY1 := w_other hX1 hY hfr1 hdm1 hdj
  refine W.eq (g2 := F0 m 1391 ls [.int (nI (cd2 (isX vx (σ 4 0)) (isI vy 1 20)))]) rfl ?_
  refine lv_istore (lv' := [(5, .int (nI (cd2 (isX vx (σ 4 0)) (isI vy 1 20)))), (4, .int (nI (4 * i))), (3, .ref (Λ 9 0)), (2, .ref (Ω 0)), (1, .ref (Λ 0 0)), (0, .ref b)]) hx hb dL_law_1391 hl (by decide) rfl (fun ls hl => ?_)
  refine lv_aload_n hx hb dL_law_1393 rfl (lv_at hl 3 rfl) ?_
  refine lv_aload_n hx hb dL_law_1394 rfl (lv_at hl 5 rfl) ?_
  refine lv_iload hx hb dL_law_1395 (lv_at hl 1 rfl) ?_
  refine lv_iconst (v := nI 1) hx hb dL_law_1397 (by decide) ?_
  refine n_iadd hx hb dL_law_1398 (nI_add _ _) ?_
  refine va_sld hx hb hXs hbl hbA hX1.S (vp_in_nI (by omega) (by omega)) dL_law_1399 ?_
  refine W.eq (g2 := F0 m 1400 ls [.int vx, .ref (Ω 0)]) (by rw [hvx]) ?_
  refine lv_aload_n hx hb dL_law_1400 rfl (lv_at hl 5 rfl) ?_
  refine lv_iload hx hb dL_law_1401 (lv_at hl 1 rfl) ?_
  refine lv_iconst (v := nI 2) hx hb dL_law_1403 (by decide) ?_
  refine n_iadd hx hb dL_law_1404 (nI_add _ _) ?_
  refine va_sld hx hb hXs hbl hbA hX1.S (vp_in_nI (by omega) (by omega)) dL_law_1405 ?_
  refine W.eq (g2 := F0 m 1406 ls [.int vy, .int vx, .ref (Ω 0)]) (by rw [hvy]) ?_
  refine w_callF (w_runV (n := 2) (As := [.int vx, .int vy]) (rest := []) hx hb hml hown hY1.1 (c_X3_fallWanted l g ν H1.size hM hg.1) kw858 kw7 kw855 kw856 kw857 wn_X3_fallWanted rfl hM.1 rfl ⟨Nat.le_of_ble_eq_true rfl, Nat.le_of_ble_eq_true rfl⟩ hl.1 rfl (Nat.le_of_ble_eq_true rfl) dL_law_1406 ⟨(show _ ≤ 601024 by omega), (show _ ≤ 7293034 by omega)⟩) hY1.1 (fun r2 ν1 H2 locs2 q2 hY2 hz2 hfr2 hdm2 => ?_)
  obtain ⟨v, rfl, hM1, hv2⟩ := q2
  have hX2 := w_other hY2 hX1 hfr2 hdm2 (fun q h => Classical.byContradiction fun z => h (hY1.2 q z))
  have hgn : gd (σ) (i + 1) := hg.up
  refine W.eq (g2 := F0 m 1409 ls [.int v]) rfl ?_
  refine lv_istore (lv' := [(6, .int v), (5, .int (nI (cd2 (isX vx (σ 4 0)) (isI vy 1 20)))), (4, .int (nI (4 * i))), (3, .ref (Λ 9 0)), (2, .ref (Ω 0)), (1, .ref (Λ 0 0)), (0, .ref b)]) hx hb dL_law_1409 hl (by decide) rfl (fun ls hl => ?_)
  refine lv_aload_n hx hb dL_law_1411 rfl (lv_at hl 4 rfl) ?_
  refine w_callF (w_runV (n := 0) (As := []) (rest := []) hx hb hml hown hY2 (c_X3_thrown l g ν1 H2.size hM1 hgn.1) kw679 kw7 kw676 kw677 kw678 wn_X3_thrown rfl hM1.1 rfl ⟨Nat.le_of_ble_eq_true rfl, Nat.le_of_ble_eq_true rfl⟩ hl.1 rfl (Nat.le_of_ble_eq_true rfl) dL_law_1412 ⟨(show _ ≤ 601024 by omega), (show _ ≤ 7293034 by omega)⟩) hY2 (fun r3 ν2 H3 locs3 q3 hY3 hz3 hfr3 hdm3 => ?_)
  obtain ⟨rfl, hne⟩ := q3
  rw [hne] at hY3 hdm3
  have hX3 := w_other hY3 hX2.1 hfr3 hdm3 hX2.2
  refine W.eq (g2 := F0 m 1415 ls [.int (nI (cd2 (isX vx (σ 4 0)) (isI vy 1 20)))]) rfl ?_
  refine lv_iload hx hb dL_law_1415 (lv_at hl 1 rfl) ?_
  refine lv_icmp_eq (tgt := 1422) hx hb dL_law_1417 (by decide) (fun _ => ?_) (fun h => absurd rfl h)
  refine lv_iload hx hb dL_law_1422 (lv_at hl 1 rfl) ?_
  refine n_if_ne (tgt := 1439) hx hb (cd2_l _ _) dL_law_1424 (by decide) (fun hcz_1 => ?_) (fun hcz_1 => ?_)
  · skip
    refine lv_goto (tgt := 1609) hx hb dL_law_1439 (by decide) ?_
    have hl := lv_sub (l' := [(4, .int (nI (4 * i))), (3, .ref (Λ 9 0)), (2, .ref (Ω 0)), (1, .ref (Λ 0 0)), (0, .ref b)]) hl [2, 3, 4, 5, 6] rfl
    rw [← hL0, ← hL9] at hl
    exact kk d0 Λ1 _ w1 _ μ1 ν1 H3 locs3 ls _ _ hd0 hgn hF1 hM1 (fun q h => Classical.byContradiction fun z => h (hX3.2 q z)) hX3.1 hY3 (by omega) (by omega) hl
  · skip
    refine lv_aload_n hx hb dL_law_1427 rfl (lv_at hl 3 rfl) ?_
    refine lv_iconst (v := nI 0) hx hb dL_law_1428 (by decide) ?_
    have f98 := hF1.out9
    rw [hL9] at f98
    refine n_lald hx hb hX3.1 f98 (by decide) (by decide) dL_law_1429 ?_
    refine W.eq (g2 := F0 m 1430 ls [.long w1]) rfl ?_
    refine lv_iload hx hb dL_law_1430 (lv_at hl 0 rfl) ?_
    refine lv_i2l hx hb dL_law_1432 rfl ?_
    refine W.lcmp hx hb dL_law_1433 ?_
    refine lv_if_eq (tgt := 1439) hx hb dL_law_1434 (by decide) (fun _ => ?_) (fun h => absurd (by rw [hv hcz_1, hv2 hcz_1]; exact lgc0 _) h)
    refine lv_goto (tgt := 1609) hx hb dL_law_1439 (by decide) ?_
    have hl := lv_sub (l' := [(4, .int (nI (4 * i))), (3, .ref (Λ 9 0)), (2, .ref (Ω 0)), (1, .ref (Λ 0 0)), (0, .ref b)]) hl [2, 3, 4, 5, 6] rfl
    rw [← hL0, ← hL9] at hl
    exact kk d0 Λ1 _ w1 _ μ1 ν1 H3 locs3 ls _ _ hd0 hgn hF1 hM1 (fun q h => Classical.byContradiction fun z => h (hX3.2 q z)) hX3.1 hY3 (by omega) (by omega) hl

set_option maxHeartbeats 4000000 in
set_option maxRecDepth 100000 in
/-- bestChild -/
theorem lw_op_bestChild {p : Program} {l : Launch} {e : Env} {s : State} {m : MethodId} {below : List Frame} {meth : Method} {c : Code} (hflt : l.stackTraces = false) {b L : Nat} {xs : Nat → Int32} (hL : L ≤ 2048) (C0 : lw_At p s m meth c b L xs) {g : wG} {d0 : Drawn} (hd0 : s.drawn.sameBut d0 lw_cs) {i : Nat} {H : Heap} {locs : List Loc} {ls : Array Slot} {cells slots : Nat} {Λ σ : sSt} {w9 : Int64} {Ω : Nat → Nat} {th : Nat} {μ ν : wMu} (hi : 4 * i + 4 ≤ L) (hg : gd σ i) (hF : fD g Λ (some w9) σ μ) (hM : mD g Ω th σ ν) (hdj : ∀ q, μ q ≠ none → ν q = none) (hX : wX g (lwA s) (s.setDrawn d0) H locs μ) (hY : wX g (lwA s) (s.setDrawn d0) H locs ν) (hc : cells ≤ 20 + 1000 * i) (hs : slots ≤ 200 + 10000 * i) (hl : lv_has ls 9 [(4, .int (nI (4 * i))), (3, .ref (Λ 9 0)), (2, .ref (Ω 0)), (1, .ref (Λ 0 0)), (0, .ref b)]) (kk : lwK p l e s m below meth c b g Ω i) : W p l e room_1 (s.setDrawn d0) m #[Value.ref b] below meth c H locs cells slots (lw_Z below #[Value.ref b] s) (F0 m 1498 ls []) := by
  obtain ⟨hx, hb, hr, hml, hown, hts, hXs, hbl, hlocks, hgv⟩ := id C0
  have hown : (s.setDrawn d0).vm.findClass "FairyDustLaw" = some m.cls := hown
  have hXs : va_X b L xs (s.setDrawn d0) s.heap := hXs
  have hbA : ¬ lwA s b := Nat.not_le.mpr hbl
  refine lv_aload_n hx hb dL_law_1498 rfl (lv_at hl 3 rfl) ?_
  refine lv_aload_n hx hb dL_law_1499 rfl (lv_at hl 4 rfl) ?_
  refine lv_iload hx hb dL_law_1500 (lv_at hl 0 rfl) ?_
  refine lv_iconst (v := nI 1) hx hb dL_law_1502 (by decide) ?_
  refine n_iadd hx hb dL_law_1503 (nI_add _ _) ?_
  refine va_sld hx hb hXs hbl hbA hX.S (vp_in_nI (by omega) (by omega)) dL_law_1504 ?_
  obtain ⟨vx, hvx⟩ : ∃ z, z = xs (nI ((4 * i) + 1)).toNatClampNeg := ⟨_, rfl⟩
  refine W.eq (g2 := F0 m 1505 ls [.int vx, .ref (Λ 0 0)]) (by rw [hvx]) ?_
  refine lv_aload_n hx hb dL_law_1505 rfl (lv_at hl 1 rfl) ?_
  refine w_callF (w_runSW (n := 3) (As := [.ref (Λ 0 0), .int vx, .ref (Λ 9 0)]) (rest := []) hx hb hml hown hX (c_L_bestChild l hflt g μ H.size hF hg.1) kw621 kw0 kw619 kw620 wn_L_bestChild rfl ⟨Nat.le_of_ble_eq_true rfl, Nat.le_of_ble_eq_true rfl⟩ hl.1 rfl (Nat.le_of_ble_eq_true rfl) dL_law_1506 ⟨(show _ ≤ 601024 by omega), (show _ ≤ 7293034 by omega)⟩) hX (fun r1 μ1 H1 locs1 q1 hX1 hz1 hfr1 hdm1 => ?_)
  obtain ⟨rfl, Λ1, w1, hF1, hL0, hL9, hv⟩ := q1
  have hY1 := w_other hX1 hY hfr1 hdm1 hdj
  refine W.eq (g2 := F0 m 1509 ls [.int (nI (cd1 (isI vx 1 20)))]) rfl ?_
  refine lv_istore (lv' := [(5, .int (nI (cd1 (isI vx 1 20)))), (4, .int (nI (4 * i))), (3, .ref (Λ 9 0)), (2, .ref (Ω 0)), (1, .ref (Λ 0 0)), (0, .ref b)]) hx hb dL_law_1509 hl (by decide) rfl (fun ls hl => ?_)
  refine lv_aload_n hx hb dL_law_1511 rfl (lv_at hl 3 rfl) ?_
  refine lv_aload_n hx hb dL_law_1512 rfl (lv_at hl 5 rfl) ?_
  refine lv_iload hx hb dL_law_1513 (lv_at hl 1 rfl) ?_
  refine lv_iconst (v := nI 1) hx hb dL_law_1515 (by decide) ?_
  refine n_iadd hx hb dL_law_1516 (nI_add _ _) ?_
  refine va_sld hx hb hXs hbl hbA hX1.S (vp_in_nI (by omega) (by omega)) dL_law_1517 ?_
  refine W.eq (g2 := F0 m 1518 ls [.int vx, .ref (Ω 0)]) (by rw [hvx]) ?_
  refine w_callF (w_runV (n := 1) (As := [.int vx]) (rest := []) hx hb hml hown hY1.1 (c_X3_bestChild l g ν H1.size hM hg.1) kw874 kw7 kw871 kw872 kw873 wn_X3_bestChild rfl hM.1 rfl ⟨Nat.le_of_ble_eq_true rfl, Nat.le_of_ble_eq_true rfl⟩ hl.1 rfl (Nat.le_of_ble_eq_true rfl) dL_law_1518 ⟨(show _ ≤ 601024 by omega), (show _ ≤ 7293034 by omega)⟩) hY1.1 (fun r2 ν1 H2 locs2 q2 hY2 hz2 hfr2 hdm2 => ?_)
  obtain ⟨v, rfl, hM1, hv2⟩ := q2
  have hX2 := w_other hY2 hX1 hfr2 hdm2 (fun q h => Classical.byContradiction fun z => h (hY1.2 q z))
  have hgn : gd (σ) (i + 1) := hg.up
  refine W.eq (g2 := F0 m 1521 ls [.int v]) rfl ?_
  refine lv_istore (lv' := [(6, .int v), (5, .int (nI (cd1 (isI vx 1 20)))), (4, .int (nI (4 * i))), (3, .ref (Λ 9 0)), (2, .ref (Ω 0)), (1, .ref (Λ 0 0)), (0, .ref b)]) hx hb dL_law_1521 hl (by decide) rfl (fun ls hl => ?_)
  refine lv_aload_n hx hb dL_law_1523 rfl (lv_at hl 4 rfl) ?_
  refine w_callF (w_runV (n := 0) (As := []) (rest := []) hx hb hml hown hY2 (c_X3_thrown l g ν1 H2.size hM1 hgn.1) kw679 kw7 kw676 kw677 kw678 wn_X3_thrown rfl hM1.1 rfl ⟨Nat.le_of_ble_eq_true rfl, Nat.le_of_ble_eq_true rfl⟩ hl.1 rfl (Nat.le_of_ble_eq_true rfl) dL_law_1524 ⟨(show _ ≤ 601024 by omega), (show _ ≤ 7293034 by omega)⟩) hY2 (fun r3 ν2 H3 locs3 q3 hY3 hz3 hfr3 hdm3 => ?_)
  obtain ⟨rfl, hne⟩ := q3
  rw [hne] at hY3 hdm3
  have hX3 := w_other hY3 hX2.1 hfr3 hdm3 hX2.2
  refine W.eq (g2 := F0 m 1527 ls [.int (nI (cd1 (isI vx 1 20)))]) rfl ?_
  refine lv_iload hx hb dL_law_1527 (lv_at hl 1 rfl) ?_
  refine lv_icmp_eq (tgt := 1534) hx hb dL_law_1529 (by decide) (fun _ => ?_) (fun h => absurd rfl h)
  refine lv_iload hx hb dL_law_1534 (lv_at hl 1 rfl) ?_
  refine n_if_ne (tgt := 1551) hx hb (cd1_l _) dL_law_1536 (by decide) (fun hcz_1 => ?_) (fun hcz_1 => ?_)
  · skip
    refine lv_goto (tgt := 1609) hx hb dL_law_1551 (by decide) ?_
    have hl := lv_sub (l' := [(4, .int (nI (4 * i))), (3, .ref (Λ 9 0)), (2, .ref (Ω 0)), (1, .ref (Λ 0 0)), (0, .ref b)]) hl [2, 3, 4, 5, 6] rfl
    rw [← hL0, ← hL9] at hl
    exact kk d0 Λ1 _ w1 _ μ1 ν1 H3 locs3 ls _ _ hd0 hgn hF1 hM1 (fun q h => Classical.byContradiction fun z => h (hX3.2 q z)) hX3.1 hY3 (by omega) (by omega) hl
  · skip
    refine lv_aload_n hx hb dL_law_1539 rfl (lv_at hl 3 rfl) ?_
    refine lv_iconst (v := nI 0) hx hb dL_law_1540 (by decide) ?_
    have f98 := hF1.out9
    rw [hL9] at f98
    refine n_lald hx hb hX3.1 f98 (by decide) (by decide) dL_law_1541 ?_
    refine W.eq (g2 := F0 m 1542 ls [.long w1]) rfl ?_
    refine lv_iload hx hb dL_law_1542 (lv_at hl 0 rfl) ?_
    refine lv_i2l hx hb dL_law_1544 rfl ?_
    refine W.lcmp hx hb dL_law_1545 ?_
    refine lv_if_eq (tgt := 1551) hx hb dL_law_1546 (by decide) (fun _ => ?_) (fun h => absurd (by rw [hv hcz_1, hv2 hcz_1]; exact lgc0 _) h)
    refine lv_goto (tgt := 1609) hx hb dL_law_1551 (by decide) ?_
    have hl := lv_sub (l' := [(4, .int (nI (4 * i))), (3, .ref (Λ 9 0)), (2, .ref (Ω 0)), (1, .ref (Λ 0 0)), (0, .ref b)]) hl [2, 3, 4, 5, 6] rfl
    rw [← hL0, ← hL9] at hl
    exact kk d0 Λ1 _ w1 _ μ1 ν1 H3 locs3 ls _ _ hd0 hgn hF1 hM1 (fun q h => Classical.byContradiction fun z => h (hX3.2 q z)) hX3.1 hY3 (by omega) (by omega) hl

set_option maxHeartbeats 4000000 in
set_option maxRecDepth 100000 in
/-- dustIn -/
theorem lw_op_dustIn {p : Program} {l : Launch} {e : Env} {s : State} {m : MethodId} {below : List Frame} {meth : Method} {c : Code} (hflt : l.stackTraces = false) {b L : Nat} {xs : Nat → Int32} (hL : L ≤ 2048) (C0 : lw_At p s m meth c b L xs) {g : wG} {d0 : Drawn} (hd0 : s.drawn.sameBut d0 lw_cs) {i : Nat} {H : Heap} {locs : List Loc} {ls : Array Slot} {cells slots : Nat} {Λ σ : sSt} {w9 : Int64} {Ω : Nat → Nat} {th : Nat} {μ ν : wMu} (hi : 4 * i + 4 ≤ L) (hg : gd σ i) (hF : fD g Λ (some w9) σ μ) (hM : mD g Ω th σ ν) (hdj : ∀ q, μ q ≠ none → ν q = none) (hX : wX g (lwA s) (s.setDrawn d0) H locs μ) (hY : wX g (lwA s) (s.setDrawn d0) H locs ν) (hc : cells ≤ 20 + 1000 * i) (hs : slots ≤ 200 + 10000 * i) (hl : lv_has ls 9 [(4, .int (nI (4 * i))), (3, .ref (Λ 9 0)), (2, .ref (Ω 0)), (1, .ref (Λ 0 0)), (0, .ref b)]) (kk : lwK p l e s m below meth c b g Ω i) : W p l e room_1 (s.setDrawn d0) m #[Value.ref b] below meth c H locs cells slots (lw_Z below #[Value.ref b] s) (F0 m 722 ls []) := by
  obtain ⟨hx, hb, hr, hml, hown, hts, hXs, hbl, hlocks, hgv⟩ := id C0
  have hown : (s.setDrawn d0).vm.findClass "FairyDustLaw" = some m.cls := hown
  have hXs : va_X b L xs (s.setDrawn d0) s.heap := hXs
  have hbA : ¬ lwA s b := Nat.not_le.mpr hbl
  refine lv_aload_n hx hb dL_law_722 rfl (lv_at hl 3 rfl) ?_
  refine lv_aload_n hx hb dL_law_723 rfl (lv_at hl 4 rfl) ?_
  refine lv_iload hx hb dL_law_724 (lv_at hl 0 rfl) ?_
  refine lv_iconst (v := nI 1) hx hb dL_law_726 (by decide) ?_
  refine n_iadd hx hb dL_law_727 (nI_add _ _) ?_
  refine va_sld hx hb hXs hbl hbA hX.S (vp_in_nI (by omega) (by omega)) dL_law_728 ?_
  obtain ⟨vx, hvx⟩ : ∃ z, z = xs (nI ((4 * i) + 1)).toNatClampNeg := ⟨_, rfl⟩
  refine W.eq (g2 := F0 m 729 ls [.int vx, .ref (Λ 0 0)]) (by rw [hvx]) ?_
  refine lv_aload_n hx hb dL_law_729 rfl (lv_at hl 1 rfl) ?_
  refine w_callF (w_runSW (n := 3) (As := [.ref (Λ 0 0), .int vx, .ref (Λ 9 0)]) (rest := []) hx hb hml hown hX (c_L_dustIn l hflt g μ H.size hF hg.1) kw569 kw0 kw567 kw568 wn_L_dustIn rfl ⟨Nat.le_of_ble_eq_true rfl, Nat.le_of_ble_eq_true rfl⟩ hl.1 rfl (Nat.le_of_ble_eq_true rfl) dL_law_730 ⟨(show _ ≤ 601024 by omega), (show _ ≤ 7293034 by omega)⟩) hX (fun r1 μ1 H1 locs1 q1 hX1 hz1 hfr1 hdm1 => ?_)
  obtain ⟨rfl, Λ1, w1, hF1, hL0, hL9, hv⟩ := q1
  have hY1 := w_other hX1 hY hfr1 hdm1 hdj
  refine W.eq (g2 := F0 m 733 ls [.int (nI (cd1 (isX vx (σ 3 0))))]) rfl ?_
  refine lv_istore (lv' := [(5, .int (nI (cd1 (isX vx (σ 3 0))))), (4, .int (nI (4 * i))), (3, .ref (Λ 9 0)), (2, .ref (Ω 0)), (1, .ref (Λ 0 0)), (0, .ref b)]) hx hb dL_law_733 hl (by decide) rfl (fun ls hl => ?_)
  refine lv_aload_n hx hb dL_law_735 rfl (lv_at hl 3 rfl) ?_
  refine lv_aload_n hx hb dL_law_736 rfl (lv_at hl 5 rfl) ?_
  refine lv_iload hx hb dL_law_737 (lv_at hl 1 rfl) ?_
  refine lv_iconst (v := nI 1) hx hb dL_law_739 (by decide) ?_
  refine n_iadd hx hb dL_law_740 (nI_add _ _) ?_
  refine va_sld hx hb hXs hbl hbA hX1.S (vp_in_nI (by omega) (by omega)) dL_law_741 ?_
  refine W.eq (g2 := F0 m 742 ls [.int vx, .ref (Ω 0)]) (by rw [hvx]) ?_
  refine w_callF (w_runV (n := 1) (As := [.int vx]) (rest := []) hx hb hml hown hY1.1 (c_X3_dustIn l g ν H1.size hM hg.1) kw790 kw7 kw787 kw788 kw789 wn_X3_dustIn rfl hM.1 rfl ⟨Nat.le_of_ble_eq_true rfl, Nat.le_of_ble_eq_true rfl⟩ hl.1 rfl (Nat.le_of_ble_eq_true rfl) dL_law_742 ⟨(show _ ≤ 601024 by omega), (show _ ≤ 7293034 by omega)⟩) hY1.1 (fun r2 ν1 H2 locs2 q2 hY2 hz2 hfr2 hdm2 => ?_)
  obtain ⟨v, rfl, hM1, hv2⟩ := q2
  have hX2 := w_other hY2 hX1 hfr2 hdm2 (fun q h => Classical.byContradiction fun z => h (hY1.2 q z))
  have hgn : gd (σ) (i + 1) := hg.up
  refine W.eq (g2 := F0 m 745 ls [.int v]) rfl ?_
  refine lv_istore (lv' := [(6, .int v), (5, .int (nI (cd1 (isX vx (σ 3 0))))), (4, .int (nI (4 * i))), (3, .ref (Λ 9 0)), (2, .ref (Ω 0)), (1, .ref (Λ 0 0)), (0, .ref b)]) hx hb dL_law_745 hl (by decide) rfl (fun ls hl => ?_)
  refine lv_aload_n hx hb dL_law_747 rfl (lv_at hl 4 rfl) ?_
  refine w_callF (w_runV (n := 0) (As := []) (rest := []) hx hb hml hown hY2 (c_X3_thrown l g ν1 H2.size hM1 hgn.1) kw679 kw7 kw676 kw677 kw678 wn_X3_thrown rfl hM1.1 rfl ⟨Nat.le_of_ble_eq_true rfl, Nat.le_of_ble_eq_true rfl⟩ hl.1 rfl (Nat.le_of_ble_eq_true rfl) dL_law_748 ⟨(show _ ≤ 601024 by omega), (show _ ≤ 7293034 by omega)⟩) hY2 (fun r3 ν2 H3 locs3 q3 hY3 hz3 hfr3 hdm3 => ?_)
  obtain ⟨rfl, hne⟩ := q3
  rw [hne] at hY3 hdm3
  have hX3 := w_other hY3 hX2.1 hfr3 hdm3 hX2.2
  refine W.eq (g2 := F0 m 751 ls [.int (nI (cd1 (isX vx (σ 3 0))))]) rfl ?_
  refine lv_iload hx hb dL_law_751 (lv_at hl 1 rfl) ?_
  refine lv_icmp_eq (tgt := 758) hx hb dL_law_753 (by decide) (fun _ => ?_) (fun h => absurd rfl h)
  refine lv_iload hx hb dL_law_758 (lv_at hl 1 rfl) ?_
  refine n_if_ne (tgt := 775) hx hb (cd1_l _) dL_law_760 (by decide) (fun hcz_1 => ?_) (fun hcz_1 => ?_)
  · skip
    refine lv_goto (tgt := 1609) hx hb dL_law_775 (by decide) ?_
    have hl := lv_sub (l' := [(4, .int (nI (4 * i))), (3, .ref (Λ 9 0)), (2, .ref (Ω 0)), (1, .ref (Λ 0 0)), (0, .ref b)]) hl [2, 3, 4, 5, 6] rfl
    rw [← hL0, ← hL9] at hl
    exact kk d0 Λ1 _ w1 _ μ1 ν1 H3 locs3 ls _ _ hd0 hgn hF1 hM1 (fun q h => Classical.byContradiction fun z => h (hX3.2 q z)) hX3.1 hY3 (by omega) (by omega) hl
  · skip
    refine lv_aload_n hx hb dL_law_763 rfl (lv_at hl 3 rfl) ?_
    refine lv_iconst (v := nI 0) hx hb dL_law_764 (by decide) ?_
    have f98 := hF1.out9
    rw [hL9] at f98
    refine n_lald hx hb hX3.1 f98 (by decide) (by decide) dL_law_765 ?_
    refine W.eq (g2 := F0 m 766 ls [.long w1]) rfl ?_
    refine lv_iload hx hb dL_law_766 (lv_at hl 0 rfl) ?_
    refine lv_i2l hx hb dL_law_768 rfl ?_
    refine W.lcmp hx hb dL_law_769 ?_
    refine lv_if_eq (tgt := 775) hx hb dL_law_770 (by decide) (fun _ => ?_) (fun h => absurd (by rw [hv hcz_1, hv2 hcz_1]; exact lgc0 _) h)
    refine lv_goto (tgt := 1609) hx hb dL_law_775 (by decide) ?_
    have hl := lv_sub (l' := [(4, .int (nI (4 * i))), (3, .ref (Λ 9 0)), (2, .ref (Ω 0)), (1, .ref (Λ 0 0)), (0, .ref b)]) hl [2, 3, 4, 5, 6] rfl
    rw [← hL0, ← hL9] at hl
    exact kk d0 Λ1 _ w1 _ μ1 ν1 H3 locs3 ls _ _ hd0 hgn hF1 hM1 (fun q h => Classical.byContradiction fun z => h (hX3.2 q z)) hX3.1 hY3 (by omega) (by omega) hl

set_option maxHeartbeats 4000000 in
set_option maxRecDepth 100000 in
/-- users -/
theorem lw_op_users {p : Program} {l : Launch} {e : Env} {s : State} {m : MethodId} {below : List Frame} {meth : Method} {c : Code} (hflt : l.stackTraces = false) {b L : Nat} {xs : Nat → Int32} (hL : L ≤ 2048) (C0 : lw_At p s m meth c b L xs) {g : wG} {d0 : Drawn} (hd0 : s.drawn.sameBut d0 lw_cs) {i : Nat} {H : Heap} {locs : List Loc} {ls : Array Slot} {cells slots : Nat} {Λ σ : sSt} {w9 : Int64} {Ω : Nat → Nat} {th : Nat} {μ ν : wMu} (hi : 4 * i + 4 ≤ L) (hg : gd σ i) (hF : fD g Λ (some w9) σ μ) (hM : mD g Ω th σ ν) (hdj : ∀ q, μ q ≠ none → ν q = none) (hX : wX g (lwA s) (s.setDrawn d0) H locs μ) (hY : wX g (lwA s) (s.setDrawn d0) H locs ν) (hc : cells ≤ 20 + 1000 * i) (hs : slots ≤ 200 + 10000 * i) (hl : lv_has ls 9 [(4, .int (nI (4 * i))), (3, .ref (Λ 9 0)), (2, .ref (Ω 0)), (1, .ref (Λ 0 0)), (0, .ref b)]) (kk : lwK p l e s m below meth c b g Ω i) : W p l e room_1 (s.setDrawn d0) m #[Value.ref b] below meth c H locs cells slots (lw_Z below #[Value.ref b] s) (F0 m 778 ls []) := by
  obtain ⟨hx, hb, hr, hml, hown, hts, hXs, hbl, hlocks, hgv⟩ := id C0
  have hown : (s.setDrawn d0).vm.findClass "FairyDustLaw" = some m.cls := hown
  have hXs : va_X b L xs (s.setDrawn d0) s.heap := hXs
  have hbA : ¬ lwA s b := Nat.not_le.mpr hbl
  refine lv_aload_n hx hb dL_law_778 rfl (lv_at hl 3 rfl) ?_
  refine lv_aload_n hx hb dL_law_779 rfl (lv_at hl 4 rfl) ?_
  refine lv_iload hx hb dL_law_780 (lv_at hl 0 rfl) ?_
  refine lv_iconst (v := nI 1) hx hb dL_law_782 (by decide) ?_
  refine n_iadd hx hb dL_law_783 (nI_add _ _) ?_
  refine va_sld hx hb hXs hbl hbA hX.S (vp_in_nI (by omega) (by omega)) dL_law_784 ?_
  obtain ⟨vx, hvx⟩ : ∃ z, z = xs (nI ((4 * i) + 1)).toNatClampNeg := ⟨_, rfl⟩
  refine W.eq (g2 := F0 m 785 ls [.int vx, .ref (Λ 0 0)]) (by rw [hvx]) ?_
  refine lv_aload_n hx hb dL_law_785 rfl (lv_at hl 1 rfl) ?_
  refine w_callF (w_runSW (n := 3) (As := [.ref (Λ 0 0), .int vx, .ref (Λ 9 0)]) (rest := []) hx hb hml hown hX (c_L_users l hflt g μ H.size hF hg.1) kw573 kw0 kw571 kw572 wn_L_users rfl ⟨Nat.le_of_ble_eq_true rfl, Nat.le_of_ble_eq_true rfl⟩ hl.1 rfl (Nat.le_of_ble_eq_true rfl) dL_law_786 ⟨(show _ ≤ 601024 by omega), (show _ ≤ 7293034 by omega)⟩) hX (fun r1 μ1 H1 locs1 q1 hX1 hz1 hfr1 hdm1 => ?_)
  obtain ⟨rfl, Λ1, w1, hF1, hL0, hL9, hv⟩ := q1
  have hY1 := w_other hX1 hY hfr1 hdm1 hdj
  refine W.eq (g2 := F0 m 789 ls [.int (nI (cd1 (isX vx (σ 3 0))))]) rfl ?_
  refine lv_istore (lv' := [(5, .int (nI (cd1 (isX vx (σ 3 0))))), (4, .int (nI (4 * i))), (3, .ref (Λ 9 0)), (2, .ref (Ω 0)), (1, .ref (Λ 0 0)), (0, .ref b)]) hx hb dL_law_789 hl (by decide) rfl (fun ls hl => ?_)
  refine lv_aload_n hx hb dL_law_791 rfl (lv_at hl 3 rfl) ?_
  refine lv_aload_n hx hb dL_law_792 rfl (lv_at hl 5 rfl) ?_
  refine lv_iload hx hb dL_law_793 (lv_at hl 1 rfl) ?_
  refine lv_iconst (v := nI 1) hx hb dL_law_795 (by decide) ?_
  refine n_iadd hx hb dL_law_796 (nI_add _ _) ?_
  refine va_sld hx hb hXs hbl hbA hX1.S (vp_in_nI (by omega) (by omega)) dL_law_797 ?_
  refine W.eq (g2 := F0 m 798 ls [.int vx, .ref (Ω 0)]) (by rw [hvx]) ?_
  refine w_callF (w_runV (n := 1) (As := [.int vx]) (rest := []) hx hb hml hown hY1.1 (c_X3_users l g ν H1.size hM hg.1) kw794 kw7 kw791 kw792 kw793 wn_X3_users rfl hM.1 rfl ⟨Nat.le_of_ble_eq_true rfl, Nat.le_of_ble_eq_true rfl⟩ hl.1 rfl (Nat.le_of_ble_eq_true rfl) dL_law_798 ⟨(show _ ≤ 601024 by omega), (show _ ≤ 7293034 by omega)⟩) hY1.1 (fun r2 ν1 H2 locs2 q2 hY2 hz2 hfr2 hdm2 => ?_)
  obtain ⟨v, rfl, hM1, hv2⟩ := q2
  have hX2 := w_other hY2 hX1 hfr2 hdm2 (fun q h => Classical.byContradiction fun z => h (hY1.2 q z))
  have hgn : gd (σ) (i + 1) := hg.up
  refine W.eq (g2 := F0 m 801 ls [.int v]) rfl ?_
  refine lv_istore (lv' := [(6, .int v), (5, .int (nI (cd1 (isX vx (σ 3 0))))), (4, .int (nI (4 * i))), (3, .ref (Λ 9 0)), (2, .ref (Ω 0)), (1, .ref (Λ 0 0)), (0, .ref b)]) hx hb dL_law_801 hl (by decide) rfl (fun ls hl => ?_)
  refine lv_aload_n hx hb dL_law_803 rfl (lv_at hl 4 rfl) ?_
  refine w_callF (w_runV (n := 0) (As := []) (rest := []) hx hb hml hown hY2 (c_X3_thrown l g ν1 H2.size hM1 hgn.1) kw679 kw7 kw676 kw677 kw678 wn_X3_thrown rfl hM1.1 rfl ⟨Nat.le_of_ble_eq_true rfl, Nat.le_of_ble_eq_true rfl⟩ hl.1 rfl (Nat.le_of_ble_eq_true rfl) dL_law_804 ⟨(show _ ≤ 601024 by omega), (show _ ≤ 7293034 by omega)⟩) hY2 (fun r3 ν2 H3 locs3 q3 hY3 hz3 hfr3 hdm3 => ?_)
  obtain ⟨rfl, hne⟩ := q3
  rw [hne] at hY3 hdm3
  have hX3 := w_other hY3 hX2.1 hfr3 hdm3 hX2.2
  refine W.eq (g2 := F0 m 807 ls [.int (nI (cd1 (isX vx (σ 3 0))))]) rfl ?_
  refine lv_iload hx hb dL_law_807 (lv_at hl 1 rfl) ?_
  refine lv_icmp_eq (tgt := 814) hx hb dL_law_809 (by decide) (fun _ => ?_) (fun h => absurd rfl h)
  refine lv_iload hx hb dL_law_814 (lv_at hl 1 rfl) ?_
  refine n_if_ne (tgt := 831) hx hb (cd1_l _) dL_law_816 (by decide) (fun hcz_1 => ?_) (fun hcz_1 => ?_)
  · skip
    refine lv_goto (tgt := 1609) hx hb dL_law_831 (by decide) ?_
    have hl := lv_sub (l' := [(4, .int (nI (4 * i))), (3, .ref (Λ 9 0)), (2, .ref (Ω 0)), (1, .ref (Λ 0 0)), (0, .ref b)]) hl [2, 3, 4, 5, 6] rfl
    rw [← hL0, ← hL9] at hl
    exact kk d0 Λ1 _ w1 _ μ1 ν1 H3 locs3 ls _ _ hd0 hgn hF1 hM1 (fun q h => Classical.byContradiction fun z => h (hX3.2 q z)) hX3.1 hY3 (by omega) (by omega) hl
  · skip
    refine lv_aload_n hx hb dL_law_819 rfl (lv_at hl 3 rfl) ?_
    refine lv_iconst (v := nI 0) hx hb dL_law_820 (by decide) ?_
    have f98 := hF1.out9
    rw [hL9] at f98
    refine n_lald hx hb hX3.1 f98 (by decide) (by decide) dL_law_821 ?_
    refine W.eq (g2 := F0 m 822 ls [.long w1]) rfl ?_
    refine lv_iload hx hb dL_law_822 (lv_at hl 0 rfl) ?_
    refine lv_i2l hx hb dL_law_824 rfl ?_
    refine W.lcmp hx hb dL_law_825 ?_
    refine lv_if_eq (tgt := 831) hx hb dL_law_826 (by decide) (fun _ => ?_) (fun h => absurd (by rw [hv hcz_1, hv2 hcz_1]; exact lgc0 _) h)
    refine lv_goto (tgt := 1609) hx hb dL_law_831 (by decide) ?_
    have hl := lv_sub (l' := [(4, .int (nI (4 * i))), (3, .ref (Λ 9 0)), (2, .ref (Ω 0)), (1, .ref (Λ 0 0)), (0, .ref b)]) hl [2, 3, 4, 5, 6] rfl
    rw [← hL0, ← hL9] at hl
    exact kk d0 Λ1 _ w1 _ μ1 ν1 H3 locs3 ls _ _ hd0 hgn hF1 hM1 (fun q h => Classical.byContradiction fun z => h (hX3.2 q z)) hX3.1 hY3 (by omega) (by omega) hl

set_option maxHeartbeats 4000000 in
set_option maxRecDepth 100000 in
/-- wandOf -/
theorem lw_op_wandOf {p : Program} {l : Launch} {e : Env} {s : State} {m : MethodId} {below : List Frame} {meth : Method} {c : Code} (hflt : l.stackTraces = false) {b L : Nat} {xs : Nat → Int32} (hL : L ≤ 2048) (C0 : lw_At p s m meth c b L xs) {g : wG} {d0 : Drawn} (hd0 : s.drawn.sameBut d0 lw_cs) {i : Nat} {H : Heap} {locs : List Loc} {ls : Array Slot} {cells slots : Nat} {Λ σ : sSt} {w9 : Int64} {Ω : Nat → Nat} {th : Nat} {μ ν : wMu} (hi : 4 * i + 4 ≤ L) (hg : gd σ i) (hF : fD g Λ (some w9) σ μ) (hM : mD g Ω th σ ν) (hdj : ∀ q, μ q ≠ none → ν q = none) (hX : wX g (lwA s) (s.setDrawn d0) H locs μ) (hY : wX g (lwA s) (s.setDrawn d0) H locs ν) (hc : cells ≤ 20 + 1000 * i) (hs : slots ≤ 200 + 10000 * i) (hl : lv_has ls 9 [(4, .int (nI (4 * i))), (3, .ref (Λ 9 0)), (2, .ref (Ω 0)), (1, .ref (Λ 0 0)), (0, .ref b)]) (kk : lwK p l e s m below meth c b g Ω i) : W p l e room_1 (s.setDrawn d0) m #[Value.ref b] below meth c H locs cells slots (lw_Z below #[Value.ref b] s) (F0 m 834 ls []) := by
  obtain ⟨hx, hb, hr, hml, hown, hts, hXs, hbl, hlocks, hgv⟩ := id C0
  have hown : (s.setDrawn d0).vm.findClass "FairyDustLaw" = some m.cls := hown
  have hXs : va_X b L xs (s.setDrawn d0) s.heap := hXs
  have hbA : ¬ lwA s b := Nat.not_le.mpr hbl
  refine lv_aload_n hx hb dL_law_834 rfl (lv_at hl 3 rfl) ?_
  refine lv_aload_n hx hb dL_law_835 rfl (lv_at hl 4 rfl) ?_
  refine lv_iload hx hb dL_law_836 (lv_at hl 0 rfl) ?_
  refine lv_iconst (v := nI 1) hx hb dL_law_838 (by decide) ?_
  refine n_iadd hx hb dL_law_839 (nI_add _ _) ?_
  refine va_sld hx hb hXs hbl hbA hX.S (vp_in_nI (by omega) (by omega)) dL_law_840 ?_
  obtain ⟨vx, hvx⟩ : ∃ z, z = xs (nI ((4 * i) + 1)).toNatClampNeg := ⟨_, rfl⟩
  refine W.eq (g2 := F0 m 841 ls [.int vx, .ref (Λ 0 0)]) (by rw [hvx]) ?_
  refine lv_aload_n hx hb dL_law_841 rfl (lv_at hl 1 rfl) ?_
  refine w_callF (w_runSW (n := 3) (As := [.ref (Λ 0 0), .int vx, .ref (Λ 9 0)]) (rest := []) hx hb hml hown hX (c_L_wandOf l hflt g μ H.size hF hg.1) kw577 kw0 kw575 kw576 wn_L_wandOf rfl ⟨Nat.le_of_ble_eq_true rfl, Nat.le_of_ble_eq_true rfl⟩ hl.1 rfl (Nat.le_of_ble_eq_true rfl) dL_law_842 ⟨(show _ ≤ 601024 by omega), (show _ ≤ 7293034 by omega)⟩) hX (fun r1 μ1 H1 locs1 q1 hX1 hz1 hfr1 hdm1 => ?_)
  obtain ⟨rfl, Λ1, w1, hF1, hL0, hL9, hv⟩ := q1
  have hY1 := w_other hX1 hY hfr1 hdm1 hdj
  refine W.eq (g2 := F0 m 845 ls [.int (nI (cd1 (isX vx (σ 4 0))))]) rfl ?_
  refine lv_istore (lv' := [(5, .int (nI (cd1 (isX vx (σ 4 0))))), (4, .int (nI (4 * i))), (3, .ref (Λ 9 0)), (2, .ref (Ω 0)), (1, .ref (Λ 0 0)), (0, .ref b)]) hx hb dL_law_845 hl (by decide) rfl (fun ls hl => ?_)
  refine lv_aload_n hx hb dL_law_847 rfl (lv_at hl 3 rfl) ?_
  refine lv_aload_n hx hb dL_law_848 rfl (lv_at hl 5 rfl) ?_
  refine lv_iload hx hb dL_law_849 (lv_at hl 1 rfl) ?_
  refine lv_iconst (v := nI 1) hx hb dL_law_851 (by decide) ?_
  refine n_iadd hx hb dL_law_852 (nI_add _ _) ?_
  refine va_sld hx hb hXs hbl hbA hX1.S (vp_in_nI (by omega) (by omega)) dL_law_853 ?_
  refine W.eq (g2 := F0 m 854 ls [.int vx, .ref (Ω 0)]) (by rw [hvx]) ?_
  refine w_callF (w_runV (n := 1) (As := [.int vx]) (rest := []) hx hb hml hown hY1.1 (c_X3_wandOf l g ν H1.size hM hg.1) kw802 kw7 kw799 kw800 kw801 wn_X3_wandOf rfl hM.1 rfl ⟨Nat.le_of_ble_eq_true rfl, Nat.le_of_ble_eq_true rfl⟩ hl.1 rfl (Nat.le_of_ble_eq_true rfl) dL_law_854 ⟨(show _ ≤ 601024 by omega), (show _ ≤ 7293034 by omega)⟩) hY1.1 (fun r2 ν1 H2 locs2 q2 hY2 hz2 hfr2 hdm2 => ?_)
  obtain ⟨v, rfl, hM1, hv2⟩ := q2
  have hX2 := w_other hY2 hX1 hfr2 hdm2 (fun q h => Classical.byContradiction fun z => h (hY1.2 q z))
  have hgn : gd (σ) (i + 1) := hg.up
  refine W.eq (g2 := F0 m 857 ls [.int v]) rfl ?_
  refine lv_istore (lv' := [(6, .int v), (5, .int (nI (cd1 (isX vx (σ 4 0))))), (4, .int (nI (4 * i))), (3, .ref (Λ 9 0)), (2, .ref (Ω 0)), (1, .ref (Λ 0 0)), (0, .ref b)]) hx hb dL_law_857 hl (by decide) rfl (fun ls hl => ?_)
  refine lv_aload_n hx hb dL_law_859 rfl (lv_at hl 4 rfl) ?_
  refine w_callF (w_runV (n := 0) (As := []) (rest := []) hx hb hml hown hY2 (c_X3_thrown l g ν1 H2.size hM1 hgn.1) kw679 kw7 kw676 kw677 kw678 wn_X3_thrown rfl hM1.1 rfl ⟨Nat.le_of_ble_eq_true rfl, Nat.le_of_ble_eq_true rfl⟩ hl.1 rfl (Nat.le_of_ble_eq_true rfl) dL_law_860 ⟨(show _ ≤ 601024 by omega), (show _ ≤ 7293034 by omega)⟩) hY2 (fun r3 ν2 H3 locs3 q3 hY3 hz3 hfr3 hdm3 => ?_)
  obtain ⟨rfl, hne⟩ := q3
  rw [hne] at hY3 hdm3
  have hX3 := w_other hY3 hX2.1 hfr3 hdm3 hX2.2
  refine W.eq (g2 := F0 m 863 ls [.int (nI (cd1 (isX vx (σ 4 0))))]) rfl ?_
  refine lv_iload hx hb dL_law_863 (lv_at hl 1 rfl) ?_
  refine lv_icmp_eq (tgt := 870) hx hb dL_law_865 (by decide) (fun _ => ?_) (fun h => absurd rfl h)
  refine lv_iload hx hb dL_law_870 (lv_at hl 1 rfl) ?_
  refine n_if_ne (tgt := 887) hx hb (cd1_l _) dL_law_872 (by decide) (fun hcz_1 => ?_) (fun hcz_1 => ?_)
  · skip
    refine lv_goto (tgt := 1609) hx hb dL_law_887 (by decide) ?_
    have hl := lv_sub (l' := [(4, .int (nI (4 * i))), (3, .ref (Λ 9 0)), (2, .ref (Ω 0)), (1, .ref (Λ 0 0)), (0, .ref b)]) hl [2, 3, 4, 5, 6] rfl
    rw [← hL0, ← hL9] at hl
    exact kk d0 Λ1 _ w1 _ μ1 ν1 H3 locs3 ls _ _ hd0 hgn hF1 hM1 (fun q h => Classical.byContradiction fun z => h (hX3.2 q z)) hX3.1 hY3 (by omega) (by omega) hl
  · skip
    refine lv_aload_n hx hb dL_law_875 rfl (lv_at hl 3 rfl) ?_
    refine lv_iconst (v := nI 0) hx hb dL_law_876 (by decide) ?_
    have f98 := hF1.out9
    rw [hL9] at f98
    refine n_lald hx hb hX3.1 f98 (by decide) (by decide) dL_law_877 ?_
    refine W.eq (g2 := F0 m 878 ls [.long w1]) rfl ?_
    refine lv_iload hx hb dL_law_878 (lv_at hl 0 rfl) ?_
    refine lv_i2l hx hb dL_law_880 rfl ?_
    refine W.lcmp hx hb dL_law_881 ?_
    refine lv_if_eq (tgt := 887) hx hb dL_law_882 (by decide) (fun _ => ?_) (fun h => absurd (by rw [hv hcz_1, hv2 hcz_1]; exact lgc0 _) h)
    refine lv_goto (tgt := 1609) hx hb dL_law_887 (by decide) ?_
    have hl := lv_sub (l' := [(4, .int (nI (4 * i))), (3, .ref (Λ 9 0)), (2, .ref (Ω 0)), (1, .ref (Λ 0 0)), (0, .ref b)]) hl [2, 3, 4, 5, 6] rfl
    rw [← hL0, ← hL9] at hl
    exact kk d0 Λ1 _ w1 _ μ1 ν1 H3 locs3 ls _ _ hd0 hgn hF1 hM1 (fun q h => Classical.byContradiction fun z => h (hX3.2 q z)) hX3.1 hY3 (by omega) (by omega) hl

set_option maxHeartbeats 4000000 in
set_option maxRecDepth 100000 in
/-- burstOf -/
theorem lw_op_burstOf {p : Program} {l : Launch} {e : Env} {s : State} {m : MethodId} {below : List Frame} {meth : Method} {c : Code} (hflt : l.stackTraces = false) {b L : Nat} {xs : Nat → Int32} (hL : L ≤ 2048) (C0 : lw_At p s m meth c b L xs) {g : wG} {d0 : Drawn} (hd0 : s.drawn.sameBut d0 lw_cs) {i : Nat} {H : Heap} {locs : List Loc} {ls : Array Slot} {cells slots : Nat} {Λ σ : sSt} {w9 : Int64} {Ω : Nat → Nat} {th : Nat} {μ ν : wMu} (hi : 4 * i + 4 ≤ L) (hg : gd σ i) (hF : fD g Λ (some w9) σ μ) (hM : mD g Ω th σ ν) (hdj : ∀ q, μ q ≠ none → ν q = none) (hX : wX g (lwA s) (s.setDrawn d0) H locs μ) (hY : wX g (lwA s) (s.setDrawn d0) H locs ν) (hc : cells ≤ 20 + 1000 * i) (hs : slots ≤ 200 + 10000 * i) (hl : lv_has ls 9 [(4, .int (nI (4 * i))), (3, .ref (Λ 9 0)), (2, .ref (Ω 0)), (1, .ref (Λ 0 0)), (0, .ref b)]) (kk : lwK p l e s m below meth c b g Ω i) : W p l e room_1 (s.setDrawn d0) m #[Value.ref b] below meth c H locs cells slots (lw_Z below #[Value.ref b] s) (F0 m 890 ls []) := by
  obtain ⟨hx, hb, hr, hml, hown, hts, hXs, hbl, hlocks, hgv⟩ := id C0
  have hown : (s.setDrawn d0).vm.findClass "FairyDustLaw" = some m.cls := hown
  have hXs : va_X b L xs (s.setDrawn d0) s.heap := hXs
  have hbA : ¬ lwA s b := Nat.not_le.mpr hbl
  refine lv_aload_n hx hb dL_law_890 rfl (lv_at hl 3 rfl) ?_
  refine lv_aload_n hx hb dL_law_891 rfl (lv_at hl 4 rfl) ?_
  refine lv_iload hx hb dL_law_892 (lv_at hl 0 rfl) ?_
  refine lv_iconst (v := nI 1) hx hb dL_law_894 (by decide) ?_
  refine n_iadd hx hb dL_law_895 (nI_add _ _) ?_
  refine va_sld hx hb hXs hbl hbA hX.S (vp_in_nI (by omega) (by omega)) dL_law_896 ?_
  obtain ⟨vx, hvx⟩ : ∃ z, z = xs (nI ((4 * i) + 1)).toNatClampNeg := ⟨_, rfl⟩
  refine W.eq (g2 := F0 m 897 ls [.int vx, .ref (Λ 0 0)]) (by rw [hvx]) ?_
  refine lv_aload_n hx hb dL_law_897 rfl (lv_at hl 1 rfl) ?_
  refine w_callF (w_runSW (n := 3) (As := [.ref (Λ 0 0), .int vx, .ref (Λ 9 0)]) (rest := []) hx hb hml hown hX (c_L_burstOf l hflt g μ H.size hF hg.1) kw581 kw0 kw579 kw580 wn_L_burstOf rfl ⟨Nat.le_of_ble_eq_true rfl, Nat.le_of_ble_eq_true rfl⟩ hl.1 rfl (Nat.le_of_ble_eq_true rfl) dL_law_898 ⟨(show _ ≤ 601024 by omega), (show _ ≤ 7293034 by omega)⟩) hX (fun r1 μ1 H1 locs1 q1 hX1 hz1 hfr1 hdm1 => ?_)
  obtain ⟨rfl, Λ1, w1, hF1, hL0, hL9, hv⟩ := q1
  have hY1 := w_other hX1 hY hfr1 hdm1 hdj
  refine W.eq (g2 := F0 m 901 ls [.int (nI (cd1 (isX vx (σ 4 0))))]) rfl ?_
  refine lv_istore (lv' := [(5, .int (nI (cd1 (isX vx (σ 4 0))))), (4, .int (nI (4 * i))), (3, .ref (Λ 9 0)), (2, .ref (Ω 0)), (1, .ref (Λ 0 0)), (0, .ref b)]) hx hb dL_law_901 hl (by decide) rfl (fun ls hl => ?_)
  refine lv_aload_n hx hb dL_law_903 rfl (lv_at hl 3 rfl) ?_
  refine lv_aload_n hx hb dL_law_904 rfl (lv_at hl 5 rfl) ?_
  refine lv_iload hx hb dL_law_905 (lv_at hl 1 rfl) ?_
  refine lv_iconst (v := nI 1) hx hb dL_law_907 (by decide) ?_
  refine n_iadd hx hb dL_law_908 (nI_add _ _) ?_
  refine va_sld hx hb hXs hbl hbA hX1.S (vp_in_nI (by omega) (by omega)) dL_law_909 ?_
  refine W.eq (g2 := F0 m 910 ls [.int vx, .ref (Ω 0)]) (by rw [hvx]) ?_
  refine w_callF (w_runV (n := 1) (As := [.int vx]) (rest := []) hx hb hml hown hY1.1 (c_X3_burstOf l g ν H1.size hM hg.1) kw810 kw7 kw807 kw808 kw809 wn_X3_burstOf rfl hM.1 rfl ⟨Nat.le_of_ble_eq_true rfl, Nat.le_of_ble_eq_true rfl⟩ hl.1 rfl (Nat.le_of_ble_eq_true rfl) dL_law_910 ⟨(show _ ≤ 601024 by omega), (show _ ≤ 7293034 by omega)⟩) hY1.1 (fun r2 ν1 H2 locs2 q2 hY2 hz2 hfr2 hdm2 => ?_)
  obtain ⟨v, rfl, hM1, hv2⟩ := q2
  have hX2 := w_other hY2 hX1 hfr2 hdm2 (fun q h => Classical.byContradiction fun z => h (hY1.2 q z))
  have hgn : gd (σ) (i + 1) := hg.up
  refine W.eq (g2 := F0 m 913 ls [.int v]) rfl ?_
  refine lv_istore (lv' := [(6, .int v), (5, .int (nI (cd1 (isX vx (σ 4 0))))), (4, .int (nI (4 * i))), (3, .ref (Λ 9 0)), (2, .ref (Ω 0)), (1, .ref (Λ 0 0)), (0, .ref b)]) hx hb dL_law_913 hl (by decide) rfl (fun ls hl => ?_)
  refine lv_aload_n hx hb dL_law_915 rfl (lv_at hl 4 rfl) ?_
  refine w_callF (w_runV (n := 0) (As := []) (rest := []) hx hb hml hown hY2 (c_X3_thrown l g ν1 H2.size hM1 hgn.1) kw679 kw7 kw676 kw677 kw678 wn_X3_thrown rfl hM1.1 rfl ⟨Nat.le_of_ble_eq_true rfl, Nat.le_of_ble_eq_true rfl⟩ hl.1 rfl (Nat.le_of_ble_eq_true rfl) dL_law_916 ⟨(show _ ≤ 601024 by omega), (show _ ≤ 7293034 by omega)⟩) hY2 (fun r3 ν2 H3 locs3 q3 hY3 hz3 hfr3 hdm3 => ?_)
  obtain ⟨rfl, hne⟩ := q3
  rw [hne] at hY3 hdm3
  have hX3 := w_other hY3 hX2.1 hfr3 hdm3 hX2.2
  refine W.eq (g2 := F0 m 919 ls [.int (nI (cd1 (isX vx (σ 4 0))))]) rfl ?_
  refine lv_iload hx hb dL_law_919 (lv_at hl 1 rfl) ?_
  refine lv_icmp_eq (tgt := 926) hx hb dL_law_921 (by decide) (fun _ => ?_) (fun h => absurd rfl h)
  refine lv_iload hx hb dL_law_926 (lv_at hl 1 rfl) ?_
  refine n_if_ne (tgt := 943) hx hb (cd1_l _) dL_law_928 (by decide) (fun hcz_1 => ?_) (fun hcz_1 => ?_)
  · skip
    refine lv_goto (tgt := 1609) hx hb dL_law_943 (by decide) ?_
    have hl := lv_sub (l' := [(4, .int (nI (4 * i))), (3, .ref (Λ 9 0)), (2, .ref (Ω 0)), (1, .ref (Λ 0 0)), (0, .ref b)]) hl [2, 3, 4, 5, 6] rfl
    rw [← hL0, ← hL9] at hl
    exact kk d0 Λ1 _ w1 _ μ1 ν1 H3 locs3 ls _ _ hd0 hgn hF1 hM1 (fun q h => Classical.byContradiction fun z => h (hX3.2 q z)) hX3.1 hY3 (by omega) (by omega) hl
  · skip
    refine lv_aload_n hx hb dL_law_931 rfl (lv_at hl 3 rfl) ?_
    refine lv_iconst (v := nI 0) hx hb dL_law_932 (by decide) ?_
    have f98 := hF1.out9
    rw [hL9] at f98
    refine n_lald hx hb hX3.1 f98 (by decide) (by decide) dL_law_933 ?_
    refine W.eq (g2 := F0 m 934 ls [.long w1]) rfl ?_
    refine lv_iload hx hb dL_law_934 (lv_at hl 0 rfl) ?_
    refine lv_i2l hx hb dL_law_936 rfl ?_
    refine W.lcmp hx hb dL_law_937 ?_
    refine lv_if_eq (tgt := 943) hx hb dL_law_938 (by decide) (fun _ => ?_) (fun h => absurd (by rw [hv hcz_1, hv2 hcz_1]; exact lgc0 _) h)
    refine lv_goto (tgt := 1609) hx hb dL_law_943 (by decide) ?_
    have hl := lv_sub (l' := [(4, .int (nI (4 * i))), (3, .ref (Λ 9 0)), (2, .ref (Ω 0)), (1, .ref (Λ 0 0)), (0, .ref b)]) hl [2, 3, 4, 5, 6] rfl
    rw [← hL0, ← hL9] at hl
    exact kk d0 Λ1 _ w1 _ μ1 ν1 H3 locs3 ls _ _ hd0 hgn hF1 hM1 (fun q h => Classical.byContradiction fun z => h (hX3.2 q z)) hX3.1 hY3 (by omega) (by omega) hl

set_option maxHeartbeats 4000000 in
set_option maxRecDepth 100000 in
/-- punishedFor -/
theorem lw_op_punishedFor {p : Program} {l : Launch} {e : Env} {s : State} {m : MethodId} {below : List Frame} {meth : Method} {c : Code} (hflt : l.stackTraces = false) {b L : Nat} {xs : Nat → Int32} (hL : L ≤ 2048) (C0 : lw_At p s m meth c b L xs) {g : wG} {d0 : Drawn} (hd0 : s.drawn.sameBut d0 lw_cs) {i : Nat} {H : Heap} {locs : List Loc} {ls : Array Slot} {cells slots : Nat} {Λ σ : sSt} {w9 : Int64} {Ω : Nat → Nat} {th : Nat} {μ ν : wMu} (hi : 4 * i + 4 ≤ L) (hg : gd σ i) (hF : fD g Λ (some w9) σ μ) (hM : mD g Ω th σ ν) (hdj : ∀ q, μ q ≠ none → ν q = none) (hX : wX g (lwA s) (s.setDrawn d0) H locs μ) (hY : wX g (lwA s) (s.setDrawn d0) H locs ν) (hc : cells ≤ 20 + 1000 * i) (hs : slots ≤ 200 + 10000 * i) (hl : lv_has ls 9 [(4, .int (nI (4 * i))), (3, .ref (Λ 9 0)), (2, .ref (Ω 0)), (1, .ref (Λ 0 0)), (0, .ref b)]) (kk : lwK p l e s m below meth c b g Ω i) : W p l e room_1 (s.setDrawn d0) m #[Value.ref b] below meth c H locs cells slots (lw_Z below #[Value.ref b] s) (F0 m 946 ls []) := by
  obtain ⟨hx, hb, hr, hml, hown, hts, hXs, hbl, hlocks, hgv⟩ := id C0
  have hown : (s.setDrawn d0).vm.findClass "FairyDustLaw" = some m.cls := hown
  have hXs : va_X b L xs (s.setDrawn d0) s.heap := hXs
  have hbA : ¬ lwA s b := Nat.not_le.mpr hbl
  refine lv_aload_n hx hb dL_law_946 rfl (lv_at hl 3 rfl) ?_
  refine lv_aload_n hx hb dL_law_947 rfl (lv_at hl 4 rfl) ?_
  refine lv_iload hx hb dL_law_948 (lv_at hl 0 rfl) ?_
  refine lv_iconst (v := nI 1) hx hb dL_law_950 (by decide) ?_
  refine n_iadd hx hb dL_law_951 (nI_add _ _) ?_
  refine va_sld hx hb hXs hbl hbA hX.S (vp_in_nI (by omega) (by omega)) dL_law_952 ?_
  obtain ⟨vx, hvx⟩ : ∃ z, z = xs (nI ((4 * i) + 1)).toNatClampNeg := ⟨_, rfl⟩
  refine W.eq (g2 := F0 m 953 ls [.int vx, .ref (Λ 0 0)]) (by rw [hvx]) ?_
  refine lv_aload_n hx hb dL_law_953 rfl (lv_at hl 1 rfl) ?_
  refine w_callF (w_runSW (n := 3) (As := [.ref (Λ 0 0), .int vx, .ref (Λ 9 0)]) (rest := []) hx hb hml hown hX (c_L_punishedFor l hflt g μ H.size hF hg.1) kw585 kw0 kw583 kw584 wn_L_punishedFor rfl ⟨Nat.le_of_ble_eq_true rfl, Nat.le_of_ble_eq_true rfl⟩ hl.1 rfl (Nat.le_of_ble_eq_true rfl) dL_law_954 ⟨(show _ ≤ 601024 by omega), (show _ ≤ 7293034 by omega)⟩) hX (fun r1 μ1 H1 locs1 q1 hX1 hz1 hfr1 hdm1 => ?_)
  obtain ⟨rfl, Λ1, w1, hF1, hL0, hL9, hv⟩ := q1
  have hY1 := w_other hX1 hY hfr1 hdm1 hdj
  refine W.eq (g2 := F0 m 957 ls [.int (nI (cd1 (isX vx (σ 4 0))))]) rfl ?_
  refine lv_istore (lv' := [(5, .int (nI (cd1 (isX vx (σ 4 0))))), (4, .int (nI (4 * i))), (3, .ref (Λ 9 0)), (2, .ref (Ω 0)), (1, .ref (Λ 0 0)), (0, .ref b)]) hx hb dL_law_957 hl (by decide) rfl (fun ls hl => ?_)
  refine lv_aload_n hx hb dL_law_959 rfl (lv_at hl 3 rfl) ?_
  refine lv_aload_n hx hb dL_law_960 rfl (lv_at hl 5 rfl) ?_
  refine lv_iload hx hb dL_law_961 (lv_at hl 1 rfl) ?_
  refine lv_iconst (v := nI 1) hx hb dL_law_963 (by decide) ?_
  refine n_iadd hx hb dL_law_964 (nI_add _ _) ?_
  refine va_sld hx hb hXs hbl hbA hX1.S (vp_in_nI (by omega) (by omega)) dL_law_965 ?_
  refine W.eq (g2 := F0 m 966 ls [.int vx, .ref (Ω 0)]) (by rw [hvx]) ?_
  refine w_callF (w_runV (n := 1) (As := [.int vx]) (rest := []) hx hb hml hown hY1.1 (c_X3_punishedFor l g ν H1.size hM hg.1) kw814 kw7 kw811 kw812 kw813 wn_X3_punishedFor rfl hM.1 rfl ⟨Nat.le_of_ble_eq_true rfl, Nat.le_of_ble_eq_true rfl⟩ hl.1 rfl (Nat.le_of_ble_eq_true rfl) dL_law_966 ⟨(show _ ≤ 601024 by omega), (show _ ≤ 7293034 by omega)⟩) hY1.1 (fun r2 ν1 H2 locs2 q2 hY2 hz2 hfr2 hdm2 => ?_)
  obtain ⟨v, rfl, hM1, hv2⟩ := q2
  have hX2 := w_other hY2 hX1 hfr2 hdm2 (fun q h => Classical.byContradiction fun z => h (hY1.2 q z))
  have hgn : gd (σ) (i + 1) := hg.up
  refine W.eq (g2 := F0 m 969 ls [.int v]) rfl ?_
  refine lv_istore (lv' := [(6, .int v), (5, .int (nI (cd1 (isX vx (σ 4 0))))), (4, .int (nI (4 * i))), (3, .ref (Λ 9 0)), (2, .ref (Ω 0)), (1, .ref (Λ 0 0)), (0, .ref b)]) hx hb dL_law_969 hl (by decide) rfl (fun ls hl => ?_)
  refine lv_aload_n hx hb dL_law_971 rfl (lv_at hl 4 rfl) ?_
  refine w_callF (w_runV (n := 0) (As := []) (rest := []) hx hb hml hown hY2 (c_X3_thrown l g ν1 H2.size hM1 hgn.1) kw679 kw7 kw676 kw677 kw678 wn_X3_thrown rfl hM1.1 rfl ⟨Nat.le_of_ble_eq_true rfl, Nat.le_of_ble_eq_true rfl⟩ hl.1 rfl (Nat.le_of_ble_eq_true rfl) dL_law_972 ⟨(show _ ≤ 601024 by omega), (show _ ≤ 7293034 by omega)⟩) hY2 (fun r3 ν2 H3 locs3 q3 hY3 hz3 hfr3 hdm3 => ?_)
  obtain ⟨rfl, hne⟩ := q3
  rw [hne] at hY3 hdm3
  have hX3 := w_other hY3 hX2.1 hfr3 hdm3 hX2.2
  refine W.eq (g2 := F0 m 975 ls [.int (nI (cd1 (isX vx (σ 4 0))))]) rfl ?_
  refine lv_iload hx hb dL_law_975 (lv_at hl 1 rfl) ?_
  refine lv_icmp_eq (tgt := 982) hx hb dL_law_977 (by decide) (fun _ => ?_) (fun h => absurd rfl h)
  refine lv_iload hx hb dL_law_982 (lv_at hl 1 rfl) ?_
  refine n_if_ne (tgt := 999) hx hb (cd1_l _) dL_law_984 (by decide) (fun hcz_1 => ?_) (fun hcz_1 => ?_)
  · skip
    refine lv_goto (tgt := 1609) hx hb dL_law_999 (by decide) ?_
    have hl := lv_sub (l' := [(4, .int (nI (4 * i))), (3, .ref (Λ 9 0)), (2, .ref (Ω 0)), (1, .ref (Λ 0 0)), (0, .ref b)]) hl [2, 3, 4, 5, 6] rfl
    rw [← hL0, ← hL9] at hl
    exact kk d0 Λ1 _ w1 _ μ1 ν1 H3 locs3 ls _ _ hd0 hgn hF1 hM1 (fun q h => Classical.byContradiction fun z => h (hX3.2 q z)) hX3.1 hY3 (by omega) (by omega) hl
  · skip
    refine lv_aload_n hx hb dL_law_987 rfl (lv_at hl 3 rfl) ?_
    refine lv_iconst (v := nI 0) hx hb dL_law_988 (by decide) ?_
    have f98 := hF1.out9
    rw [hL9] at f98
    refine n_lald hx hb hX3.1 f98 (by decide) (by decide) dL_law_989 ?_
    refine W.eq (g2 := F0 m 990 ls [.long w1]) rfl ?_
    refine lv_iload hx hb dL_law_990 (lv_at hl 0 rfl) ?_
    refine lv_i2l hx hb dL_law_992 rfl ?_
    refine W.lcmp hx hb dL_law_993 ?_
    refine lv_if_eq (tgt := 999) hx hb dL_law_994 (by decide) (fun _ => ?_) (fun h => absurd (by rw [hv hcz_1, hv2 hcz_1]; exact lgc0 _) h)
    refine lv_goto (tgt := 1609) hx hb dL_law_999 (by decide) ?_
    have hl := lv_sub (l' := [(4, .int (nI (4 * i))), (3, .ref (Λ 9 0)), (2, .ref (Ω 0)), (1, .ref (Λ 0 0)), (0, .ref b)]) hl [2, 3, 4, 5, 6] rfl
    rw [← hL0, ← hL9] at hl
    exact kk d0 Λ1 _ w1 _ μ1 ν1 H3 locs3 ls _ _ hd0 hgn hF1 hM1 (fun q h => Classical.byContradiction fun z => h (hX3.2 q z)) hX3.1 hY3 (by omega) (by omega) hl

set_option maxHeartbeats 4000000 in
set_option maxRecDepth 100000 in
/-- marksOf -/
theorem lw_op_marksOf {p : Program} {l : Launch} {e : Env} {s : State} {m : MethodId} {below : List Frame} {meth : Method} {c : Code} (hflt : l.stackTraces = false) {b L : Nat} {xs : Nat → Int32} (hL : L ≤ 2048) (C0 : lw_At p s m meth c b L xs) {g : wG} {d0 : Drawn} (hd0 : s.drawn.sameBut d0 lw_cs) {i : Nat} {H : Heap} {locs : List Loc} {ls : Array Slot} {cells slots : Nat} {Λ σ : sSt} {w9 : Int64} {Ω : Nat → Nat} {th : Nat} {μ ν : wMu} (hi : 4 * i + 4 ≤ L) (hg : gd σ i) (hF : fD g Λ (some w9) σ μ) (hM : mD g Ω th σ ν) (hdj : ∀ q, μ q ≠ none → ν q = none) (hX : wX g (lwA s) (s.setDrawn d0) H locs μ) (hY : wX g (lwA s) (s.setDrawn d0) H locs ν) (hc : cells ≤ 20 + 1000 * i) (hs : slots ≤ 200 + 10000 * i) (hl : lv_has ls 9 [(4, .int (nI (4 * i))), (3, .ref (Λ 9 0)), (2, .ref (Ω 0)), (1, .ref (Λ 0 0)), (0, .ref b)]) (kk : lwK p l e s m below meth c b g Ω i) : W p l e room_1 (s.setDrawn d0) m #[Value.ref b] below meth c H locs cells slots (lw_Z below #[Value.ref b] s) (F0 m 1002 ls []) := by
  obtain ⟨hx, hb, hr, hml, hown, hts, hXs, hbl, hlocks, hgv⟩ := id C0
  have hown : (s.setDrawn d0).vm.findClass "FairyDustLaw" = some m.cls := hown
  have hXs : va_X b L xs (s.setDrawn d0) s.heap := hXs
  have hbA : ¬ lwA s b := Nat.not_le.mpr hbl
  refine lv_aload_n hx hb dL_law_1002 rfl (lv_at hl 3 rfl) ?_
  refine lv_aload_n hx hb dL_law_1003 rfl (lv_at hl 4 rfl) ?_
  refine lv_iload hx hb dL_law_1004 (lv_at hl 0 rfl) ?_
  refine lv_iconst (v := nI 1) hx hb dL_law_1006 (by decide) ?_
  refine n_iadd hx hb dL_law_1007 (nI_add _ _) ?_
  refine va_sld hx hb hXs hbl hbA hX.S (vp_in_nI (by omega) (by omega)) dL_law_1008 ?_
  obtain ⟨vx, hvx⟩ : ∃ z, z = xs (nI ((4 * i) + 1)).toNatClampNeg := ⟨_, rfl⟩
  refine W.eq (g2 := F0 m 1009 ls [.int vx, .ref (Λ 0 0)]) (by rw [hvx]) ?_
  refine lv_aload_n hx hb dL_law_1009 rfl (lv_at hl 1 rfl) ?_
  refine w_callF (w_runSW (n := 3) (As := [.ref (Λ 0 0), .int vx, .ref (Λ 9 0)]) (rest := []) hx hb hml hown hX (c_L_marksOf l hflt g μ H.size hF hg.1) kw589 kw0 kw587 kw588 wn_L_marksOf rfl ⟨Nat.le_of_ble_eq_true rfl, Nat.le_of_ble_eq_true rfl⟩ hl.1 rfl (Nat.le_of_ble_eq_true rfl) dL_law_1010 ⟨(show _ ≤ 601024 by omega), (show _ ≤ 7293034 by omega)⟩) hX (fun r1 μ1 H1 locs1 q1 hX1 hz1 hfr1 hdm1 => ?_)
  obtain ⟨rfl, Λ1, w1, hF1, hL0, hL9, hv⟩ := q1
  have hY1 := w_other hX1 hY hfr1 hdm1 hdj
  refine W.eq (g2 := F0 m 1013 ls [.int (nI (cd1 (isX vx (σ 4 0))))]) rfl ?_
  refine lv_istore (lv' := [(5, .int (nI (cd1 (isX vx (σ 4 0))))), (4, .int (nI (4 * i))), (3, .ref (Λ 9 0)), (2, .ref (Ω 0)), (1, .ref (Λ 0 0)), (0, .ref b)]) hx hb dL_law_1013 hl (by decide) rfl (fun ls hl => ?_)
  refine lv_aload_n hx hb dL_law_1015 rfl (lv_at hl 3 rfl) ?_
  refine lv_aload_n hx hb dL_law_1016 rfl (lv_at hl 5 rfl) ?_
  refine lv_iload hx hb dL_law_1017 (lv_at hl 1 rfl) ?_
  refine lv_iconst (v := nI 1) hx hb dL_law_1019 (by decide) ?_
  refine n_iadd hx hb dL_law_1020 (nI_add _ _) ?_
  refine va_sld hx hb hXs hbl hbA hX1.S (vp_in_nI (by omega) (by omega)) dL_law_1021 ?_
  refine W.eq (g2 := F0 m 1022 ls [.int vx, .ref (Ω 0)]) (by rw [hvx]) ?_
  refine w_callF (w_runV (n := 1) (As := [.int vx]) (rest := []) hx hb hml hown hY1.1 (c_X3_marksOf l g ν H1.size hM hg.1) kw818 kw7 kw815 kw816 kw817 wn_X3_marksOf rfl hM.1 rfl ⟨Nat.le_of_ble_eq_true rfl, Nat.le_of_ble_eq_true rfl⟩ hl.1 rfl (Nat.le_of_ble_eq_true rfl) dL_law_1022 ⟨(show _ ≤ 601024 by omega), (show _ ≤ 7293034 by omega)⟩) hY1.1 (fun r2 ν1 H2 locs2 q2 hY2 hz2 hfr2 hdm2 => ?_)
  obtain ⟨v, rfl, hM1, hv2⟩ := q2
  have hX2 := w_other hY2 hX1 hfr2 hdm2 (fun q h => Classical.byContradiction fun z => h (hY1.2 q z))
  have hgn : gd (σ) (i + 1) := hg.up
  refine W.eq (g2 := F0 m 1025 ls [.int v]) rfl ?_
  refine lv_istore (lv' := [(6, .int v), (5, .int (nI (cd1 (isX vx (σ 4 0))))), (4, .int (nI (4 * i))), (3, .ref (Λ 9 0)), (2, .ref (Ω 0)), (1, .ref (Λ 0 0)), (0, .ref b)]) hx hb dL_law_1025 hl (by decide) rfl (fun ls hl => ?_)
  refine lv_aload_n hx hb dL_law_1027 rfl (lv_at hl 4 rfl) ?_
  refine w_callF (w_runV (n := 0) (As := []) (rest := []) hx hb hml hown hY2 (c_X3_thrown l g ν1 H2.size hM1 hgn.1) kw679 kw7 kw676 kw677 kw678 wn_X3_thrown rfl hM1.1 rfl ⟨Nat.le_of_ble_eq_true rfl, Nat.le_of_ble_eq_true rfl⟩ hl.1 rfl (Nat.le_of_ble_eq_true rfl) dL_law_1028 ⟨(show _ ≤ 601024 by omega), (show _ ≤ 7293034 by omega)⟩) hY2 (fun r3 ν2 H3 locs3 q3 hY3 hz3 hfr3 hdm3 => ?_)
  obtain ⟨rfl, hne⟩ := q3
  rw [hne] at hY3 hdm3
  have hX3 := w_other hY3 hX2.1 hfr3 hdm3 hX2.2
  refine W.eq (g2 := F0 m 1031 ls [.int (nI (cd1 (isX vx (σ 4 0))))]) rfl ?_
  refine lv_iload hx hb dL_law_1031 (lv_at hl 1 rfl) ?_
  refine lv_icmp_eq (tgt := 1038) hx hb dL_law_1033 (by decide) (fun _ => ?_) (fun h => absurd rfl h)
  refine lv_iload hx hb dL_law_1038 (lv_at hl 1 rfl) ?_
  refine n_if_ne (tgt := 1055) hx hb (cd1_l _) dL_law_1040 (by decide) (fun hcz_1 => ?_) (fun hcz_1 => ?_)
  · skip
    refine lv_goto (tgt := 1609) hx hb dL_law_1055 (by decide) ?_
    have hl := lv_sub (l' := [(4, .int (nI (4 * i))), (3, .ref (Λ 9 0)), (2, .ref (Ω 0)), (1, .ref (Λ 0 0)), (0, .ref b)]) hl [2, 3, 4, 5, 6] rfl
    rw [← hL0, ← hL9] at hl
    exact kk d0 Λ1 _ w1 _ μ1 ν1 H3 locs3 ls _ _ hd0 hgn hF1 hM1 (fun q h => Classical.byContradiction fun z => h (hX3.2 q z)) hX3.1 hY3 (by omega) (by omega) hl
  · skip
    refine lv_aload_n hx hb dL_law_1043 rfl (lv_at hl 3 rfl) ?_
    refine lv_iconst (v := nI 0) hx hb dL_law_1044 (by decide) ?_
    have f98 := hF1.out9
    rw [hL9] at f98
    refine n_lald hx hb hX3.1 f98 (by decide) (by decide) dL_law_1045 ?_
    refine W.eq (g2 := F0 m 1046 ls [.long w1]) rfl ?_
    refine lv_iload hx hb dL_law_1046 (lv_at hl 0 rfl) ?_
    refine lv_i2l hx hb dL_law_1048 rfl ?_
    refine W.lcmp hx hb dL_law_1049 ?_
    refine lv_if_eq (tgt := 1055) hx hb dL_law_1050 (by decide) (fun _ => ?_) (fun h => absurd (by rw [hv hcz_1, hv2 hcz_1]; exact lgc0 _) h)
    refine lv_goto (tgt := 1609) hx hb dL_law_1055 (by decide) ?_
    have hl := lv_sub (l' := [(4, .int (nI (4 * i))), (3, .ref (Λ 9 0)), (2, .ref (Ω 0)), (1, .ref (Λ 0 0)), (0, .ref b)]) hl [2, 3, 4, 5, 6] rfl
    rw [← hL0, ← hL9] at hl
    exact kk d0 Λ1 _ w1 _ μ1 ν1 H3 locs3 ls _ _ hd0 hgn hF1 hM1 (fun q h => Classical.byContradiction fun z => h (hX3.2 q z)) hX3.1 hY3 (by omega) (by omega) hl

set_option maxHeartbeats 4000000 in
set_option maxRecDepth 100000 in
/-- nextPunishment -/
theorem lw_op_nextPunishment {p : Program} {l : Launch} {e : Env} {s : State} {m : MethodId} {below : List Frame} {meth : Method} {c : Code} (hflt : l.stackTraces = false) {b L : Nat} {xs : Nat → Int32} (hL : L ≤ 2048) (C0 : lw_At p s m meth c b L xs) {g : wG} {d0 : Drawn} (hd0 : s.drawn.sameBut d0 lw_cs) {i : Nat} {H : Heap} {locs : List Loc} {ls : Array Slot} {cells slots : Nat} {Λ σ : sSt} {w9 : Int64} {Ω : Nat → Nat} {th : Nat} {μ ν : wMu} (hi : 4 * i + 4 ≤ L) (hg : gd σ i) (hF : fD g Λ (some w9) σ μ) (hM : mD g Ω th σ ν) (hdj : ∀ q, μ q ≠ none → ν q = none) (hX : wX g (lwA s) (s.setDrawn d0) H locs μ) (hY : wX g (lwA s) (s.setDrawn d0) H locs ν) (hc : cells ≤ 20 + 1000 * i) (hs : slots ≤ 200 + 10000 * i) (hl : lv_has ls 9 [(4, .int (nI (4 * i))), (3, .ref (Λ 9 0)), (2, .ref (Ω 0)), (1, .ref (Λ 0 0)), (0, .ref b)]) (kk : lwK p l e s m below meth c b g Ω i) : W p l e room_1 (s.setDrawn d0) m #[Value.ref b] below meth c H locs cells slots (lw_Z below #[Value.ref b] s) (F0 m 1058 ls []) := by
  obtain ⟨hx, hb, hr, hml, hown, hts, hXs, hbl, hlocks, hgv⟩ := id C0
  have hown : (s.setDrawn d0).vm.findClass "FairyDustLaw" = some m.cls := hown
  have hXs : va_X b L xs (s.setDrawn d0) s.heap := hXs
  have hbA : ¬ lwA s b := Nat.not_le.mpr hbl
  refine lv_aload_n hx hb dL_law_1058 rfl (lv_at hl 3 rfl) ?_
  refine lv_aload_n hx hb dL_law_1059 rfl (lv_at hl 4 rfl) ?_
  refine lv_iload hx hb dL_law_1060 (lv_at hl 0 rfl) ?_
  refine lv_iconst (v := nI 1) hx hb dL_law_1062 (by decide) ?_
  refine n_iadd hx hb dL_law_1063 (nI_add _ _) ?_
  refine va_sld hx hb hXs hbl hbA hX.S (vp_in_nI (by omega) (by omega)) dL_law_1064 ?_
  obtain ⟨vx, hvx⟩ : ∃ z, z = xs (nI ((4 * i) + 1)).toNatClampNeg := ⟨_, rfl⟩
  refine W.eq (g2 := F0 m 1065 ls [.int vx, .ref (Λ 0 0)]) (by rw [hvx]) ?_
  refine lv_aload_n hx hb dL_law_1065 rfl (lv_at hl 1 rfl) ?_
  refine w_callF (w_runSW (n := 3) (As := [.ref (Λ 0 0), .int vx, .ref (Λ 9 0)]) (rest := []) hx hb hml hown hX (c_L_nextPunishment l hflt g μ H.size hF hg.1) kw593 kw0 kw591 kw592 wn_L_nextPunishment rfl ⟨Nat.le_of_ble_eq_true rfl, Nat.le_of_ble_eq_true rfl⟩ hl.1 rfl (Nat.le_of_ble_eq_true rfl) dL_law_1066 ⟨(show _ ≤ 601024 by omega), (show _ ≤ 7293034 by omega)⟩) hX (fun r1 μ1 H1 locs1 q1 hX1 hz1 hfr1 hdm1 => ?_)
  obtain ⟨rfl, Λ1, w1, hF1, hL0, hL9, hv⟩ := q1
  have hY1 := w_other hX1 hY hfr1 hdm1 hdj
  refine W.eq (g2 := F0 m 1069 ls [.int (nI (cd1 (isX vx (σ 4 0))))]) rfl ?_
  refine lv_istore (lv' := [(5, .int (nI (cd1 (isX vx (σ 4 0))))), (4, .int (nI (4 * i))), (3, .ref (Λ 9 0)), (2, .ref (Ω 0)), (1, .ref (Λ 0 0)), (0, .ref b)]) hx hb dL_law_1069 hl (by decide) rfl (fun ls hl => ?_)
  refine lv_aload_n hx hb dL_law_1071 rfl (lv_at hl 3 rfl) ?_
  refine lv_aload_n hx hb dL_law_1072 rfl (lv_at hl 5 rfl) ?_
  refine lv_iload hx hb dL_law_1073 (lv_at hl 1 rfl) ?_
  refine lv_iconst (v := nI 1) hx hb dL_law_1075 (by decide) ?_
  refine n_iadd hx hb dL_law_1076 (nI_add _ _) ?_
  refine va_sld hx hb hXs hbl hbA hX1.S (vp_in_nI (by omega) (by omega)) dL_law_1077 ?_
  refine W.eq (g2 := F0 m 1078 ls [.int vx, .ref (Ω 0)]) (by rw [hvx]) ?_
  refine w_callF (w_runV (n := 1) (As := [.int vx]) (rest := []) hx hb hml hown hY1.1 (c_X3_nextPunishment l g ν H1.size hM hg.1) kw822 kw7 kw819 kw820 kw821 wn_X3_nextPunishment rfl hM.1 rfl ⟨Nat.le_of_ble_eq_true rfl, Nat.le_of_ble_eq_true rfl⟩ hl.1 rfl (Nat.le_of_ble_eq_true rfl) dL_law_1078 ⟨(show _ ≤ 601024 by omega), (show _ ≤ 7293034 by omega)⟩) hY1.1 (fun r2 ν1 H2 locs2 q2 hY2 hz2 hfr2 hdm2 => ?_)
  obtain ⟨v, rfl, hM1, hv2⟩ := q2
  have hX2 := w_other hY2 hX1 hfr2 hdm2 (fun q h => Classical.byContradiction fun z => h (hY1.2 q z))
  have hgn : gd (σ) (i + 1) := hg.up
  refine W.eq (g2 := F0 m 1081 ls [.int v]) rfl ?_
  refine lv_istore (lv' := [(6, .int v), (5, .int (nI (cd1 (isX vx (σ 4 0))))), (4, .int (nI (4 * i))), (3, .ref (Λ 9 0)), (2, .ref (Ω 0)), (1, .ref (Λ 0 0)), (0, .ref b)]) hx hb dL_law_1081 hl (by decide) rfl (fun ls hl => ?_)
  refine lv_aload_n hx hb dL_law_1083 rfl (lv_at hl 4 rfl) ?_
  refine w_callF (w_runV (n := 0) (As := []) (rest := []) hx hb hml hown hY2 (c_X3_thrown l g ν1 H2.size hM1 hgn.1) kw679 kw7 kw676 kw677 kw678 wn_X3_thrown rfl hM1.1 rfl ⟨Nat.le_of_ble_eq_true rfl, Nat.le_of_ble_eq_true rfl⟩ hl.1 rfl (Nat.le_of_ble_eq_true rfl) dL_law_1084 ⟨(show _ ≤ 601024 by omega), (show _ ≤ 7293034 by omega)⟩) hY2 (fun r3 ν2 H3 locs3 q3 hY3 hz3 hfr3 hdm3 => ?_)
  obtain ⟨rfl, hne⟩ := q3
  rw [hne] at hY3 hdm3
  have hX3 := w_other hY3 hX2.1 hfr3 hdm3 hX2.2
  refine W.eq (g2 := F0 m 1087 ls [.int (nI (cd1 (isX vx (σ 4 0))))]) rfl ?_
  refine lv_iload hx hb dL_law_1087 (lv_at hl 1 rfl) ?_
  refine lv_icmp_eq (tgt := 1094) hx hb dL_law_1089 (by decide) (fun _ => ?_) (fun h => absurd rfl h)
  refine lv_iload hx hb dL_law_1094 (lv_at hl 1 rfl) ?_
  refine n_if_ne (tgt := 1111) hx hb (cd1_l _) dL_law_1096 (by decide) (fun hcz_1 => ?_) (fun hcz_1 => ?_)
  · skip
    refine lv_goto (tgt := 1609) hx hb dL_law_1111 (by decide) ?_
    have hl := lv_sub (l' := [(4, .int (nI (4 * i))), (3, .ref (Λ 9 0)), (2, .ref (Ω 0)), (1, .ref (Λ 0 0)), (0, .ref b)]) hl [2, 3, 4, 5, 6] rfl
    rw [← hL0, ← hL9] at hl
    exact kk d0 Λ1 _ w1 _ μ1 ν1 H3 locs3 ls _ _ hd0 hgn hF1 hM1 (fun q h => Classical.byContradiction fun z => h (hX3.2 q z)) hX3.1 hY3 (by omega) (by omega) hl
  · skip
    refine lv_aload_n hx hb dL_law_1099 rfl (lv_at hl 3 rfl) ?_
    refine lv_iconst (v := nI 0) hx hb dL_law_1100 (by decide) ?_
    have f98 := hF1.out9
    rw [hL9] at f98
    refine n_lald hx hb hX3.1 f98 (by decide) (by decide) dL_law_1101 ?_
    refine W.eq (g2 := F0 m 1102 ls [.long w1]) rfl ?_
    refine lv_iload hx hb dL_law_1102 (lv_at hl 0 rfl) ?_
    refine lv_i2l hx hb dL_law_1104 rfl ?_
    refine W.lcmp hx hb dL_law_1105 ?_
    refine lv_if_eq (tgt := 1111) hx hb dL_law_1106 (by decide) (fun _ => ?_) (fun h => absurd (by rw [hv hcz_1, hv2 hcz_1]; exact lgc0 _) h)
    refine lv_goto (tgt := 1609) hx hb dL_law_1111 (by decide) ?_
    have hl := lv_sub (l' := [(4, .int (nI (4 * i))), (3, .ref (Λ 9 0)), (2, .ref (Ω 0)), (1, .ref (Λ 0 0)), (0, .ref b)]) hl [2, 3, 4, 5, 6] rfl
    rw [← hL0, ← hL9] at hl
    exact kk d0 Λ1 _ w1 _ μ1 ν1 H3 locs3 ls _ _ hd0 hgn hF1 hM1 (fun q h => Classical.byContradiction fun z => h (hX3.2 q z)) hX3.1 hY3 (by omega) (by omega) hl

set_option maxHeartbeats 4000000 in
set_option maxRecDepth 100000 in
/-- daysToBirthday -/
theorem lw_op_daysToBirthday {p : Program} {l : Launch} {e : Env} {s : State} {m : MethodId} {below : List Frame} {meth : Method} {c : Code} (hflt : l.stackTraces = false) {b L : Nat} {xs : Nat → Int32} (hL : L ≤ 2048) (C0 : lw_At p s m meth c b L xs) {g : wG} {d0 : Drawn} (hd0 : s.drawn.sameBut d0 lw_cs) {i : Nat} {H : Heap} {locs : List Loc} {ls : Array Slot} {cells slots : Nat} {Λ σ : sSt} {w9 : Int64} {Ω : Nat → Nat} {th : Nat} {μ ν : wMu} (hi : 4 * i + 4 ≤ L) (hg : gd σ i) (hF : fD g Λ (some w9) σ μ) (hM : mD g Ω th σ ν) (hdj : ∀ q, μ q ≠ none → ν q = none) (hX : wX g (lwA s) (s.setDrawn d0) H locs μ) (hY : wX g (lwA s) (s.setDrawn d0) H locs ν) (hc : cells ≤ 20 + 1000 * i) (hs : slots ≤ 200 + 10000 * i) (hl : lv_has ls 9 [(4, .int (nI (4 * i))), (3, .ref (Λ 9 0)), (2, .ref (Ω 0)), (1, .ref (Λ 0 0)), (0, .ref b)]) (kk : lwK p l e s m below meth c b g Ω i) : W p l e room_1 (s.setDrawn d0) m #[Value.ref b] below meth c H locs cells slots (lw_Z below #[Value.ref b] s) (F0 m 1114 ls []) := by
  obtain ⟨hx, hb, hr, hml, hown, hts, hXs, hbl, hlocks, hgv⟩ := id C0
  have hown : (s.setDrawn d0).vm.findClass "FairyDustLaw" = some m.cls := hown
  have hXs : va_X b L xs (s.setDrawn d0) s.heap := hXs
  have hbA : ¬ lwA s b := Nat.not_le.mpr hbl
  refine lv_aload_n hx hb dL_law_1114 rfl (lv_at hl 3 rfl) ?_
  refine lv_aload_n hx hb dL_law_1115 rfl (lv_at hl 4 rfl) ?_
  refine lv_iload hx hb dL_law_1116 (lv_at hl 0 rfl) ?_
  refine lv_iconst (v := nI 1) hx hb dL_law_1118 (by decide) ?_
  refine n_iadd hx hb dL_law_1119 (nI_add _ _) ?_
  refine va_sld hx hb hXs hbl hbA hX.S (vp_in_nI (by omega) (by omega)) dL_law_1120 ?_
  obtain ⟨vx, hvx⟩ : ∃ z, z = xs (nI ((4 * i) + 1)).toNatClampNeg := ⟨_, rfl⟩
  refine W.eq (g2 := F0 m 1121 ls [.int vx, .ref (Λ 0 0)]) (by rw [hvx]) ?_
  refine lv_aload_n hx hb dL_law_1121 rfl (lv_at hl 1 rfl) ?_
  refine w_callF (w_runSW (n := 3) (As := [.ref (Λ 0 0), .int vx, .ref (Λ 9 0)]) (rest := []) hx hb hml hown hX (c_L_daysToBirthday l hflt g μ H.size hF hg.1) kw597 kw0 kw595 kw596 wn_L_daysToBirthday rfl ⟨Nat.le_of_ble_eq_true rfl, Nat.le_of_ble_eq_true rfl⟩ hl.1 rfl (Nat.le_of_ble_eq_true rfl) dL_law_1122 ⟨(show _ ≤ 601024 by omega), (show _ ≤ 7293034 by omega)⟩) hX (fun r1 μ1 H1 locs1 q1 hX1 hz1 hfr1 hdm1 => ?_)
  obtain ⟨rfl, Λ1, w1, hF1, hL0, hL9, hv⟩ := q1
  have hY1 := w_other hX1 hY hfr1 hdm1 hdj
  refine W.eq (g2 := F0 m 1125 ls [.int (nI (cd1 (isX vx (σ 4 0))))]) rfl ?_
  refine lv_istore (lv' := [(5, .int (nI (cd1 (isX vx (σ 4 0))))), (4, .int (nI (4 * i))), (3, .ref (Λ 9 0)), (2, .ref (Ω 0)), (1, .ref (Λ 0 0)), (0, .ref b)]) hx hb dL_law_1125 hl (by decide) rfl (fun ls hl => ?_)
  refine lv_aload_n hx hb dL_law_1127 rfl (lv_at hl 3 rfl) ?_
  refine lv_aload_n hx hb dL_law_1128 rfl (lv_at hl 5 rfl) ?_
  refine lv_iload hx hb dL_law_1129 (lv_at hl 1 rfl) ?_
  refine lv_iconst (v := nI 1) hx hb dL_law_1131 (by decide) ?_
  refine n_iadd hx hb dL_law_1132 (nI_add _ _) ?_
  refine va_sld hx hb hXs hbl hbA hX1.S (vp_in_nI (by omega) (by omega)) dL_law_1133 ?_
  refine W.eq (g2 := F0 m 1134 ls [.int vx, .ref (Ω 0)]) (by rw [hvx]) ?_
  refine w_callF (w_runV (n := 1) (As := [.int vx]) (rest := []) hx hb hml hown hY1.1 (c_X3_daysToBirthday l g ν H1.size hM hg.1) kw826 kw7 kw823 kw824 kw825 wn_X3_daysToBirthday rfl hM.1 rfl ⟨Nat.le_of_ble_eq_true rfl, Nat.le_of_ble_eq_true rfl⟩ hl.1 rfl (Nat.le_of_ble_eq_true rfl) dL_law_1134 ⟨(show _ ≤ 601024 by omega), (show _ ≤ 7293034 by omega)⟩) hY1.1 (fun r2 ν1 H2 locs2 q2 hY2 hz2 hfr2 hdm2 => ?_)
  obtain ⟨v, rfl, hM1, hv2⟩ := q2
  have hX2 := w_other hY2 hX1 hfr2 hdm2 (fun q h => Classical.byContradiction fun z => h (hY1.2 q z))
  have hgn : gd (σ) (i + 1) := hg.up
  refine W.eq (g2 := F0 m 1137 ls [.int v]) rfl ?_
  refine lv_istore (lv' := [(6, .int v), (5, .int (nI (cd1 (isX vx (σ 4 0))))), (4, .int (nI (4 * i))), (3, .ref (Λ 9 0)), (2, .ref (Ω 0)), (1, .ref (Λ 0 0)), (0, .ref b)]) hx hb dL_law_1137 hl (by decide) rfl (fun ls hl => ?_)
  refine lv_aload_n hx hb dL_law_1139 rfl (lv_at hl 4 rfl) ?_
  refine w_callF (w_runV (n := 0) (As := []) (rest := []) hx hb hml hown hY2 (c_X3_thrown l g ν1 H2.size hM1 hgn.1) kw679 kw7 kw676 kw677 kw678 wn_X3_thrown rfl hM1.1 rfl ⟨Nat.le_of_ble_eq_true rfl, Nat.le_of_ble_eq_true rfl⟩ hl.1 rfl (Nat.le_of_ble_eq_true rfl) dL_law_1140 ⟨(show _ ≤ 601024 by omega), (show _ ≤ 7293034 by omega)⟩) hY2 (fun r3 ν2 H3 locs3 q3 hY3 hz3 hfr3 hdm3 => ?_)
  obtain ⟨rfl, hne⟩ := q3
  rw [hne] at hY3 hdm3
  have hX3 := w_other hY3 hX2.1 hfr3 hdm3 hX2.2
  refine W.eq (g2 := F0 m 1143 ls [.int (nI (cd1 (isX vx (σ 4 0))))]) rfl ?_
  refine lv_iload hx hb dL_law_1143 (lv_at hl 1 rfl) ?_
  refine lv_icmp_eq (tgt := 1150) hx hb dL_law_1145 (by decide) (fun _ => ?_) (fun h => absurd rfl h)
  refine lv_iload hx hb dL_law_1150 (lv_at hl 1 rfl) ?_
  refine n_if_ne (tgt := 1167) hx hb (cd1_l _) dL_law_1152 (by decide) (fun hcz_1 => ?_) (fun hcz_1 => ?_)
  · skip
    refine lv_goto (tgt := 1609) hx hb dL_law_1167 (by decide) ?_
    have hl := lv_sub (l' := [(4, .int (nI (4 * i))), (3, .ref (Λ 9 0)), (2, .ref (Ω 0)), (1, .ref (Λ 0 0)), (0, .ref b)]) hl [2, 3, 4, 5, 6] rfl
    rw [← hL0, ← hL9] at hl
    exact kk d0 Λ1 _ w1 _ μ1 ν1 H3 locs3 ls _ _ hd0 hgn hF1 hM1 (fun q h => Classical.byContradiction fun z => h (hX3.2 q z)) hX3.1 hY3 (by omega) (by omega) hl
  · skip
    refine lv_aload_n hx hb dL_law_1155 rfl (lv_at hl 3 rfl) ?_
    refine lv_iconst (v := nI 0) hx hb dL_law_1156 (by decide) ?_
    have f98 := hF1.out9
    rw [hL9] at f98
    refine n_lald hx hb hX3.1 f98 (by decide) (by decide) dL_law_1157 ?_
    refine W.eq (g2 := F0 m 1158 ls [.long w1]) rfl ?_
    refine lv_iload hx hb dL_law_1158 (lv_at hl 0 rfl) ?_
    refine lv_i2l hx hb dL_law_1160 rfl ?_
    refine W.lcmp hx hb dL_law_1161 ?_
    refine lv_if_eq (tgt := 1167) hx hb dL_law_1162 (by decide) (fun _ => ?_) (fun h => absurd (by rw [hv hcz_1, hv2 hcz_1]; exact lgc0 _) h)
    refine lv_goto (tgt := 1609) hx hb dL_law_1167 (by decide) ?_
    have hl := lv_sub (l' := [(4, .int (nI (4 * i))), (3, .ref (Λ 9 0)), (2, .ref (Ω 0)), (1, .ref (Λ 0 0)), (0, .ref b)]) hl [2, 3, 4, 5, 6] rfl
    rw [← hL0, ← hL9] at hl
    exact kk d0 Λ1 _ w1 _ μ1 ν1 H3 locs3 ls _ _ hd0 hgn hF1 hM1 (fun q h => Classical.byContradiction fun z => h (hX3.2 q z)) hX3.1 hY3 (by omega) (by omega) hl

set_option maxHeartbeats 4000000 in
set_option maxRecDepth 100000 in
/-- greatestWish -/
theorem lw_op_greatestWish {p : Program} {l : Launch} {e : Env} {s : State} {m : MethodId} {below : List Frame} {meth : Method} {c : Code} (hflt : l.stackTraces = false) {b L : Nat} {xs : Nat → Int32} (hL : L ≤ 2048) (C0 : lw_At p s m meth c b L xs) {g : wG} {d0 : Drawn} (hd0 : s.drawn.sameBut d0 lw_cs) {i : Nat} {H : Heap} {locs : List Loc} {ls : Array Slot} {cells slots : Nat} {Λ σ : sSt} {w9 : Int64} {Ω : Nat → Nat} {th : Nat} {μ ν : wMu} (hi : 4 * i + 4 ≤ L) (hg : gd σ i) (hF : fD g Λ (some w9) σ μ) (hM : mD g Ω th σ ν) (hdj : ∀ q, μ q ≠ none → ν q = none) (hX : wX g (lwA s) (s.setDrawn d0) H locs μ) (hY : wX g (lwA s) (s.setDrawn d0) H locs ν) (hc : cells ≤ 20 + 1000 * i) (hs : slots ≤ 200 + 10000 * i) (hl : lv_has ls 9 [(4, .int (nI (4 * i))), (3, .ref (Λ 9 0)), (2, .ref (Ω 0)), (1, .ref (Λ 0 0)), (0, .ref b)]) (kk : lwK p l e s m below meth c b g Ω i) : W p l e room_1 (s.setDrawn d0) m #[Value.ref b] below meth c H locs cells slots (lw_Z below #[Value.ref b] s) (F0 m 1170 ls []) := by
  obtain ⟨hx, hb, hr, hml, hown, hts, hXs, hbl, hlocks, hgv⟩ := id C0
  have hown : (s.setDrawn d0).vm.findClass "FairyDustLaw" = some m.cls := hown
  have hXs : va_X b L xs (s.setDrawn d0) s.heap := hXs
  have hbA : ¬ lwA s b := Nat.not_le.mpr hbl
  refine lv_aload_n hx hb dL_law_1170 rfl (lv_at hl 3 rfl) ?_
  refine lv_aload_n hx hb dL_law_1171 rfl (lv_at hl 4 rfl) ?_
  refine lv_iload hx hb dL_law_1172 (lv_at hl 0 rfl) ?_
  refine lv_iconst (v := nI 1) hx hb dL_law_1174 (by decide) ?_
  refine n_iadd hx hb dL_law_1175 (nI_add _ _) ?_
  refine va_sld hx hb hXs hbl hbA hX.S (vp_in_nI (by omega) (by omega)) dL_law_1176 ?_
  obtain ⟨vx, hvx⟩ : ∃ z, z = xs (nI ((4 * i) + 1)).toNatClampNeg := ⟨_, rfl⟩
  refine W.eq (g2 := F0 m 1177 ls [.int vx, .ref (Λ 0 0)]) (by rw [hvx]) ?_
  refine lv_aload_n hx hb dL_law_1177 rfl (lv_at hl 1 rfl) ?_
  refine w_callF (w_runSW (n := 3) (As := [.ref (Λ 0 0), .int vx, .ref (Λ 9 0)]) (rest := []) hx hb hml hown hX (c_L_greatestWish l hflt g μ H.size hF hg.1) kw601 kw0 kw599 kw600 wn_L_greatestWish rfl ⟨Nat.le_of_ble_eq_true rfl, Nat.le_of_ble_eq_true rfl⟩ hl.1 rfl (Nat.le_of_ble_eq_true rfl) dL_law_1178 ⟨(show _ ≤ 601024 by omega), (show _ ≤ 7293034 by omega)⟩) hX (fun r1 μ1 H1 locs1 q1 hX1 hz1 hfr1 hdm1 => ?_)
  obtain ⟨rfl, Λ1, w1, hF1, hL0, hL9, hv⟩ := q1
  have hY1 := w_other hX1 hY hfr1 hdm1 hdj
  refine W.eq (g2 := F0 m 1181 ls [.int (nI (cd1 (isX vx (σ 4 0))))]) rfl ?_
  refine lv_istore (lv' := [(5, .int (nI (cd1 (isX vx (σ 4 0))))), (4, .int (nI (4 * i))), (3, .ref (Λ 9 0)), (2, .ref (Ω 0)), (1, .ref (Λ 0 0)), (0, .ref b)]) hx hb dL_law_1181 hl (by decide) rfl (fun ls hl => ?_)
  refine lv_aload_n hx hb dL_law_1183 rfl (lv_at hl 3 rfl) ?_
  refine lv_aload_n hx hb dL_law_1184 rfl (lv_at hl 5 rfl) ?_
  refine lv_iload hx hb dL_law_1185 (lv_at hl 1 rfl) ?_
  refine lv_iconst (v := nI 1) hx hb dL_law_1187 (by decide) ?_
  refine n_iadd hx hb dL_law_1188 (nI_add _ _) ?_
  refine va_sld hx hb hXs hbl hbA hX1.S (vp_in_nI (by omega) (by omega)) dL_law_1189 ?_
  refine W.eq (g2 := F0 m 1190 ls [.int vx, .ref (Ω 0)]) (by rw [hvx]) ?_
  refine w_callF (w_runV (n := 1) (As := [.int vx]) (rest := []) hx hb hml hown hY1.1 (c_X3_greatestWish l g ν H1.size hM hg.1) kw834 kw7 kw831 kw832 kw833 wn_X3_greatestWish rfl hM.1 rfl ⟨Nat.le_of_ble_eq_true rfl, Nat.le_of_ble_eq_true rfl⟩ hl.1 rfl (Nat.le_of_ble_eq_true rfl) dL_law_1190 ⟨(show _ ≤ 601024 by omega), (show _ ≤ 7293034 by omega)⟩) hY1.1 (fun r2 ν1 H2 locs2 q2 hY2 hz2 hfr2 hdm2 => ?_)
  obtain ⟨v, rfl, hM1, hv2⟩ := q2
  have hX2 := w_other hY2 hX1 hfr2 hdm2 (fun q h => Classical.byContradiction fun z => h (hY1.2 q z))
  have hgn : gd (σ) (i + 1) := hg.up
  refine W.eq (g2 := F0 m 1193 ls [.int v]) rfl ?_
  refine lv_istore (lv' := [(6, .int v), (5, .int (nI (cd1 (isX vx (σ 4 0))))), (4, .int (nI (4 * i))), (3, .ref (Λ 9 0)), (2, .ref (Ω 0)), (1, .ref (Λ 0 0)), (0, .ref b)]) hx hb dL_law_1193 hl (by decide) rfl (fun ls hl => ?_)
  refine lv_aload_n hx hb dL_law_1195 rfl (lv_at hl 4 rfl) ?_
  refine w_callF (w_runV (n := 0) (As := []) (rest := []) hx hb hml hown hY2 (c_X3_thrown l g ν1 H2.size hM1 hgn.1) kw679 kw7 kw676 kw677 kw678 wn_X3_thrown rfl hM1.1 rfl ⟨Nat.le_of_ble_eq_true rfl, Nat.le_of_ble_eq_true rfl⟩ hl.1 rfl (Nat.le_of_ble_eq_true rfl) dL_law_1196 ⟨(show _ ≤ 601024 by omega), (show _ ≤ 7293034 by omega)⟩) hY2 (fun r3 ν2 H3 locs3 q3 hY3 hz3 hfr3 hdm3 => ?_)
  obtain ⟨rfl, hne⟩ := q3
  rw [hne] at hY3 hdm3
  have hX3 := w_other hY3 hX2.1 hfr3 hdm3 hX2.2
  refine W.eq (g2 := F0 m 1199 ls [.int (nI (cd1 (isX vx (σ 4 0))))]) rfl ?_
  refine lv_iload hx hb dL_law_1199 (lv_at hl 1 rfl) ?_
  refine lv_icmp_eq (tgt := 1206) hx hb dL_law_1201 (by decide) (fun _ => ?_) (fun h => absurd rfl h)
  refine lv_iload hx hb dL_law_1206 (lv_at hl 1 rfl) ?_
  refine n_if_ne (tgt := 1223) hx hb (cd1_l _) dL_law_1208 (by decide) (fun hcz_1 => ?_) (fun hcz_1 => ?_)
  · skip
    refine lv_goto (tgt := 1609) hx hb dL_law_1223 (by decide) ?_
    have hl := lv_sub (l' := [(4, .int (nI (4 * i))), (3, .ref (Λ 9 0)), (2, .ref (Ω 0)), (1, .ref (Λ 0 0)), (0, .ref b)]) hl [2, 3, 4, 5, 6] rfl
    rw [← hL0, ← hL9] at hl
    exact kk d0 Λ1 _ w1 _ μ1 ν1 H3 locs3 ls _ _ hd0 hgn hF1 hM1 (fun q h => Classical.byContradiction fun z => h (hX3.2 q z)) hX3.1 hY3 (by omega) (by omega) hl
  · skip
    refine lv_aload_n hx hb dL_law_1211 rfl (lv_at hl 3 rfl) ?_
    refine lv_iconst (v := nI 0) hx hb dL_law_1212 (by decide) ?_
    have f98 := hF1.out9
    rw [hL9] at f98
    refine n_lald hx hb hX3.1 f98 (by decide) (by decide) dL_law_1213 ?_
    refine W.eq (g2 := F0 m 1214 ls [.long w1]) rfl ?_
    refine lv_iload hx hb dL_law_1214 (lv_at hl 0 rfl) ?_
    refine lv_i2l hx hb dL_law_1216 rfl ?_
    refine W.lcmp hx hb dL_law_1217 ?_
    refine lv_if_eq (tgt := 1223) hx hb dL_law_1218 (by decide) (fun _ => ?_) (fun h => absurd (by rw [hv hcz_1, hv2 hcz_1]; exact lgc0 _) h)
    refine lv_goto (tgt := 1609) hx hb dL_law_1223 (by decide) ?_
    have hl := lv_sub (l' := [(4, .int (nI (4 * i))), (3, .ref (Λ 9 0)), (2, .ref (Ω 0)), (1, .ref (Λ 0 0)), (0, .ref b)]) hl [2, 3, 4, 5, 6] rfl
    rw [← hL0, ← hL9] at hl
    exact kk d0 Λ1 _ w1 _ μ1 ν1 H3 locs3 ls _ _ hd0 hgn hF1 hM1 (fun q h => Classical.byContradiction fun z => h (hX3.2 q z)) hX3.1 hY3 (by omega) (by omega) hl

set_option maxHeartbeats 4000000 in
set_option maxRecDepth 100000 in
/-- hoursUntilFull -/
theorem lw_op_hoursUntilFull {p : Program} {l : Launch} {e : Env} {s : State} {m : MethodId} {below : List Frame} {meth : Method} {c : Code} (hflt : l.stackTraces = false) {b L : Nat} {xs : Nat → Int32} (hL : L ≤ 2048) (C0 : lw_At p s m meth c b L xs) {g : wG} {d0 : Drawn} (hd0 : s.drawn.sameBut d0 lw_cs) {i : Nat} {H : Heap} {locs : List Loc} {ls : Array Slot} {cells slots : Nat} {Λ σ : sSt} {w9 : Int64} {Ω : Nat → Nat} {th : Nat} {μ ν : wMu} (hi : 4 * i + 4 ≤ L) (hg : gd σ i) (hF : fD g Λ (some w9) σ μ) (hM : mD g Ω th σ ν) (hdj : ∀ q, μ q ≠ none → ν q = none) (hX : wX g (lwA s) (s.setDrawn d0) H locs μ) (hY : wX g (lwA s) (s.setDrawn d0) H locs ν) (hc : cells ≤ 20 + 1000 * i) (hs : slots ≤ 200 + 10000 * i) (hl : lv_has ls 9 [(4, .int (nI (4 * i))), (3, .ref (Λ 9 0)), (2, .ref (Ω 0)), (1, .ref (Λ 0 0)), (0, .ref b)]) (kk : lwK p l e s m below meth c b g Ω i) : W p l e room_1 (s.setDrawn d0) m #[Value.ref b] below meth c H locs cells slots (lw_Z below #[Value.ref b] s) (F0 m 1442 ls []) := by
  obtain ⟨hx, hb, hr, hml, hown, hts, hXs, hbl, hlocks, hgv⟩ := id C0
  have hown : (s.setDrawn d0).vm.findClass "FairyDustLaw" = some m.cls := hown
  have hXs : va_X b L xs (s.setDrawn d0) s.heap := hXs
  have hbA : ¬ lwA s b := Nat.not_le.mpr hbl
  refine lv_aload_n hx hb dL_law_1442 rfl (lv_at hl 3 rfl) ?_
  refine lv_aload_n hx hb dL_law_1443 rfl (lv_at hl 4 rfl) ?_
  refine lv_iload hx hb dL_law_1444 (lv_at hl 0 rfl) ?_
  refine lv_iconst (v := nI 1) hx hb dL_law_1446 (by decide) ?_
  refine n_iadd hx hb dL_law_1447 (nI_add _ _) ?_
  refine va_sld hx hb hXs hbl hbA hX.S (vp_in_nI (by omega) (by omega)) dL_law_1448 ?_
  obtain ⟨vx, hvx⟩ : ∃ z, z = xs (nI ((4 * i) + 1)).toNatClampNeg := ⟨_, rfl⟩
  refine W.eq (g2 := F0 m 1449 ls [.int vx, .ref (Λ 0 0)]) (by rw [hvx]) ?_
  refine lv_aload_n hx hb dL_law_1449 rfl (lv_at hl 1 rfl) ?_
  refine w_callF (w_runSW (n := 3) (As := [.ref (Λ 0 0), .int vx, .ref (Λ 9 0)]) (rest := []) hx hb hml hown hX (c_L_hoursUntilFull l hflt g μ H.size hF hg.1) kw617 kw0 kw615 kw616 wn_L_hoursUntilFull rfl ⟨Nat.le_of_ble_eq_true rfl, Nat.le_of_ble_eq_true rfl⟩ hl.1 rfl (Nat.le_of_ble_eq_true rfl) dL_law_1450 ⟨(show _ ≤ 601024 by omega), (show _ ≤ 7293034 by omega)⟩) hX (fun r1 μ1 H1 locs1 q1 hX1 hz1 hfr1 hdm1 => ?_)
  obtain ⟨rfl, Λ1, w1, hF1, hL0, hL9, hv⟩ := q1
  have hY1 := w_other hX1 hY hfr1 hdm1 hdj
  refine W.eq (g2 := F0 m 1453 ls [.int (nI (cd1 (isX vx (σ 3 0))))]) rfl ?_
  refine lv_istore (lv' := [(5, .int (nI (cd1 (isX vx (σ 3 0))))), (4, .int (nI (4 * i))), (3, .ref (Λ 9 0)), (2, .ref (Ω 0)), (1, .ref (Λ 0 0)), (0, .ref b)]) hx hb dL_law_1453 hl (by decide) rfl (fun ls hl => ?_)
  refine lv_aload_n hx hb dL_law_1455 rfl (lv_at hl 3 rfl) ?_
  refine lv_aload_n hx hb dL_law_1456 rfl (lv_at hl 5 rfl) ?_
  refine lv_iload hx hb dL_law_1457 (lv_at hl 1 rfl) ?_
  refine lv_iconst (v := nI 1) hx hb dL_law_1459 (by decide) ?_
  refine n_iadd hx hb dL_law_1460 (nI_add _ _) ?_
  refine va_sld hx hb hXs hbl hbA hX1.S (vp_in_nI (by omega) (by omega)) dL_law_1461 ?_
  refine W.eq (g2 := F0 m 1462 ls [.int vx, .ref (Ω 0)]) (by rw [hvx]) ?_
  refine w_callF (w_runV (n := 1) (As := [.int vx]) (rest := []) hx hb hml hown hY1.1 (c_X3_hoursUntilFull l g ν H1.size hM hg.1) kw866 kw7 kw863 kw864 kw865 wn_X3_hoursUntilFull rfl hM.1 rfl ⟨Nat.le_of_ble_eq_true rfl, Nat.le_of_ble_eq_true rfl⟩ hl.1 rfl (Nat.le_of_ble_eq_true rfl) dL_law_1462 ⟨(show _ ≤ 601024 by omega), (show _ ≤ 7293034 by omega)⟩) hY1.1 (fun r2 ν1 H2 locs2 q2 hY2 hz2 hfr2 hdm2 => ?_)
  obtain ⟨v, rfl, hM1, hv2⟩ := q2
  have hX2 := w_other hY2 hX1 hfr2 hdm2 (fun q h => Classical.byContradiction fun z => h (hY1.2 q z))
  have hgn : gd (σ) (i + 1) := hg.up
  refine W.eq (g2 := F0 m 1465 ls [.int v]) rfl ?_
  refine lv_istore (lv' := [(6, .int v), (5, .int (nI (cd1 (isX vx (σ 3 0))))), (4, .int (nI (4 * i))), (3, .ref (Λ 9 0)), (2, .ref (Ω 0)), (1, .ref (Λ 0 0)), (0, .ref b)]) hx hb dL_law_1465 hl (by decide) rfl (fun ls hl => ?_)
  refine lv_aload_n hx hb dL_law_1467 rfl (lv_at hl 4 rfl) ?_
  refine w_callF (w_runV (n := 0) (As := []) (rest := []) hx hb hml hown hY2 (c_X3_thrown l g ν1 H2.size hM1 hgn.1) kw679 kw7 kw676 kw677 kw678 wn_X3_thrown rfl hM1.1 rfl ⟨Nat.le_of_ble_eq_true rfl, Nat.le_of_ble_eq_true rfl⟩ hl.1 rfl (Nat.le_of_ble_eq_true rfl) dL_law_1468 ⟨(show _ ≤ 601024 by omega), (show _ ≤ 7293034 by omega)⟩) hY2 (fun r3 ν2 H3 locs3 q3 hY3 hz3 hfr3 hdm3 => ?_)
  obtain ⟨rfl, hne⟩ := q3
  rw [hne] at hY3 hdm3
  have hX3 := w_other hY3 hX2.1 hfr3 hdm3 hX2.2
  refine W.eq (g2 := F0 m 1471 ls [.int (nI (cd1 (isX vx (σ 3 0))))]) rfl ?_
  refine lv_iload hx hb dL_law_1471 (lv_at hl 1 rfl) ?_
  refine lv_icmp_eq (tgt := 1478) hx hb dL_law_1473 (by decide) (fun _ => ?_) (fun h => absurd rfl h)
  refine lv_iload hx hb dL_law_1478 (lv_at hl 1 rfl) ?_
  refine n_if_ne (tgt := 1495) hx hb (cd1_l _) dL_law_1480 (by decide) (fun hcz_1 => ?_) (fun hcz_1 => ?_)
  · skip
    refine lv_goto (tgt := 1609) hx hb dL_law_1495 (by decide) ?_
    have hl := lv_sub (l' := [(4, .int (nI (4 * i))), (3, .ref (Λ 9 0)), (2, .ref (Ω 0)), (1, .ref (Λ 0 0)), (0, .ref b)]) hl [2, 3, 4, 5, 6] rfl
    rw [← hL0, ← hL9] at hl
    exact kk d0 Λ1 _ w1 _ μ1 ν1 H3 locs3 ls _ _ hd0 hgn hF1 hM1 (fun q h => Classical.byContradiction fun z => h (hX3.2 q z)) hX3.1 hY3 (by omega) (by omega) hl
  · skip
    refine lv_aload_n hx hb dL_law_1483 rfl (lv_at hl 3 rfl) ?_
    refine lv_iconst (v := nI 0) hx hb dL_law_1484 (by decide) ?_
    have f98 := hF1.out9
    rw [hL9] at f98
    refine n_lald hx hb hX3.1 f98 (by decide) (by decide) dL_law_1485 ?_
    refine W.eq (g2 := F0 m 1486 ls [.long w1]) rfl ?_
    refine lv_iload hx hb dL_law_1486 (lv_at hl 0 rfl) ?_
    refine lv_i2l hx hb dL_law_1488 rfl ?_
    refine W.lcmp hx hb dL_law_1489 ?_
    refine lv_if_eq (tgt := 1495) hx hb dL_law_1490 (by decide) (fun _ => ?_) (fun h => absurd (by rw [hv hcz_1, hv2 hcz_1]; exact lgc0 _) h)
    refine lv_goto (tgt := 1609) hx hb dL_law_1495 (by decide) ?_
    have hl := lv_sub (l' := [(4, .int (nI (4 * i))), (3, .ref (Λ 9 0)), (2, .ref (Ω 0)), (1, .ref (Λ 0 0)), (0, .ref b)]) hl [2, 3, 4, 5, 6] rfl
    rw [← hL0, ← hL9] at hl
    exact kk d0 Λ1 _ w1 _ μ1 ν1 H3 locs3 ls _ _ hd0 hgn hF1 hM1 (fun q h => Classical.byContradiction fun z => h (hX3.2 q z)) hX3.1 hY3 (by omega) (by omega) hl

