set_option maxHeartbeats 4000000 in
set_option maxRecDepth 100000 in
/-- hour -/
theorem lw_op_hour {p : Program} {l : Launch} {e : Env} {s : State} {m : MethodId} {below : List Frame} {meth : Method} {c : Code} (hflt : l.stackTraces = false) {b L : Nat} {xs : Nat → Int32} (hL : L ≤ 2048) (C0 : lw_At p s m meth c b L xs) {g : wG} {d0 : Drawn} (hd0 : s.drawn.sameBut d0 lw_cs) {i : Nat} {H : Heap} {locs : List Loc} {ls : Array Slot} {cells slots : Nat} {Λ σ : sSt} {w9 : Int64} {Ω : Nat → Nat} {th : Nat} {μ ν : wMu} (hi : 4 * i + 4 ≤ L) (hg : gd σ i) (hF : fD g Λ (some w9) σ μ) (hM : mD g Ω th σ ν) (hdj : ∀ q, μ q ≠ none → ν q = none) (hX : wX g (lwA s) (s.setDrawn d0) H locs μ) (hY : wX g (lwA s) (s.setDrawn d0) H locs ν) (hc : cells ≤ 20 + 1000 * i) (hs : slots ≤ 200 + 10000 * i) (hl : lv_has ls 9 [(4, .int (nI (4 * i))), (3, .ref (Λ 9 0)), (2, .ref (Ω 0)), (1, .ref (Λ 0 0)), (0, .ref b)]) (kk : lwK p l e s m below meth c b g Ω i) : W p l e room_1 (s.setDrawn d0) m #[Value.ref b] below meth c H locs cells slots (lw_Z below #[Value.ref b] s) (F0 m 631 ls []) := by
  obtain ⟨hx, hb, hr, hml, hown, hts, hXs, hbl, hlocks, hgv⟩ := id C0
  have hown : (s.setDrawn d0).vm.findClass "FairyDustLaw" = some m.cls := hown
  have hXs : va_X b L xs (s.setDrawn d0) s.heap := hXs
  have hbA : ¬ lwA s b := Nat.not_le.mpr hbl
  refine lv_aload_n hx hb dL_law_631 rfl (lv_at hl 3 rfl) ?_
  refine w_callF (w_runV (n := 0) (As := []) (rest := []) hx hb hml hown hX (c_X2_hour l g μ H.size hF hg.1) kw133 kw1 kw130 kw131 kw132 wn_X2_hour rfl hF.1 rfl ⟨Nat.le_of_ble_eq_true rfl, Nat.le_of_ble_eq_true rfl⟩ hl.1 rfl (Nat.le_of_ble_eq_true rfl) dL_law_632 ⟨(show _ ≤ 601024 by omega), (show _ ≤ 7293034 by omega)⟩) hX (fun r1 μ1 H1 locs1 q1 hX1 hz1 hfr1 hdm1 => ?_)
  obtain ⟨rfl, hF1⟩ := q1
  rw [hF1] at hX1 hdm1
  have hY1 := w_other hX1 hY hfr1 hdm1 hdj
  refine W.eq (g2 := F0 m 635 ls [.int (nI (σ 0 0))]) rfl ?_
  refine lv_aload_n hx hb dL_law_635 rfl (lv_at hl 2 rfl) ?_
  refine w_callF (w_runV (n := 0) (As := []) (rest := [.int (nI (σ 0 0))]) hx hb hml hown hY1.1 (c_X3_hour l g ν H1.size hM hg.1) kw754 kw7 kw751 kw752 kw753 wn_X3_hour rfl hM.1 rfl ⟨Nat.le_of_ble_eq_true rfl, Nat.le_of_ble_eq_true rfl⟩ hl.1 rfl (Nat.le_of_ble_eq_true rfl) dL_law_636 ⟨(show _ ≤ 601024 by omega), (show _ ≤ 7293034 by omega)⟩) hY1.1 (fun r2 ν1 H2 locs2 q2 hY2 hz2 hfr2 hdm2 => ?_)
  obtain ⟨rfl, hM1⟩ := q2
  have hX2 := w_other hY2 hX1 hfr2 hdm2 (fun q h => Classical.byContradiction fun z => h (hY1.2 q z))
  refine W.eq (g2 := F0 m 639 ls [.int (nI (σ 0 0)), .int (nI (σ 0 0))]) rfl ?_
  refine lv_icmp_eq (tgt := 1609) hx hb dL_law_639 (by decide) (fun _ => ?_) (fun h => absurd rfl h)
  exact kk d0 Λ σ w9 0 μ ν1 H2 locs2 ls _ _ hd0 hg.up hF hM1 (fun q h => Classical.byContradiction fun z => h (hX2.2 q z)) hX2.1 hY2 (by omega) (by omega) hl

set_option maxHeartbeats 4000000 in
set_option maxRecDepth 100000 in
/-- day -/
theorem lw_op_day {p : Program} {l : Launch} {e : Env} {s : State} {m : MethodId} {below : List Frame} {meth : Method} {c : Code} (hflt : l.stackTraces = false) {b L : Nat} {xs : Nat → Int32} (hL : L ≤ 2048) (C0 : lw_At p s m meth c b L xs) {g : wG} {d0 : Drawn} (hd0 : s.drawn.sameBut d0 lw_cs) {i : Nat} {H : Heap} {locs : List Loc} {ls : Array Slot} {cells slots : Nat} {Λ σ : sSt} {w9 : Int64} {Ω : Nat → Nat} {th : Nat} {μ ν : wMu} (hi : 4 * i + 4 ≤ L) (hg : gd σ i) (hF : fD g Λ (some w9) σ μ) (hM : mD g Ω th σ ν) (hdj : ∀ q, μ q ≠ none → ν q = none) (hX : wX g (lwA s) (s.setDrawn d0) H locs μ) (hY : wX g (lwA s) (s.setDrawn d0) H locs ν) (hc : cells ≤ 20 + 1000 * i) (hs : slots ≤ 200 + 10000 * i) (hl : lv_has ls 9 [(4, .int (nI (4 * i))), (3, .ref (Λ 9 0)), (2, .ref (Ω 0)), (1, .ref (Λ 0 0)), (0, .ref b)]) (kk : lwK p l e s m below meth c b g Ω i) : W p l e room_1 (s.setDrawn d0) m #[Value.ref b] below meth c H locs cells slots (lw_Z below #[Value.ref b] s) (F0 m 644 ls []) := by
  obtain ⟨hx, hb, hr, hml, hown, hts, hXs, hbl, hlocks, hgv⟩ := id C0
  have hown : (s.setDrawn d0).vm.findClass "FairyDustLaw" = some m.cls := hown
  have hXs : va_X b L xs (s.setDrawn d0) s.heap := hXs
  have hbA : ¬ lwA s b := Nat.not_le.mpr hbl
  refine lv_aload_n hx hb dL_law_644 rfl (lv_at hl 3 rfl) ?_
  refine w_callF (w_runV (n := 0) (As := []) (rest := []) hx hb hml hown hX (c_X2_day l g μ H.size hF hg.1) kw137 kw1 kw134 kw135 kw136 wn_X2_day rfl hF.1 rfl ⟨Nat.le_of_ble_eq_true rfl, Nat.le_of_ble_eq_true rfl⟩ hl.1 rfl (Nat.le_of_ble_eq_true rfl) dL_law_645 ⟨(show _ ≤ 601024 by omega), (show _ ≤ 7293034 by omega)⟩) hX (fun r1 μ1 H1 locs1 q1 hX1 hz1 hfr1 hdm1 => ?_)
  obtain ⟨rfl, hF1⟩ := q1
  rw [hF1] at hX1 hdm1
  have hY1 := w_other hX1 hY hfr1 hdm1 hdj
  refine W.eq (g2 := F0 m 648 ls [.int (nI (σ 0 0 / 24))]) rfl ?_
  refine lv_aload_n hx hb dL_law_648 rfl (lv_at hl 2 rfl) ?_
  refine w_callF (w_runV (n := 0) (As := []) (rest := [.int (nI (σ 0 0 / 24))]) hx hb hml hown hY1.1 (c_X3_day l g ν H1.size hM hg.1) kw762 kw7 kw759 kw760 kw761 wn_X3_day rfl hM.1 rfl ⟨Nat.le_of_ble_eq_true rfl, Nat.le_of_ble_eq_true rfl⟩ hl.1 rfl (Nat.le_of_ble_eq_true rfl) dL_law_649 ⟨(show _ ≤ 601024 by omega), (show _ ≤ 7293034 by omega)⟩) hY1.1 (fun r2 ν1 H2 locs2 q2 hY2 hz2 hfr2 hdm2 => ?_)
  obtain ⟨rfl, hM1⟩ := q2
  have hX2 := w_other hY2 hX1 hfr2 hdm2 (fun q h => Classical.byContradiction fun z => h (hY1.2 q z))
  refine W.eq (g2 := F0 m 652 ls [.int (nI (σ 0 0 / 24)), .int (nI (σ 0 0 / 24))]) rfl ?_
  refine lv_icmp_eq (tgt := 1609) hx hb dL_law_652 (by decide) (fun _ => ?_) (fun h => absurd rfl h)
  exact kk d0 Λ σ w9 0 μ ν1 H2 locs2 ls _ _ hd0 hg.up hF hM1 (fun q h => Classical.byContradiction fun z => h (hX2.2 q z)) hX2.1 hY2 (by omega) (by omega) hl

set_option maxHeartbeats 4000000 in
set_option maxRecDepth 100000 in
/-- wands -/
theorem lw_op_wands {p : Program} {l : Launch} {e : Env} {s : State} {m : MethodId} {below : List Frame} {meth : Method} {c : Code} (hflt : l.stackTraces = false) {b L : Nat} {xs : Nat → Int32} (hL : L ≤ 2048) (C0 : lw_At p s m meth c b L xs) {g : wG} {d0 : Drawn} (hd0 : s.drawn.sameBut d0 lw_cs) {i : Nat} {H : Heap} {locs : List Loc} {ls : Array Slot} {cells slots : Nat} {Λ σ : sSt} {w9 : Int64} {Ω : Nat → Nat} {th : Nat} {μ ν : wMu} (hi : 4 * i + 4 ≤ L) (hg : gd σ i) (hF : fD g Λ (some w9) σ μ) (hM : mD g Ω th σ ν) (hdj : ∀ q, μ q ≠ none → ν q = none) (hX : wX g (lwA s) (s.setDrawn d0) H locs μ) (hY : wX g (lwA s) (s.setDrawn d0) H locs ν) (hc : cells ≤ 20 + 1000 * i) (hs : slots ≤ 200 + 10000 * i) (hl : lv_has ls 9 [(4, .int (nI (4 * i))), (3, .ref (Λ 9 0)), (2, .ref (Ω 0)), (1, .ref (Λ 0 0)), (0, .ref b)]) (kk : lwK p l e s m below meth c b g Ω i) : W p l e room_1 (s.setDrawn d0) m #[Value.ref b] below meth c H locs cells slots (lw_Z below #[Value.ref b] s) (F0 m 657 ls []) := by
  obtain ⟨hx, hb, hr, hml, hown, hts, hXs, hbl, hlocks, hgv⟩ := id C0
  have hown : (s.setDrawn d0).vm.findClass "FairyDustLaw" = some m.cls := hown
  have hXs : va_X b L xs (s.setDrawn d0) s.heap := hXs
  have hbA : ¬ lwA s b := Nat.not_le.mpr hbl
  refine lv_aload_n hx hb dL_law_657 rfl (lv_at hl 3 rfl) ?_
  refine w_callF (w_runV (n := 0) (As := []) (rest := []) hx hb hml hown hX (c_X2_wands l g μ H.size hF hg.1) kw141 kw1 kw138 kw139 kw140 wn_X2_wands rfl hF.1 rfl ⟨Nat.le_of_ble_eq_true rfl, Nat.le_of_ble_eq_true rfl⟩ hl.1 rfl (Nat.le_of_ble_eq_true rfl) dL_law_658 ⟨(show _ ≤ 601024 by omega), (show _ ≤ 7293034 by omega)⟩) hX (fun r1 μ1 H1 locs1 q1 hX1 hz1 hfr1 hdm1 => ?_)
  obtain ⟨rfl, hF1⟩ := q1
  rw [hF1] at hX1 hdm1
  have hY1 := w_other hX1 hY hfr1 hdm1 hdj
  refine W.eq (g2 := F0 m 661 ls [.int (nI (σ 3 0))]) rfl ?_
  refine lv_aload_n hx hb dL_law_661 rfl (lv_at hl 2 rfl) ?_
  refine w_callF (w_runV (n := 0) (As := []) (rest := [.int (nI (σ 3 0))]) hx hb hml hown hY1.1 (c_X3_wands l g ν H1.size hM hg.1) kw766 kw7 kw763 kw764 kw765 wn_X3_wands rfl hM.1 rfl ⟨Nat.le_of_ble_eq_true rfl, Nat.le_of_ble_eq_true rfl⟩ hl.1 rfl (Nat.le_of_ble_eq_true rfl) dL_law_662 ⟨(show _ ≤ 601024 by omega), (show _ ≤ 7293034 by omega)⟩) hY1.1 (fun r2 ν1 H2 locs2 q2 hY2 hz2 hfr2 hdm2 => ?_)
  obtain ⟨rfl, hM1⟩ := q2
  have hX2 := w_other hY2 hX1 hfr2 hdm2 (fun q h => Classical.byContradiction fun z => h (hY1.2 q z))
  refine W.eq (g2 := F0 m 665 ls [.int (nI (σ 3 0)), .int (nI (σ 3 0))]) rfl ?_
  refine lv_icmp_eq (tgt := 1609) hx hb dL_law_665 (by decide) (fun _ => ?_) (fun h => absurd rfl h)
  exact kk d0 Λ σ w9 0 μ ν1 H2 locs2 ls _ _ hd0 hg.up hF hM1 (fun q h => Classical.byContradiction fun z => h (hX2.2 q z)) hX2.1 hY2 (by omega) (by omega) hl

set_option maxHeartbeats 4000000 in
set_option maxRecDepth 100000 in
/-- children -/
theorem lw_op_children {p : Program} {l : Launch} {e : Env} {s : State} {m : MethodId} {below : List Frame} {meth : Method} {c : Code} (hflt : l.stackTraces = false) {b L : Nat} {xs : Nat → Int32} (hL : L ≤ 2048) (C0 : lw_At p s m meth c b L xs) {g : wG} {d0 : Drawn} (hd0 : s.drawn.sameBut d0 lw_cs) {i : Nat} {H : Heap} {locs : List Loc} {ls : Array Slot} {cells slots : Nat} {Λ σ : sSt} {w9 : Int64} {Ω : Nat → Nat} {th : Nat} {μ ν : wMu} (hi : 4 * i + 4 ≤ L) (hg : gd σ i) (hF : fD g Λ (some w9) σ μ) (hM : mD g Ω th σ ν) (hdj : ∀ q, μ q ≠ none → ν q = none) (hX : wX g (lwA s) (s.setDrawn d0) H locs μ) (hY : wX g (lwA s) (s.setDrawn d0) H locs ν) (hc : cells ≤ 20 + 1000 * i) (hs : slots ≤ 200 + 10000 * i) (hl : lv_has ls 9 [(4, .int (nI (4 * i))), (3, .ref (Λ 9 0)), (2, .ref (Ω 0)), (1, .ref (Λ 0 0)), (0, .ref b)]) (kk : lwK p l e s m below meth c b g Ω i) : W p l e room_1 (s.setDrawn d0) m #[Value.ref b] below meth c H locs cells slots (lw_Z below #[Value.ref b] s) (F0 m 670 ls []) := by
  obtain ⟨hx, hb, hr, hml, hown, hts, hXs, hbl, hlocks, hgv⟩ := id C0
  have hown : (s.setDrawn d0).vm.findClass "FairyDustLaw" = some m.cls := hown
  have hXs : va_X b L xs (s.setDrawn d0) s.heap := hXs
  have hbA : ¬ lwA s b := Nat.not_le.mpr hbl
  refine lv_aload_n hx hb dL_law_670 rfl (lv_at hl 3 rfl) ?_
  refine w_callF (w_runV (n := 0) (As := []) (rest := []) hx hb hml hown hX (c_X2_children l g μ H.size hF hg.1) kw149 kw1 kw146 kw147 kw148 wn_X2_children rfl hF.1 rfl ⟨Nat.le_of_ble_eq_true rfl, Nat.le_of_ble_eq_true rfl⟩ hl.1 rfl (Nat.le_of_ble_eq_true rfl) dL_law_671 ⟨(show _ ≤ 601024 by omega), (show _ ≤ 7293034 by omega)⟩) hX (fun r1 μ1 H1 locs1 q1 hX1 hz1 hfr1 hdm1 => ?_)
  obtain ⟨rfl, hF1⟩ := q1
  rw [hF1] at hX1 hdm1
  have hY1 := w_other hX1 hY hfr1 hdm1 hdj
  refine W.eq (g2 := F0 m 674 ls [.int (nI (σ 4 0))]) rfl ?_
  refine lv_aload_n hx hb dL_law_674 rfl (lv_at hl 2 rfl) ?_
  refine w_callF (w_runV (n := 0) (As := []) (rest := [.int (nI (σ 4 0))]) hx hb hml hown hY1.1 (c_X3_children l g ν H1.size hM hg.1) kw770 kw7 kw767 kw768 kw769 wn_X3_children rfl hM.1 rfl ⟨Nat.le_of_ble_eq_true rfl, Nat.le_of_ble_eq_true rfl⟩ hl.1 rfl (Nat.le_of_ble_eq_true rfl) dL_law_675 ⟨(show _ ≤ 601024 by omega), (show _ ≤ 7293034 by omega)⟩) hY1.1 (fun r2 ν1 H2 locs2 q2 hY2 hz2 hfr2 hdm2 => ?_)
  obtain ⟨rfl, hM1⟩ := q2
  have hX2 := w_other hY2 hX1 hfr2 hdm2 (fun q h => Classical.byContradiction fun z => h (hY1.2 q z))
  refine W.eq (g2 := F0 m 678 ls [.int (nI (σ 4 0)), .int (nI (σ 4 0))]) rfl ?_
  refine lv_icmp_eq (tgt := 1609) hx hb dL_law_678 (by decide) (fun _ => ?_) (fun h => absurd rfl h)
  exact kk d0 Λ σ w9 0 μ ν1 H2 locs2 ls _ _ hd0 hg.up hF hM1 (fun q h => Classical.byContradiction fun z => h (hX2.2 q z)) hX2.1 hY2 (by omega) (by omega) hl

set_option maxHeartbeats 4000000 in
set_option maxRecDepth 100000 in
/-- granted -/
theorem lw_op_granted {p : Program} {l : Launch} {e : Env} {s : State} {m : MethodId} {below : List Frame} {meth : Method} {c : Code} (hflt : l.stackTraces = false) {b L : Nat} {xs : Nat → Int32} (hL : L ≤ 2048) (C0 : lw_At p s m meth c b L xs) {g : wG} {d0 : Drawn} (hd0 : s.drawn.sameBut d0 lw_cs) {i : Nat} {H : Heap} {locs : List Loc} {ls : Array Slot} {cells slots : Nat} {Λ σ : sSt} {w9 : Int64} {Ω : Nat → Nat} {th : Nat} {μ ν : wMu} (hi : 4 * i + 4 ≤ L) (hg : gd σ i) (hF : fD g Λ (some w9) σ μ) (hM : mD g Ω th σ ν) (hdj : ∀ q, μ q ≠ none → ν q = none) (hX : wX g (lwA s) (s.setDrawn d0) H locs μ) (hY : wX g (lwA s) (s.setDrawn d0) H locs ν) (hc : cells ≤ 20 + 1000 * i) (hs : slots ≤ 200 + 10000 * i) (hl : lv_has ls 9 [(4, .int (nI (4 * i))), (3, .ref (Λ 9 0)), (2, .ref (Ω 0)), (1, .ref (Λ 0 0)), (0, .ref b)]) (kk : lwK p l e s m below meth c b g Ω i) : W p l e room_1 (s.setDrawn d0) m #[Value.ref b] below meth c H locs cells slots (lw_Z below #[Value.ref b] s) (F0 m 683 ls []) := by
  obtain ⟨hx, hb, hr, hml, hown, hts, hXs, hbl, hlocks, hgv⟩ := id C0
  have hown : (s.setDrawn d0).vm.findClass "FairyDustLaw" = some m.cls := hown
  have hXs : va_X b L xs (s.setDrawn d0) s.heap := hXs
  have hbA : ¬ lwA s b := Nat.not_le.mpr hbl
  refine lv_aload_n hx hb dL_law_683 rfl (lv_at hl 3 rfl) ?_
  refine w_callF (w_runV (n := 0) (As := []) (rest := []) hx hb hml hown hX (c_X2_granted l g μ H.size hF hg.1) kw153 kw1 kw150 kw151 kw152 wn_X2_granted rfl hF.1 rfl ⟨Nat.le_of_ble_eq_true rfl, Nat.le_of_ble_eq_true rfl⟩ hl.1 rfl (Nat.le_of_ble_eq_true rfl) dL_law_684 ⟨(show _ ≤ 601024 by omega), (show _ ≤ 7293034 by omega)⟩) hX (fun r1 μ1 H1 locs1 q1 hX1 hz1 hfr1 hdm1 => ?_)
  obtain ⟨rfl, hF1⟩ := q1
  rw [hF1] at hX1 hdm1
  have hY1 := w_other hX1 hY hfr1 hdm1 hdj
  refine W.eq (g2 := F0 m 687 ls [.int (nI (σ 1 0))]) rfl ?_
  refine lv_aload_n hx hb dL_law_687 rfl (lv_at hl 2 rfl) ?_
  refine w_callF (w_runV (n := 0) (As := []) (rest := [.int (nI (σ 1 0))]) hx hb hml hown hY1.1 (c_X3_granted l g ν H1.size hM hg.1) kw774 kw7 kw771 kw772 kw773 wn_X3_granted rfl hM.1 rfl ⟨Nat.le_of_ble_eq_true rfl, Nat.le_of_ble_eq_true rfl⟩ hl.1 rfl (Nat.le_of_ble_eq_true rfl) dL_law_688 ⟨(show _ ≤ 601024 by omega), (show _ ≤ 7293034 by omega)⟩) hY1.1 (fun r2 ν1 H2 locs2 q2 hY2 hz2 hfr2 hdm2 => ?_)
  obtain ⟨rfl, hM1⟩ := q2
  have hX2 := w_other hY2 hX1 hfr2 hdm2 (fun q h => Classical.byContradiction fun z => h (hY1.2 q z))
  refine W.eq (g2 := F0 m 691 ls [.int (nI (σ 1 0)), .int (nI (σ 1 0))]) rfl ?_
  refine lv_icmp_eq (tgt := 1609) hx hb dL_law_691 (by decide) (fun _ => ?_) (fun h => absurd rfl h)
  exact kk d0 Λ σ w9 0 μ ν1 H2 locs2 ls _ _ hd0 hg.up hF hM1 (fun q h => Classical.byContradiction fun z => h (hX2.2 q z)) hX2.1 hY2 (by omega) (by omega) hl

set_option maxHeartbeats 4000000 in
set_option maxRecDepth 100000 in
/-- denied -/
theorem lw_op_denied {p : Program} {l : Launch} {e : Env} {s : State} {m : MethodId} {below : List Frame} {meth : Method} {c : Code} (hflt : l.stackTraces = false) {b L : Nat} {xs : Nat → Int32} (hL : L ≤ 2048) (C0 : lw_At p s m meth c b L xs) {g : wG} {d0 : Drawn} (hd0 : s.drawn.sameBut d0 lw_cs) {i : Nat} {H : Heap} {locs : List Loc} {ls : Array Slot} {cells slots : Nat} {Λ σ : sSt} {w9 : Int64} {Ω : Nat → Nat} {th : Nat} {μ ν : wMu} (hi : 4 * i + 4 ≤ L) (hg : gd σ i) (hF : fD g Λ (some w9) σ μ) (hM : mD g Ω th σ ν) (hdj : ∀ q, μ q ≠ none → ν q = none) (hX : wX g (lwA s) (s.setDrawn d0) H locs μ) (hY : wX g (lwA s) (s.setDrawn d0) H locs ν) (hc : cells ≤ 20 + 1000 * i) (hs : slots ≤ 200 + 10000 * i) (hl : lv_has ls 9 [(4, .int (nI (4 * i))), (3, .ref (Λ 9 0)), (2, .ref (Ω 0)), (1, .ref (Λ 0 0)), (0, .ref b)]) (kk : lwK p l e s m below meth c b g Ω i) : W p l e room_1 (s.setDrawn d0) m #[Value.ref b] below meth c H locs cells slots (lw_Z below #[Value.ref b] s) (F0 m 696 ls []) := by
  obtain ⟨hx, hb, hr, hml, hown, hts, hXs, hbl, hlocks, hgv⟩ := id C0
  have hown : (s.setDrawn d0).vm.findClass "FairyDustLaw" = some m.cls := hown
  have hXs : va_X b L xs (s.setDrawn d0) s.heap := hXs
  have hbA : ¬ lwA s b := Nat.not_le.mpr hbl
  refine lv_aload_n hx hb dL_law_696 rfl (lv_at hl 3 rfl) ?_
  refine w_callF (w_runV (n := 0) (As := []) (rest := []) hx hb hml hown hX (c_X2_denied l g μ H.size hF hg.1) kw157 kw1 kw154 kw155 kw156 wn_X2_denied rfl hF.1 rfl ⟨Nat.le_of_ble_eq_true rfl, Nat.le_of_ble_eq_true rfl⟩ hl.1 rfl (Nat.le_of_ble_eq_true rfl) dL_law_697 ⟨(show _ ≤ 601024 by omega), (show _ ≤ 7293034 by omega)⟩) hX (fun r1 μ1 H1 locs1 q1 hX1 hz1 hfr1 hdm1 => ?_)
  obtain ⟨rfl, hF1⟩ := q1
  rw [hF1] at hX1 hdm1
  have hY1 := w_other hX1 hY hfr1 hdm1 hdj
  refine W.eq (g2 := F0 m 700 ls [.int (nI (σ 2 0))]) rfl ?_
  refine lv_aload_n hx hb dL_law_700 rfl (lv_at hl 2 rfl) ?_
  refine w_callF (w_runV (n := 0) (As := []) (rest := [.int (nI (σ 2 0))]) hx hb hml hown hY1.1 (c_X3_denied l g ν H1.size hM hg.1) kw778 kw7 kw775 kw776 kw777 wn_X3_denied rfl hM.1 rfl ⟨Nat.le_of_ble_eq_true rfl, Nat.le_of_ble_eq_true rfl⟩ hl.1 rfl (Nat.le_of_ble_eq_true rfl) dL_law_701 ⟨(show _ ≤ 601024 by omega), (show _ ≤ 7293034 by omega)⟩) hY1.1 (fun r2 ν1 H2 locs2 q2 hY2 hz2 hfr2 hdm2 => ?_)
  obtain ⟨rfl, hM1⟩ := q2
  have hX2 := w_other hY2 hX1 hfr2 hdm2 (fun q h => Classical.byContradiction fun z => h (hY1.2 q z))
  refine W.eq (g2 := F0 m 704 ls [.int (nI (σ 2 0)), .int (nI (σ 2 0))]) rfl ?_
  refine lv_icmp_eq (tgt := 1609) hx hb dL_law_704 (by decide) (fun _ => ?_) (fun h => absurd rfl h)
  exact kk d0 Λ σ w9 0 μ ν1 H2 locs2 ls _ _ hd0 hg.up hF hM1 (fun q h => Classical.byContradiction fun z => h (hX2.2 q z)) hX2.1 hY2 (by omega) (by omega) hl

set_option maxHeartbeats 4000000 in
set_option maxRecDepth 100000 in
/-- punished -/
theorem lw_op_punished {p : Program} {l : Launch} {e : Env} {s : State} {m : MethodId} {below : List Frame} {meth : Method} {c : Code} (hflt : l.stackTraces = false) {b L : Nat} {xs : Nat → Int32} (hL : L ≤ 2048) (C0 : lw_At p s m meth c b L xs) {g : wG} {d0 : Drawn} (hd0 : s.drawn.sameBut d0 lw_cs) {i : Nat} {H : Heap} {locs : List Loc} {ls : Array Slot} {cells slots : Nat} {Λ σ : sSt} {w9 : Int64} {Ω : Nat → Nat} {th : Nat} {μ ν : wMu} (hi : 4 * i + 4 ≤ L) (hg : gd σ i) (hF : fD g Λ (some w9) σ μ) (hM : mD g Ω th σ ν) (hdj : ∀ q, μ q ≠ none → ν q = none) (hX : wX g (lwA s) (s.setDrawn d0) H locs μ) (hY : wX g (lwA s) (s.setDrawn d0) H locs ν) (hc : cells ≤ 20 + 1000 * i) (hs : slots ≤ 200 + 10000 * i) (hl : lv_has ls 9 [(4, .int (nI (4 * i))), (3, .ref (Λ 9 0)), (2, .ref (Ω 0)), (1, .ref (Λ 0 0)), (0, .ref b)]) (kk : lwK p l e s m below meth c b g Ω i) : W p l e room_1 (s.setDrawn d0) m #[Value.ref b] below meth c H locs cells slots (lw_Z below #[Value.ref b] s) (F0 m 709 ls []) := by
  obtain ⟨hx, hb, hr, hml, hown, hts, hXs, hbl, hlocks, hgv⟩ := id C0
  have hown : (s.setDrawn d0).vm.findClass "FairyDustLaw" = some m.cls := hown
  have hXs : va_X b L xs (s.setDrawn d0) s.heap := hXs
  have hbA : ¬ lwA s b := Nat.not_le.mpr hbl
  refine lv_aload_n hx hb dL_law_709 rfl (lv_at hl 3 rfl) ?_
  refine w_callF (w_runV (n := 0) (As := []) (rest := []) hx hb hml hown hX (c_X2_punished l g μ H.size hF hg.1) kw161 kw1 kw158 kw159 kw160 wn_X2_punished rfl hF.1 rfl ⟨Nat.le_of_ble_eq_true rfl, Nat.le_of_ble_eq_true rfl⟩ hl.1 rfl (Nat.le_of_ble_eq_true rfl) dL_law_710 ⟨(show _ ≤ 601024 by omega), (show _ ≤ 7293034 by omega)⟩) hX (fun r1 μ1 H1 locs1 q1 hX1 hz1 hfr1 hdm1 => ?_)
  obtain ⟨rfl, hF1⟩ := q1
  rw [hF1] at hX1 hdm1
  have hY1 := w_other hX1 hY hfr1 hdm1 hdj
  refine W.eq (g2 := F0 m 713 ls [.int (nI (cHel σ (σ 4 0)))]) rfl ?_
  refine lv_aload_n hx hb dL_law_713 rfl (lv_at hl 2 rfl) ?_
  refine w_callF (w_runV (n := 0) (As := []) (rest := [.int (nI (cHel σ (σ 4 0)))]) hx hb hml hown hY1.1 (c_X3_punished l g ν H1.size hM hg.1) kw782 kw7 kw779 kw780 kw781 wn_X3_punished rfl hM.1 rfl ⟨Nat.le_of_ble_eq_true rfl, Nat.le_of_ble_eq_true rfl⟩ hl.1 rfl (Nat.le_of_ble_eq_true rfl) dL_law_714 ⟨(show _ ≤ 601024 by omega), (show _ ≤ 7293034 by omega)⟩) hY1.1 (fun r2 ν1 H2 locs2 q2 hY2 hz2 hfr2 hdm2 => ?_)
  obtain ⟨rfl, hM1⟩ := q2
  have hX2 := w_other hY2 hX1 hfr2 hdm2 (fun q h => Classical.byContradiction fun z => h (hY1.2 q z))
  refine W.eq (g2 := F0 m 717 ls [.int (nI (cHel σ (σ 4 0))), .int (nI (cHel σ (σ 4 0)))]) rfl ?_
  refine lv_icmp_eq (tgt := 1609) hx hb dL_law_717 (by decide) (fun _ => ?_) (fun h => absurd rfl h)
  exact kk d0 Λ σ w9 0 μ ν1 H2 locs2 ls _ _ hd0 hg.up hF hM1 (fun q h => Classical.byContradiction fun z => h (hX2.2 q z)) hX2.1 hY2 (by omega) (by omega) hl

set_option maxHeartbeats 4000000 in
set_option maxRecDepth 100000 in
/-- digest -/
theorem lw_op_digest {p : Program} {l : Launch} {e : Env} {s : State} {m : MethodId} {below : List Frame} {meth : Method} {c : Code} (hflt : l.stackTraces = false) {b L : Nat} {xs : Nat → Int32} (hL : L ≤ 2048) (C0 : lw_At p s m meth c b L xs) {g : wG} {d0 : Drawn} (hd0 : s.drawn.sameBut d0 lw_cs) {i : Nat} {H : Heap} {locs : List Loc} {ls : Array Slot} {cells slots : Nat} {Λ σ : sSt} {w9 : Int64} {Ω : Nat → Nat} {th : Nat} {μ ν : wMu} (hi : 4 * i + 4 ≤ L) (hg : gd σ i) (hF : fD g Λ (some w9) σ μ) (hM : mD g Ω th σ ν) (hdj : ∀ q, μ q ≠ none → ν q = none) (hX : wX g (lwA s) (s.setDrawn d0) H locs μ) (hY : wX g (lwA s) (s.setDrawn d0) H locs ν) (hc : cells ≤ 20 + 1000 * i) (hs : slots ≤ 200 + 10000 * i) (hl : lv_has ls 9 [(4, .int (nI (4 * i))), (3, .ref (Λ 9 0)), (2, .ref (Ω 0)), (1, .ref (Λ 0 0)), (0, .ref b)]) (kk : lwK p l e s m below meth c b g Ω i) : W p l e room_1 (s.setDrawn d0) m #[Value.ref b] below meth c H locs cells slots (lw_Z below #[Value.ref b] s) (F0 m 1595 ls []) := by
  obtain ⟨hx, hb, hr, hml, hown, hts, hXs, hbl, hlocks, hgv⟩ := id C0
  have hown : (s.setDrawn d0).vm.findClass "FairyDustLaw" = some m.cls := hown
  have hXs : va_X b L xs (s.setDrawn d0) s.heap := hXs
  have hbA : ¬ lwA s b := Nat.not_le.mpr hbl
  refine lv_aload_n hx hb dL_law_1595 rfl (lv_at hl 3 rfl) ?_
  refine w_callF (w_runV (n := 0) (As := []) (rest := []) hx hb hml hown hX (c_X2_digest l g μ H.size hF hg.1) kw187 kw1 kw184 kw185 kw186 wn_X2_digest rfl hF.1 rfl ⟨Nat.le_of_ble_eq_true rfl, Nat.le_of_ble_eq_true rfl⟩ hl.1 rfl (Nat.le_of_ble_eq_true rfl) dL_law_1596 ⟨(show _ ≤ 601024 by omega), (show _ ≤ 7293034 by omega)⟩) hX (fun r1 μ1 H1 locs1 q1 hX1 hz1 hfr1 hdm1 => ?_)
  obtain ⟨rfl, hF1⟩ := q1
  have hY1 := w_other hX1 hY hfr1 hdm1 hdj
  refine W.eq (g2 := F0 m 1599 ls [.long (vDig σ)]) rfl ?_
  refine lv_aload_n hx hb dL_law_1599 rfl (lv_at hl 2 rfl) ?_
  refine w_callF (w_runV (n := 0) (As := []) (rest := [.long (vDig σ)]) hx hb hml hown hY1.1 (c_X3_digest l g ν H1.size hM hg.1) kw890 kw7 kw887 kw888 kw889 wn_X3_digest rfl hM.1 rfl ⟨Nat.le_of_ble_eq_true rfl, Nat.le_of_ble_eq_true rfl⟩ hl.1 rfl (Nat.le_of_ble_eq_true rfl) dL_law_1600 ⟨(show _ ≤ 601024 by omega), (show _ ≤ 7293034 by omega)⟩) hY1.1 (fun r2 ν1 H2 locs2 q2 hY2 hz2 hfr2 hdm2 => ?_)
  obtain ⟨rfl, hM1⟩ := q2
  have hX2 := w_other hY2 hX1 hfr2 hdm2 (fun q h => Classical.byContradiction fun z => h (hY1.2 q z))
  refine W.eq (g2 := F0 m 1603 ls [.long (vDig σ), .long (vDig σ)]) rfl ?_
  refine W.lcmp hx hb dL_law_1603 ?_
  refine lv_if_eq (tgt := 1609) hx hb dL_law_1604 (by decide) (fun _ => ?_) (fun h => absurd (lgc0 _) h)
  exact kk d0 Λ σ w9 0 μ1 ν1 H2 locs2 ls _ _ hd0 hg.up hF1 hM1 (fun q h => Classical.byContradiction fun z => h (hX2.2 q z)) hX2.1 hY2 (by omega) (by omega) hl

