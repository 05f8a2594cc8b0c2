/-! THE LAW -/
theorem and31 (y : Int32) : ∃ k, k < 32 ∧ y &&& nI 31 = nI k := by
  have h1 : (y &&& nI 31).toBitVec.toNat ≤ 31 := by
    have e : (y &&& nI 31).toBitVec = y.toBitVec &&& (nI 31).toBitVec := rfl
    rw [e, BitVec.toNat_and]
    exact Nat.and_le_right
  refine ⟨(y &&& nI 31).toBitVec.toNat, by omega, ?_⟩
  refine Int32.toBitVec_inj.mp ?_
  refine BitVec.eq_of_toNat_eq ?_
  show _ = (BitVec.ofNat 32 _).toNat
  rw [BitVec.toNat_ofNat, Nat.mod_eq_of_lt (by omega)]
set_option maxHeartbeats 4000000 in
set_option maxRecDepth 100000 in
theorem lw_switch {p : Program} {l : Launch} {e : Env} {s : State} {m : MethodId} {below : List Frame} {meth : Method} {c : Code} (hflt : l.stackTraces = false) {b L : Nat} {xs : Nat → Int32} (hL : L ≤ 2048) (C0 : lw_At p s m meth c b L xs) {g : wG} {d0 : Drawn} (hd0 : s.drawn.sameBut d0 lw_cs) {i : Nat} {H : Heap} {locs : List Loc} {ls : Array Slot} {cells slots : Nat} {Λ σ : sSt} {w9 : Int64} {Ω : Nat → Nat} {th : Nat} {μ ν : wMu} (hi : 4 * i + 4 ≤ L) (hg : gd σ i) (hF : fD g Λ (some w9) σ μ) (hM : mD g Ω th σ ν) (hdj : ∀ q, μ q ≠ none → ν q = none) (hX : wX g (lwA s) (s.setDrawn d0) H locs μ) (hY : wX g (lwA s) (s.setDrawn d0) H locs ν) (hc : cells ≤ 20 + 1000 * i) (hs : slots ≤ 200 + 10000 * i) (hl : lv_has ls 9 [(4, .int (nI (4 * i))), (3, .ref (Λ 9 0)), (2, .ref (Ω 0)), (1, .ref (Λ 0 0)), (0, .ref b)]) (kk : lwK p l e s m below meth c b g Ω i) : W p l e room_1 (s.setDrawn d0) m #[Value.ref b] below meth c H locs cells slots (lw_Z below #[Value.ref b] s) (F0 m 32 ls []) := by
  obtain ⟨hx, hb, hr, hml, hown, hts, hXs, hbl, hlocks, hgv⟩ := id C0
  have hown : (s.setDrawn d0).vm.findClass "FairyDustLaw" = some m.cls := hown
  have hXs : va_X b L xs (s.setDrawn d0) s.heap := hXs
  have hbA : ¬ lwA s b := Nat.not_le.mpr hbl
  refine lv_aload_n hx hb dL_law_32 rfl (lv_at hl 4 rfl) ?_
  refine lv_iload hx hb dL_law_33 (lv_at hl 0 rfl) ?_
  refine va_sld hx hb hXs hbl hbA hX.S (vp_in_nI (by omega) (by omega)) dL_law_35 ?_
  refine lv_bipush (v := nI 31) hx hb dL_law_36 (by decide) ?_
  refine lv_iand hx hb dL_law_38 ?_
  obtain ⟨k, hk, hke⟩ := and31 (xs (nI (4 * i)).toNatClampNeg)
  rw [hke]
  obtain rfl | rfl | rfl | rfl | rfl | rfl | rfl | rfl | rfl | rfl | rfl | rfl | rfl | rfl | rfl | rfl | rfl | rfl | rfl | rfl | rfl | rfl | rfl | rfl | rfl | rfl | rfl | rfl | rfl | rfl | rfl | rfl : k = 0 ∨ k = 1 ∨ k = 2 ∨ k = 3 ∨ k = 4 ∨ k = 5 ∨ k = 6 ∨ k = 7 ∨ k = 8 ∨ k = 9 ∨ k = 10 ∨ k = 11 ∨ k = 12 ∨ k = 13 ∨ k = 14 ∨ k = 15 ∨ k = 16 ∨ k = 17 ∨ k = 18 ∨ k = 19 ∨ k = 20 ∨ k = 21 ∨ k = 22 ∨ k = 23 ∨ k = 24 ∨ k = 25 ∨ k = 26 ∨ k = 27 ∨ k = 28 ∨ k = 29 ∨ k = 30 ∨ k = 31 := by omega
  · refine lv_tableIn (off := 133) (tgt := 172) hx hb dL_law_39 (by decide +kernel) (by decide +kernel) (by decide +kernel) (by decide) ?_
    exact lw_op_addWand hflt hL C0 hd0 hi hg hF hM hdj hX hY hc hs hl kk
  · refine lv_tableIn (off := 201) (tgt := 240) hx hb dL_law_39 (by decide +kernel) (by decide +kernel) (by decide +kernel) (by decide) ?_
    exact lw_op_addChild hflt hL C0 hd0 hi hg hF hM hdj hX hY hc hs hl kk
  · refine lv_tableIn (off := 269) (tgt := 308) hx hb dL_law_39 (by decide +kernel) (by decide +kernel) (by decide +kernel) (by decide) ?_
    exact lw_op_give hflt hL C0 hd0 hi hg hF hM hdj hX hY hc hs hl kk
  · refine lv_tableIn (off := 337) (tgt := 376) hx hb dL_law_39 (by decide +kernel) (by decide +kernel) (by decide +kernel) (by decide) ?_
    exact lw_op_setFall hflt hL C0 hd0 hi hg hF hM hdj hX hY hc hs hl kk
  · refine lv_tableIn (off := 405) (tgt := 444) hx hb dL_law_39 (by decide +kernel) (by decide +kernel) (by decide +kernel) (by decide) ?_
    exact lw_op_wish hflt hL C0 hd0 hi hg hF hM hdj hX hY hc hs hl kk
  · refine lv_tableIn (off := 480) (tgt := 519) hx hb dL_law_39 (by decide +kernel) (by decide +kernel) (by decide +kernel) (by decide) ?_
    exact lw_op_forgive hflt hL C0 hd0 hi hg hF hM hdj hX hY hc hs hl kk
  · refine lv_tableIn (off := 536) (tgt := 575) hx hb dL_law_39 (by decide +kernel) (by decide +kernel) (by decide +kernel) (by decide) ?_
    exact lw_op_pass hflt hL C0 hd0 hi hg hF hM hdj hX hY hc hs hl kk
  · refine lv_tableIn (off := 592) (tgt := 631) hx hb dL_law_39 (by decide +kernel) (by decide +kernel) (by decide +kernel) (by decide) ?_
    exact lw_op_hour hflt hL C0 hd0 hi hg hF hM hdj hX hY hc hs hl kk
  · refine lv_tableIn (off := 605) (tgt := 644) hx hb dL_law_39 (by decide +kernel) (by decide +kernel) (by decide +kernel) (by decide) ?_
    exact lw_op_day hflt hL C0 hd0 hi hg hF hM hdj hX hY hc hs hl kk
  · refine lv_tableIn (off := 618) (tgt := 657) hx hb dL_law_39 (by decide +kernel) (by decide +kernel) (by decide +kernel) (by decide) ?_
    exact lw_op_wands hflt hL C0 hd0 hi hg hF hM hdj hX hY hc hs hl kk
  · refine lv_tableIn (off := 631) (tgt := 670) hx hb dL_law_39 (by decide +kernel) (by decide +kernel) (by decide +kernel) (by decide) ?_
    exact lw_op_children hflt hL C0 hd0 hi hg hF hM hdj hX hY hc hs hl kk
  · refine lv_tableIn (off := 644) (tgt := 683) hx hb dL_law_39 (by decide +kernel) (by decide +kernel) (by decide +kernel) (by decide) ?_
    exact lw_op_granted hflt hL C0 hd0 hi hg hF hM hdj hX hY hc hs hl kk
  · refine lv_tableIn (off := 657) (tgt := 696) hx hb dL_law_39 (by decide +kernel) (by decide +kernel) (by decide +kernel) (by decide) ?_
    exact lw_op_denied hflt hL C0 hd0 hi hg hF hM hdj hX hY hc hs hl kk
  · refine lv_tableIn (off := 670) (tgt := 709) hx hb dL_law_39 (by decide +kernel) (by decide +kernel) (by decide +kernel) (by decide) ?_
    exact lw_op_punished hflt hL C0 hd0 hi hg hF hM hdj hX hY hc hs hl kk
  · refine lv_tableIn (off := 683) (tgt := 722) hx hb dL_law_39 (by decide +kernel) (by decide +kernel) (by decide +kernel) (by decide) ?_
    exact lw_op_dustIn hflt hL C0 hd0 hi hg hF hM hdj hX hY hc hs hl kk
  · refine lv_tableIn (off := 739) (tgt := 778) hx hb dL_law_39 (by decide +kernel) (by decide +kernel) (by decide +kernel) (by decide) ?_
    exact lw_op_users hflt hL C0 hd0 hi hg hF hM hdj hX hY hc hs hl kk
  · refine lv_tableIn (off := 795) (tgt := 834) hx hb dL_law_39 (by decide +kernel) (by decide +kernel) (by decide +kernel) (by decide) ?_
    exact lw_op_wandOf hflt hL C0 hd0 hi hg hF hM hdj hX hY hc hs hl kk
  · refine lv_tableIn (off := 851) (tgt := 890) hx hb dL_law_39 (by decide +kernel) (by decide +kernel) (by decide +kernel) (by decide) ?_
    exact lw_op_burstOf hflt hL C0 hd0 hi hg hF hM hdj hX hY hc hs hl kk
  · refine lv_tableIn (off := 907) (tgt := 946) hx hb dL_law_39 (by decide +kernel) (by decide +kernel) (by decide +kernel) (by decide) ?_
    exact lw_op_punishedFor hflt hL C0 hd0 hi hg hF hM hdj hX hY hc hs hl kk
  · refine lv_tableIn (off := 963) (tgt := 1002) hx hb dL_law_39 (by decide +kernel) (by decide +kernel) (by decide +kernel) (by decide) ?_
    exact lw_op_marksOf hflt hL C0 hd0 hi hg hF hM hdj hX hY hc hs hl kk
  · refine lv_tableIn (off := 1019) (tgt := 1058) hx hb dL_law_39 (by decide +kernel) (by decide +kernel) (by decide +kernel) (by decide) ?_
    exact lw_op_nextPunishment hflt hL C0 hd0 hi hg hF hM hdj hX hY hc hs hl kk
  · refine lv_tableIn (off := 1075) (tgt := 1114) hx hb dL_law_39 (by decide +kernel) (by decide +kernel) (by decide +kernel) (by decide) ?_
    exact lw_op_daysToBirthday hflt hL C0 hd0 hi hg hF hM hdj hX hY hc hs hl kk
  · refine lv_tableIn (off := 1131) (tgt := 1170) hx hb dL_law_39 (by decide +kernel) (by decide +kernel) (by decide +kernel) (by decide) ?_
    exact lw_op_greatestWish hflt hL C0 hd0 hi hg hF hM hdj hX hY hc hs hl kk
  · refine lv_tableIn (off := 1187) (tgt := 1226) hx hb dL_law_39 (by decide +kernel) (by decide +kernel) (by decide +kernel) (by decide) ?_
    exact lw_op_hoursUntil hflt hL C0 hd0 hi hg hF hM hdj hX hY hc hs hl kk
  · refine lv_tableIn (off := 1255) (tgt := 1294) hx hb dL_law_39 (by decide +kernel) (by decide +kernel) (by decide +kernel) (by decide) ?_
    exact lw_op_grantedIn hflt hL C0 hd0 hi hg hF hM hdj hX hY hc hs hl kk
  · refine lv_tableIn (off := 1335) (tgt := 1374) hx hb dL_law_39 (by decide +kernel) (by decide +kernel) (by decide +kernel) (by decide) ?_
    exact lw_op_fallWanted hflt hL C0 hd0 hi hg hF hM hdj hX hY hc hs hl kk
  · refine lv_tableIn (off := 1403) (tgt := 1442) hx hb dL_law_39 (by decide +kernel) (by decide +kernel) (by decide +kernel) (by decide) ?_
    exact lw_op_hoursUntilFull hflt hL C0 hd0 hi hg hF hM hdj hX hY hc hs hl kk
  · refine lv_tableIn (off := 1459) (tgt := 1498) hx hb dL_law_39 (by decide +kernel) (by decide +kernel) (by decide +kernel) (by decide) ?_
    exact lw_op_bestChild hflt hL C0 hd0 hi hg hF hM hdj hX hY hc hs hl kk
  · refine lv_tableIn (off := 1515) (tgt := 1554) hx hb dL_law_39 (by decide +kernel) (by decide +kernel) (by decide +kernel) (by decide) ?_
    exact lw_op_share hflt hL C0 hd0 hi hg hF hM hdj hX hY hc hs hl kk
  · refine lv_tableIn (off := 1556) (tgt := 1595) hx hb dL_law_39 (by decide +kernel) (by decide +kernel) (by decide +kernel) (by decide) ?_
    exact lw_op_digest hflt hL C0 hd0 hi hg hF hM hdj hX hY hc hs hl kk
  · refine lv_tableOut (tgt := 1609) hx hb dL_law_39 (Or.inr (by decide +kernel)) (by decide) ?_
    exact kk d0 Λ σ w9 th μ ν H locs ls cells slots hd0 hg.up hF hM hdj hX hY (by omega) (by omega) hl
  · refine lv_tableOut (tgt := 1609) hx hb dL_law_39 (Or.inr (by decide +kernel)) (by decide) ?_
    exact kk d0 Λ σ w9 th μ ν H locs ls cells slots hd0 hg.up hF hM hdj hX hY (by omega) (by omega) hl
set_option maxHeartbeats 4000000 in
set_option maxRecDepth 100000 in
theorem lw_head {p : Program} {l : Launch} {e : Env} {s : State} {m : MethodId} {below : List Frame} {meth : Method} {c : Code} {b L : Nat} {xs : Nat → Int32} (hL : L ≤ 2048) (C0 : lw_At p s m meth c b L xs) {g : wG} {d0 : Drawn} (hd0 : s.drawn.sameBut d0 lw_cs) {i : Nat} {H : Heap} {locs : List Loc} {ls : Array Slot} {cells slots : Nat} {Λ : sSt} {Ω : Nat → Nat} {μ : wMu} (hi : 4 * i ≤ L) (hX : wX g (lwA s) (s.setDrawn d0) H locs μ) (hc : cells ≤ 20 + 1000 * i) (hs : slots ≤ 200 + 10000 * i) (hl : lv_has ls 9 [(4, .int (nI (4 * i))), (3, .ref (Λ 9 0)), (2, .ref (Ω 0)), (1, .ref (Λ 0 0)), (0, .ref b)]) (kk : 4 * i + 4 ≤ L → W p l e room_1 (s.setDrawn d0) m #[Value.ref b] below meth c H locs cells slots (lw_Z below #[Value.ref b] s) (F0 m 32 ls [])) : W p l e room_1 (s.setDrawn d0) m #[Value.ref b] below meth c H locs cells slots (lw_Z below #[Value.ref b] s) (F0 m 23 ls []) := by
  obtain ⟨hx, hb, hr, hml, hown, hts, hXs, hbl, hlocks, hgv⟩ := id C0
  have hown : (s.setDrawn d0).vm.findClass "FairyDustLaw" = some m.cls := hown
  have hXs : va_X b L xs (s.setDrawn d0) s.heap := hXs
  have hbA : ¬ lwA s b := Nat.not_le.mpr hbl
  refine lv_iload hx hb dL_law_23 (lv_at hl 0 rfl) ?_
  refine lv_aload_n hx hb dL_law_25 rfl (lv_at hl 4 rfl) ?_
  refine va_slen hx hb hXs hbl hbA hX.S dL_law_26 ?_
  refine lv_iconst (v := nI 4) hx hb dL_law_27 (by decide) ?_
  refine n_isub hx hb dL_law_28 (v := nI L - nI 4) rfl ?_
  refine lv_icmp_gt (tgt := 1615) hx hb dL_law_29 (by decide) (fun h => ?_) (fun h => ?_)
  · refine lv_iconst (v := 1) hx hb dL_law_1615 (by decide) ?_
    refine va_forget (fun q hq => hX.S.2.2 q hq) ?_
    refine W.widen (k := 601024) (n := 7293034) (by omega) (by omega) ?_
    exact lw_ret hd0 hx hb hr hlocks dL_law_1616
  · rw [Int32.lt_iff_toInt_lt, pk_sub_toInt (by omega) (by omega), nI_toInt (by omega)] at h
    exact kk (by omega)
set_option maxHeartbeats 4000000 in
set_option maxRecDepth 100000 in
theorem lw_loop {p : Program} {l : Launch} {e : Env} {s : State} {m : MethodId} {below : List Frame} {meth : Method} {c : Code} (hflt : l.stackTraces = false) {b L : Nat} {xs : Nat → Int32} (hL : L ≤ 2048) (C0 : lw_At p s m meth c b L xs) {g : wG} {Ω : Nat → Nat} : ∀ (n i : Nat) (d0 : Drawn) (Λ σ : sSt) (w9 : Int64) (th : Nat) (μ ν : wMu) (H : Heap) (locs : List Loc) (ls : Array Slot) (cells slots : Nat), L < 4 * (i + n) + 4 → 4 * i ≤ L → s.drawn.sameBut d0 lw_cs → gd σ i → fD g Λ (some w9) σ μ → mD g Ω th σ ν → (∀ q, μ q ≠ none → ν q = none) → wX g (lwA s) (s.setDrawn d0) H locs μ → wX g (lwA s) (s.setDrawn d0) H locs ν → cells ≤ 20 + 1000 * i → slots ≤ 200 + 10000 * i → lv_has ls 9 [(4, .int (nI (4 * i))), (3, .ref (Λ 9 0)), (2, .ref (Ω 0)), (1, .ref (Λ 0 0)), (0, .ref b)] → W p l e room_1 (s.setDrawn d0) m #[Value.ref b] below meth c H locs cells slots (lw_Z below #[Value.ref b] s) (F0 m 23 ls []) := by
  intro n
  induction n with
  | zero =>
    intro i d0 Λ σ w9 th μ ν H locs ls cells slots hn hi hd0 hg hF hM hdj hX hY hc hs hl
    exact lw_head (Λ := Λ) (Ω := Ω) hL C0 hd0 hi hX hc hs hl (fun h => absurd h (by omega))
  | succ n ih =>
    intro i d0 Λ σ w9 th μ ν H locs ls cells slots hn hi hd0 hg hF hM hdj hX hY hc hs hl
    refine lw_head (Λ := Λ) (Ω := Ω) hL C0 hd0 hi hX hc hs hl (fun h => ?_)
    refine lw_switch hflt hL C0 hd0 h hg hF hM hdj hX hY hc hs hl ?_
    intro d Λ' σ' w' th' μ' ν' H' locs' ls' cells' slots' hd0 hg hF hM hdj hX hY hc hs hl
    obtain ⟨hx, hb, -⟩ := id C0
    refine lv_iinc (v := nI (4 * (i + 1))) (lv' := [(4, .int (nI (4 * (i + 1)))), (3, .ref (Λ' 9 0)), (2, .ref (Ω 0)), (1, .ref (Λ' 0 0)), (0, .ref b)]) hx hb dL_law_1609 hl (k := 0) rfl (nI_inc4 _) (by decide) rfl (fun ls hl => ?_)
    refine lv_goto (tgt := 23) hx hb dL_law_1612 (by decide) ?_
    exact ih (i + 1) d Λ' σ' w' th' μ' ν' H' locs' ls cells' slots' (by omega) (by omega) hd0 hg hF hM hdj hX hY hc hs hl
/-! two worlds out of one, by the kinds of their cells -/
def mC (κ : wMu) : wMu := fun q => match κ q with
  | some e => if kd e = 4 ∨ kd e = 100 then none else some e
  | none => none
def mN (κ : wMu) : wMu := fun q => match κ q with
  | some e => if kd e = 4 ∨ kd e = 100 then some e else none
  | none => none
theorem mC_y {κ : wMu} {q : Nat} {e : va_E} (h : κ q = some e) (h2 : ¬ (kd e = 4 ∨ kd e = 100)) : mC κ q = some e := by
  unfold mC; rw [h]; exact if_neg h2
theorem mN_y {κ : wMu} {q : Nat} {e : va_E} (h : κ q = some e) (h2 : kd e = 4 ∨ kd e = 100) : mN κ q = some e := by
  unfold mN; rw [h]; exact if_pos h2
theorem mC_s {κ : wMu} (q : Nat) (e : va_E) (h : mC κ q = some e) : κ q = some e := by
  unfold mC at h
  cases hk : κ q with
  | none => rw [hk] at h; cases h
  | some e2 =>
    rw [hk] at h
    by_cases z : kd e2 = 4 ∨ kd e2 = 100
    · simp [z] at h
    · simp [z] at h; rw [h]
theorem mN_s {κ : wMu} (q : Nat) (e : va_E) (h : mN κ q = some e) : κ q = some e := by
  unfold mN at h
  cases hk : κ q with
  | none => rw [hk] at h; cases h
  | some e2 =>
    rw [hk] at h
    by_cases z : kd e2 = 4 ∨ kd e2 = 100
    · simp [z] at h; rw [h]
    · simp [z] at h
theorem mCN {κ : wMu} (q : Nat) (h : mC κ q ≠ none) : mN κ q = none := by
  unfold mC at h
  unfold mN
  cases hk : κ q with
  | none => rfl
  | some e2 =>
    rw [hk] at h
    by_cases z : kd e2 = 4 ∨ kd e2 = 100
    · simp [z] at h
    · simp [z]
theorem fD.flt {g : wG} {Λ σ : sSt} {xv : Option Int64} {μ : wMu} (hF : fD g Λ xv σ μ) : fD g Λ xv σ (mC μ) := by
  obtain ⟨f1, ⟨m1, f2⟩, ⟨m2, f3⟩, f4, f5, f6, f7, ⟨a, b, c, d, f8⟩, ⟨a1, b1, c1, d1, e1, f9⟩, f10, f11⟩ := hF
  have hk : ∀ z e, μ z = some e → Nat.beq (kd e) 4 = false → Nat.beq (kd e) 100 = false → mC μ z = some e := fun z e h h1 h2 => mC_y h (fun q => q.elim (Nat.ne_of_beq_eq_false h1) (Nat.ne_of_beq_eq_false h2))
  refine ⟨hk _ _ f1 rfl rfl, ⟨m1, hk _ _ f2 rfl rfl⟩, ⟨m2, hk _ _ f3 rfl rfl⟩, ?_, ?_, fun i h => hk _ _ (f6 i h) rfl rfl, fun i h => hk _ _ (f7 i h) rfl rfl, ⟨a, b, c, d, hk _ _ f8 rfl rfl⟩, ⟨a1, b1, c1, d1, e1, hk _ _ f9 rfl rfl⟩, f10, fun v h => hk _ _ (f11 v h) rfl rfl⟩
  · rcases f4 with h | ⟨f, h1, h2⟩
    · exact Or.inl h
    · exact Or.inr ⟨f, hk _ _ h1 rfl rfl, h2⟩
  · rcases f5 with h | ⟨f, h1, h2⟩
    · exact Or.inl h
    · exact Or.inr ⟨f, hk _ _ h1 rfl rfl, h2⟩
theorem mD.flt {g : wG} {Ω : Nat → Nat} {th : Nat} {σ : sSt} {μ : wMu} (hM : mD g Ω th σ μ) : mD g Ω th σ (mN μ) := by
  obtain ⟨r0, r5, r6, r7, r8, r9, r10, r11, r12, r13, hD⟩ := hM
  exact ⟨mN_y r0 (Or.inl rfl), mN_y r5 (Or.inr rfl), mN_y r6 (Or.inr rfl), mN_y r7 (Or.inr rfl), mN_y r8 (Or.inr rfl), mN_y r9 (Or.inr rfl), mN_y r10 (Or.inr rfl), mN_y r11 (Or.inr rfl), mN_y r12 (Or.inr rfl), mN_y r13 (Or.inr rfl), hD⟩
theorem mD.mono {g : wG} {Ω : Nat → Nat} {th : Nat} {σ : sSt} {μ μ' : wMu} (hM : mD g Ω th σ μ) (hm : ∀ z e, μ z = some e → μ' z = some e) : mD g Ω th σ μ' := by
  obtain ⟨r0, r5, r6, r7, r8, r9, r10, r11, r12, r13, hD⟩ := hM
  exact ⟨hm _ _ r0, hm _ _ r5, hm _ _ r6, hm _ _ r7, hm _ _ r8, hm _ _ r9, hm _ _ r10, hm _ _ r11, hm _ _ r12, hm _ _ r13, hD⟩
theorem fD.put9 {g : wG} {Λ σ : sSt} {μ : wMu} (hF : fD g Λ none σ μ) {q : Nat} {v : Int64} (h : μ q = some (cJ g v)) : fD g (up2 Λ 9 0 q) (some v) σ μ := by
  obtain ⟨f1, f2, f3, f4, f5, f6, f7, f8, f9, f10, f11⟩ := hF
  have e : ∀ k i, k ≠ 9 → up2 Λ 9 0 q k i = Λ k i := fun k i hk => up2_nf Λ hk
  have e7 : up2 Λ 9 0 q 7 = Λ 7 := funext fun i => e 7 i (by omega)
  have e8 : up2 Λ 9 0 q 8 = Λ 8 := funext fun i => e 8 i (by omega)
  have hcC : ∀ j, cC (up2 Λ 9 0 q) σ j = cC Λ σ j := fun j => by simp only [cC, e7]
  have hcF : cF (up2 Λ 9 0 q) σ = cF Λ σ := by simp only [cF, e 1 0 (by omega), e 2 0 (by omega), e 5 0 (by omega), e 6 0 (by omega)]
  refine ⟨?_, ?_, ?_, ?_, ?_, ?_, ?_, ?_, ?_, ?_, ?_⟩
  · rw [e 0 0 (by omega), hcF]; exact f1
  · rw [e 1 0 (by omega), e 3 0 (by omega)]; exact f2
  · rw [e 2 0 (by omega), e 4 0 (by omega)]; exact f3
  · rw [e 3 0 (by omega), e7]; exact f4
  · rw [e 4 0 (by omega), e8]; exact f5
  · rw [e7]; exact f6
  · intro j hj; rw [e8, hcC]; exact f7 j hj
  · rw [e 5 0 (by omega)]; exact f8
  · rw [e 6 0 (by omega), e 5 0 (by omega)]; exact f9
  · rw [e 1 0 (by omega), e 2 0 (by omega), e 3 0 (by omega), e 4 0 (by omega), e 5 0 (by omega), e 6 0 (by omega), e7, e8]; exact f10
  · intro v' hv; cases hv; rw [up2_self]; exact h
theorem dfX3 : ∀ j, j < 15 → defaultValue (tyX3 j) = vp_V [.int 0, .int 0, .int 0, .int 0, .int 0, .int 0, .null, .null, .null, .null, .null, .null, .null, .null, .null] j := by
  intro j hj
  rcases j with _ | _ | _ | _ | _ | _ | _ | _ | _ | _ | _ | _ | _ | _ | _ | j
  all_goals first | rfl | omega
