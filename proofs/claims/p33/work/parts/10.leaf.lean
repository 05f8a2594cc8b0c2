/-! WAND AND CHILD -/
def fwG (sz du bu he : Nat) : Nat := if he = 0 ∧ sz ≤ bu + du then 1 else 0
def fwD (sz du bu he : Nat) : Nat := if he = 0 ∧ sz ≤ bu + du then du - (sz - bu) else du
def fwB (sz du bu he : Nat) : Nat := if he = 0 ∧ sz ≤ bu + du then bu - sz else bu
def fwH (sz du bu he mk nx : Nat) : Nat := if he = 0 ∧ sz ≤ bu + du then he else if 0 < he then min 48 (he + 1) else if 2 ≤ mk then nx else he
def fwM (sz du bu he mk : Nat) : Nat := if he = 0 ∧ sz ≤ bu + du then mk - 1 else if 0 < he then mk else if 2 ≤ mk then 0 else mk + 1
def fwN (sz du bu he mk nx : Nat) : Nat := if he = 0 ∧ sz ≤ bu + du then nx else if 0 < he then nx else if 2 ≤ mk then min 32 (nx * 2) else nx
def bstD (bd d : Nat) : Nat := if d % 30 = bd then 12 else 0
def bstH (bd bu h : Nat) : Nat := if h % 24 = 0 then bstD bd (h / 24) else bu

set_option maxHeartbeats 4000000 in
set_option maxRecDepth 100000 in
/-- a new wand -/
theorem c_X1_init (l : Launch) (g : wG) (μ : wMu) (zz : Nat) {o : Nat} {n rm fl : Int32} {z0 z1 z2 z3 : Int32} (h0 : μ o = some (.inr (2, [.int z0, .int z1, .int z2, .int z3]))) : wMet l yX1_init cX1_init 4 none 1 0 0 12 g [.ref o, .int n, .int rm, .int fl] μ zz (fun r μ' => r = none ∧ μ' o = some (.inr (2, [.int n, .int rm, .int fl, .int rm])) ∧ ∀ q, q ≠ o → μ' q = μ q) := by
  refine wMet.of (by decide) (Nat.le_of_ble_eq_true rfl) ?_
  intro p e s m below meth c ls hx hb hr hml hown hlocks hin hl hsz hX
  have hl : lv_has ls 4 [(0, .ref o), (1, .int n), (2, .int rm), (3, .int fl)] := hl
  refine lv_aload_n hx hb dX1_init_0 rfl (lv_at hl 0 rfl) ?_
  refine W.objInit hx hb hown (hX.w kw59) (hX.w kInsObj) (hX.w kCdObj) rfl (by rw [hml]; exact hl.1) rfl dX1_init_1 (Nat.le_of_ble_eq_true rfl) (Nat.le_of_ble_eq_true rfl) ?_
  refine W.eq (g2 := F0 m 4 ls []) rfl ?_
  refine lv_aload_n hx hb dX1_init_4 rfl (lv_at hl 0 rfl) ?_
  refine lv_iload_n hx hb dX1_init_5 rfl (lv_at hl 1 rfl) ?_
  refine pX1_0 hx hb hX hown h0 kw60 dX1_init_6 (fun H locs hX => ?_)
  obtain ⟨μ_1, e_2⟩ : ∃ z, z = va_up μ o (some (.inr (2, [.int n, .int z1, .int z2, .int z3]))) := ⟨_, rfl⟩
  rw [← e_2] at hX
  have k_3 : μ_1 o = some (.inr (2, [.int n, .int z1, .int z2, .int z3])) := by rw [e_2]; exact va_up_self _ _ _
  refine lv_aload_n hx hb dX1_init_9 rfl (lv_at hl 0 rfl) ?_
  refine lv_iload_n hx hb dX1_init_10 rfl (lv_at hl 2 rfl) ?_
  refine pX1_1 hx hb hX hown k_3 kw62 dX1_init_11 (fun H locs hX => ?_)
  obtain ⟨μ_4, e_5⟩ : ∃ z, z = va_up μ_1 o (some (.inr (2, [.int n, .int rm, .int z2, .int z3]))) := ⟨_, rfl⟩
  rw [← e_5] at hX
  have k_6 : μ_4 o = some (.inr (2, [.int n, .int rm, .int z2, .int z3])) := by rw [e_5]; exact va_up_self _ _ _
  refine lv_aload_n hx hb dX1_init_14 rfl (lv_at hl 0 rfl) ?_
  refine lv_iload_n hx hb dX1_init_15 rfl (lv_at hl 3 rfl) ?_
  refine pX1_2 hx hb hX hown k_6 kw63 dX1_init_16 (fun H locs hX => ?_)
  obtain ⟨μ_7, e_8⟩ : ∃ z, z = va_up μ_4 o (some (.inr (2, [.int n, .int rm, .int fl, .int z3]))) := ⟨_, rfl⟩
  rw [← e_8] at hX
  have k_9 : μ_7 o = some (.inr (2, [.int n, .int rm, .int fl, .int z3])) := by rw [e_8]; exact va_up_self _ _ _
  refine lv_aload_n hx hb dX1_init_19 rfl (lv_at hl 0 rfl) ?_
  refine lv_iload_n hx hb dX1_init_20 rfl (lv_at hl 2 rfl) ?_
  refine pX1_3 hx hb hX hown k_9 kw65 dX1_init_21 (fun H locs hX => ?_)
  obtain ⟨μ_10, e_11⟩ : ∃ z, z = va_up μ_7 o (some (.inr (2, [.int n, .int rm, .int fl, .int rm]))) := ⟨_, rfl⟩
  rw [← e_11] at hX
  have k_12 : μ_10 o = some (.inr (2, [.int n, .int rm, .int fl, .int rm])) := by rw [e_11]; exact va_up_self _ _ _
  exact w_vret hx hb hr hlocks hX ⟨rfl, k_12, fun q n1 => by rw [e_11, va_up_ne _ _ n1, e_8, va_up_ne _ _ n1, e_5, va_up_ne _ _ n1, e_2, va_up_ne _ _ n1]⟩ ⟨Nat.le_of_ble_eq_true rfl, Nat.le_of_ble_eq_true rfl⟩ dX1_init_24

set_option maxHeartbeats 4000000 in
set_option maxRecDepth 100000 in
/-- the other one's cells -/
theorem c_X1_copyFrom (l : Launch) (g : wG) (μ : wMu) (zz : Nat) {o o2 : Nat} {n rm fl du : Int32} {z0 z1 z2 z3 : Int32} (h0 : μ o = some (.inr (2, [.int z0, .int z1, .int z2, .int z3]))) (h1 : μ o2 = some (.inr (2, [.int n, .int rm, .int fl, .int du]))) (hne : o2 ≠ o) : wMet l yX1_copyFrom cX1_copyFrom 2 none 0 0 0 0 g [.ref o, .ref o2] μ zz (fun r μ' => r = none ∧ μ' o = some (.inr (2, [.int n, .int rm, .int fl, .int du])) ∧ ∀ q, q ≠ o → μ' q = μ q) := by
  refine wMet.of (by decide) (Nat.le_of_ble_eq_true rfl) ?_
  intro p e s m below meth c ls hx hb hr hml hown hlocks hin hl hsz hX
  have hl : lv_has ls 2 [(0, .ref o), (1, .ref o2)] := hl
  refine lv_aload_n hx hb dX1_copyFrom_0 rfl (lv_at hl 0 rfl) ?_
  refine lv_aload_n hx hb dX1_copyFrom_1 rfl (lv_at hl 1 rfl) ?_
  refine gX1_0 hx hb hX hown h1 kw60 dX1_copyFrom_2 ?_
  refine pX1_0 hx hb hX hown h0 kw60 dX1_copyFrom_5 (fun H locs hX => ?_)
  obtain ⟨μ_1, e_2⟩ : ∃ z, z = va_up μ o (some (.inr (2, [.int n, .int z1, .int z2, .int z3]))) := ⟨_, rfl⟩
  rw [← e_2] at hX
  have k_3 : μ_1 o = some (.inr (2, [.int n, .int z1, .int z2, .int z3])) := by rw [e_2]; exact va_up_self _ _ _
  have k_4 := (congrFun e_2 o2).trans ((va_up_ne _ _ hne).trans h1)
  refine lv_aload_n hx hb dX1_copyFrom_8 rfl (lv_at hl 0 rfl) ?_
  refine lv_aload_n hx hb dX1_copyFrom_9 rfl (lv_at hl 1 rfl) ?_
  refine gX1_1 hx hb hX hown k_4 kw62 dX1_copyFrom_10 ?_
  refine pX1_1 hx hb hX hown k_3 kw62 dX1_copyFrom_13 (fun H locs hX => ?_)
  obtain ⟨μ_5, e_6⟩ : ∃ z, z = va_up μ_1 o (some (.inr (2, [.int n, .int rm, .int z2, .int z3]))) := ⟨_, rfl⟩
  rw [← e_6] at hX
  have k_7 : μ_5 o = some (.inr (2, [.int n, .int rm, .int z2, .int z3])) := by rw [e_6]; exact va_up_self _ _ _
  have k_8 := (congrFun e_6 o2).trans ((va_up_ne _ _ hne).trans k_4)
  refine lv_aload_n hx hb dX1_copyFrom_16 rfl (lv_at hl 0 rfl) ?_
  refine lv_aload_n hx hb dX1_copyFrom_17 rfl (lv_at hl 1 rfl) ?_
  refine gX1_2 hx hb hX hown k_8 kw63 dX1_copyFrom_18 ?_
  refine pX1_2 hx hb hX hown k_7 kw63 dX1_copyFrom_21 (fun H locs hX => ?_)
  obtain ⟨μ_9, e_10⟩ : ∃ z, z = va_up μ_5 o (some (.inr (2, [.int n, .int rm, .int fl, .int z3]))) := ⟨_, rfl⟩
  rw [← e_10] at hX
  have k_11 : μ_9 o = some (.inr (2, [.int n, .int rm, .int fl, .int z3])) := by rw [e_10]; exact va_up_self _ _ _
  have k_12 := (congrFun e_10 o2).trans ((va_up_ne _ _ hne).trans k_8)
  refine lv_aload_n hx hb dX1_copyFrom_24 rfl (lv_at hl 0 rfl) ?_
  refine lv_aload_n hx hb dX1_copyFrom_25 rfl (lv_at hl 1 rfl) ?_
  refine gX1_3 hx hb hX hown k_12 kw65 dX1_copyFrom_26 ?_
  refine pX1_3 hx hb hX hown k_11 kw65 dX1_copyFrom_29 (fun H locs hX => ?_)
  obtain ⟨μ_13, e_14⟩ : ∃ z, z = va_up μ_9 o (some (.inr (2, [.int n, .int rm, .int fl, .int du]))) := ⟨_, rfl⟩
  rw [← e_14] at hX
  have k_15 : μ_13 o = some (.inr (2, [.int n, .int rm, .int fl, .int du])) := by rw [e_14]; exact va_up_self _ _ _
  have k_16 := (congrFun e_14 o2).trans ((va_up_ne _ _ hne).trans k_12)
  exact w_vret hx hb hr hlocks hX ⟨rfl, k_15, fun q n1 => by rw [e_14, va_up_ne _ _ n1, e_10, va_up_ne _ _ n1, e_6, va_up_ne _ _ n1, e_2, va_up_ne _ _ n1]⟩ ⟨Nat.le_of_ble_eq_true rfl, Nat.le_of_ble_eq_true rfl⟩ dX1_copyFrom_32

set_option maxHeartbeats 4000000 in
set_option maxRecDepth 100000 in
/-- dust falls -/
theorem c_X1_letFall (l : Launch) (g : wG) (μ : wMu) (zz : Nat) {o : Nat} {n : Int32} {rm fl du : Nat} (h0 : μ o = some (.inr (2, [.int n, .int (nI rm), .int (nI fl), .int (nI du)]))) (b1 : du ≤ rm) (b2 : rm ≤ 60) (b3 : fl ≤ 20) : wMet l yX1_letFall cX1_letFall 2 (some .int) 1 0 0 21 g [.ref o] μ zz (fun r μ' => r = some (.int (nI (min fl (rm - du)))) ∧ μ' o = some (.inr (2, [.int n, .int (nI rm), .int (nI fl), .int (nI (du + min fl (rm - du)))])) ∧ ∀ q, q ≠ o → μ' q = μ q) := by
  refine wMet.of (by decide) (Nat.le_of_ble_eq_true rfl) ?_
  intro p e s m below meth c ls hx hb hr hml hown hlocks hin hl hsz hX
  have hl : lv_has ls 2 [(0, .ref o)] := hl
  refine lv_aload_n hx hb dX1_letFall_0 rfl (lv_at hl 0 rfl) ?_
  refine gX1_2 hx hb hX hown h0 kw63 dX1_letFall_1 ?_
  refine lv_aload_n hx hb dX1_letFall_4 rfl (lv_at hl 0 rfl) ?_
  refine gX1_1 hx hb hX hown h0 kw62 dX1_letFall_5 ?_
  refine lv_aload_n hx hb dX1_letFall_8 rfl (lv_at hl 0 rfl) ?_
  refine gX1_3 hx hb hX hown h0 kw65 dX1_letFall_9 ?_
  refine n_isub hx hb dX1_letFall_12 (pk_sub (by omega)) ?_
  refine n_mmin hx hb (hml.trans hl.1.symm) hX hown kw292 kStMin kInMath kCdMin ⟨Nat.le_of_ble_eq_true rfl, Nat.le_of_ble_eq_true rfl⟩ ⟨Nat.le_of_ble_eq_true rfl, Nat.le_of_ble_eq_true rfl⟩ dX1_letFall_13 (nI_min (by omega) (by omega)) ?_
  refine lv_istore_n (lv' := [(1, .int (nI (min fl (rm - du)))), (0, .ref o)]) hx hb dX1_letFall_16 rfl hl (by decide) rfl (fun ls hl => ?_)
  refine lv_aload_n hx hb dX1_letFall_17 rfl (lv_at hl 1 rfl) ?_
  refine lv_dup hx hb dX1_letFall_18 rfl ?_
  refine gX1_3 hx hb hX hown h0 kw65 dX1_letFall_19 ?_
  refine lv_iload_n hx hb dX1_letFall_22 rfl (lv_at hl 0 rfl) ?_
  refine n_iadd hx hb dX1_letFall_23 (nI_add _ _) ?_
  refine pX1_3 hx hb hX hown h0 kw65 dX1_letFall_24 (fun H locs hX => ?_)
  obtain ⟨μ_1, e_2⟩ : ∃ z, z = va_up μ o (some (.inr (2, [.int n, .int (nI rm), .int (nI fl), .int (nI (du + (min fl (rm - du))))]))) := ⟨_, rfl⟩
  rw [← e_2] at hX
  have k_3 : μ_1 o = some (.inr (2, [.int n, .int (nI rm), .int (nI fl), .int (nI (du + (min fl (rm - du))))])) := by rw [e_2]; exact va_up_self _ _ _
  refine lv_iload_n hx hb dX1_letFall_27 rfl (lv_at hl 0 rfl) ?_
  exact w_iret hx hb hr hlocks hX ⟨rfl, k_3, fun q n1 => by rw [e_2, va_up_ne _ _ n1]⟩ ⟨Nat.le_of_ble_eq_true rfl, Nat.le_of_ble_eq_true rfl⟩ dX1_letFall_28

set_option maxHeartbeats 4000000 in
set_option maxRecDepth 100000 in
/-- full in so many hours -/
theorem c_X1_isFullAfter (l : Launch) (g : wG) (μ : wMu) (zz : Nat) {o : Nat} {n : Int32} {rm fl du h : Nat} (h0 : μ o = some (.inr (2, [.int n, .int (nI rm), .int (nI fl), .int (nI du)]))) (b2 : rm ≤ 60) (b3 : du + fl * h ≤ 100000) : wMet l yX1_isFullAfter cX1_isFullAfter 2 (some .boolean) 0 0 0 0 g [.ref o, .int (nI h)] μ zz (fun r μ' => ((r = some (.int (nI 1)) ∧ rm ≤ du + fl * h) ∨ (r = some (.int (nI 0)) ∧ du + fl * h < rm)) ∧ μ' = μ) := by
  refine wMet.of (by decide) (Nat.le_of_ble_eq_true rfl) ?_
  intro p e s m below meth c ls hx hb hr hml hown hlocks hin hl hsz hX
  have hl : lv_has ls 2 [(0, .ref o), (1, .int (nI h))] := hl
  refine lv_aload_n hx hb dX1_isFullAfter_0 rfl (lv_at hl 0 rfl) ?_
  refine gX1_3 hx hb hX hown h0 kw65 dX1_isFullAfter_1 ?_
  refine lv_aload_n hx hb dX1_isFullAfter_4 rfl (lv_at hl 0 rfl) ?_
  refine gX1_2 hx hb hX hown h0 kw63 dX1_isFullAfter_5 ?_
  refine lv_iload_n hx hb dX1_isFullAfter_8 rfl (lv_at hl 1 rfl) ?_
  refine n_imul hx hb dX1_isFullAfter_9 (pk_mul _ _) ?_
  refine n_iadd hx hb dX1_isFullAfter_10 (nI_add _ _) ?_
  refine lv_aload_n hx hb dX1_isFullAfter_11 rfl (lv_at hl 0 rfl) ?_
  refine gX1_1 hx hb hX hown h0 kw62 dX1_isFullAfter_12 ?_
  refine n_lt (tgt := 22) hx hb (by omega) (by omega) dX1_isFullAfter_15 (by decide) (fun c_1 => ?_) (fun c_1 => ?_)
  · skip
    refine lv_iconst (v := nI 0) hx hb dX1_isFullAfter_22 (by decide) ?_
    exact w_zret hx hb hr hlocks hX (by first | rfl | decide) ⟨Or.inr ⟨rfl, by omega⟩, rfl⟩ ⟨Nat.le_of_ble_eq_true rfl, Nat.le_of_ble_eq_true rfl⟩ dX1_isFullAfter_23
  · skip
    refine lv_iconst (v := nI 1) hx hb dX1_isFullAfter_18 (by decide) ?_
    refine lv_goto (tgt := 23) hx hb dX1_isFullAfter_19 (by decide) ?_
    exact w_zret hx hb hr hlocks hX (by first | rfl | decide) ⟨Or.inl ⟨rfl, by omega⟩, rfl⟩ ⟨Nat.le_of_ble_eq_true rfl, Nat.le_of_ble_eq_true rfl⟩ dX1_isFullAfter_23

set_option maxHeartbeats 4000000 in
set_option maxRecDepth 100000 in
/-- a new child -/
theorem c_X0_init (l : Launch) (g : wG) (μ : wMu) (zz : Nat) {o w : Nat} {bd : Int32} {z1 : Int32} (h0 : μ o = some (.inr (1, [.null, .int z1, .int 0, .int 0, .int 0, .int 0]))) : wMet l yX0_init cX0_init 3 none 1 0 0 12 g [.ref o, .ref w, .int bd] μ zz (fun r μ' => r = none ∧ μ' o = some (.inr (1, [.ref w, .int bd, .int 0, .int 0, .int 0, .int (nI 4)])) ∧ ∀ q, q ≠ o → μ' q = μ q) := by
  refine wMet.of (by decide) (Nat.le_of_ble_eq_true rfl) ?_
  intro p e s m below meth c ls hx hb hr hml hown hlocks hin hl hsz hX
  have hl : lv_has ls 3 [(0, .ref o), (1, .ref w), (2, .int bd)] := hl
  refine lv_aload_n hx hb dX0_init_0 rfl (lv_at hl 0 rfl) ?_
  refine W.objInit hx hb hown (hX.w kw82) (hX.w kInsObj) (hX.w kCdObj) rfl (by rw [hml]; exact hl.1) rfl dX0_init_1 (Nat.le_of_ble_eq_true rfl) (Nat.le_of_ble_eq_true rfl) ?_
  refine W.eq (g2 := F0 m 4 ls []) rfl ?_
  refine lv_aload_n hx hb dX0_init_4 rfl (lv_at hl 0 rfl) ?_
  refine lv_aload_n hx hb dX0_init_5 rfl (lv_at hl 1 rfl) ?_
  refine pX0_0 hx hb hX hown h0 kw83 dX0_init_6 (fun H locs hX => ?_)
  obtain ⟨μ_1, e_2⟩ : ∃ z, z = va_up μ o (some (.inr (1, [.ref w, .int z1, .int 0, .int 0, .int 0, .int 0]))) := ⟨_, rfl⟩
  rw [← e_2] at hX
  have k_3 : μ_1 o = some (.inr (1, [.ref w, .int z1, .int 0, .int 0, .int 0, .int 0])) := by rw [e_2]; exact va_up_self _ _ _
  refine lv_aload_n hx hb dX0_init_9 rfl (lv_at hl 0 rfl) ?_
  refine lv_iload_n hx hb dX0_init_10 rfl (lv_at hl 2 rfl) ?_
  refine pX0_1 hx hb hX hown k_3 kw85 dX0_init_11 (fun H locs hX => ?_)
  obtain ⟨μ_4, e_5⟩ : ∃ z, z = va_up μ_1 o (some (.inr (1, [.ref w, .int bd, .int 0, .int 0, .int 0, .int 0]))) := ⟨_, rfl⟩
  rw [← e_5] at hX
  have k_6 : μ_4 o = some (.inr (1, [.ref w, .int bd, .int 0, .int 0, .int 0, .int 0])) := by rw [e_5]; exact va_up_self _ _ _
  refine lv_aload_n hx hb dX0_init_14 rfl (lv_at hl 0 rfl) ?_
  refine lv_iconst (v := nI 4) hx hb dX0_init_15 (by decide) ?_
  refine pX0_5 hx hb hX hown k_6 kw93 dX0_init_16 (fun H locs hX => ?_)
  obtain ⟨μ_7, e_8⟩ : ∃ z, z = va_up μ_4 o (some (.inr (1, [.ref w, .int bd, .int 0, .int 0, .int 0, .int (nI 4)]))) := ⟨_, rfl⟩
  rw [← e_8] at hX
  have k_9 : μ_7 o = some (.inr (1, [.ref w, .int bd, .int 0, .int 0, .int 0, .int (nI 4)])) := by rw [e_8]; exact va_up_self _ _ _
  exact w_vret hx hb hr hlocks hX ⟨rfl, k_9, fun q n1 => by rw [e_8, va_up_ne _ _ n1, e_5, va_up_ne _ _ n1, e_2, va_up_ne _ _ n1]⟩ ⟨Nat.le_of_ble_eq_true rfl, Nat.le_of_ble_eq_true rfl⟩ dX0_init_19

set_option maxHeartbeats 4000000 in
set_option maxRecDepth 100000 in
/-- the other one's cells but the wand -/
theorem c_X0_copyFrom (l : Launch) (g : wG) (μ : wMu) (zz : Nat) {o o2 w0 w2 : Nat} {bd bu he mk nx : Int32} {z1 z2 z3 z4 z5 : Int32} (h0 : μ o = some (.inr (1, [.ref w0, .int z1, .int z2, .int z3, .int z4, .int z5]))) (h1 : μ o2 = some (.inr (1, [.ref w2, .int bd, .int bu, .int he, .int mk, .int nx]))) (hne : o2 ≠ o) : wMet l yX0_copyFrom cX0_copyFrom 2 none 0 0 0 0 g [.ref o, .ref o2] μ zz (fun r μ' => r = none ∧ μ' o = some (.inr (1, [.ref w0, .int bd, .int bu, .int he, .int mk, .int nx])) ∧ ∀ q, q ≠ o → μ' q = μ q) := by
  refine wMet.of (by decide) (Nat.le_of_ble_eq_true rfl) ?_
  intro p e s m below meth c ls hx hb hr hml hown hlocks hin hl hsz hX
  have hl : lv_has ls 2 [(0, .ref o), (1, .ref o2)] := hl
  refine lv_aload_n hx hb dX0_copyFrom_0 rfl (lv_at hl 0 rfl) ?_
  refine lv_aload_n hx hb dX0_copyFrom_1 rfl (lv_at hl 1 rfl) ?_
  refine gX0_1 hx hb hX hown h1 kw85 dX0_copyFrom_2 ?_
  refine pX0_1 hx hb hX hown h0 kw85 dX0_copyFrom_5 (fun H locs hX => ?_)
  obtain ⟨μ_1, e_2⟩ : ∃ z, z = va_up μ o (some (.inr (1, [.ref w0, .int bd, .int z2, .int z3, .int z4, .int z5]))) := ⟨_, rfl⟩
  rw [← e_2] at hX
  have k_3 : μ_1 o = some (.inr (1, [.ref w0, .int bd, .int z2, .int z3, .int z4, .int z5])) := by rw [e_2]; exact va_up_self _ _ _
  have k_4 := (congrFun e_2 o2).trans ((va_up_ne _ _ hne).trans h1)
  refine lv_aload_n hx hb dX0_copyFrom_8 rfl (lv_at hl 0 rfl) ?_
  refine lv_aload_n hx hb dX0_copyFrom_9 rfl (lv_at hl 1 rfl) ?_
  refine gX0_2 hx hb hX hown k_4 kw87 dX0_copyFrom_10 ?_
  refine pX0_2 hx hb hX hown k_3 kw87 dX0_copyFrom_13 (fun H locs hX => ?_)
  obtain ⟨μ_5, e_6⟩ : ∃ z, z = va_up μ_1 o (some (.inr (1, [.ref w0, .int bd, .int bu, .int z3, .int z4, .int z5]))) := ⟨_, rfl⟩
  rw [← e_6] at hX
  have k_7 : μ_5 o = some (.inr (1, [.ref w0, .int bd, .int bu, .int z3, .int z4, .int z5])) := by rw [e_6]; exact va_up_self _ _ _
  have k_8 := (congrFun e_6 o2).trans ((va_up_ne _ _ hne).trans k_4)
  refine lv_aload_n hx hb dX0_copyFrom_16 rfl (lv_at hl 0 rfl) ?_
  refine lv_aload_n hx hb dX0_copyFrom_17 rfl (lv_at hl 1 rfl) ?_
  refine gX0_3 hx hb hX hown k_8 kw89 dX0_copyFrom_18 ?_
  refine pX0_3 hx hb hX hown k_7 kw89 dX0_copyFrom_21 (fun H locs hX => ?_)
  obtain ⟨μ_9, e_10⟩ : ∃ z, z = va_up μ_5 o (some (.inr (1, [.ref w0, .int bd, .int bu, .int he, .int z4, .int z5]))) := ⟨_, rfl⟩
  rw [← e_10] at hX
  have k_11 : μ_9 o = some (.inr (1, [.ref w0, .int bd, .int bu, .int he, .int z4, .int z5])) := by rw [e_10]; exact va_up_self _ _ _
  have k_12 := (congrFun e_10 o2).trans ((va_up_ne _ _ hne).trans k_8)
  refine lv_aload_n hx hb dX0_copyFrom_24 rfl (lv_at hl 0 rfl) ?_
  refine lv_aload_n hx hb dX0_copyFrom_25 rfl (lv_at hl 1 rfl) ?_
  refine gX0_4 hx hb hX hown k_12 kw91 dX0_copyFrom_26 ?_
  refine pX0_4 hx hb hX hown k_11 kw91 dX0_copyFrom_29 (fun H locs hX => ?_)
  obtain ⟨μ_13, e_14⟩ : ∃ z, z = va_up μ_9 o (some (.inr (1, [.ref w0, .int bd, .int bu, .int he, .int mk, .int z5]))) := ⟨_, rfl⟩
  rw [← e_14] at hX
  have k_15 : μ_13 o = some (.inr (1, [.ref w0, .int bd, .int bu, .int he, .int mk, .int z5])) := by rw [e_14]; exact va_up_self _ _ _
  have k_16 := (congrFun e_14 o2).trans ((va_up_ne _ _ hne).trans k_12)
  refine lv_aload_n hx hb dX0_copyFrom_32 rfl (lv_at hl 0 rfl) ?_
  refine lv_aload_n hx hb dX0_copyFrom_33 rfl (lv_at hl 1 rfl) ?_
  refine gX0_5 hx hb hX hown k_16 kw93 dX0_copyFrom_34 ?_
  refine pX0_5 hx hb hX hown k_15 kw93 dX0_copyFrom_37 (fun H locs hX => ?_)
  obtain ⟨μ_17, e_18⟩ : ∃ z, z = va_up μ_13 o (some (.inr (1, [.ref w0, .int bd, .int bu, .int he, .int mk, .int nx]))) := ⟨_, rfl⟩
  rw [← e_18] at hX
  have k_19 : μ_17 o = some (.inr (1, [.ref w0, .int bd, .int bu, .int he, .int mk, .int nx])) := by rw [e_18]; exact va_up_self _ _ _
  have k_20 := (congrFun e_18 o2).trans ((va_up_ne _ _ hne).trans k_16)
  exact w_vret hx hb hr hlocks hX ⟨rfl, k_19, fun q n1 => by rw [e_18, va_up_ne _ _ n1, e_14, va_up_ne _ _ n1, e_10, va_up_ne _ _ n1, e_6, va_up_ne _ _ n1, e_2, va_up_ne _ _ n1]⟩ ⟨Nat.le_of_ble_eq_true rfl, Nat.le_of_ble_eq_true rfl⟩ dX0_copyFrom_40

set_option maxHeartbeats 4000000 in
set_option maxRecDepth 100000 in
/-- punished or not -/
theorem c_X0_isPunished (l : Launch) (g : wG) (μ : wMu) (zz : Nat) {o w : Nat} {bd bu he mk nx : Nat} (h0 : μ o = some (.inr (1, [.ref w, .int (nI bd), .int (nI bu), .int (nI he), .int (nI mk), .int (nI nx)]))) (b2 : he ≤ 48) : wMet l yX0_isPunished cX0_isPunished 1 (some .boolean) 0 0 0 0 g [.ref o] μ zz (fun r μ' => ((r = some (.int (nI 1)) ∧ 0 < he) ∨ (r = some (.int (nI 0)) ∧ he = 0)) ∧ μ' = μ) := by
  refine wMet.of (by decide) (Nat.le_of_ble_eq_true rfl) ?_
  intro p e s m below meth c ls hx hb hr hml hown hlocks hin hl hsz hX
  have hl : lv_has ls 1 [(0, .ref o)] := hl
  refine lv_aload_n hx hb dX0_isPunished_0 rfl (lv_at hl 0 rfl) ?_
  refine gX0_3 hx hb hX hown h0 kw89 dX0_isPunished_1 ?_
  refine n_if_le (tgt := 11) hx hb (by omega) dX0_isPunished_4 (by decide) (fun c_1 => ?_) (fun c_1 => ?_)
  · skip
    refine lv_iconst (v := nI 0) hx hb dX0_isPunished_11 (by decide) ?_
    exact w_zret hx hb hr hlocks hX (by first | rfl | decide) ⟨Or.inr ⟨rfl, by omega⟩, rfl⟩ ⟨Nat.le_of_ble_eq_true rfl, Nat.le_of_ble_eq_true rfl⟩ dX0_isPunished_12
  · skip
    refine lv_iconst (v := nI 1) hx hb dX0_isPunished_7 (by decide) ?_
    refine lv_goto (tgt := 12) hx hb dX0_isPunished_8 (by decide) ?_
    exact w_zret hx hb hr hlocks hX (by first | rfl | decide) ⟨Or.inl ⟨rfl, by omega⟩, rfl⟩ ⟨Nat.le_of_ble_eq_true rfl, Nat.le_of_ble_eq_true rfl⟩ dX0_isPunished_12

set_option maxHeartbeats 4000000 in
set_option maxRecDepth 100000 in
/-- what it may take -/
theorem c_X0_grainsAtHand (l : Launch) (g : wG) (μ : wMu) (zz : Nat) {o w : Nat} {bd bu he mk nx : Nat} (h0 : μ o = some (.inr (1, [.ref w, .int (nI bd), .int (nI bu), .int (nI he), .int (nI mk), .int (nI nx)]))) {n : Int32} {rm fl du : Nat} (h1 : μ w = some (.inr (2, [.int n, .int (nI rm), .int (nI fl), .int (nI du)]))) (b1 : bu ≤ 12) (b2 : he ≤ 48) (b5 : du ≤ 60)  : wMet l yX0_grainsAtHand cX0_grainsAtHand 1 (some .int) 1 0 0 20 g [.ref o] μ zz (fun r μ' => ((r = some (.int (nI 0)) ∧ 0 < he) ∨ (r = some (.int (nI (bu + du))) ∧ he = 0)) ∧ μ' = μ) := by
  refine wMet.of (by decide) (Nat.le_of_ble_eq_true rfl) ?_
  intro p e s m below meth c ls hx hb hr hml hown hlocks hin hl hsz hX
  have hl : lv_has ls 1 [(0, .ref o)] := hl
  refine lv_aload_n hx hb dX0_grainsAtHand_0 rfl (lv_at hl 0 rfl) ?_
  refine w_call (w_runV (n := 0) (As := []) (rest := []) hx hb hml hown hX (c_X0_isPunished l g μ s.heap.size h0 b2) kw261 kw6 kw258 kw260 kp5 wn_X0_isPunished rfl h0 rfl ⟨Nat.le_of_ble_eq_true rfl, Nat.le_of_ble_eq_true rfl⟩ hl.1 rfl (Nat.le_of_ble_eq_true rfl) dX0_grainsAtHand_1 ⟨Nat.le_of_ble_eq_true rfl, Nat.le_of_ble_eq_true rfl⟩) hX (fun r_3 μ_1 H locs q_2 hX hz => ?_)
  obtain ⟨q_7, e_6⟩ := q_2
  rw [e_6] at hX
  obtain ⟨rfl, p_4⟩ | ⟨rfl, p_5⟩ := q_7
  · skip
    refine W.eq (g2 := F0 m 4 ls [.int (nI 1)]) rfl ?_
    refine n_if_eq (tgt := 11) hx hb (by omega) dX0_grainsAtHand_4 (by decide) (fun h => absurd h (by omega)) (fun _ => ?_)
    refine lv_iconst (v := nI 0) hx hb dX0_grainsAtHand_7 (by decide) ?_
    refine lv_goto (tgt := 23) hx hb dX0_grainsAtHand_8 (by decide) ?_
    exact w_iret hx hb hr hlocks hX ⟨Or.inl ⟨rfl, by omega⟩, rfl⟩ ⟨Nat.le_of_ble_eq_true rfl, Nat.le_of_ble_eq_true rfl⟩ dX0_grainsAtHand_23
  · skip
    refine W.eq (g2 := F0 m 4 ls [.int (nI 0)]) rfl ?_
    refine n_if_eq (tgt := 11) hx hb (by omega) dX0_grainsAtHand_4 (by decide) (fun _ => ?_) (fun h => absurd h (by omega))
    refine lv_aload_n hx hb dX0_grainsAtHand_11 rfl (lv_at hl 0 rfl) ?_
    refine gX0_2 hx hb hX hown h0 kw87 dX0_grainsAtHand_12 ?_
    refine lv_aload_n hx hb dX0_grainsAtHand_15 rfl (lv_at hl 0 rfl) ?_
    refine gX0_0 hx hb hX hown h0 kw83 dX0_grainsAtHand_16 ?_
    refine gnX1_3 hx hb hX hown h1 kw66 dX0_grainsAtHand_19 ?_
    refine n_iadd hx hb dX0_grainsAtHand_22 (nI_add _ _) ?_
    exact w_iret hx hb hr hlocks hX ⟨Or.inr ⟨rfl, by omega⟩, rfl⟩ ⟨Nat.le_of_ble_eq_true rfl, Nat.le_of_ble_eq_true rfl⟩ dX0_grainsAtHand_23

set_option maxHeartbeats 4000000 in
set_option maxRecDepth 100000 in
/-- whether it is granted -/
theorem c_X0_canHave (l : Launch) (g : wG) (μ : wMu) (zz : Nat) {o w : Nat} {bd bu he mk nx : Nat} (h0 : μ o = some (.inr (1, [.ref w, .int (nI bd), .int (nI bu), .int (nI he), .int (nI mk), .int (nI nx)]))) {n : Int32} {rm fl du : Nat} (h1 : μ w = some (.inr (2, [.int n, .int (nI rm), .int (nI fl), .int (nI du)]))) {sz : Nat} (b1 : bu ≤ 12) (b2 : he ≤ 48) (b5 : du ≤ 60) (b6 : 1 ≤ sz) (b7 : sz ≤ 20) : wMet l yX0_canHave cX0_canHave 2 (some .boolean) 2 0 0 40 g [.ref o, .int (nI sz)] μ zz (fun r μ' => ((r = some (.int (nI 1)) ∧ he = 0 ∧ sz ≤ bu + du) ∨ (r = some (.int (nI 0)) ∧ ¬ (he = 0 ∧ sz ≤ bu + du))) ∧ μ' = μ) := by
  refine wMet.of (by decide) (Nat.le_of_ble_eq_true rfl) ?_
  intro p e s m below meth c ls hx hb hr hml hown hlocks hin hl hsz hX
  have hl : lv_has ls 2 [(0, .ref o), (1, .int (nI sz))] := hl
  refine lv_aload_n hx hb dX0_canHave_0 rfl (lv_at hl 0 rfl) ?_
  refine w_call (w_runV (n := 0) (As := []) (rest := []) hx hb hml hown hX (c_X0_grainsAtHand l g μ s.heap.size h0 h1 b1 b2 b5) kw257 kw6 kw254 kw256 kp4 wn_X0_grainsAtHand rfl h0 rfl ⟨Nat.le_of_ble_eq_true rfl, Nat.le_of_ble_eq_true rfl⟩ hl.1 rfl (Nat.le_of_ble_eq_true rfl) dX0_canHave_1 ⟨Nat.le_of_ble_eq_true rfl, Nat.le_of_ble_eq_true rfl⟩) hX (fun r_3 μ_1 H locs q_2 hX hz => ?_)
  obtain ⟨q_7, e_6⟩ := q_2
  rw [e_6] at hX
  obtain ⟨rfl, p_4⟩ | ⟨rfl, p_5⟩ := q_7
  · skip
    refine W.eq (g2 := F0 m 4 ls [.int (nI 0)]) rfl ?_
    refine lv_iload_n hx hb dX0_canHave_4 rfl (lv_at hl 1 rfl) ?_
    refine n_lt (tgt := 12) hx hb (by omega) (by omega) dX0_canHave_5 (by decide) (fun c_8 => ?_) (fun c_8 => ?_)
    · skip
      refine lv_iconst (v := nI 0) hx hb dX0_canHave_12 (by decide) ?_
      exact w_zret hx hb hr hlocks hX (by first | rfl | decide) ⟨Or.inr ⟨rfl, by omega⟩, rfl⟩ ⟨Nat.le_of_ble_eq_true rfl, Nat.le_of_ble_eq_true rfl⟩ dX0_canHave_13
    · skip
      refine lv_iconst (v := nI 1) hx hb dX0_canHave_8 (by decide) ?_
      refine lv_goto (tgt := 13) hx hb dX0_canHave_9 (by decide) ?_
      exact w_zret hx hb hr hlocks hX (by first | rfl | decide) ⟨Or.inl ⟨rfl, by omega⟩, rfl⟩ ⟨Nat.le_of_ble_eq_true rfl, Nat.le_of_ble_eq_true rfl⟩ dX0_canHave_13
  · skip
    refine W.eq (g2 := F0 m 4 ls [.int (nI (bu + du))]) rfl ?_
    refine lv_iload_n hx hb dX0_canHave_4 rfl (lv_at hl 1 rfl) ?_
    refine n_lt (tgt := 12) hx hb (by omega) (by omega) dX0_canHave_5 (by decide) (fun c_9 => ?_) (fun c_9 => ?_)
    · skip
      refine lv_iconst (v := nI 0) hx hb dX0_canHave_12 (by decide) ?_
      exact w_zret hx hb hr hlocks hX (by first | rfl | decide) ⟨Or.inr ⟨rfl, by omega⟩, rfl⟩ ⟨Nat.le_of_ble_eq_true rfl, Nat.le_of_ble_eq_true rfl⟩ dX0_canHave_13
    · skip
      refine lv_iconst (v := nI 1) hx hb dX0_canHave_8 (by decide) ?_
      refine lv_goto (tgt := 13) hx hb dX0_canHave_9 (by decide) ?_
      exact w_zret hx hb hr hlocks hX (by first | rfl | decide) ⟨Or.inl ⟨rfl, by omega⟩, rfl⟩ ⟨Nat.le_of_ble_eq_true rfl, Nat.le_of_ble_eq_true rfl⟩ dX0_canHave_13

set_option maxHeartbeats 4000000 in
set_option maxRecDepth 100000 in
/-- what is left in the wand -/
theorem c_X0_dustLeftAfter (l : Launch) (g : wG) (μ : wMu) (zz : Nat) {o w : Nat} {bd bu he mk nx : Nat} (h0 : μ o = some (.inr (1, [.ref w, .int (nI bd), .int (nI bu), .int (nI he), .int (nI mk), .int (nI nx)]))) {n : Int32} {rm fl du : Nat} (h1 : μ w = some (.inr (2, [.int n, .int (nI rm), .int (nI fl), .int (nI du)]))) {sz : Nat} (b1 : bu ≤ 12) (b5 : du ≤ 60) (b7 : sz ≤ 20) (b8 : sz ≤ bu + du) : wMet l yX0_dustLeftAfter cX0_dustLeftAfter 2 (some .int) 1 0 0 21 g [.ref o, .int (nI sz)] μ zz (fun r μ' => r = some (.int (nI (du - (sz - bu)))) ∧ μ' = μ) := by
  refine wMet.of (by decide) (Nat.le_of_ble_eq_true rfl) ?_
  intro p e s m below meth c ls hx hb hr hml hown hlocks hin hl hsz hX
  have hl : lv_has ls 2 [(0, .ref o), (1, .int (nI sz))] := hl
  refine lv_aload_n hx hb dX0_dustLeftAfter_0 rfl (lv_at hl 0 rfl) ?_
  refine gX0_0 hx hb hX hown h0 kw83 dX0_dustLeftAfter_1 ?_
  refine gnX1_3 hx hb hX hown h1 kw66 dX0_dustLeftAfter_4 ?_
  refine lv_iconst (v := nI 0) hx hb dX0_dustLeftAfter_7 (by decide) ?_
  refine lv_iload_n hx hb dX0_dustLeftAfter_8 rfl (lv_at hl 1 rfl) ?_
  refine lv_aload_n hx hb dX0_dustLeftAfter_9 rfl (lv_at hl 0 rfl) ?_
  refine gX0_2 hx hb hX hown h0 kw87 dX0_dustLeftAfter_10 ?_
  refine n_isub hx hb dX0_dustLeftAfter_13 rfl ?_
  refine n_mmax hx hb (hml.trans hl.1.symm) hX hown kw270 kStMax kInMath kCdMax ⟨Nat.le_of_ble_eq_true rfl, Nat.le_of_ble_eq_true rfl⟩ ⟨Nat.le_of_ble_eq_true rfl, Nat.le_of_ble_eq_true rfl⟩ dX0_dustLeftAfter_14 (nI_max0 (by omega) (by omega)) ?_
  refine n_isub hx hb dX0_dustLeftAfter_17 (pk_sub (by omega)) ?_
  exact w_iret hx hb hr hlocks hX ⟨rfl, rfl⟩ ⟨Nat.le_of_ble_eq_true rfl, Nat.le_of_ble_eq_true rfl⟩ dX0_dustLeftAfter_18

set_option maxHeartbeats 4000000 in
set_option maxRecDepth 100000 in
/-- the grains are taken -/
theorem c_X0_takeGrains (l : Launch) (g : wG) (μ : wMu) (zz : Nat) {o w : Nat} {bd bu he mk nx : Nat} (h0 : μ o = some (.inr (1, [.ref w, .int (nI bd), .int (nI bu), .int (nI he), .int (nI mk), .int (nI nx)]))) {n : Int32} {rm fl du : Nat} (h1 : μ w = some (.inr (2, [.int n, .int (nI rm), .int (nI fl), .int (nI du)]))) {sz : Nat} (hne : o ≠ w) (b1 : bu ≤ 12) (b5 : du ≤ 60) (b7 : sz ≤ 20) (b8 : sz ≤ bu + du) : wMet l yX0_takeGrains cX0_takeGrains 3 none 2 0 0 42 g [.ref o, .int (nI sz)] μ zz (fun r μ' => r = none ∧ μ' o = some (.inr (1, [.ref w, .int (nI bd), .int (nI (bu - sz)), .int (nI he), .int (nI mk), .int (nI nx)])) ∧ μ' w = some (.inr (2, [.int n, .int (nI rm), .int (nI fl), .int (nI (du - (sz - bu)))])) ∧ ∀ q, q ≠ o → q ≠ w → μ' q = μ q) := by
  refine wMet.of (by decide) (Nat.le_of_ble_eq_true rfl) ?_
  intro p e s m below meth c ls hx hb hr hml hown hlocks hin hl hsz hX
  have hl : lv_has ls 3 [(0, .ref o), (1, .int (nI sz))] := hl
  refine lv_aload_n hx hb dX0_takeGrains_0 rfl (lv_at hl 0 rfl) ?_
  refine lv_iload_n hx hb dX0_takeGrains_1 rfl (lv_at hl 1 rfl) ?_
  refine w_call (w_runV (n := 1) (As := [.int (nI sz)]) (rest := []) hx hb hml hown hX (c_X0_dustLeftAfter l g μ s.heap.size h0 h1 b1 b5 b7 b8) kw269 kw6 kw266 kw268 kp7 wn_X0_dustLeftAfter rfl h0 rfl ⟨Nat.le_of_ble_eq_true rfl, Nat.le_of_ble_eq_true rfl⟩ hl.1 rfl (Nat.le_of_ble_eq_true rfl) dX0_takeGrains_2 ⟨Nat.le_of_ble_eq_true rfl, Nat.le_of_ble_eq_true rfl⟩) hX (fun r_3 μ_1 H locs q_2 hX hz => ?_)
  obtain ⟨rfl, e_4⟩ := q_2
  rw [e_4] at hX
  refine W.eq (g2 := F0 m 5 ls [.int (nI (du - (sz - bu)))]) rfl ?_
  refine lv_istore_n (lv' := [(2, .int (nI (du - (sz - bu)))), (0, .ref o), (1, .int (nI sz))]) hx hb dX0_takeGrains_5 rfl hl (by decide) rfl (fun ls hl => ?_)
  refine lv_aload_n hx hb dX0_takeGrains_6 rfl (lv_at hl 1 rfl) ?_
  refine lv_iconst (v := nI 0) hx hb dX0_takeGrains_7 (by decide) ?_
  refine lv_aload_n hx hb dX0_takeGrains_8 rfl (lv_at hl 1 rfl) ?_
  refine gX0_2 hx hb hX hown h0 kw87 dX0_takeGrains_9 ?_
  refine lv_iload_n hx hb dX0_takeGrains_12 rfl (lv_at hl 2 rfl) ?_
  refine n_isub hx hb dX0_takeGrains_13 rfl ?_
  refine n_mmax hx hb (hml.trans hl.1.symm) hX hown kw270 kStMax kInMath kCdMax ⟨Nat.le_of_ble_eq_true rfl, Nat.le_of_ble_eq_true rfl⟩ ⟨Nat.le_of_ble_eq_true rfl, Nat.le_of_ble_eq_true rfl⟩ dX0_takeGrains_14 (nI_max0 (by omega) (by omega)) ?_
  refine pX0_2 hx hb hX hown h0 kw87 dX0_takeGrains_17 (fun H locs hX => ?_)
  obtain ⟨μ_5, e_6⟩ : ∃ z, z = va_up μ o (some (.inr (1, [.ref w, .int (nI bd), .int (nI (bu - sz)), .int (nI he), .int (nI mk), .int (nI nx)]))) := ⟨_, rfl⟩
  rw [← e_6] at hX
  have k_7 : μ_5 o = some (.inr (1, [.ref w, .int (nI bd), .int (nI (bu - sz)), .int (nI he), .int (nI mk), .int (nI nx)])) := by rw [e_6]; exact va_up_self _ _ _
  have k_8 := (congrFun e_6 w).trans ((va_up_ne _ _ (Ne.symm hne)).trans h1)
  refine lv_aload_n hx hb dX0_takeGrains_20 rfl (lv_at hl 1 rfl) ?_
  refine gX0_0 hx hb hX hown k_7 kw83 dX0_takeGrains_21 ?_
  refine lv_iload_n hx hb dX0_takeGrains_24 rfl (lv_at hl 0 rfl) ?_
  refine pnX1_3 hx hb hX hown k_8 kw66 dX0_takeGrains_25 (fun H locs hX => ?_)
  obtain ⟨μ_9, e_10⟩ : ∃ z, z = va_up μ_5 w (some (.inr (2, [.int n, .int (nI rm), .int (nI fl), .int (nI (du - (sz - bu)))]))) := ⟨_, rfl⟩
  rw [← e_10] at hX
  have k_11 : μ_9 w = some (.inr (2, [.int n, .int (nI rm), .int (nI fl), .int (nI (du - (sz - bu)))])) := by rw [e_10]; exact va_up_self _ _ _
  have k_12 := (congrFun e_10 o).trans ((va_up_ne _ _ hne).trans k_7)
  exact w_vret hx hb hr hlocks hX ⟨rfl, k_12, k_11, fun q n1 n2 => by rw [e_10, va_up_ne _ _ n2, e_6, va_up_ne _ _ n1]⟩ ⟨Nat.le_of_ble_eq_true rfl, Nat.le_of_ble_eq_true rfl⟩ dX0_takeGrains_28

set_option maxHeartbeats 4000000 in
set_option maxRecDepth 100000 in
/-- a mark more -/
theorem c_X0_takeMark (l : Launch) (g : wG) (μ : wMu) (zz : Nat) {o w : Nat} {bd bu he mk nx : Nat} (h0 : μ o = some (.inr (1, [.ref w, .int (nI bd), .int (nI bu), .int (nI he), .int (nI mk), .int (nI nx)]))) (b3 : mk ≤ 2) (b4 : nx ≤ 32) : wMet l yX0_takeMark cX0_takeMark 1 none 1 0 0 21 g [.ref o] μ zz (fun r μ' => r = none ∧ μ' o = some (.inr (1, [.ref w, .int (nI bd), .int (nI bu), .int (nI (if 2 ≤ mk then nx else he)), .int (nI (if 2 ≤ mk then 0 else mk + 1)), .int (nI (if 2 ≤ mk then min 32 (nx * 2) else nx))])) ∧ ∀ q, q ≠ o → μ' q = μ q) := by
  refine wMet.of (by decide) (Nat.le_of_ble_eq_true rfl) ?_
  intro p e s m below meth c ls hx hb hr hml hown hlocks hin hl hsz hX
  have hl : lv_has ls 1 [(0, .ref o)] := hl
  refine lv_aload_n hx hb dX0_takeMark_0 rfl (lv_at hl 0 rfl) ?_
  refine lv_dup hx hb dX0_takeMark_1 rfl ?_
  refine gX0_4 hx hb hX hown h0 kw91 dX0_takeMark_2 ?_
  refine lv_iconst (v := nI 1) hx hb dX0_takeMark_5 (by decide) ?_
  refine n_iadd hx hb dX0_takeMark_6 (nI_add _ _) ?_
  refine pX0_4 hx hb hX hown h0 kw91 dX0_takeMark_7 (fun H locs hX => ?_)
  obtain ⟨μ_1, e_2⟩ : ∃ z, z = va_up μ o (some (.inr (1, [.ref w, .int (nI bd), .int (nI bu), .int (nI he), .int (nI (mk + 1)), .int (nI nx)]))) := ⟨_, rfl⟩
  rw [← e_2] at hX
  have k_3 : μ_1 o = some (.inr (1, [.ref w, .int (nI bd), .int (nI bu), .int (nI he), .int (nI (mk + 1)), .int (nI nx)])) := by rw [e_2]; exact va_up_self _ _ _
  refine lv_aload_n hx hb dX0_takeMark_10 rfl (lv_at hl 0 rfl) ?_
  refine gX0_4 hx hb hX hown k_3 kw91 dX0_takeMark_11 ?_
  refine lv_iconst (v := nI 3) hx hb dX0_takeMark_14 (by decide) ?_
  refine n_lt (tgt := 46) hx hb (by omega) (by omega) dX0_takeMark_15 (by decide) (fun c_4 => ?_) (fun c_4 => ?_)
  · skip
    exact w_vret hx hb hr hlocks hX ⟨rfl, by simp only [if_neg (show ¬ 2 ≤ mk by omega)]; exact k_3, fun q n1 => by rw [e_2, va_up_ne _ _ n1]⟩ ⟨Nat.le_of_ble_eq_true rfl, Nat.le_of_ble_eq_true rfl⟩ dX0_takeMark_46
  · skip
    refine lv_aload_n hx hb dX0_takeMark_18 rfl (lv_at hl 0 rfl) ?_
    refine lv_aload_n hx hb dX0_takeMark_19 rfl (lv_at hl 0 rfl) ?_
    refine gX0_5 hx hb hX hown k_3 kw93 dX0_takeMark_20 ?_
    refine pX0_3 hx hb hX hown k_3 kw89 dX0_takeMark_23 (fun H locs hX => ?_)
    obtain ⟨μ_5, e_6⟩ : ∃ z, z = va_up μ_1 o (some (.inr (1, [.ref w, .int (nI bd), .int (nI bu), .int (nI nx), .int (nI (mk + 1)), .int (nI nx)]))) := ⟨_, rfl⟩
    rw [← e_6] at hX
    have k_7 : μ_5 o = some (.inr (1, [.ref w, .int (nI bd), .int (nI bu), .int (nI nx), .int (nI (mk + 1)), .int (nI nx)])) := by rw [e_6]; exact va_up_self _ _ _
    refine lv_aload_n hx hb dX0_takeMark_26 rfl (lv_at hl 0 rfl) ?_
    refine lv_bipush (v := nI 32) hx hb dX0_takeMark_27 (by decide) ?_
    refine lv_aload_n hx hb dX0_takeMark_29 rfl (lv_at hl 0 rfl) ?_
    refine gX0_5 hx hb hX hown k_7 kw93 dX0_takeMark_30 ?_
    refine lv_iconst (v := nI 2) hx hb dX0_takeMark_33 (by decide) ?_
    refine n_imul hx hb dX0_takeMark_34 (pk_mul _ _) ?_
    refine n_mmin hx hb (hml.trans hl.1.symm) hX hown kw273 kStMin kInMath kCdMin ⟨Nat.le_of_ble_eq_true rfl, Nat.le_of_ble_eq_true rfl⟩ ⟨Nat.le_of_ble_eq_true rfl, Nat.le_of_ble_eq_true rfl⟩ dX0_takeMark_35 (nI_min (by omega) (by omega)) ?_
    refine pX0_5 hx hb hX hown k_7 kw93 dX0_takeMark_38 (fun H locs hX => ?_)
    obtain ⟨μ_8, e_9⟩ : ∃ z, z = va_up μ_5 o (some (.inr (1, [.ref w, .int (nI bd), .int (nI bu), .int (nI nx), .int (nI (mk + 1)), .int (nI (min 32 (nx * 2)))]))) := ⟨_, rfl⟩
    rw [← e_9] at hX
    have k_10 : μ_8 o = some (.inr (1, [.ref w, .int (nI bd), .int (nI bu), .int (nI nx), .int (nI (mk + 1)), .int (nI (min 32 (nx * 2)))])) := by rw [e_9]; exact va_up_self _ _ _
    refine lv_aload_n hx hb dX0_takeMark_41 rfl (lv_at hl 0 rfl) ?_
    refine lv_iconst (v := nI 0) hx hb dX0_takeMark_42 (by decide) ?_
    refine pX0_4 hx hb hX hown k_10 kw91 dX0_takeMark_43 (fun H locs hX => ?_)
    obtain ⟨μ_11, e_12⟩ : ∃ z, z = va_up μ_8 o (some (.inr (1, [.ref w, .int (nI bd), .int (nI bu), .int (nI nx), .int (nI 0), .int (nI (min 32 (nx * 2)))]))) := ⟨_, rfl⟩
    rw [← e_12] at hX
    have k_13 : μ_11 o = some (.inr (1, [.ref w, .int (nI bd), .int (nI bu), .int (nI nx), .int (nI 0), .int (nI (min 32 (nx * 2)))])) := by rw [e_12]; exact va_up_self _ _ _
    exact w_vret hx hb hr hlocks hX ⟨rfl, by simp only [if_pos (show 2 ≤ mk by omega)]; exact k_13, fun q n1 => by rw [e_12, va_up_ne _ _ n1, e_9, va_up_ne _ _ n1, e_6, va_up_ne _ _ n1, e_2, va_up_ne _ _ n1]⟩ ⟨Nat.le_of_ble_eq_true rfl, Nat.le_of_ble_eq_true rfl⟩ dX0_takeMark_46

set_option maxHeartbeats 4000000 in
set_option maxRecDepth 100000 in
/-- a wish -/
theorem c_X0_makeWish (l : Launch) (g : wG) (μ : wMu) (zz : Nat) {o w : Nat} {bd bu he mk nx : Nat} (h0 : μ o = some (.inr (1, [.ref w, .int (nI bd), .int (nI bu), .int (nI he), .int (nI mk), .int (nI nx)]))) {n : Int32} {rm fl du : Nat} (h1 : μ w = some (.inr (2, [.int n, .int (nI rm), .int (nI fl), .int (nI du)]))) {sz : Nat} (hne : o ≠ w) (b1 : bu ≤ 12) (b2 : he ≤ 48) (b3 : mk ≤ 2) (b4 : nx ≤ 32) (b5 : du ≤ 60) (b6 : 1 ≤ sz) (b7 : sz ≤ 20) : wMet l yX0_makeWish cX0_makeWish 2 (some .boolean) 3 0 0 64 g [.ref o, .int (nI sz)] μ zz (fun r μ' => r = some (.int (nI (fwG sz du bu he))) ∧ μ' o = some (.inr (1, [.ref w, .int (nI bd), .int (nI (fwB sz du bu he)), .int (nI (fwH sz du bu he mk nx)), .int (nI (fwM sz du bu he mk)), .int (nI (fwN sz du bu he mk nx))])) ∧ μ' w = some (.inr (2, [.int n, .int (nI rm), .int (nI fl), .int (nI (fwD sz du bu he))])) ∧ ∀ q, q ≠ o → q ≠ w → μ' q = μ q) := by
  refine wMet.of (by decide) (Nat.le_of_ble_eq_true rfl) ?_
  intro p e s m below meth c ls hx hb hr hml hown hlocks hin hl hsz hX
  have hl : lv_has ls 2 [(0, .ref o), (1, .int (nI sz))] := hl
  refine lv_aload_n hx hb dX0_makeWish_0 rfl (lv_at hl 0 rfl) ?_
  refine lv_iload_n hx hb dX0_makeWish_1 rfl (lv_at hl 1 rfl) ?_
  refine w_call (w_runV (n := 1) (As := [.int (nI sz)]) (rest := []) hx hb hml hown hX (c_X0_canHave l g μ s.heap.size h0 h1 b1 b2 b5 b6 b7) kw253 kw6 kw250 kw252 kp3 wn_X0_canHave rfl h0 rfl ⟨Nat.le_of_ble_eq_true rfl, Nat.le_of_ble_eq_true rfl⟩ hl.1 rfl (Nat.le_of_ble_eq_true rfl) dX0_makeWish_2 ⟨Nat.le_of_ble_eq_true rfl, Nat.le_of_ble_eq_true rfl⟩) hX (fun r_3 μ_1 H locs q_2 hX hz => ?_)
  obtain ⟨q_7, e_6⟩ := q_2
  rw [e_6] at hX
  obtain ⟨rfl, p_4⟩ | ⟨rfl, p_5⟩ := q_7
  · skip
    refine W.eq (g2 := F0 m 5 ls [.int (nI 1)]) rfl ?_
    refine n_if_eq (tgt := 29) hx hb (by omega) dX0_makeWish_5 (by decide) (fun h => absurd h (by omega)) (fun _ => ?_)
    refine lv_aload_n hx hb dX0_makeWish_8 rfl (lv_at hl 0 rfl) ?_
    refine lv_iload_n hx hb dX0_makeWish_9 rfl (lv_at hl 1 rfl) ?_
    refine w_call (w_runV (n := 1) (As := [.int (nI sz)]) (rest := []) hx hb hml hown hX (c_X0_takeGrains l g μ H.size h0 h1 hne b1 b5 b7 p_4.2) kw265 kw6 kw262 kw264 kp6 wn_X0_takeGrains rfl h0 rfl ⟨Nat.le_of_ble_eq_true rfl, Nat.le_of_ble_eq_true rfl⟩ hl.1 rfl (Nat.le_of_ble_eq_true rfl) dX0_makeWish_10 ⟨Nat.le_of_ble_eq_true rfl, Nat.le_of_ble_eq_true rfl⟩) hX (fun r_10 μ_8 H locs q_9 hX hz => ?_)
    obtain ⟨rfl, k1, k2, k3⟩ := q_9
    refine W.eq (g2 := F0 m 13 ls []) rfl ?_
    refine lv_aload_n hx hb dX0_makeWish_13 rfl (lv_at hl 0 rfl) ?_
    refine lv_iconst (v := nI 0) hx hb dX0_makeWish_14 (by decide) ?_
    refine lv_aload_n hx hb dX0_makeWish_15 rfl (lv_at hl 0 rfl) ?_
    refine gX0_4 hx hb hX hown k1 kw91 dX0_makeWish_16 ?_
    refine lv_iconst (v := nI 1) hx hb dX0_makeWish_19 (by decide) ?_
    refine n_isub hx hb dX0_makeWish_20 rfl ?_
    refine n_mmax hx hb (hml.trans hl.1.symm) hX hown kw270 kStMax kInMath kCdMax ⟨Nat.le_of_ble_eq_true rfl, Nat.le_of_ble_eq_true rfl⟩ ⟨Nat.le_of_ble_eq_true rfl, Nat.le_of_ble_eq_true rfl⟩ dX0_makeWish_21 (nI_max0 (by omega) (by omega)) ?_
    refine pX0_4 hx hb hX hown k1 kw91 dX0_makeWish_24 (fun H locs hX => ?_)
    obtain ⟨μ_11, e_12⟩ : ∃ z, z = va_up μ_8 o (some (.inr (1, [.ref w, .int (nI bd), .int (nI (bu - sz)), .int (nI he), .int (nI (mk - 1)), .int (nI nx)]))) := ⟨_, rfl⟩
    rw [← e_12] at hX
    have k_13 : μ_11 o = some (.inr (1, [.ref w, .int (nI bd), .int (nI (bu - sz)), .int (nI he), .int (nI (mk - 1)), .int (nI nx)])) := by rw [e_12]; exact va_up_self _ _ _
    have k_14 := (congrFun e_12 w).trans ((va_up_ne _ _ (Ne.symm hne)).trans k2)
    refine lv_iconst (v := nI 1) hx hb dX0_makeWish_27 (by decide) ?_
    have ok : he = 0 ∧ sz ≤ bu + du := p_4
    exact w_zret hx hb hr hlocks hX (by first | rfl | decide) ⟨by simp only [fwG, if_pos ok], by simp only [fwB, fwH, fwM, fwN, if_pos ok]; exact k_13, by simp only [fwD, if_pos ok]; exact k_14, fun q n1 n2 => by rw [e_12, va_up_ne _ _ n1, k3 q n1 n2]⟩ ⟨Nat.le_of_ble_eq_true rfl, Nat.le_of_ble_eq_true rfl⟩ dX0_makeWish_28
  · skip
    refine W.eq (g2 := F0 m 5 ls [.int (nI 0)]) rfl ?_
    refine n_if_eq (tgt := 29) hx hb (by omega) dX0_makeWish_5 (by decide) (fun _ => ?_) (fun h => absurd h (by omega))
    refine lv_aload_n hx hb dX0_makeWish_29 rfl (lv_at hl 0 rfl) ?_
    refine w_call (w_runV (n := 0) (As := []) (rest := []) hx hb hml hown hX (c_X0_isPunished l g μ H.size h0 b2) kw261 kw6 kw258 kw260 kp5 wn_X0_isPunished rfl h0 rfl ⟨Nat.le_of_ble_eq_true rfl, Nat.le_of_ble_eq_true rfl⟩ hl.1 rfl (Nat.le_of_ble_eq_true rfl) dX0_makeWish_30 ⟨Nat.le_of_ble_eq_true rfl, Nat.le_of_ble_eq_true rfl⟩) hX (fun r_17 μ_15 H locs q_16 hX hz => ?_)
    obtain ⟨q_21, e_20⟩ := q_16
    rw [e_20] at hX
    obtain ⟨rfl, p_18⟩ | ⟨rfl, p_19⟩ := q_21
    · skip
      refine W.eq (g2 := F0 m 33 ls [.int (nI 1)]) rfl ?_
      refine n_if_eq (tgt := 54) hx hb (by omega) dX0_makeWish_33 (by decide) (fun h => absurd h (by omega)) (fun _ => ?_)
      refine lv_aload_n hx hb dX0_makeWish_36 rfl (lv_at hl 0 rfl) ?_
      refine lv_bipush (v := nI 48) hx hb dX0_makeWish_37 (by decide) ?_
      refine lv_aload_n hx hb dX0_makeWish_39 rfl (lv_at hl 0 rfl) ?_
      refine gX0_3 hx hb hX hown h0 kw89 dX0_makeWish_40 ?_
      refine lv_iconst (v := nI 1) hx hb dX0_makeWish_43 (by decide) ?_
      refine n_iadd hx hb dX0_makeWish_44 (nI_add _ _) ?_
      refine n_mmin hx hb (hml.trans hl.1.symm) hX hown kw273 kStMin kInMath kCdMin ⟨Nat.le_of_ble_eq_true rfl, Nat.le_of_ble_eq_true rfl⟩ ⟨Nat.le_of_ble_eq_true rfl, Nat.le_of_ble_eq_true rfl⟩ dX0_makeWish_45 (nI_min (by omega) (by omega)) ?_
      refine pX0_3 hx hb hX hown h0 kw89 dX0_makeWish_48 (fun H locs hX => ?_)
      obtain ⟨μ_22, e_23⟩ : ∃ z, z = va_up μ o (some (.inr (1, [.ref w, .int (nI bd), .int (nI bu), .int (nI (min 48 (he + 1))), .int (nI mk), .int (nI nx)]))) := ⟨_, rfl⟩
      rw [← e_23] at hX
      have k_24 : μ_22 o = some (.inr (1, [.ref w, .int (nI bd), .int (nI bu), .int (nI (min 48 (he + 1))), .int (nI mk), .int (nI nx)])) := by rw [e_23]; exact va_up_self _ _ _
      have k_25 := (congrFun e_23 w).trans ((va_up_ne _ _ (Ne.symm hne)).trans h1)
      refine lv_goto (tgt := 58) hx hb dX0_makeWish_51 (by decide) ?_
      refine lv_iconst (v := nI 0) hx hb dX0_makeWish_58 (by decide) ?_
      have no : ¬ (he = 0 ∧ sz ≤ bu + du) := p_5
      have h9 : 0 < he := p_18
      exact w_zret hx hb hr hlocks hX (by first | rfl | decide) ⟨by simp only [fwG, if_neg no], by simp only [fwB, fwH, fwM, fwN, if_neg no, if_pos h9]; exact k_24, by simp only [fwD, if_neg no]; exact k_25, fun q n1 n2 => by rw [e_23, va_up_ne _ _ n1]⟩ ⟨Nat.le_of_ble_eq_true rfl, Nat.le_of_ble_eq_true rfl⟩ dX0_makeWish_59
    · skip
      refine W.eq (g2 := F0 m 33 ls [.int (nI 0)]) rfl ?_
      refine n_if_eq (tgt := 54) hx hb (by omega) dX0_makeWish_33 (by decide) (fun _ => ?_) (fun h => absurd h (by omega))
      refine lv_aload_n hx hb dX0_makeWish_54 rfl (lv_at hl 0 rfl) ?_
      refine w_call (w_runV (n := 0) (As := []) (rest := []) hx hb hml hown hX (c_X0_takeMark l g μ H.size h0 b3 b4) kw279 kw6 kw276 kw278 kp8 wn_X0_takeMark rfl h0 rfl ⟨Nat.le_of_ble_eq_true rfl, Nat.le_of_ble_eq_true rfl⟩ hl.1 rfl (Nat.le_of_ble_eq_true rfl) dX0_makeWish_55 ⟨Nat.le_of_ble_eq_true rfl, Nat.le_of_ble_eq_true rfl⟩) hX (fun r_28 μ_26 H locs q_27 hX hz => ?_)
      obtain ⟨rfl, k1, k3⟩ := q_27
      have k2 := (k3 w (Ne.symm hne)).trans h1
      refine W.eq (g2 := F0 m 58 ls []) rfl ?_
      refine lv_iconst (v := nI 0) hx hb dX0_makeWish_58 (by decide) ?_
      have no : ¬ (he = 0 ∧ sz ≤ bu + du) := p_5
      have h9 : ¬ 0 < he := by omega
      exact w_zret hx hb hr hlocks hX (by first | rfl | decide) ⟨by simp only [fwG, if_neg no], by simp only [fwB, fwH, fwM, fwN, if_neg no, if_neg h9]; exact k1, by simp only [fwD, if_neg no]; exact k2, fun q n1 n2 => by rw [k3 q n1]⟩ ⟨Nat.le_of_ble_eq_true rfl, Nat.le_of_ble_eq_true rfl⟩ dX0_makeWish_59

set_option maxHeartbeats 4000000 in
set_option maxRecDepth 100000 in
/-- forgiven -/
theorem c_X0_letOff (l : Launch) (g : wG) (μ : wMu) (zz : Nat) {o w : Nat} {bd bu he mk nx : Nat} (h0 : μ o = some (.inr (1, [.ref w, .int (nI bd), .int (nI bu), .int (nI he), .int (nI mk), .int (nI nx)])))  : wMet l yX0_letOff cX0_letOff 2 (some .int) 0 0 0 0 g [.ref o] μ zz (fun r μ' => r = some (.int (nI he)) ∧ μ' o = some (.inr (1, [.ref w, .int (nI bd), .int (nI bu), .int (nI 0), .int (nI 0), .int (nI nx)])) ∧ ∀ q, q ≠ o → μ' q = μ q) := by
  refine wMet.of (by decide) (Nat.le_of_ble_eq_true rfl) ?_
  intro p e s m below meth c ls hx hb hr hml hown hlocks hin hl hsz hX
  have hl : lv_has ls 2 [(0, .ref o)] := hl
  refine lv_aload_n hx hb dX0_letOff_0 rfl (lv_at hl 0 rfl) ?_
  refine gX0_3 hx hb hX hown h0 kw89 dX0_letOff_1 ?_
  refine lv_istore_n (lv' := [(1, .int (nI he)), (0, .ref o)]) hx hb dX0_letOff_4 rfl hl (by decide) rfl (fun ls hl => ?_)
  refine lv_aload_n hx hb dX0_letOff_5 rfl (lv_at hl 1 rfl) ?_
  refine lv_iconst (v := nI 0) hx hb dX0_letOff_6 (by decide) ?_
  refine pX0_3 hx hb hX hown h0 kw89 dX0_letOff_7 (fun H locs hX => ?_)
  obtain ⟨μ_1, e_2⟩ : ∃ z, z = va_up μ o (some (.inr (1, [.ref w, .int (nI bd), .int (nI bu), .int (nI 0), .int (nI mk), .int (nI nx)]))) := ⟨_, rfl⟩
  rw [← e_2] at hX
  have k_3 : μ_1 o = some (.inr (1, [.ref w, .int (nI bd), .int (nI bu), .int (nI 0), .int (nI mk), .int (nI nx)])) := by rw [e_2]; exact va_up_self _ _ _
  refine lv_aload_n hx hb dX0_letOff_10 rfl (lv_at hl 1 rfl) ?_
  refine lv_iconst (v := nI 0) hx hb dX0_letOff_11 (by decide) ?_
  refine pX0_4 hx hb hX hown k_3 kw91 dX0_letOff_12 (fun H locs hX => ?_)
  obtain ⟨μ_4, e_5⟩ : ∃ z, z = va_up μ_1 o (some (.inr (1, [.ref w, .int (nI bd), .int (nI bu), .int (nI 0), .int (nI 0), .int (nI nx)]))) := ⟨_, rfl⟩
  rw [← e_5] at hX
  have k_6 : μ_4 o = some (.inr (1, [.ref w, .int (nI bd), .int (nI bu), .int (nI 0), .int (nI 0), .int (nI nx)])) := by rw [e_5]; exact va_up_self _ _ _
  refine lv_iload_n hx hb dX0_letOff_15 rfl (lv_at hl 0 rfl) ?_
  exact w_iret hx hb hr hlocks hX ⟨rfl, k_6, fun q n1 => by rw [e_5, va_up_ne _ _ n1, e_2, va_up_ne _ _ n1]⟩ ⟨Nat.le_of_ble_eq_true rfl, Nat.le_of_ble_eq_true rfl⟩ dX0_letOff_16

set_option maxHeartbeats 4000000 in
set_option maxRecDepth 100000 in
/-- a day begins -/
theorem c_X0_beginDay (l : Launch) (g : wG) (μ : wMu) (zz : Nat) {o w : Nat} {bd bu he mk nx : Nat} (h0 : μ o = some (.inr (1, [.ref w, .int (nI bd), .int (nI bu), .int (nI he), .int (nI mk), .int (nI nx)]))) {dd : Nat} (b9 : bd ≤ 29) (b10 : dd ≤ 100000) : wMet l yX0_beginDay cX0_beginDay 2 none 0 0 0 0 g [.ref o, .int (nI dd)] μ zz (fun r μ' => r = none ∧ μ' o = some (.inr (1, [.ref w, .int (nI bd), .int (nI (bstD bd dd)), .int (nI he), .int (nI mk), .int (nI nx)])) ∧ ∀ q, q ≠ o → μ' q = μ q) := by
  refine wMet.of (by decide) (Nat.le_of_ble_eq_true rfl) ?_
  intro p e s m below meth c ls hx hb hr hml hown hlocks hin hl hsz hX
  have hl : lv_has ls 2 [(0, .ref o), (1, .int (nI dd))] := hl
  refine lv_aload_n hx hb dX0_beginDay_0 rfl (lv_at hl 0 rfl) ?_
  refine lv_iload_n hx hb dX0_beginDay_1 rfl (lv_at hl 1 rfl) ?_
  refine lv_bipush (v := nI 30) hx hb dX0_beginDay_2 (by decide) ?_
  refine n_irem hx hb dX0_beginDay_4 (by decide) (pk_rem (by omega) (by decide) (by decide)) ?_
  refine lv_aload_n hx hb dX0_beginDay_5 rfl (lv_at hl 0 rfl) ?_
  refine gX0_1 hx hb hX hown h0 kw85 dX0_beginDay_6 ?_
  refine n_ne (tgt := 17) hx hb (by omega) (by omega) dX0_beginDay_9 (by decide) (fun c_1 => ?_) (fun c_1 => ?_)
  · skip
    refine lv_iconst (v := nI 0) hx hb dX0_beginDay_17 (by decide) ?_
    refine pX0_2 hx hb hX hown h0 kw87 dX0_beginDay_18 (fun H locs hX => ?_)
    obtain ⟨μ_2, e_3⟩ : ∃ z, z = va_up μ o (some (.inr (1, [.ref w, .int (nI bd), .int (nI 0), .int (nI he), .int (nI mk), .int (nI nx)]))) := ⟨_, rfl⟩
    rw [← e_3] at hX
    have k_4 : μ_2 o = some (.inr (1, [.ref w, .int (nI bd), .int (nI 0), .int (nI he), .int (nI mk), .int (nI nx)])) := by rw [e_3]; exact va_up_self _ _ _
    exact w_vret hx hb hr hlocks hX ⟨rfl, by simp only [bstD, if_neg c_1]; exact k_4, fun q n1 => by rw [e_3, va_up_ne _ _ n1]⟩ ⟨Nat.le_of_ble_eq_true rfl, Nat.le_of_ble_eq_true rfl⟩ dX0_beginDay_21
  · skip
    refine lv_bipush (v := nI 12) hx hb dX0_beginDay_12 (by decide) ?_
    refine lv_goto (tgt := 18) hx hb dX0_beginDay_14 (by decide) ?_
    refine pX0_2 hx hb hX hown h0 kw87 dX0_beginDay_18 (fun H locs hX => ?_)
    obtain ⟨μ_5, e_6⟩ : ∃ z, z = va_up μ o (some (.inr (1, [.ref w, .int (nI bd), .int (nI 12), .int (nI he), .int (nI mk), .int (nI nx)]))) := ⟨_, rfl⟩
    rw [← e_6] at hX
    have k_7 : μ_5 o = some (.inr (1, [.ref w, .int (nI bd), .int (nI 12), .int (nI he), .int (nI mk), .int (nI nx)])) := by rw [e_6]; exact va_up_self _ _ _
    exact w_vret hx hb hr hlocks hX ⟨rfl, by simp only [bstD, if_pos c_1]; exact k_7, fun q n1 => by rw [e_6, va_up_ne _ _ n1]⟩ ⟨Nat.le_of_ble_eq_true rfl, Nat.le_of_ble_eq_true rfl⟩ dX0_beginDay_21

set_option maxHeartbeats 4000000 in
set_option maxRecDepth 100000 in
/-- an hour goes by -/
theorem c_X0_liveTo (l : Launch) (g : wG) (μ : wMu) (zz : Nat) {o w : Nat} {bd bu he mk nx : Nat} (h0 : μ o = some (.inr (1, [.ref w, .int (nI bd), .int (nI bu), .int (nI he), .int (nI mk), .int (nI nx)]))) {h : Nat} (b2 : he ≤ 48) (b9 : bd ≤ 29) (b10 : h ≤ 100000) : wMet l yX0_liveTo cX0_liveTo 2 none 1 0 0 21 g [.ref o, .int (nI h)] μ zz (fun r μ' => r = none ∧ μ' o = some (.inr (1, [.ref w, .int (nI bd), .int (nI (bstH bd bu h)), .int (nI (he - 1)), .int (nI mk), .int (nI nx)])) ∧ ∀ q, q ≠ o → μ' q = μ q) := by
  refine wMet.of (by decide) (Nat.le_of_ble_eq_true rfl) ?_
  intro p e s m below meth c ls hx hb hr hml hown hlocks hin hl hsz hX
  have hl : lv_has ls 2 [(0, .ref o), (1, .int (nI h))] := hl
  refine lv_aload_n hx hb dX0_liveTo_0 rfl (lv_at hl 0 rfl) ?_
  refine lv_iconst (v := nI 0) hx hb dX0_liveTo_1 (by decide) ?_
  refine lv_aload_n hx hb dX0_liveTo_2 rfl (lv_at hl 0 rfl) ?_
  refine gX0_3 hx hb hX hown h0 kw89 dX0_liveTo_3 ?_
  refine lv_iconst (v := nI 1) hx hb dX0_liveTo_6 (by decide) ?_
  refine n_isub hx hb dX0_liveTo_7 rfl ?_
  refine n_mmax hx hb (hml.trans hl.1.symm) hX hown kw270 kStMax kInMath kCdMax ⟨Nat.le_of_ble_eq_true rfl, Nat.le_of_ble_eq_true rfl⟩ ⟨Nat.le_of_ble_eq_true rfl, Nat.le_of_ble_eq_true rfl⟩ dX0_liveTo_8 (nI_max0 (by omega) (by omega)) ?_
  refine pX0_3 hx hb hX hown h0 kw89 dX0_liveTo_11 (fun H locs hX => ?_)
  obtain ⟨μ_1, e_2⟩ : ∃ z, z = va_up μ o (some (.inr (1, [.ref w, .int (nI bd), .int (nI bu), .int (nI (he - 1)), .int (nI mk), .int (nI nx)]))) := ⟨_, rfl⟩
  rw [← e_2] at hX
  have k_3 : μ_1 o = some (.inr (1, [.ref w, .int (nI bd), .int (nI bu), .int (nI (he - 1)), .int (nI mk), .int (nI nx)])) := by rw [e_2]; exact va_up_self _ _ _
  refine lv_iload_n hx hb dX0_liveTo_14 rfl (lv_at hl 1 rfl) ?_
  refine lv_bipush (v := nI 24) hx hb dX0_liveTo_15 (by decide) ?_
  refine n_irem hx hb dX0_liveTo_17 (by decide) (pk_rem (by omega) (by decide) (by decide)) ?_
  refine n_if_ne (tgt := 29) hx hb (by omega) dX0_liveTo_18 (by decide) (fun c_4 => ?_) (fun c_4 => ?_)
  · skip
    exact w_vret hx hb hr hlocks hX ⟨rfl, by simp only [bstH, if_neg (show ¬ h % 24 = 0 by omega)]; exact k_3, fun q n1 => by rw [e_2, va_up_ne _ _ n1]⟩ ⟨Nat.le_of_ble_eq_true rfl, Nat.le_of_ble_eq_true rfl⟩ dX0_liveTo_29
  · skip
    refine lv_aload_n hx hb dX0_liveTo_21 rfl (lv_at hl 0 rfl) ?_
    refine lv_iload_n hx hb dX0_liveTo_22 rfl (lv_at hl 1 rfl) ?_
    refine lv_bipush (v := nI 24) hx hb dX0_liveTo_23 (by decide) ?_
    refine n_idiv hx hb dX0_liveTo_25 (by decide) (pk_div (by omega) (by decide) (by decide)) ?_
    refine w_call (w_runV (n := 1) (As := [.int (nI (h / 24))]) (rest := []) hx hb hml hown hX (c_X0_beginDay l g μ_1 H.size k_3 b9 (by omega)) kw300 kw6 kw297 kw299 kp12 wn_X0_beginDay rfl k_3 rfl ⟨Nat.le_of_ble_eq_true rfl, Nat.le_of_ble_eq_true rfl⟩ hl.1 rfl (Nat.le_of_ble_eq_true rfl) dX0_liveTo_26 ⟨Nat.le_of_ble_eq_true rfl, Nat.le_of_ble_eq_true rfl⟩) hX (fun r_7 μ_5 H locs q_6 hX hz => ?_)
    obtain ⟨rfl, k1, k3⟩ := q_6
    refine W.eq (g2 := F0 m 29 ls []) rfl ?_
    exact w_vret hx hb hr hlocks hX ⟨rfl, by simp only [bstH, if_pos c_4]; exact k1, fun q n1 => by rw [k3 q n1, e_2, va_up_ne _ _ n1]⟩ ⟨Nat.le_of_ble_eq_true rfl, Nat.le_of_ble_eq_true rfl⟩ dX0_liveTo_29

