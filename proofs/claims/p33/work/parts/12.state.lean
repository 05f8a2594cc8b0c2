/-! WHAT A STATE IS: σ f i, f the field: 0 hour, 1 granted, 2 denied, 3 wands, 4 children; a wand's 5 room, 6 falls, 7 dust; a child's 8 wand, 9 birthday, 10 burst, 11 punished for, 12 marks, 13 next punishment -/
abbrev sSt : Type := Nat → Nat → Nat
def up2 (σ : sSt) (f i v : Nat) : sSt := fun f' i' => if f' = f ∧ i' = i then v else σ f' i'
theorem up2_self (σ : sSt) (f i v : Nat) : up2 σ f i v f i = v := by simp [up2]
theorem up2_nf (σ : sSt) {f i v f' i' : Nat} (h : f' ≠ f) : up2 σ f i v f' i' = σ f' i' := by simp [up2, h]
theorem up2_ni (σ : sSt) {f i v f' i' : Nat} (h : i' ≠ i) : up2 σ f i v f' i' = σ f' i' := by simp [up2, h]
abbrev isI (x : Int32) (a b : Nat) : Prop := (a : Int) ≤ x.toInt ∧ x.toInt ≤ (b : Int)
abbrev isX (x : Int32) (n : Nat) : Prop := 0 ≤ x.toInt ∧ x.toInt < (n : Int)
def toN (x : Int32) : Nat := x.toInt.toNat
theorem nI_of_toInt {x : Int32} (h : 0 ≤ x.toInt) : x = nI (toN x) := by
  have hlt : x.toInt < 2 ^ 31 := Int32.toInt_lt x
  have h2 : toN x < 2 ^ 31 := by unfold toN; omega
  refine Int32.toInt_inj.mp ?_
  rw [nI_toInt h2]
  unfold toN
  omega
theorem isI.nI {x : Int32} {a b : Nat} (h : isI x a b) : x = nI (toN x) ∧ a ≤ toN x ∧ toN x ≤ b := by
  obtain ⟨h1, h2⟩ := h
  refine ⟨nI_of_toInt (by omega), ?_, ?_⟩ <;> unfold toN <;> omega
theorem isX.nI {x : Int32} {n : Nat} (h : isX x n) : x = nI (toN x) ∧ toN x < n := by
  obtain ⟨h1, h2⟩ := h
  refine ⟨nI_of_toInt (by omega), ?_⟩
  unfold toN; omega
theorem toN_nI {n : Nat} (h : n < 2 ^ 31) : toN (nI n) = n := by
  unfold toN; rw [nI_toInt h]; omega
theorem isI_nI {n a b : Nat} (h : n < 2 ^ 31) : isI (nI n) a b ↔ a ≤ n ∧ n ≤ b := by
  unfold isI; rw [nI_toInt h]; omega
theorem isX_nI {n k : Nat} (h : n < 2 ^ 31) : isX (nI n) k ↔ n < k := by
  unfold isX; rw [nI_toInt h]; omega
theorem lt_nI {x : Int32} {n : Nat} (h : n < 2 ^ 31) : x < nI n ↔ x.toInt < (n : Int) := by rw [Int32.lt_iff_toInt_lt, nI_toInt h]
theorem nI_ltx {x : Int32} {n : Nat} (h : n < 2 ^ 31) : nI n < x ↔ (n : Int) < x.toInt := by rw [Int32.lt_iff_toInt_lt, nI_toInt h]
theorem nI_lex {x : Int32} {n : Nat} (h : n < 2 ^ 31) : nI n ≤ x ↔ (n : Int) ≤ x.toInt := by rw [Int32.le_iff_toInt_le, nI_toInt h]
theorem lex_nI {x : Int32} {n : Nat} (h : n < 2 ^ 31) : x ≤ nI n ↔ x.toInt ≤ (n : Int) := by rw [Int32.le_iff_toInt_le, nI_toInt h]
theorem lt_0x {x : Int32} : x < 0 ↔ x.toInt < 0 := by rw [Int32.lt_iff_toInt_lt]; rfl
/-- what holds of every state that is reached -/
def sOk (σ : sSt) : Prop := σ 3 0 ≤ 4 ∧ σ 4 0 ≤ 10 ∧ (∀ i, i < σ 3 0 → 1 ≤ σ 5 i ∧ σ 5 i ≤ 60 ∧ σ 6 i ≤ 9 ∧ σ 7 i ≤ σ 5 i) ∧ (∀ j, j < σ 4 0 → σ 8 j < σ 3 0 ∧ σ 9 j ≤ 29 ∧ σ 10 j ≤ 12 ∧ σ 11 j ≤ 48 ∧ σ 12 j ≤ 2 ∧ σ 13 j ≤ 32) ∧ (∀ j, σ 4 0 ≤ j → σ 11 j = 0 ∧ σ 12 j = 0) ∧ σ 0 0 ≤ 52000 ∧ σ 1 0 + σ 2 0 ≤ 1000
/-! what is answered -/
def bIn (σ : sSt) (j k : Nat) : Nat := if (σ 0 0 + k) / 24 = σ 0 0 / 24 then σ 10 j else bstD (σ 9 j) ((σ 0 0 + k) / 24)
def dIn (σ : sSt) (i k : Nat) : Nat := min (σ 5 i) (σ 7 i + k * σ 6 i)
def utl (σ : sSt) (j sz : Nat) : Nat → Nat → Int32
  | 0, _ => -1
  | n + 1, k => if σ 11 j ≤ k ∧ sz ≤ bIn σ j k + dIn σ (σ 8 j) k then nI k else utl σ j sz n (k + 1)
def twc (sz rm fl bd h0 : Nat) : Nat → Nat → Nat → Nat → Nat → Nat → Nat → Nat
  | 0, _, _, _, _, _, _ => 0
  | n + 1, b, du, bu, he, mr, nx => fwG sz du bu he + twc sz rm fl bd h0 n (b + 1) (min rm (fwD sz du bu he + fl)) (bstH bd (fwB sz du bu he) (h0 + b + 1)) (fwH sz du bu he mr nx - 1) (fwM sz du bu he mr) (fwN sz du bu he mr nx)
def tws (σ : sSt) (j sz n fl : Nat) : Nat := twc sz (σ 5 (σ 8 j)) fl (σ 9 j) (σ 0 0) n 0 (σ 7 (σ 8 j)) (σ 10 j) (σ 11 j) (σ 12 j) (σ 13 j)
def wtd (σ : sSt) (j sz : Nat) : Nat → Nat → Int32
  | 0, _ => -1
  | n + 1, f => if tws σ j sz 24 f = 24 then nI f else wtd σ j sz n (f + 1)
def ufl (lk fl : Nat) : Nat → Nat → Int32
  | 0, _ => -1
  | n + 1, k => if lk ≤ fl * k then nI k else ufl lk fl n (k + 1)
def vFul (σ : sSt) (i : Nat) : Int32 := ufl (σ 5 i - σ 7 i) (σ 6 i) 101 0
abbrev okW (σ : sSt) (j sz : Nat) : Prop := σ 11 j = 0 ∧ sz ≤ σ 10 j + σ 7 (σ 8 j)
def lft (σ : sSt) (j sz : Nat) : Nat := σ 7 (σ 8 j) - (sz - σ 10 j)
def bstC (σ : sSt) (sz : Nat) : Nat → Nat
  | 0 => 0
  | n + 1 => if okW σ n sz ∧ (bstC σ sz n = 0 ∨ lft σ (bstC σ sz n - 1) sz < lft σ n sz) then n + 1 else bstC σ sz n
def vBst (σ : sSt) (sz : Nat) : Int32 := if bstC σ sz (σ 4 0) = 0 then -1 else nI (bstC σ sz (σ 4 0) - 1)
def cHel (σ : sSt) : Nat → Nat
  | 0 => 0
  | n + 1 => cHel σ n + (if 0 < σ 11 n then 1 else 0)
def cUsr (σ : sSt) (i : Nat) : Nat → Nat
  | 0 => 0
  | n + 1 => cUsr σ i n + (if σ 8 n = i then 1 else 0)
def vDay (σ : sSt) (j : Nat) : Nat := (σ 9 j + 30 - σ 0 0 / 24 % 30) % 30
def vGrt (σ : sSt) (j : Nat) : Nat := if 0 < σ 11 j then 0 else min 20 (σ 10 j + σ 7 (σ 8 j))
def mix (d : Int64) (x : Int32) : Int64 := d * 31 + x.toInt64
def dgW (σ : sSt) (d : Int64) : Nat → Int64
  | 0 => d
  | i + 1 => mix (mix (mix (dgW σ d i) (nI (σ 7 i))) (nI (cUsr σ i (σ 4 0)))) (vFul σ i)
def dgC (σ : sSt) (d : Int64) : Nat → Int64
  | 0 => d
  | j + 1 => mix (mix (mix (mix (mix (mix (mix (mix (mix (mix (dgC σ d j) (nI (σ 8 j))) (nI (σ 10 j))) (nI (σ 11 j))) (nI (σ 12 j))) (nI (σ 13 j))) (nI (vDay σ j))) (nI (vGrt σ j))) (utl σ j 10 101 0)) (nI (tws σ j 4 12 (σ 6 (σ 8 j))))) (wtd σ j 3 21 0)
def dg0 (σ : sSt) : Int64 := mix (mix (mix (mix (mix (mix (mix (mix 2267 (nI (σ 0 0))) (nI (σ 0 0 / 24))) (nI (σ 3 0))) (nI (σ 4 0))) (nI (σ 1 0))) (nI (σ 2 0))) (nI (cHel σ (σ 4 0)))) (vBst σ 5)
def vDig (σ : sSt) : Int64 := dgC σ (dgW σ (dg0 σ) (σ 3 0)) (σ 4 0)
def vShr (a b : Nat) : UInt64 := FP.ddiv (FP.i2d (nI a)) (FP.i2d (nI (a + b)))
/-! what comes behind -/
def nAddW (σ : sSt) (a b : Nat) : sSt := up2 (up2 (up2 (up2 σ 5 (σ 3 0) a) 7 (σ 3 0) a) 6 (σ 3 0) b) 3 0 (σ 3 0 + 1)
def nAddC (σ : sSt) (a b : Nat) : sSt := up2 (up2 (up2 (up2 (up2 σ 8 (σ 4 0) a) 9 (σ 4 0) b) 10 (σ 4 0) (bstD b (σ 0 0 / 24))) 13 (σ 4 0) 4) 4 0 (σ 4 0 + 1)
def nWis (σ : sSt) (j sz : Nat) : sSt :=
  let w := σ 8 j
  let s1 := up2 (up2 (up2 (up2 (up2 σ 7 w (fwD sz (σ 7 w) (σ 10 j) (σ 11 j))) 10 j (fwB sz (σ 7 w) (σ 10 j) (σ 11 j))) 11 j (fwH sz (σ 7 w) (σ 10 j) (σ 11 j) (σ 12 j) (σ 13 j))) 12 j (fwM sz (σ 7 w) (σ 10 j) (σ 11 j) (σ 12 j))) 13 j (fwN sz (σ 7 w) (σ 10 j) (σ 11 j) (σ 12 j) (σ 13 j))
  if okW σ j sz then up2 s1 1 0 (σ 1 0 + 1) else up2 s1 2 0 (σ 2 0 + 1)
def nFor (σ : sSt) (j : Nat) : sSt := up2 (up2 σ 11 j 0) 12 j 0
def nPas (σ : sSt) (k : Nat) : sSt := fun f i =>
  if f = 0 ∧ i = 0 then σ 0 0 + k else if f = 7 ∧ i < σ 3 0 then dIn σ i k else if f = 10 ∧ i < σ 4 0 then bIn σ i k else if f = 11 ∧ i < σ 4 0 then σ 11 i - k else σ f i
def sFal (σ : sSt) (k : Nat) : Nat → Nat
  | 0 => 0
  | n + 1 => sFal σ k n + (dIn σ n k - σ 7 n)
/-! the class's cells -/
abbrev cF (Λ σ : sSt) : va_E := .inr (3, [.ref (Λ 1 0), .ref (Λ 2 0), .ref (Λ 5 0), .ref (Λ 6 0), .int (nI (σ 0 0)), .int (nI (σ 1 0)), .int (nI (σ 2 0))])
abbrev cW (σ : sSt) (i : Nat) : va_E := .inr (2, [.int (nI i), .int (nI (σ 5 i)), .int (nI (σ 6 i)), .int (nI (σ 7 i))])
abbrev cC (Λ σ : sSt) (j : Nat) : va_E := .inr (1, [.ref (Λ 7 (σ 8 j)), .int (nI (σ 9 j)), .int (nI (σ 10 j)), .int (nI (σ 11 j)), .int (nI (σ 12 j)), .int (nI (σ 13 j))])
abbrev cO (g : wG) (f : Nat → Option Nat) : va_E := .inl (gO g, 10, .inr (.inr (.inr (.inr f))))
abbrev cJ (g : wG) (v : Int64) : va_E := .inl (gJ g, 1, .inr (.inl (fun _ => v)))
def arrOK (g : wG) (μ : wMu) (e n : Nat) (p : Nat → Nat) : Prop := (n = 0 ∧ e = gE g) ∨ ∃ f : Nat → Option Nat, μ e = some (cO g f) ∧ ∀ i, i < n → f i = some (p i)
def fD (g : wG) (Λ : sSt) (xv : Option Int64) (σ : sSt) (μ : wMu) : Prop :=
  μ (Λ 0 0) = some (cF Λ σ) ∧ (∃ m : Int32, μ (Λ 1 0) = some (.inr (0, [.int m, .ref (Λ 3 0), .int (nI (σ 3 0))]))) ∧ (∃ m : Int32, μ (Λ 2 0) = some (.inr (0, [.int m, .ref (Λ 4 0), .int (nI (σ 4 0))]))) ∧
  arrOK g μ (Λ 3 0) (σ 3 0) (Λ 7) ∧ arrOK g μ (Λ 4 0) (σ 4 0) (Λ 8) ∧
  (∀ i, i < σ 3 0 → μ (Λ 7 i) = some (cW σ i)) ∧ (∀ j, j < σ 4 0 → μ (Λ 8 j) = some (cC Λ σ j)) ∧
  (∃ a b c d : Int32, μ (Λ 5 0) = some (.inr (2, [.int a, .int b, .int c, .int d]))) ∧ (∃ a b c d e : Int32, μ (Λ 6 0) = some (.inr (1, [.ref (Λ 5 0), .int a, .int b, .int c, .int d, .int e]))) ∧
  (Λ 1 0 ≠ Λ 2 0 ∧ (Λ 3 0 = Λ 4 0 → Λ 3 0 = gE g) ∧ (∀ i k, i < σ 3 0 → k < σ 3 0 → Λ 7 i = Λ 7 k → i = k) ∧ (∀ i k, i < σ 4 0 → k < σ 4 0 → Λ 8 i = Λ 8 k → i = k) ∧ (∀ i, i < σ 3 0 → Λ 7 i ≠ Λ 5 0) ∧ (∀ j, j < σ 4 0 → Λ 8 j ≠ Λ 6 0)) ∧
  (∀ v, xv = some v → μ (Λ 9 0) = some (cJ g v))
def kd : va_E → Nat
  | .inl a => match a.2.2 with
    | .inr (.inl _) => 101
    | .inr (.inr _) => 102
    | _ => 100
  | .inr o => o.1
theorem kd_nn {μ : wMu} {a b : Nat} {e1 e2 : va_E} (h1 : μ a = some e1) (h2 : μ b = some e2) (h : kd e1 ≠ kd e2) : a ≠ b := fun z => h (by
  rw [z, h2] at h1
  cases h1
  rfl)
theorem kd_ne {μ : wMu} {a b : Nat} {e1 e2 : va_E} (h1 : μ a = some e1) (h2 : μ b = some e2) (h : Nat.beq (kd e1) (kd e2) = false) : a ≠ b := kd_nn h1 h2 (Nat.ne_of_beq_eq_false h)
section FDL
variable {g : wG} {Λ σ σ' : sSt} {xv : Option Int64} {μ μ' : wMu}
theorem arrOK.same {e n : Nat} {p : Nat → Nat} (h : arrOK g μ e n p) (hq : ∀ f, μ e = some (cO g f) → μ' e = μ e) : arrOK g μ' e n p := by
  rcases h with h | ⟨f, h1, h2⟩
  · exact Or.inl h
  · exact Or.inr ⟨f, (hq f h1).trans h1, h2⟩
/-- another state of the objects, the same lists -/
theorem fD.chg (hF : fD g Λ xv σ μ) (h3 : σ' 3 0 = σ 3 0) (h4 : σ' 4 0 = σ 4 0) (hx : μ' (Λ 0 0) = some (cF Λ σ')) (hw : ∀ i, i < σ 3 0 → μ' (Λ 7 i) = some (cW σ' i)) (hc : ∀ j, j < σ 4 0 → μ' (Λ 8 j) = some (cC Λ σ' j))
    (ht1 : ∃ a b c d : Int32, μ' (Λ 5 0) = some (.inr (2, [.int a, .int b, .int c, .int d]))) (ht2 : ∃ a b c d e : Int32, μ' (Λ 6 0) = some (.inr (1, [.ref (Λ 5 0), .int a, .int b, .int c, .int d, .int e])))
    (hr : ∀ q e, μ q = some e → (kd e = 0 ∨ 100 ≤ kd e) → μ' q = μ q) : fD g Λ xv σ' μ' := by
  obtain ⟨f1, ⟨m1, f2⟩, ⟨m2, f3⟩, f4, f5, f6, f7, f8, f9, f10, f11⟩ := hF
  refine ⟨hx, ⟨m1, ?_⟩, ⟨m2, ?_⟩, ?_, ?_, ?_, ?_, ht1, ht2, ?_, ?_⟩
  · rw [hr _ _ f2 (Or.inl rfl), f2, h3]
  · rw [hr _ _ f3 (Or.inl rfl), f3, h4]
  · rw [h3]; exact f4.same (fun f h => hr _ _ h (Or.inr (Nat.le_of_ble_eq_true rfl)))
  · rw [h4]; exact f5.same (fun f h => hr _ _ h (Or.inr (Nat.le_of_ble_eq_true rfl)))
  · rw [h3]; exact hw
  · rw [h4]; exact hc
  · rw [h3, h4]; exact f10
  · intro v hv; rw [hr _ _ (f11 v hv) (Or.inr (Nat.le_of_ble_eq_true rfl))]; exact f11 v hv
/-- one wand is another -/
theorem fD.w1 (hF : fD g Λ xv σ μ) {i : Nat} (hi : i < σ 3 0) (hn : μ' (Λ 7 i) = some (cW σ' i)) (ho : ∀ q, q ≠ Λ 7 i → μ' q = μ q) (hs : ∀ f k, ¬ (5 ≤ f ∧ f ≤ 7 ∧ k = i) → σ' f k = σ f k) : fD g Λ xv σ' μ' := by
  obtain ⟨f1, ⟨m1, f2⟩, ⟨m2, f3⟩, f4, f5, f6, f7, f8, f9, f10, f11⟩ := id hF
  have hi0 := f6 i hi
  refine hF.chg (hs 3 0 (by omega)) (hs 4 0 (by omega)) ?_ ?_ ?_ ?_ ?_ ?_
  · rw [ho _ (kd_ne f1 hi0 rfl), f1]; simp only [hs 0 0 (by omega), hs 1 0 (by omega), hs 2 0 (by omega), cF]
  · intro k hk
    by_cases e : k = i
    · subst e; exact hn
    · rw [ho _ (fun z => e (f10.2.2.1 k i hk hi z)), f6 k hk]; simp only [cW, hs 5 k (by omega), hs 6 k (by omega), hs 7 k (by omega)]
  · intro j hj
    rw [ho _ (kd_ne (f7 j hj) hi0 rfl), f7 j hj]; simp only [cC, hs 8 j (by omega), hs 9 j (by omega), hs 10 j (by omega), hs 11 j (by omega), hs 12 j (by omega), hs 13 j (by omega)]
  · obtain ⟨a, b, c, d, h⟩ := f8
    exact ⟨a, b, c, d, by rw [ho _ (Ne.symm (f10.2.2.2.2.1 i hi)), h]⟩
  · obtain ⟨a, b, c, d, e, h⟩ := f9
    exact ⟨a, b, c, d, e, by rw [ho _ (kd_ne h hi0 rfl), h]⟩
  · intro q e h1 h2
    exact ho q (kd_nn h1 hi0 (by show kd e ≠ 2; omega))
/-- one child is another -/
theorem fD.c1 (hF : fD g Λ xv σ μ) {j : Nat} (hj : j < σ 4 0) (hn : μ' (Λ 8 j) = some (cC Λ σ' j)) (ho : ∀ q, q ≠ Λ 8 j → μ' q = μ q) (hs : ∀ f k, ¬ (8 ≤ f ∧ f ≤ 13 ∧ k = j) → σ' f k = σ f k) : fD g Λ xv σ' μ' := by
  obtain ⟨f1, ⟨m1, f2⟩, ⟨m2, f3⟩, f4, f5, f6, f7, f8, f9, f10, f11⟩ := id hF
  have hj0 := f7 j hj
  refine hF.chg (hs 3 0 (by omega)) (hs 4 0 (by omega)) ?_ ?_ ?_ ?_ ?_ ?_
  · rw [ho _ (kd_ne f1 hj0 rfl), f1]; simp only [hs 0 0 (by omega), hs 1 0 (by omega), hs 2 0 (by omega), cF]
  · intro k hk
    rw [ho _ (kd_ne (f6 k hk) hj0 rfl), f6 k hk]; simp only [cW, hs 5 k (by omega), hs 6 k (by omega), hs 7 k (by omega)]
  · intro k hk
    by_cases e : k = j
    · subst e; exact hn
    · rw [ho _ (fun z => e (f10.2.2.2.1 k j hk hj z)), f7 k hk]; simp only [cC, hs 8 k (by omega), hs 9 k (by omega), hs 10 k (by omega), hs 11 k (by omega), hs 12 k (by omega), hs 13 k (by omega)]
  · obtain ⟨a, b, c, d, h⟩ := f8
    exact ⟨a, b, c, d, by rw [ho _ (kd_ne h hj0 rfl), h]⟩
  · obtain ⟨a, b, c, d, e, h⟩ := f9
    exact ⟨a, b, c, d, e, by rw [ho _ (Ne.symm (f10.2.2.2.2.2 j hj)), h]⟩
  · intro q e h1 h2
    exact ho q (kd_nn h1 hj0 (by show kd e ≠ 1; omega))
/-- the fairy's own numbers are others -/
theorem fD.x1 (hF : fD g Λ xv σ μ) (hn : μ' (Λ 0 0) = some (cF Λ σ')) (ho : ∀ q, q ≠ Λ 0 0 → μ' q = μ q) (hs : ∀ f k, ¬ (f ≤ 2 ∧ k = 0) → σ' f k = σ f k) : fD g Λ xv σ' μ' := by
  obtain ⟨f1, ⟨m1, f2⟩, ⟨m2, f3⟩, f4, f5, f6, f7, f8, f9, f10, f11⟩ := id hF
  refine hF.chg (hs 3 0 (by omega)) (hs 4 0 (by omega)) hn ?_ ?_ ?_ ?_ ?_
  · intro k hk
    rw [ho _ (kd_ne (f6 k hk) f1 rfl), f6 k hk]; simp only [cW, hs 5 k (by omega), hs 6 k (by omega), hs 7 k (by omega)]
  · intro k hk
    rw [ho _ (kd_ne (f7 k hk) f1 rfl), f7 k hk]; simp only [cC, hs 8 k (by omega), hs 9 k (by omega), hs 10 k (by omega), hs 11 k (by omega), hs 12 k (by omega), hs 13 k (by omega)]
  · obtain ⟨a, b, c, d, h⟩ := f8
    exact ⟨a, b, c, d, by rw [ho _ (kd_ne h f1 rfl), h]⟩
  · obtain ⟨a, b, c, d, e, h⟩ := f9
    exact ⟨a, b, c, d, e, by rw [ho _ (kd_ne h f1 rfl), h]⟩
  · intro q e h1 h2
    exact ho q (kd_nn h1 f1 (by show kd e ≠ 3; omega))
/-- the trial's cells are others -/
theorem fD.t1 (hF : fD g Λ xv σ μ) (ht1 : ∃ a b c d : Int32, μ' (Λ 5 0) = some (.inr (2, [.int a, .int b, .int c, .int d]))) (ht2 : ∃ a b c d e : Int32, μ' (Λ 6 0) = some (.inr (1, [.ref (Λ 5 0), .int a, .int b, .int c, .int d, .int e]))) (ho : ∀ q, q ≠ Λ 5 0 → q ≠ Λ 6 0 → μ' q = μ q) : fD g Λ xv σ μ' := by
  obtain ⟨f1, ⟨m1, f2⟩, ⟨m2, f3⟩, f4, f5, f6, f7, ⟨a, b, c, d, f8⟩, ⟨a1, b1, c1, d1, e1, f9⟩, f10, f11⟩ := id hF
  refine hF.chg rfl rfl ?_ ?_ ?_ ht1 ht2 ?_
  · rw [ho _ (kd_ne f1 f8 rfl) (kd_ne f1 f9 rfl)]; exact f1
  · intro k hk
    rw [ho _ (f10.2.2.2.2.1 k hk) (kd_ne (f6 k hk) f9 rfl)]; exact f6 k hk
  · intro k hk
    rw [ho _ (kd_ne (f7 k hk) f8 rfl) (f10.2.2.2.2.2 k hk)]; exact f7 k hk
  · intro q e h1 h2
    exact ho q (kd_nn h1 f8 (by show kd e ≠ 2; omega)) (kd_nn h1 f9 (by show kd e ≠ 1; omega))
end FDL
