def jI (n : Nat) : Int32 := Int32.ofNat n
def b2i (b : Bool) : Int32 := if b then 1 else 0
def updN {α : Type} (f : Nat → α) (k : Nat) (x : α) : Nat → α := fun j => if j = k then x else f j
theorem updN_same {α : Type} (f : Nat → α) (k : Nat) (x : α) : updN f k x k = x := if_pos rfl
theorem updN_ne {α : Type} (f : Nat → α) {k j : Nat} (x : α) (h : j ≠ k) : updN f k x j = f j := if_neg h
theorem upd_same (f : Nat → Int32) (k : Nat) (x : Int32) : upd f k x k = x := if_pos rfl
theorem upd_ne (f : Nat → Int32) {k j : Nat} (x : Int32) (h : j ≠ k) : upd f k x j = f j := if_neg h
theorem updL_same (f : Nat → Int64) (k : Nat) (x : Int64) : vp_updL f k x k = x := if_pos rfl
theorem updL_ne (f : Nat → Int64) {k j : Nat} (x : Int64) (h : j ≠ k) : vp_updL f k x j = f j := if_neg h
theorem b2i_t : b2i true = 1 := rfl
theorem b2i_f : b2i false = 0 := rfl
theorem nar_b (b : Bool) : vp_nar .boolean (b2i b) = b2i b := by cases b <;> decide
theorem nar_0 : vp_nar .boolean 0 = b2i false := by decide
theorem nar_1 : vp_nar .boolean 1 = b2i true := by decide
theorem b2i_0 {b : Bool} : b2i b = 0 ↔ b = false := by cases b <;> decide
theorem b2i_1 {b : Bool} : b2i b = 1 ↔ b = true := by cases b <;> decide
theorem jI_tn {n : Nat} (h : n < 2147483648) : Int32.toNatClampNeg (jI n) = n := Int32.toNatClampNeg_ofNat_of_lt h
theorem jI_ti {n : Nat} (h : n < 2147483648) : (jI n).toInt = (n : Int) := Int32.toInt_ofNat_of_lt h
theorem jI_s (n : Nat) : jI n + 1 = jI (n + 1) := (Int32.ofNat_add n 1).symm
theorem jI_a (a b : Nat) : jI a + jI b = jI (a + b) := (Int32.ofNat_add a b).symm
theorem jI_m (a b : Nat) : jI a * jI b = jI (a * b) := (Int32.ofNat_mul a b).symm
theorem jI_sub {a b : Nat} (h : b ≤ a) : jI a - jI b = jI (a - b) := (Int32.ofNat_sub a b h).symm
theorem jI_p (n : Nat) : jI (n + 1) + (-1) = jI n := by
  rw [← jI_s, Int32.add_assoc, show (1 : Int32) + (-1) = 0 from by decide, Int32.add_zero]
theorem jI_d (n : Nat) : jI (n + 1) - 1 = jI n := by rw [← jI_s, Int32.add_sub_cancel]
theorem jI_dm (m : Nat) : jI m - 1 = jI m + (-1) := Int32.sub_eq_add_neg _ _
theorem jI_le {a b : Nat} (ha : a < 2147483648) (hb : b < 2147483648) : jI a ≤ jI b ↔ a ≤ b := Int32.ofNat_le_iff_le ha hb
theorem jI_lt {a b : Nat} (ha : a < 2147483648) (hb : b < 2147483648) : jI a < jI b ↔ a < b := Int32.ofNat_lt_iff_lt ha hb
theorem jI_eq {a b : Nat} (ha : a < 2147483648) (hb : b < 2147483648) : jI a = jI b ↔ a = b := by
  constructor
  · intro h
    have h2 := congrArg Int32.toNatClampNeg h
    rwa [jI_tn ha, jI_tn hb] at h2
  · intro h
    rw [h]
theorem jI_nn {n : Nat} (h : n < 2147483648) : ¬ jI n < 0 := fun q => absurd ((jI_lt h (by decide : 0 < 2147483648)).mp q) (Nat.not_lt_zero _)
theorem jI_in {n k : Nat} (h : n < 2147483648) (hk : n < k) : vp_in (jI n) k := by
  unfold vp_in
  rw [jI_tn h]
  intro q
  rcases q with q | q
  · exact jI_nn h q
  · omega
theorem jI_of {x : Int32} (h : ¬ x < 0) : x = jI (Int32.toNatClampNeg x) := by
  have h0 : 0 ≤ x := by
    rw [Int32.lt_iff_toInt_lt] at h
    rw [Int32.le_iff_toInt_le]
    omega
  exact (Int32.ofNat_toNatClampNeg x h0).symm
theorem jI_ex (x : Int32) : x < 0 ∨ ∃ n, n < 2147483648 ∧ x = jI n := by
  by_cases h : x < 0
  · exact Or.inl h
  · exact Or.inr ⟨_, Int32.toNatClampNeg_lt x, jI_of h⟩
theorem jI_m1 {n : Nat} (h : n < 2147483648) : jI n ≠ -1 := by
  intro q
  have h2 := jI_nn h
  rw [q] at h2
  exact h2 (by decide)
theorem jI_div {n : Nat} (h : n < 2147483648) : jI n / 4 = jI (n / 4) := (Int32.ofNat_div h (by decide : 4 < 2 ^ 31)).symm
theorem jI_0 : jI 0 = 0 := rfl
/-- a loop that goes N rounds at most, its state at round k told by Inv k -/
theorem lpi {σ : Type} (L : Nat → σ → Prop) (Inv : Nat → σ → Prop) (N : Nat) (hstep : ∀ k, k < N → ∀ s n, Inv k s → (∀ s', Inv (k + 1) s' → L n s') → L (n + 1) s) (hend : ∀ s n, Inv N s → L (n + 1) s) : ∀ k, k ≤ N → ∀ s, Inv k s → ∃ e, L e s := by
  have key : ∀ d k, k + d = N → ∀ s, Inv k s → L (d + 1) s := by
    intro d
    induction d with
    | zero =>
      intro k hk s hs
      have hk : k = N := hk
      subst hk
      exact hend s 0 hs
    | succ d ih =>
      intro k hk s hs
      exact hstep k (by omega) s (d + 1) hs (fun s' h' => ih (k + 1) (by omega) s' h')
  intro k hk s hs
  exact ⟨_, key (N - k) k (by omega) s hs⟩
/-- a loop that counts m down -/
theorem lpd {σ : Type} (L : Nat → Nat → σ → Prop) (Inv : Nat → σ → Prop) (hstep : ∀ m s n, Inv (m + 1) s → (∀ s', Inv m s' → L n m s') → L (n + 1) (m + 1) s) (hend : ∀ s n, Inv 0 s → L (n + 1) 0 s) : ∀ m s, Inv m s → ∃ e, L e m s := by
  have key : ∀ m s, Inv m s → L (m + 1) m s := by
    intro m
    induction m with
    | zero => exact fun s hs => hend s 0 hs
    | succ m ih => exact fun s hs => hstep m s (m + 1) hs ih
  exact fun m s hs => ⟨_, key m s hs⟩
/-- how many below n, and whether one below n -/
def bc : Nat → (Nat → Bool) → Nat
  | 0, _ => 0
  | n + 1, P => bc n P + (if P n then 1 else 0)
def bx : Nat → (Nat → Bool) → Bool
  | 0, _ => false
  | n + 1, P => bx n P || P n
theorem bc_le (n : Nat) (P : Nat → Bool) : bc n P ≤ n := by
  induction n with
  | zero => exact Nat.le_refl _
  | succ n ih =>
    unfold bc
    split <;> omega
theorem bc_congr {n : Nat} {P Q : Nat → Bool} (h : ∀ k, k < n → P k = Q k) : bc n P = bc n Q := by
  induction n with
  | zero => rfl
  | succ n ih =>
    unfold bc
    rw [ih (fun k hk => h k (by omega)), h n (by omega)]
theorem bx_iff {n : Nat} {P : Nat → Bool} : bx n P = true ↔ ∃ k, k < n ∧ P k = true := by
  induction n with
  | zero => exact ⟨fun h => (by cases h), fun ⟨k, hk, _⟩ => absurd hk (Nat.not_lt_zero _)⟩
  | succ n ih =>
    unfold bx
    rw [Bool.or_eq_true, ih]
    constructor
    · rintro (⟨k, hk, h⟩ | h)
      · exact ⟨k, by omega, h⟩
      · exact ⟨n, by omega, h⟩
    · rintro ⟨k, hk, h⟩
      by_cases hkn : k = n
      · subst hkn
        exact Or.inr h
      · exact Or.inl ⟨k, by omega, h⟩
theorem bx_congr {n : Nat} {P Q : Nat → Bool} (h : ∀ k, k < n → P k = Q k) : bx n P = bx n Q := by
  induction n with
  | zero => rfl
  | succ n ih =>
    unfold bx
    rw [ih (fun k hk => h k (by omega)), h n (by omega)]
theorem bc_up {n : Nat} {P Q : Nat → Bool} (h : ∀ k, k < n → P k = true → Q k = true) : bc n P ≤ bc n Q := by
  induction n with
  | zero => exact Nat.le_refl _
  | succ n ih =>
    unfold bc
    have h1 := ih (fun k hk => h k (by omega))
    have h2 := h n (by omega)
    by_cases hp : P n = true
    · rw [if_pos hp, if_pos (h2 hp)]
      omega
    · rw [if_neg hp]
      omega
/-- one more -/
theorem bc_one {n x : Nat} {P Q : Nat → Bool} (hx : x < n) (h1 : P x = false) (h2 : Q x = true) (h : ∀ k, k < n → k ≠ x → P k = Q k) : bc n Q = bc n P + 1 := by
  induction n with
  | zero => exact absurd hx (Nat.not_lt_zero _)
  | succ n ih =>
    unfold bc
    by_cases hn : x = n
    · subst hn
      rw [h1, h2, bc_congr (fun k hk => (h k (by omega) (by omega)).symm : ∀ k, k < x → Q k = P k)]
      simp
    · rw [ih (by omega) (fun k hk => h k (by omega)), h n (by omega) (fun q => hn q.symm)]
      omega
theorem bc_zero {n : Nat} {P : Nat → Bool} : bc n P = 0 ↔ ∀ k, k < n → P k = false := by
  induction n with
  | zero => exact ⟨fun _ k hk => absurd hk (Nat.not_lt_zero _), fun _ => rfl⟩
  | succ n ih =>
    unfold bc
    constructor
    · intro h k hk
      have h1 : bc n P = 0 := by omega
      by_cases hkn : k = n
      · subst hkn
        cases hp : P k with
        | false => rfl
        | true => rw [hp] at h; simp at h
      · exact ih.mp h1 k (by omega)
    · intro h
      rw [ih.mpr (fun k hk => h k (by omega)), h n (by omega)]
      rfl
/-- bits of a long -/
def tb (x : Int64) (t : Nat) : Bool := x.toBitVec.getLsbD t
def oneb (t : Nat) : Int64 := (1 : Int64) <<< (Int32.toInt64 (jI t) &&& 63)
theorem oneb_bv : ∀ t, t < 64 → (oneb t).toBitVec = BitVec.twoPow 64 t := by decide +kernel
theorem tb_oneb {t : Nat} (h : t < 64) (u : Nat) : tb (oneb t) u = decide (t = u) := by
  unfold tb
  rw [oneb_bv t h, BitVec.getLsbD_twoPow]
  simp [h]
theorem tb_or (x y : Int64) (u : Nat) : tb (x ||| y) u = (tb x u || tb y u) := by
  unfold tb
  rw [Int64.toBitVec_or, BitVec.getLsbD_or]
theorem tb_and (x y : Int64) (u : Nat) : tb (x &&& y) u = (tb x u && tb y u) := by
  unfold tb
  rw [Int64.toBitVec_and, BitVec.getLsbD_and]
theorem tb_m1 {u : Nat} (h : u < 64) : tb (-1) u = true := by
  unfold tb
  rw [Int64.toBitVec_neg, Int64.toBitVec_one, BitVec.neg_one_eq_allOnes, BitVec.getLsbD_allOnes]
  simp [h]
theorem tb_not (x : Int64) {u : Nat} (h : u < 64) : tb (x ^^^ (-1)) u = !tb x u := by
  have h2 := tb_m1 h
  unfold tb at h2 ⊢
  rw [Int64.toBitVec_xor, BitVec.getLsbD_xor, h2]
  simp
theorem tb_0 (u : Nat) : tb 0 u = false := by
  unfold tb
  rw [Int64.toBitVec_zero, BitVec.getLsbD_zero]
theorem tb_hi (x : Int64) {u : Nat} (h : 64 ≤ u) : tb x u = false := BitVec.getLsbD_of_ge _ _ h
theorem tb_ext {x y : Int64} (h : ∀ u, u < 64 → tb x u = tb y u) : x = y := by
  apply Int64.toBitVec_inj.mp
  apply BitVec.eq_of_getLsbD_eq
  intro i hi
  exact h i hi
theorem cmp_0 {x y : Int64} : lg_cmp x y = 0 ↔ x = y := by
  unfold lg_cmp
  constructor
  · intro h
    split at h
    · exact absurd h (by decide)
    · split at h
      · assumption
      · exact absurd h (by decide)
  · intro h
    subst h
    rw [if_neg (by rw [gt_iff_lt, Int64.lt_iff_toInt_lt]; omega), if_pos rfl]
theorem cmp_z {x : Int64} : lg_cmp x 0 = 0 ↔ ∀ u, u < 64 → tb x u = false := by
  rw [cmp_0]
  constructor
  · intro h u _
    rw [h, tb_0]
  · intro h
    exact tb_ext (fun u hu => by rw [h u hu, tb_0])
theorem cmp_bit {x : Int64} {t : Nat} (ht : t < 64) : lg_cmp (x &&& oneb t) 0 = 0 ↔ tb x t = false := by
  rw [cmp_z]
  constructor
  · intro h
    have h2 := h t ht
    rw [tb_and, tb_oneb ht] at h2
    simpa using h2
  · intro h u hu
    rw [tb_and, tb_oneb ht]
    by_cases htu : t = u
    · subst htu
      rw [h]
      rfl
    · simp [htu]
theorem up_k {α : Type} (m : α → Int32) {f : Nat → Int32} {g : Nat → α} {N k : Nat} {x : Int32} {y : α} (h : ∀ t, t < N → f t = m (g t)) (hx : x = m y) : ∀ t, t < N → upd f k x t = m (updN g k y t) := by
  intro t ht
  by_cases e : t = k
  · rw [e, upd_same, updN_same, hx]
  · rw [upd_ne _ _ e, updN_ne _ _ e, h t ht]
theorem up_n {α : Type} (m : α → Int32) {f : Nat → Int32} {g : Nat → α} {n : Nat} {x : Int32} {y : α} (h : ∀ t, t < n → f t = m (g t)) (hx : x = m y) : ∀ t, t < n + 1 → upd f n x t = m (updN g n y t) := by
  intro t ht
  by_cases e : t = n
  · rw [e, upd_same, updN_same, hx]
  · rw [upd_ne _ _ e, updN_ne _ _ e, h t (by omega)]
def pI (p : Option Nat) : Int32 := match p with
  | none => -1
  | some q => jI q
