section START0
def m0_MA (b : Int32) : S_MA := (b, fun _ => 0, fun _ => 0, fun _ => 0, fun _ => 0, fun _ => 0, fun _ => 0, 0)
def m0_MD : S_MD := (fun _ => 0, fun _ => 0, fun _ => 0)
def m0_MG : S_MG := (0, 0, 0, fun _ => 0, fun _ => 0, fun _ => 0, fun _ => 0, fun _ => 0, fun _ => 0, fun _ => 0, fun _ => 0)
def m0_MT : S_MT := (0, fun _ => 0, fun _ => 0, fun _ => 0, fun _ => 0, fun _ => 0, fun _ => 0)
def m0_ML : S_ML := fun _ => 0
def m0_MP : S_MP := (0, fun _ => 0, 0)
def m0_MV : S_MV := (fun _ => 0, fun _ => 0, fun _ => 0, fun _ => 0)
def m0_MF : S_MF := fun _ => 0
def m0_MN : S_MN := 0
theorem i_M_w {cI cL cZ : ClassId} {b : Int32} {h0 : Nat} {u : Nat → Nat} : i_M cI cL cZ b h0 u = wM cI cL cZ (fun k => match k with | 0 => h0 | k + 1 => u k) (m0_MA b) m0_MD m0_MF m0_MG m0_ML m0_MN m0_MP m0_MT m0_MV := rfl
def v0 (F : Nat) : VP := (F, 0, fun _ => 0, fun _ => false, fun _ => false, fun _ => 0, fun _ => 0, fun _ => false, fun _ => 0, fun _ => 0, 0, fun _ => 0)
def g0 : VG := (0, 0, 0, fun _ => 0, fun _ => 0, fun _ => 0, fun _ => 0, fun _ => 0, fun _ => false, fun _ => 0, fun _ => false, fun _ => 0)
def t0 : VT := (0, fun _ => 0, fun _ => none, fun _ => 0, fun _ => 0, fun _ => 0, fun _ _ => false, fun _ => 0, fun _ => 0, fun _ => 0, fun _ => 0)
theorem clamp_eq (a : Int32) : ∃ F, 1 ≤ F ∧ F ≤ 8 ∧ clampN a = jI F ∧ clamp8 a = jI F := by
  unfold clampN clamp8
  by_cases h1 : (1 : Int32) ≤ a
  · rw [if_pos h1]
    have hn : ¬ a < 0 := by
      intro z
      rw [Int32.lt_iff_toInt_lt] at z
      rw [Int32.le_iff_toInt_le] at h1
      have e1 : (1 : Int32).toInt = 1 := rfl
      have e0 : (0 : Int32).toInt = 0 := rfl
      omega
    obtain ⟨n, hnb, rfl⟩ := (jI_ex a).resolve_left hn
    rw [show (1 : Int32) = jI 1 from rfl, jI_le (by omega) hnb] at h1
    by_cases h8 : n ≤ 8
    · refine ⟨n, h1, h8, ?_, ?_⟩
      · have e : (if jI n < 8 then jI n else 8) = jI n := by
          by_cases z : n < 8
          · rw [if_pos (by rw [show (8 : Int32) = jI 8 from rfl, jI_lt hnb (by omega)]; exact z)]
          · rw [if_neg (by rw [show (8 : Int32) = jI 8 from rfl, jI_lt hnb (by omega)]; exact z), show n = 8 by omega]
            rfl
        rw [e]
        by_cases z : 1 < n
        · rw [if_pos (by rw [show (1 : Int32) = jI 1 from rfl, jI_lt (by omega) hnb]; exact z)]
        · rw [if_neg (by rw [show (1 : Int32) = jI 1 from rfl, jI_lt (by omega) hnb]; exact z), show n = 1 by omega]
          rfl
      · rw [if_pos (by rw [show (8 : Int32) = jI 8 from rfl, jI_le hnb (by omega)]; exact h8)]
    · refine ⟨8, by omega, by omega, ?_, ?_⟩
      · have e : (if jI n < 8 then jI n else 8) = 8 := if_neg (by rw [show (8 : Int32) = jI 8 from rfl, jI_lt hnb (by omega)]; omega)
        rw [e]
        rfl
      · rw [if_neg (by rw [show (8 : Int32) = jI 8 from rfl, jI_le hnb (by omega)]; exact h8)]
        rfl
  · rw [if_neg h1]
    refine ⟨1, by omega, by omega, ?_, rfl⟩
    have h1' : a.toInt < 1 := by
      rw [Int32.le_iff_toInt_le] at h1
      have e1 : (1 : Int32).toInt = 1 := rfl
      omega
    have e8 : (8 : Int32).toInt = 8 := rfl
    have e1 : (1 : Int32).toInt = 1 := rfl
    have e : (if a < 8 then a else 8) = a := if_pos (by rw [Int32.lt_iff_toInt_lt]; omega)
    rw [e, if_neg (by rw [Int32.lt_iff_toInt_lt]; omega)]
    rfl
theorem Rel0 (a : Int32) : Rel 0 (n0_A (clampN a)) n0_G n0_K n0_N n0_T (m0_MA (clamp8 a)) m0_MD m0_MG m0_ML m0_MN m0_MT := by
  obtain ⟨F, f1, f2, f3, f4⟩ := clamp_eq a
  rw [f3, f4]
  have nl : ∀ u, sp_liv t0 u = false := fun u => by
    unfold sp_liv
    rw [decide_eq_false (show ¬ u < tv_c t0 from Nat.not_lt_zero u)]
    rfl
  refine ⟨v0 F, g0, t0, fun _ _ => 0, ⟨⟨rfl, rfl, ?_, ?_, ?_, ?_, ?_, ?_, ?_, ?_⟩, ⟨rfl, rfl, rfl, ?_, ?_, ?_, ?_, ?_, ?_, ?_, ?_, ?_⟩, ⟨rfl, ?_, ?_, ?_, ?_, ?_, ?_, ?_, ?_, ?_, ?_⟩, ?_⟩, ⟨⟨rfl, ?_, ?_, ?_, ?_, ?_, rfl, ?_, ?_, ?_, ?_⟩, ⟨rfl, rfl, rfl, ?_, ?_, ?_, ?_, ?_, ?_, ?_, ?_⟩, ⟨rfl, ?_, ?_, ?_, ?_⟩, ?_⟩, ⟨⟨⟨f1, f2, Nat.zero_le _, ?_, ?_, ?_, ?_, ?_, ?_, ?_⟩, ?_, ?_, Nat.le_refl _, Nat.le_refl _⟩, ⟨?_, Nat.le_refl _, Nat.le_refl _, ?_, ?_, ?_, ?_, ?_, ?_, ?_⟩, ⟨?_, ?_, ?_⟩, ?_, ⟨?_, ?_, ?_, ?_, ?_, ?_⟩, ?_⟩, rfl, Nat.le_refl _, Nat.le_refl _⟩
  all_goals first
    | exact fun r hr => absurd hr (Nat.not_lt_zero r)
    | exact fun x y hx => absurd hx (Nat.not_lt_zero x)
    | exact fun x y _ hx => absurd hx (Nat.not_lt_zero y)
    | exact fun u hu => by rw [nl u] at hu; cases hu
    | exact fun u a hu => by rw [nl u] at hu; cases hu
    | exact fun p _ => rfl
    | exact fun p _ _ => rfl
    | exact fun p _ => Nat.le_refl _
    | exact fun p _ => ⟨fun _ => rfl, fun _ => ⟨rfl, fun _ _ => ⟨rfl, rfl⟩⟩⟩
    | exact fun t i _ => ⟨Nat.zero_le _, fun _ => rfl⟩
    | exact fun t i _ _ => rfl
    | exact fun t _ => ⟨show (0 : Nat) < 4 by omega, Nat.le_refl _, show (0 : Nat) < 32 by omega⟩
    | exact fun i _ => ⟨fun u => tb_0 u, fun u => tb_0 u⟩
    | (show (0 : Nat) ≤ 300; omega)
    | (show (0 : Nat) ≤ 300000; omega)
    | (show (0 : Nat) ≤ 60; omega)
    | (show 0 + 0 + 0 ≤ 300; omega)
end START0
