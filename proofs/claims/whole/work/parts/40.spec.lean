abbrev VP : Type := Nat × Nat × (Nat → Nat) × (Nat → Bool) × (Nat → Bool) × (Nat → Int32) × (Nat → Nat) × (Nat → Bool) × (Nat → Int32) × (Nat → Nat) × Nat × (Nat → Nat)
abbrev pv_F (s : VP) : Nat := s.1
abbrev pv_F' (s : VP) (v : Nat) : VP := (v, s.2.1, s.2.2.1, s.2.2.2.1, s.2.2.2.2.1, s.2.2.2.2.2.1, s.2.2.2.2.2.2.1, s.2.2.2.2.2.2.2.1, s.2.2.2.2.2.2.2.2.1, s.2.2.2.2.2.2.2.2.2.1, s.2.2.2.2.2.2.2.2.2.2.1, s.2.2.2.2.2.2.2.2.2.2.2)
abbrev pv_m (s : VP) : Nat := s.2.1
abbrev pv_m' (s : VP) (v : Nat) : VP := (s.1, v, s.2.2.1, s.2.2.2.1, s.2.2.2.2.1, s.2.2.2.2.2.1, s.2.2.2.2.2.2.1, s.2.2.2.2.2.2.2.1, s.2.2.2.2.2.2.2.2.1, s.2.2.2.2.2.2.2.2.2.1, s.2.2.2.2.2.2.2.2.2.2.1, s.2.2.2.2.2.2.2.2.2.2.2)
abbrev pv_bt (s : VP) : Nat → Nat := s.2.2.1
abbrev pv_bt' (s : VP) (v : Nat → Nat) : VP := (s.1, s.2.1, v, s.2.2.2.1, s.2.2.2.2.1, s.2.2.2.2.2.1, s.2.2.2.2.2.2.1, s.2.2.2.2.2.2.2.1, s.2.2.2.2.2.2.2.2.1, s.2.2.2.2.2.2.2.2.2.1, s.2.2.2.2.2.2.2.2.2.2.1, s.2.2.2.2.2.2.2.2.2.2.2)
abbrev pv_dy (s : VP) : Nat → Bool := s.2.2.2.1
abbrev pv_dy' (s : VP) (v : Nat → Bool) : VP := (s.1, s.2.1, s.2.2.1, v, s.2.2.2.2.1, s.2.2.2.2.2.1, s.2.2.2.2.2.2.1, s.2.2.2.2.2.2.2.1, s.2.2.2.2.2.2.2.2.1, s.2.2.2.2.2.2.2.2.2.1, s.2.2.2.2.2.2.2.2.2.2.1, s.2.2.2.2.2.2.2.2.2.2.2)
abbrev pv_th (s : VP) : Nat → Bool := s.2.2.2.2.1
abbrev pv_th' (s : VP) (v : Nat → Bool) : VP := (s.1, s.2.1, s.2.2.1, s.2.2.2.1, v, s.2.2.2.2.2.1, s.2.2.2.2.2.2.1, s.2.2.2.2.2.2.2.1, s.2.2.2.2.2.2.2.2.1, s.2.2.2.2.2.2.2.2.2.1, s.2.2.2.2.2.2.2.2.2.2.1, s.2.2.2.2.2.2.2.2.2.2.2)
abbrev pv_va (s : VP) : Nat → Int32 := s.2.2.2.2.2.1
abbrev pv_va' (s : VP) (v : Nat → Int32) : VP := (s.1, s.2.1, s.2.2.1, s.2.2.2.1, s.2.2.2.2.1, v, s.2.2.2.2.2.2.1, s.2.2.2.2.2.2.2.1, s.2.2.2.2.2.2.2.2.1, s.2.2.2.2.2.2.2.2.2.1, s.2.2.2.2.2.2.2.2.2.2.1, s.2.2.2.2.2.2.2.2.2.2.2)
abbrev pv_ls (s : VP) : Nat → Nat := s.2.2.2.2.2.2.1
abbrev pv_ls' (s : VP) (v : Nat → Nat) : VP := (s.1, s.2.1, s.2.2.1, s.2.2.2.1, s.2.2.2.2.1, s.2.2.2.2.2.1, v, s.2.2.2.2.2.2.2.1, s.2.2.2.2.2.2.2.2.1, s.2.2.2.2.2.2.2.2.2.1, s.2.2.2.2.2.2.2.2.2.2.1, s.2.2.2.2.2.2.2.2.2.2.2)
abbrev pv_dth (s : VP) : Nat → Bool := s.2.2.2.2.2.2.2.1
abbrev pv_dth' (s : VP) (v : Nat → Bool) : VP := (s.1, s.2.1, s.2.2.1, s.2.2.2.1, s.2.2.2.2.1, s.2.2.2.2.2.1, s.2.2.2.2.2.2.1, v, s.2.2.2.2.2.2.2.2.1, s.2.2.2.2.2.2.2.2.2.1, s.2.2.2.2.2.2.2.2.2.2.1, s.2.2.2.2.2.2.2.2.2.2.2)
abbrev pv_dva (s : VP) : Nat → Int32 := s.2.2.2.2.2.2.2.2.1
abbrev pv_dva' (s : VP) (v : Nat → Int32) : VP := (s.1, s.2.1, s.2.2.1, s.2.2.2.1, s.2.2.2.2.1, s.2.2.2.2.2.1, s.2.2.2.2.2.2.1, s.2.2.2.2.2.2.2.1, v, s.2.2.2.2.2.2.2.2.2.1, s.2.2.2.2.2.2.2.2.2.2.1, s.2.2.2.2.2.2.2.2.2.2.2)
abbrev pv_dls (s : VP) : Nat → Nat := s.2.2.2.2.2.2.2.2.2.1
abbrev pv_dls' (s : VP) (v : Nat → Nat) : VP := (s.1, s.2.1, s.2.2.1, s.2.2.2.1, s.2.2.2.2.1, s.2.2.2.2.2.1, s.2.2.2.2.2.2.1, s.2.2.2.2.2.2.2.1, s.2.2.2.2.2.2.2.2.1, v, s.2.2.2.2.2.2.2.2.2.2.1, s.2.2.2.2.2.2.2.2.2.2.2)
abbrev pv_tk (s : VP) : Nat := s.2.2.2.2.2.2.2.2.2.2.1
abbrev pv_tk' (s : VP) (v : Nat) : VP := (s.1, s.2.1, s.2.2.1, s.2.2.2.1, s.2.2.2.2.1, s.2.2.2.2.2.1, s.2.2.2.2.2.2.1, s.2.2.2.2.2.2.2.1, s.2.2.2.2.2.2.2.2.1, s.2.2.2.2.2.2.2.2.2.1, v, s.2.2.2.2.2.2.2.2.2.2.2)
abbrev pv_tt (s : VP) : Nat → Nat := s.2.2.2.2.2.2.2.2.2.2.2
abbrev pv_tt' (s : VP) (v : Nat → Nat) : VP := (s.1, s.2.1, s.2.2.1, s.2.2.2.1, s.2.2.2.2.1, s.2.2.2.2.2.1, s.2.2.2.2.2.2.1, s.2.2.2.2.2.2.2.1, s.2.2.2.2.2.2.2.2.1, s.2.2.2.2.2.2.2.2.2.1, s.2.2.2.2.2.2.2.2.2.2.1, v)
abbrev VG : Type := Nat × Nat × Nat × (Nat → Int32) × (Nat → Nat) × (Nat → Int32) × (Nat → Int32) × (Nat → Nat) × (Nat → Bool) × (Nat → Int32) × (Nat → Bool) × (Nat → Int32)
abbrev gv_b (s : VG) : Nat := s.1
abbrev gv_b' (s : VG) (v : Nat) : VG := (v, s.2.1, s.2.2.1, s.2.2.2.1, s.2.2.2.2.1, s.2.2.2.2.2.1, s.2.2.2.2.2.2.1, s.2.2.2.2.2.2.2.1, s.2.2.2.2.2.2.2.2.1, s.2.2.2.2.2.2.2.2.2.1, s.2.2.2.2.2.2.2.2.2.2.1, s.2.2.2.2.2.2.2.2.2.2.2)
abbrev gv_n (s : VG) : Nat := s.2.1
abbrev gv_n' (s : VG) (v : Nat) : VG := (s.1, v, s.2.2.1, s.2.2.2.1, s.2.2.2.2.1, s.2.2.2.2.2.1, s.2.2.2.2.2.2.1, s.2.2.2.2.2.2.2.1, s.2.2.2.2.2.2.2.2.1, s.2.2.2.2.2.2.2.2.2.1, s.2.2.2.2.2.2.2.2.2.2.1, s.2.2.2.2.2.2.2.2.2.2.2)
abbrev gv_f (s : VG) : Nat := s.2.2.1
abbrev gv_f' (s : VG) (v : Nat) : VG := (s.1, s.2.1, v, s.2.2.2.1, s.2.2.2.2.1, s.2.2.2.2.2.1, s.2.2.2.2.2.2.1, s.2.2.2.2.2.2.2.1, s.2.2.2.2.2.2.2.2.1, s.2.2.2.2.2.2.2.2.2.1, s.2.2.2.2.2.2.2.2.2.2.1, s.2.2.2.2.2.2.2.2.2.2.2)
abbrev gv_kd (s : VG) : Nat → Int32 := s.2.2.2.1
abbrev gv_kd' (s : VG) (v : Nat → Int32) : VG := (s.1, s.2.1, s.2.2.1, v, s.2.2.2.2.1, s.2.2.2.2.2.1, s.2.2.2.2.2.2.1, s.2.2.2.2.2.2.2.1, s.2.2.2.2.2.2.2.2.1, s.2.2.2.2.2.2.2.2.2.1, s.2.2.2.2.2.2.2.2.2.2.1, s.2.2.2.2.2.2.2.2.2.2.2)
abbrev gv_by (s : VG) : Nat → Nat := s.2.2.2.2.1
abbrev gv_by' (s : VG) (v : Nat → Nat) : VG := (s.1, s.2.1, s.2.2.1, s.2.2.2.1, v, s.2.2.2.2.2.1, s.2.2.2.2.2.2.1, s.2.2.2.2.2.2.2.1, s.2.2.2.2.2.2.2.2.1, s.2.2.2.2.2.2.2.2.2.1, s.2.2.2.2.2.2.2.2.2.2.1, s.2.2.2.2.2.2.2.2.2.2.2)
abbrev gv_ab (s : VG) : Nat → Int32 := s.2.2.2.2.2.1
abbrev gv_ab' (s : VG) (v : Nat → Int32) : VG := (s.1, s.2.1, s.2.2.1, s.2.2.2.1, s.2.2.2.2.1, v, s.2.2.2.2.2.2.1, s.2.2.2.2.2.2.2.1, s.2.2.2.2.2.2.2.2.1, s.2.2.2.2.2.2.2.2.2.1, s.2.2.2.2.2.2.2.2.2.2.1, s.2.2.2.2.2.2.2.2.2.2.2)
abbrev gv_of (s : VG) : Nat → Int32 := s.2.2.2.2.2.2.1
abbrev gv_of' (s : VG) (v : Nat → Int32) : VG := (s.1, s.2.1, s.2.2.1, s.2.2.2.1, s.2.2.2.2.1, s.2.2.2.2.2.1, v, s.2.2.2.2.2.2.2.1, s.2.2.2.2.2.2.2.2.1, s.2.2.2.2.2.2.2.2.2.1, s.2.2.2.2.2.2.2.2.2.2.1, s.2.2.2.2.2.2.2.2.2.2.2)
abbrev gv_ou (s : VG) : Nat → Nat := s.2.2.2.2.2.2.2.1
abbrev gv_ou' (s : VG) (v : Nat → Nat) : VG := (s.1, s.2.1, s.2.2.1, s.2.2.2.1, s.2.2.2.2.1, s.2.2.2.2.2.1, s.2.2.2.2.2.2.1, v, s.2.2.2.2.2.2.2.2.1, s.2.2.2.2.2.2.2.2.2.1, s.2.2.2.2.2.2.2.2.2.2.1, s.2.2.2.2.2.2.2.2.2.2.2)
abbrev gv_wt (s : VG) : Nat → Bool := s.2.2.2.2.2.2.2.2.1
abbrev gv_wt' (s : VG) (v : Nat → Bool) : VG := (s.1, s.2.1, s.2.2.1, s.2.2.2.1, s.2.2.2.2.1, s.2.2.2.2.2.1, s.2.2.2.2.2.2.1, s.2.2.2.2.2.2.2.1, v, s.2.2.2.2.2.2.2.2.2.1, s.2.2.2.2.2.2.2.2.2.2.1, s.2.2.2.2.2.2.2.2.2.2.2)
abbrev gv_wv (s : VG) : Nat → Int32 := s.2.2.2.2.2.2.2.2.2.1
abbrev gv_wv' (s : VG) (v : Nat → Int32) : VG := (s.1, s.2.1, s.2.2.1, s.2.2.2.1, s.2.2.2.2.1, s.2.2.2.2.2.1, s.2.2.2.2.2.2.1, s.2.2.2.2.2.2.2.1, s.2.2.2.2.2.2.2.2.1, v, s.2.2.2.2.2.2.2.2.2.2.1, s.2.2.2.2.2.2.2.2.2.2.2)
abbrev gv_it (s : VG) : Nat → Bool := s.2.2.2.2.2.2.2.2.2.2.1
abbrev gv_it' (s : VG) (v : Nat → Bool) : VG := (s.1, s.2.1, s.2.2.1, s.2.2.2.1, s.2.2.2.2.1, s.2.2.2.2.2.1, s.2.2.2.2.2.2.1, s.2.2.2.2.2.2.2.1, s.2.2.2.2.2.2.2.2.1, s.2.2.2.2.2.2.2.2.2.1, v, s.2.2.2.2.2.2.2.2.2.2.2)
abbrev gv_iv (s : VG) : Nat → Int32 := s.2.2.2.2.2.2.2.2.2.2.2
abbrev gv_iv' (s : VG) (v : Nat → Int32) : VG := (s.1, s.2.1, s.2.2.1, s.2.2.2.1, s.2.2.2.2.1, s.2.2.2.2.2.1, s.2.2.2.2.2.2.1, s.2.2.2.2.2.2.2.1, s.2.2.2.2.2.2.2.2.1, s.2.2.2.2.2.2.2.2.2.1, s.2.2.2.2.2.2.2.2.2.2.1, v)
abbrev VT : Type := Nat × (Nat → Int32) × (Nat → Option Nat) × (Nat → Nat) × (Nat → Nat) × (Nat → Nat) × (Nat → Nat → Bool) × (Nat → Nat) × (Nat → Nat) × (Nat → Nat) × (Nat → Int32)
abbrev tv_c (s : VT) : Nat := s.1
abbrev tv_c' (s : VT) (v : Nat) : VT := (v, s.2.1, s.2.2.1, s.2.2.2.1, s.2.2.2.2.1, s.2.2.2.2.2.1, s.2.2.2.2.2.2.1, s.2.2.2.2.2.2.2.1, s.2.2.2.2.2.2.2.2.1, s.2.2.2.2.2.2.2.2.2.1, s.2.2.2.2.2.2.2.2.2.2)
abbrev tv_st (s : VT) : Nat → Int32 := s.2.1
abbrev tv_st' (s : VT) (v : Nat → Int32) : VT := (s.1, v, s.2.2.1, s.2.2.2.1, s.2.2.2.2.1, s.2.2.2.2.2.1, s.2.2.2.2.2.2.1, s.2.2.2.2.2.2.2.1, s.2.2.2.2.2.2.2.2.1, s.2.2.2.2.2.2.2.2.2.1, s.2.2.2.2.2.2.2.2.2.2)
abbrev tv_par (s : VT) : Nat → Option Nat := s.2.2.1
abbrev tv_par' (s : VT) (v : Nat → Option Nat) : VT := (s.1, s.2.1, v, s.2.2.2.1, s.2.2.2.2.1, s.2.2.2.2.2.1, s.2.2.2.2.2.2.1, s.2.2.2.2.2.2.2.1, s.2.2.2.2.2.2.2.2.1, s.2.2.2.2.2.2.2.2.2.1, s.2.2.2.2.2.2.2.2.2.2)
abbrev tv_top (s : VT) : Nat → Nat := s.2.2.2.1
abbrev tv_top' (s : VT) (v : Nat → Nat) : VT := (s.1, s.2.1, s.2.2.1, v, s.2.2.2.2.1, s.2.2.2.2.2.1, s.2.2.2.2.2.2.1, s.2.2.2.2.2.2.2.1, s.2.2.2.2.2.2.2.2.1, s.2.2.2.2.2.2.2.2.2.1, s.2.2.2.2.2.2.2.2.2.2)
abbrev tv_dep (s : VT) : Nat → Nat := s.2.2.2.2.1
abbrev tv_dep' (s : VT) (v : Nat → Nat) : VT := (s.1, s.2.1, s.2.2.1, s.2.2.2.1, v, s.2.2.2.2.2.1, s.2.2.2.2.2.2.1, s.2.2.2.2.2.2.2.1, s.2.2.2.2.2.2.2.2.1, s.2.2.2.2.2.2.2.2.2.1, s.2.2.2.2.2.2.2.2.2.2)
abbrev tv_bg (s : VT) : Nat → Nat := s.2.2.2.2.2.1
abbrev tv_bg' (s : VT) (v : Nat → Nat) : VT := (s.1, s.2.1, s.2.2.1, s.2.2.2.1, s.2.2.2.2.1, v, s.2.2.2.2.2.2.1, s.2.2.2.2.2.2.2.1, s.2.2.2.2.2.2.2.2.1, s.2.2.2.2.2.2.2.2.2.1, s.2.2.2.2.2.2.2.2.2.2)
abbrev tv_lin (s : VT) : Nat → Nat → Bool := s.2.2.2.2.2.2.1
abbrev tv_lin' (s : VT) (v : Nat → Nat → Bool) : VT := (s.1, s.2.1, s.2.2.1, s.2.2.2.1, s.2.2.2.2.1, s.2.2.2.2.2.1, v, s.2.2.2.2.2.2.2.1, s.2.2.2.2.2.2.2.2.1, s.2.2.2.2.2.2.2.2.2.1, s.2.2.2.2.2.2.2.2.2.2)
abbrev tv_rk (s : VT) : Nat → Nat := s.2.2.2.2.2.2.2.1
abbrev tv_rk' (s : VT) (v : Nat → Nat) : VT := (s.1, s.2.1, s.2.2.1, s.2.2.2.1, s.2.2.2.2.1, s.2.2.2.2.2.1, s.2.2.2.2.2.2.1, v, s.2.2.2.2.2.2.2.2.1, s.2.2.2.2.2.2.2.2.2.1, s.2.2.2.2.2.2.2.2.2.2)
abbrev tv_lo (s : VT) : Nat → Nat := s.2.2.2.2.2.2.2.2.1
abbrev tv_lo' (s : VT) (v : Nat → Nat) : VT := (s.1, s.2.1, s.2.2.1, s.2.2.2.1, s.2.2.2.2.1, s.2.2.2.2.2.1, s.2.2.2.2.2.2.1, s.2.2.2.2.2.2.2.1, v, s.2.2.2.2.2.2.2.2.2.1, s.2.2.2.2.2.2.2.2.2.2)
abbrev tv_hi (s : VT) : Nat → Nat := s.2.2.2.2.2.2.2.2.2.1
abbrev tv_hi' (s : VT) (v : Nat → Nat) : VT := (s.1, s.2.1, s.2.2.1, s.2.2.2.1, s.2.2.2.2.1, s.2.2.2.2.2.1, s.2.2.2.2.2.2.1, s.2.2.2.2.2.2.2.1, s.2.2.2.2.2.2.2.2.1, v, s.2.2.2.2.2.2.2.2.2.2)
abbrev tv_nv (s : VT) : Nat → Int32 := s.2.2.2.2.2.2.2.2.2.2
abbrev tv_nv' (s : VT) (v : Nat → Int32) : VT := (s.1, s.2.1, s.2.2.1, s.2.2.2.1, s.2.2.2.2.1, s.2.2.2.2.2.1, s.2.2.2.2.2.2.1, s.2.2.2.2.2.2.2.1, s.2.2.2.2.2.2.2.2.1, s.2.2.2.2.2.2.2.2.2.1, v)
/-- the first place from i on, n at most, where P holds; behind them all if none -/
def ff (P : Nat → Bool) : Nat → Nat → Nat
  | 0, i => i
  | n + 1, i => if P i then i else ff P n (i + 1)
theorem ff_spec (P : Nat → Bool) : ∀ n i, i ≤ ff P n i ∧ ff P n i ≤ i + n ∧ (∀ x, i ≤ x → x < ff P n i → P x = false) ∧ (ff P n i < i + n → P (ff P n i) = true) := by
  intro n
  induction n with
  | zero =>
    intro i
    exact ⟨Nat.le_refl _, Nat.le_refl _, fun x h1 h2 => by unfold ff at h2; omega, fun h => by unfold ff at h; omega⟩
  | succ n ih =>
    intro i
    unfold ff
    by_cases hp : P i = true
    · rw [if_pos hp]
      exact ⟨Nat.le_refl _, by omega, fun x h1 h2 => by omega, fun _ => hp⟩
    · rw [if_neg hp]
      obtain ⟨h1, h2, h3, h4⟩ := ih (i + 1)
      refine ⟨by omega, by omega, fun x hx1 hx2 => ?_, fun h => h4 (by omega)⟩
      by_cases hxi : x = i
      · subst hxi
        simpa using hp
      · exact h3 x (by omega) hx2
theorem ff_eq (P : Nat → Bool) : ∀ n i j, i ≤ j → j ≤ i + n → (∀ x, i ≤ x → x < j → P x = false) → (j < i + n → P j = true) → ff P n i = j := by
  intro n i j h1 h2 h3 h4
  obtain ⟨g1, g2, g3, g4⟩ := ff_spec P n i
  rcases Nat.lt_trichotomy (ff P n i) j with h | h | h
  · have := h3 _ g1 h
    rw [g4 (by omega)] at this
    cases this
  · exact h
  · have := g3 _ h1 h
    rw [h4 (by omega)] at this
    cases this
/-- pages -/
def sp_wrP (v : VP) (p : Nat) : VP := pv_dy' (pv_dls' (pv_dva' (pv_dth' v (fun k => if k / 4 = p then pv_th v k else pv_dth v k)) (fun k => if k / 4 = p then pv_va v k else pv_dva v k)) (updN (pv_dls v) p (pv_ls v p))) (updN (pv_dy v) p false)
def sp_wrF (v : VP) (f p : Nat) : Nat := if pv_ls v p ≤ f then f else pv_ls v p
def sp_pl (v : VP) (p : Nat) : Nat := ff (fun i => pv_bt v i == p) (pv_m v) 0
def sp_sh (bt : Nat → Nat) (pl p : Nat) : Nat → Nat := fun i => if i = 0 then p else if i ≤ pl then bt (i - 1) else bt i
def sp_fin (v w : VP) (q p : Nat) : VP := pv_tt' (pv_tk' (pv_bt' w (sp_sh (pv_bt w) q p)) (pv_tk v + 1)) (updN (pv_tt v) p (pv_tk v + 1))
def sp_tP (v : VP) (p : Nat) : VP :=
  if sp_pl v p = pv_F v then sp_fin v (if pv_dy v (pv_bt v (pv_F v - 1)) then sp_wrP v (pv_bt v (pv_F v - 1)) else v) (pv_F v - 1) p
  else if sp_pl v p = pv_m v then sp_fin v (pv_m' v (pv_m v + 1)) (pv_m v) p
  else sp_fin v v (sp_pl v p) p
def sp_tF (v : VP) (f p : Nat) : Nat := if sp_pl v p = pv_F v ∧ pv_dy v (pv_bt v (pv_F v - 1)) = true then sp_wrF v f (pv_bt v (pv_F v - 1)) else f
def sp_ch (v : VP) (k : Nat) (now : Bool) (x : Int32) (lsn : Nat) : VP := pv_dy' (pv_ls' (pv_va' (pv_th' v (updN (pv_th v) k now)) (updN (pv_va v) k x)) (updN (pv_ls v) (k / 4) lsn)) (updN (pv_dy v) (k / 4) true)
def sp_nx (v : VP) (k : Nat) : Nat := ff (pv_th v) (31 - k) (k + 1)
def sp_lose (v : VP) : VP := pv_m' (pv_dy' (pv_va' (pv_th' (pv_ls' v (pv_dls v)) (pv_dth v)) (pv_dva v)) (fun _ => false)) 0
def iP (v : VP) : Prop := 1 ≤ pv_F v ∧ pv_F v ≤ 8 ∧ pv_m v ≤ pv_F v ∧ (∀ i, i < pv_m v → pv_bt v i < 8) ∧ (∀ i j, i < pv_m v → j < pv_m v → pv_bt v i = pv_bt v j → i = j) ∧ (∀ p, p < 8 → ((∀ i, i < pv_m v → pv_bt v i ≠ p) → pv_dy v p = false) ∧ (pv_dy v p = false → pv_ls v p = pv_dls v p ∧ ∀ k, k / 4 = p → pv_th v k = pv_dth v k ∧ pv_va v k = pv_dva v k)) ∧ (∀ k, k < 32 → pv_th v k = false → pv_va v k = 0) ∧ (∀ k, k < 32 → pv_dth v k = false → pv_dva v k = 0) ∧ (∀ i j, i < j → j < pv_m v → pv_tt v (pv_bt v j) < pv_tt v (pv_bt v i)) ∧ ∀ i, i < pv_m v → pv_tt v (pv_bt v i) ≤ pv_tk v
def sp_in (v : VP) (p : Nat) : Bool := bx (pv_m v) (fun i => pv_bt v i == p)
/-- the log -/
def sp_ud (g : VG) (r : Nat) : Bool := bx (gv_n g) (fun x => decide (gv_kd g x = 3) && gv_ou g x == r)
def sp_app (g : VG) (k : Int32) (t : Nat) (a : Int32) : VG := gv_n' (gv_iv' (gv_it' (gv_wv' (gv_wt' (gv_ou' (gv_of' (gv_ab' (gv_by' (gv_kd' g (updN (gv_kd g) (gv_n g) k)) (updN (gv_by g) (gv_n g) t)) (updN (gv_ab g) (gv_n g) a)) (updN (gv_of g) (gv_n g) 0)) (updN (gv_ou g) (gv_n g) (gv_n g + 1))) (updN (gv_wt g) (gv_n g) false)) (updN (gv_wv g) (gv_n g) 0)) (updN (gv_it g) (gv_n g) false)) (updN (gv_iv g) (gv_n g) 0)) (gv_n g + 1)
def sp_bef (g : VG) (r : Nat) (b : Bool) (x : Int32) : VG := gv_wv' (gv_wt' g (updN (gv_wt g) r b)) (updN (gv_wv g) r x)
def sp_aft (g : VG) (r : Nat) (b : Bool) (x : Int32) : VG := gv_iv' (gv_it' g (updN (gv_it g) r b)) (updN (gv_iv g) r x)
def sp_mark (g : VG) (r u : Nat) : VG := gv_ou' (gv_of' g (updN (gv_of g) r (jI (gv_b g + u + 1)))) (updN (gv_ou g) r u)
def sp_emp (g : VG) : VG := gv_f' (gv_n' (gv_b' g (gv_b g + gv_n g)) 0) (gv_b g + gv_n g)
/-- what holds of the log's rows: c transactions -/
def iG (g : VG) (c : Nat) : Prop := gv_n g ≤ 300 ∧ gv_b g ≤ gv_f g ∧ gv_f g ≤ gv_b g + gv_n g ∧ gv_b g ≤ 300000 ∧ (∀ r, r < gv_n g → gv_by g r < c) ∧ (∀ r, r < gv_n g → (gv_kd g r = 2 ∨ gv_kd g r = 3) → ∃ k, k < 32 ∧ gv_ab g r = jI k) ∧ (∀ r, r < gv_n g → gv_kd g r = 3 → gv_ou g r < r ∧ gv_kd g (gv_ou g r) = 2 ∧ gv_of g r = jI (gv_b g + gv_ou g r + 1)) ∧ (∀ x y, x < gv_n g → y < gv_n g → gv_kd g x = 3 → gv_kd g y = 3 → gv_ou g x = gv_ou g y → x = y) ∧ (∀ r, r < gv_n g → gv_wt g r = false → gv_wv g r = 0) ∧ ∀ r, r < gv_n g → gv_it g r = false → gv_iv g r = 0
/-- the reference's pages and log -/
def RMA (A : S_MA) (D : S_MD) (v : VP) : Prop := MA_frames A = jI (pv_F v) ∧ (∀ p, p < 8 → MA_inFrame A p = b2i (sp_in v p)) ∧ (∀ p, p < 8 → MA_dirty A p = b2i (pv_dy v p)) ∧ (∀ p, p < 8 → sp_in v p = true → MA_lsn A p = jI (pv_ls v p)) ∧ (∀ k, k < 32 → sp_in v (k / 4) = true → MA_there A k = b2i (pv_th v k)) ∧ (∀ k, k < 32 → sp_in v (k / 4) = true → MA_value A k = pv_va v k) ∧ MA_clock A = jI (pv_tk v) ∧ (∀ p, p < 8 → MA_touched A p = jI (pv_tt v p)) ∧ (∀ k, k < 32 → MD_diskThere D k = b2i (pv_dth v k)) ∧ (∀ k, k < 32 → MD_diskValue D k = pv_dva v k) ∧ ∀ p, p < 8 → MD_diskLsn D p = jI (pv_dls v p)
def RMG (G : S_MG) (g : VG) : Prop := MG_base G = jI (gv_b g) ∧ MG_records G = jI (gv_n g) ∧ MG_flushed G = jI (gv_f g) ∧ (∀ r, r < gv_n g → MG_kind G r = gv_kd g r) ∧ (∀ r, r < gv_n g → MG_by G r = jI (gv_by g r)) ∧ (∀ r, r < gv_n g → MG_about G r = gv_ab g r) ∧ (∀ r, r < gv_n g → MG_of G r = gv_of g r) ∧ (∀ r, r < gv_n g → MG_wasThere G r = b2i (gv_wt g r)) ∧ (∀ r, r < gv_n g → MG_wasValue G r = gv_wv g r) ∧ (∀ r, r < gv_n g → MG_isThere G r = b2i (gv_it g r)) ∧ ∀ r, r < gv_n g → MG_isValue G r = gv_iv g r
/-- the class's pages and log -/
def RA (A : S_A) (v : VP) : Prop := A_frames A = jI (pv_F v) ∧ A_framesInUse A = jI (pv_m v) ∧ (∀ i, i < pv_m v → A_byTouch A i = jI (pv_bt v i)) ∧ (∀ p, p < 8 → A_dirty A p = b2i (pv_dy v p)) ∧ (∀ p, p < 8 → A_lsn A p = jI (pv_ls v p)) ∧ (∀ k, k < 32 → A_there A k = b2i (pv_th v k)) ∧ (∀ k, k < 32 → A_value A k = pv_va v k) ∧ (∀ p, p < 8 → A_diskLsn A p = jI (pv_dls v p)) ∧ (∀ k, k < 32 → A_diskThere A k = b2i (pv_dth v k)) ∧ ∀ k, k < 32 → A_diskValue A k = pv_dva v k
def RG (G : S_G) (g : VG) : Prop := G_base G = jI (gv_b g) ∧ G_size G = jI (gv_n g) ∧ G_flushed G = jI (gv_f g) ∧ (∀ r, r < gv_n g → G_kind G r = gv_kd g r) ∧ (∀ r, r < gv_n g → G_transaction G r = jI (gv_by g r)) ∧ (∀ r, r < gv_n g → G_subject G r = gv_ab g r) ∧ (∀ r, r < gv_n g → G_wasThere G r = b2i (gv_wt g r)) ∧ (∀ r, r < gv_n g → G_oldValue G r = gv_wv g r) ∧ (∀ r, r < gv_n g → G_isThere G r = b2i (gv_it g r)) ∧ (∀ r, r < gv_n g → G_newValue G r = gv_iv g r) ∧ (∀ r, r < gv_n g → G_undoes G r = gv_of g r) ∧ ∀ r, r < gv_n g → G_undone G r = b2i (sp_ud g r)
/-- transactions -/
def sp_act (v : VT) (t : Nat) : Bool := decide (t < tv_c v) && decide (tv_st v t = 1)
def sp_wai (v : VT) (t : Nat) : Bool := decide (t < tv_c v) && decide (tv_st v t = 2)
def sp_liv (v : VT) (t : Nat) : Bool := decide (t < tv_c v) && (decide (tv_st v t = 1) || decide (tv_st v t = 2))
def sp_chl (v : VT) (t u : Nat) : Bool := sp_liv v u && decide (tv_par v u = some t)
def sp_busy (v : VT) (t : Nat) : Bool := bx (tv_c v) (sp_chl v t)
def sp_lives (v : VT) : Nat := bc (tv_c v) (sp_liv v)
def iT (v : VT) : Prop := tv_c v ≤ 60 ∧ (∀ t, t < tv_c v → (tv_st v t = 1 ∨ tv_st v t = 2 ∨ tv_st v t = 3 ∨ tv_st v t = 4) ∧ 1 ≤ tv_dep v t ∧ tv_dep v t ≤ 4 ∧ tv_bg v t < 2147483648 ∧ (tv_par v t = none → tv_top v t = t ∧ tv_dep v t = 1 ∧ ∀ a, tv_lin v t a = decide (t = a)) ∧ ∀ p, tv_par v t = some p → p < t ∧ tv_top v t = tv_top v p ∧ tv_dep v t = tv_dep v p + 1 ∧ ∀ a, tv_lin v t a = (decide (t = a) || tv_lin v p a)) ∧ ∀ t, t < 60 → tv_rk v t < 4 ∧ tv_lo v t ≤ tv_hi v t ∧ tv_hi v t < 32
theorem iT.lin_le {v : VT} (h : iT v) : ∀ t, t < tv_c v → ∀ a, tv_lin v t a = true → a ≤ t := by
  intro t
  induction t using Nat.strongRecOn with
  | ind t ih =>
    intro ht a ha
    obtain ⟨-, -, -, -, h1, h2⟩ := h.2.1 t ht
    cases hp : tv_par v t with
    | none =>
      rw [(h1 hp).2.2 a] at ha
      simp at ha
      omega
    | some p =>
      obtain ⟨g1, -, -, g4⟩ := h2 p hp
      rw [g4 a] at ha
      simp at ha
      rcases ha with ha | ha
      · omega
      · have := ih p g1 (by omega) a ha
        omega
theorem iT.lin_self {v : VT} (h : iT v) {t : Nat} (ht : t < tv_c v) : tv_lin v t t = true := by
  obtain ⟨-, -, -, -, h1, h2⟩ := h.2.1 t ht
  cases hp : tv_par v t with
  | none =>
    rw [(h1 hp).2.2 t]
    simp
  | some p =>
    rw [(h2 p hp).2.2.2 t]
    simp
theorem iT.top_lt {v : VT} (h : iT v) : ∀ t, t < tv_c v → tv_top v t ≤ t := by
  intro t
  induction t using Nat.strongRecOn with
  | ind t ih =>
    intro ht
    obtain ⟨-, -, -, -, h1, h2⟩ := h.2.1 t ht
    cases hp : tv_par v t with
    | none => rw [(h1 hp).1]; omega
    | some p =>
      obtain ⟨g1, g2, -, -⟩ := h2 p hp
      have := ih p g1 (by omega)
      omega
def sp_addT (v : VT) (p : Option Nat) (l : Nat) : VT := tv_c' (tv_bg' (tv_lin' (tv_dep' (tv_top' (tv_par' (tv_st' v (updN (tv_st v) (tv_c v) 1)) (updN (tv_par v) (tv_c v) p)) (updN (tv_top v) (tv_c v) (match p with | none => tv_c v | some q => tv_top v q))) (updN (tv_dep v) (tv_c v) (match p with | none => 1 | some q => tv_dep v q + 1))) (updN (tv_lin v) (tv_c v) (fun a => decide (tv_c v = a) || (match p with | none => false | some q => tv_lin v q a)))) (updN (tv_bg v) (tv_c v) l)) (tv_c v + 1)
def sp_req (v : VT) (t k lo hi : Nat) (x : Int32) : VT := tv_nv' (tv_hi' (tv_lo' (tv_rk' v (updN (tv_rk v) t k)) (updN (tv_lo v) t lo)) (updN (tv_hi v) t hi)) (updN (tv_nv v) t x)
def sp_abU (v : VT) : VT := tv_st' v (fun t => if t < tv_c v ∧ ¬ tv_st v (tv_top v t) = 3 then 4 else tv_st v t)
/-- the class's transactions -/
def RT (T : S_T) (v : VT) : Prop := T_count T = jI (tv_c v) ∧ (∀ t, t < tv_c v → T_parent T t = pI (tv_par v t)) ∧ (∀ t, t < tv_c v → T_top T t = jI (tv_top v t)) ∧ (∀ t, t < tv_c v → T_depth T t = jI (tv_dep v t)) ∧ (∀ t, t < tv_c v → T_state T t = tv_st v t) ∧ (∀ t, t < tv_c v → T_begun T t = jI (tv_bg v t)) ∧ (∀ t, t < tv_c v → ∀ u, tb (T_lineage T t) u = tv_lin v t u) ∧ (∀ t, t < 60 → T_kind T t = jI (tv_rk v t)) ∧ (∀ t, t < 60 → T_low T t = jI (tv_lo v t)) ∧ (∀ t, t < 60 → T_high T t = jI (tv_hi v t)) ∧ ∀ t, t < 60 → T_newValue T t = tv_nv v t
theorem iT.top_top {v : VT} (h : iT v) : ∀ t, t < tv_c v → tv_top v (tv_top v t) = tv_top v t := by
  intro t
  induction t using Nat.strongRecOn with
  | ind t ih =>
    intro ht
    obtain ⟨-, -, -, -, h1, h2⟩ := h.2.1 t ht
    cases hp : tv_par v t with
    | none => rw [(h1 hp).1, (h1 hp).1]
    | some p =>
      obtain ⟨g1, g2, -, -⟩ := h2 p hp
      rw [g2]
      exact ih p g1 (by omega)
/-- locks: VK t i -/
abbrev VK : Type := Nat → Nat → Nat
def sp_bl (L : VK) (lin : Nat → Bool) (i mode u : Nat) : Bool := decide (0 < L u i) && (decide (mode = 2) || decide (L u i = 2)) && !lin u
def sp_gr (L : VK) (t i m : Nat) : VK := fun u j => if u = t ∧ j = i then (if m ≤ L t i then L t i else m) else L u j
def sp_rel (L : VK) (t : Nat) : VK := fun u j => if u = t then 0 else L u j
def sp_pass (L : VK) (t h : Nat) : VK := fun u j => if u = h then (if L t j ≤ L h j then L h j else L t j) else L u j
def iK (v : VT) (L : VK) : Prop := ∀ t i, i < 33 → L t i ≤ 2 ∧ (sp_liv v t = false → L t i = 0)
/-- the class's locks -/
def RK (K : S_K) (L : VK) : Prop := ∀ i, i < 33 → (∀ u, tb (K_shared K i) u = decide (L u i = 1)) ∧ ∀ u, tb (K_exclusive K i) u = decide (L u i = 2)
/-- open updates, room, updates and undos -/
def sp_opn (g : VG) (tv : VT) (r : Nat) : Bool := decide (gv_kd g r = 2) && !sp_ud g r && sp_liv tv (tv_top tv (gv_by g r))
def sp_opens (g : VG) (tv : VT) : Nat := bc (gv_n g) (sp_opn g tv)
def sp_room (g : VG) (tv : VT) : Bool := decide (gv_n g + sp_opens g tv + sp_lives tv + 2 ≤ 300)
def sp_updG (v : VP) (g : VG) (t k : Nat) (now : Bool) (x : Int32) : VG := gv_f' (sp_aft (sp_bef (sp_app g 2 t (jI k)) (gv_n g) (pv_th v k) (pv_va v k)) (gv_n g) now x) (sp_tF v (gv_f g) (k / 4))
def sp_updP (v : VP) (g : VG) (k : Nat) (now : Bool) (x : Int32) : VP := sp_ch (sp_tP v (k / 4)) k now x (gv_b g + gv_n g + 1)
def sp_key (g : VG) (u : Nat) : Nat := Int32.toNatClampNeg (gv_ab g u)
def sp_undG (v : VP) (g : VG) (u t : Nat) : VG := gv_f' (sp_mark (sp_aft (sp_app g 3 t (gv_ab g u)) (gv_n g) (gv_wt g u) (gv_wv g u)) (gv_n g) u) (sp_tF v (gv_f g) (sp_key g u / 4))
def sp_undP (v : VP) (g : VG) (u : Nat) : VP := sp_ch (sp_tP v (sp_key g u / 4)) (sp_key g u) (gv_wt g u) (gv_wv g u) (gv_b g + gv_n g + 1)
theorem sp_ud_und {v : VP} {g : VG} {u t : Nat} (hou : ∀ x, x < gv_n g → gv_kd g x = 3 → gv_ou g x < x) {r : Nat} (hr : r ≤ gv_n g) (hu : u < gv_n g) : sp_ud (sp_undG v g u t) r = if r = u then true else if r < gv_n g then sp_ud g r else false := by
  have e : sp_ud (sp_undG v g u t) r = (sp_ud g r || u == r) := by
    show bx (gv_n g + 1) (fun x => decide (updN (gv_kd g) (gv_n g) 3 x = 3) && updN (updN (gv_ou g) (gv_n g) (gv_n g + 1)) (gv_n g) u x == r) = (bx (gv_n g) (fun x => decide (gv_kd g x = 3) && gv_ou g x == r) || u == r)
    rw [bx, updN_same, updN_same, bx_congr (Q := fun x => decide (gv_kd g x = 3) && gv_ou g x == r) (fun x hx => by rw [updN_ne _ _ (by omega), updN_ne _ _ (by omega), updN_ne _ _ (by omega)])]
    simp
  rw [e]
  by_cases q : r = u
  · rw [if_pos q, q]
    simp
  · rw [if_neg q]
    have : (u == r) = false := by
      rw [beq_eq_false_iff_ne]
      exact fun z => q z.symm
    rw [this, Bool.or_false]
    by_cases q2 : r < gv_n g
    · rw [if_pos q2]
    · rw [if_neg q2]
      cases z : sp_ud g r with
      | false => rfl
      | true =>
        obtain ⟨x, hx, hz⟩ := bx_iff.mp z
        simp at hz
        have := hou x hx hz.1
        omega
/-- the reference's transactions and locks -/
def sp_sec (tv : VT) (t : Nat) : Int32 := if tv_rk tv t = 3 then jI (tv_hi tv t) else if tv_rk tv t = 1 then tv_nv tv t else 0
def RMT (T : S_MT) (tv : VT) : Prop := MT_many T = jI (tv_c tv) ∧ (∀ t, t < tv_c tv → MT_state T t = tv_st tv t) ∧ (∀ t, t < tv_c tv → MT_parent T t = pI (tv_par tv t)) ∧ (∀ t, t < tv_c tv → MT_began T t = jI (tv_bg tv t)) ∧ ∀ t, t < tv_c tv → tv_st tv t = 2 → MT_asks T t = jI (tv_rk tv t + 1) ∧ MT_first T t = jI (tv_lo tv t) ∧ MT_second T t = sp_sec tv t
def RML (K : S_ML) (L : VK) : Prop := ∀ t i, t < 60 → i < 33 → ML_locks K (33 * t + i) = jI (L t i)
def sp_linO (tv : VT) (o : Option Nat) (a : Nat) : Bool := match o with
  | none => false
  | some x => tv_lin tv x a
def sp_abv (tv : VT) (a t : Nat) : Bool := sp_linO tv (tv_par tv t) a
theorem iT.lin_abv {tv : VT} (h : iT tv) {t : Nat} (ht : t < tv_c tv) (a : Nat) : tv_lin tv t a = (decide (t = a) || sp_abv tv a t) := by
  obtain ⟨-, -, -, -, h1, h2⟩ := h.2.1 t ht
  unfold sp_abv
  cases hp : tv_par tv t with
  | none =>
    rw [(h1 hp).2.2 a]
    simp [sp_linO]
  | some p =>
    rw [(h2 p hp).2.2.2 a]
    rfl
/-- what a request wants: items in their order, and the mode -/
def sp_ks (v : VP) (lo : Nat) : Nat → List Nat
  | 0 => []
  | n + 1 => sp_ks v lo n ++ (if pv_th v (lo + n) then [lo + n] else [])
def sp_its (v : VP) (tv : VT) (t : Nat) : List Nat :=
  if tv_rk tv t = 0 then [if pv_th v (tv_lo tv t) then tv_lo tv t else sp_nx v (tv_lo tv t)]
  else if tv_rk tv t = 1 then (if pv_th v (tv_lo tv t) then [tv_lo tv t] else [sp_nx v (tv_lo tv t), tv_lo tv t])
  else if tv_rk tv t = 2 then (if pv_th v (tv_lo tv t) then [sp_nx v (tv_lo tv t), tv_lo tv t] else [sp_nx v (tv_lo tv t)])
  else sp_ks v (tv_lo tv t) (tv_hi tv t + 1 - tv_lo tv t) ++ [sp_nx v (tv_hi tv t)]
def sp_pm (v : VP) (tv : VT) (t : Nat) : Nat := if tv_rk tv t = 1 then 2 else if tv_rk tv t = 2 then (if pv_th v (tv_lo tv t) then 2 else 1) else 1
def RPl (P : S_P) (its : List Nat) (m : Nat) : Prop := P_mode P = jI m ∧ P_size P = jI its.length ∧ ∀ i x, its[i]? = some x → P_items P i = jI x
def RMP (P : S_MP) (its : List Nat) (m : Nat) : Prop := MP_mode P = jI m ∧ MP_wanted P = jI its.length ∧ ∀ i x, its[i]? = some x → MP_item P i = jI x
theorem sp_nx_le (v : VP) {k : Nat} (hk : k < 32) : sp_nx v k ≤ 32 := by
  have := (ff_spec (pv_th v) (31 - k) (k + 1)).2.1
  show ff (pv_th v) (31 - k) (k + 1) ≤ 32
  omega
theorem sp_ks_len (v : VP) (lo : Nat) : ∀ n, (sp_ks v lo n).length ≤ n := by
  intro n
  induction n with
  | zero => exact Nat.le_refl _
  | succ n ih =>
    unfold sp_ks
    rw [List.length_append]
    split
    · simp
      omega
    · simp
      omega
theorem sp_ks_mem (v : VP) (lo : Nat) : ∀ n x, x ∈ sp_ks v lo n → lo ≤ x ∧ x < lo + n := by
  intro n
  induction n with
  | zero =>
    intro x hx
    cases hx
  | succ n ih =>
    intro x hx
    unfold sp_ks at hx
    rcases List.mem_append.mp hx with h | h
    · have := ih x h
      omega
    · split at h
      · have := List.mem_singleton.mp h
        omega
      · cases h
theorem sp_its_lt {v : VP} {tv : VT} {t : Nat} (hv : iT tv) (ht : t < tv_c tv) : ∀ x, x ∈ sp_its v tv t → x < 33 := by
  obtain ⟨h1, h2, h3⟩ := hv.2.2 t (by have := hv.1; omega)
  have n1 := sp_nx_le v (show tv_lo tv t < 32 by omega)
  have n2 := sp_nx_le v h3
  intro x hx
  unfold sp_its at hx
  split at hx
  · have := List.mem_singleton.mp hx
    split at this <;> omega
  · split at hx
    · split at hx
      · have := List.mem_singleton.mp hx
        omega
      · simp at hx
        omega
    · split at hx
      · split at hx
        · simp at hx
          omega
        · have := List.mem_singleton.mp hx
          omega
      · rcases List.mem_append.mp hx with h | h
        · have := sp_ks_mem v _ _ x h
          omega
        · have := List.mem_singleton.mp h
          omega
theorem sp_its_len {v : VP} {tv : VT} {t : Nat} (hv : iT tv) (ht : t < tv_c tv) : (sp_its v tv t).length ≤ 33 := by
  obtain ⟨h1, h2, h3⟩ := hv.2.2 t (by have := hv.1; omega)
  unfold sp_its
  split
  · simp
  · split
    · split <;> simp
    · split
      · split <;> simp
      · have := sp_ks_len v (tv_lo tv t) (tv_hi tv t + 1 - tv_lo tv t)
        simp
        omega
/-- someone bars; what is wanting; for whom t waits -/
def sp_bar (L : VK) (tv : VT) (t i m : Nat) : Bool := bx (tv_c tv) (sp_bl L (tv_lin tv t) i m)
def sp_lk (L : VK) (tv : VT) (t m i : Nat) : Bool := decide (L t i < m) && sp_bar L tv t i m
def sp_fr (L : VK) (tv : VT) (t m : Nat) (its : List Nat) : Nat := ff (fun i => sp_lk L tv t m (its.getD i 0)) its.length 0
def sp_wf (v : VP) (L : VK) (tv : VT) (t u : Nat) : Bool := decide (sp_fr L tv t (sp_pm v tv t) (sp_its v tv t) < (sp_its v tv t).length) && sp_bl L (tv_lin tv t) ((sp_its v tv t).getD (sp_fr L tv t (sp_pm v tv t) (sp_its v tv t)) 0) (sp_pm v tv t) u
def sp_ld (v : VP) (L : VK) (tv : VT) (t u : Nat) : Bool := sp_liv tv t && (sp_chl tv t u || (sp_wai tv t && sp_wf v L tv t u))
/-- the locks of a list of items -/
def sp_grs (L : VK) (t m : Nat) (its : List Nat) : Nat → VK
  | 0 => L
  | n + 1 => sp_gr (sp_grs L t m its n) t (its.getD n 0) m
theorem sp_pm_le (v : VP) (tv : VT) (t : Nat) : sp_pm v tv t ≤ 2 ∧ 1 ≤ sp_pm v tv t := by
  unfold sp_pm
  split
  · omega
  · split
    · split <;> omega
    · omega
theorem iK.bl_out {tv : VT} {L : VK} (hK : iK tv L) {lin : Nat → Bool} {i m u : Nat} (hi : i < 33) (hu : tv_c tv ≤ u) : sp_bl L lin i m u = false := by
  have : sp_liv tv u = false := by
    unfold sp_liv
    rw [decide_eq_false (by omega)]
    rfl
  unfold sp_bl
  rw [(hK u i hi).2 this]
  rfl
theorem getD_of {its : List Nat} {i : Nat} (h : i < its.length) : its[i]? = some (its.getD i 0) := by
  rw [List.getD_eq_getElem?_getD, List.getElem?_eq_getElem h]
  rfl
theorem getD_mem {its : List Nat} {i : Nat} (h : i < its.length) : its.getD i 0 ∈ its := List.mem_of_getElem? (getD_of h)
theorem sp_gr_le {L : VK} {t i m : Nat} (hm : m ≤ 2) (h : ∀ u j, j < 33 → L u j ≤ 2) : ∀ u j, j < 33 → sp_gr L t i m u j ≤ 2 := by
  intro u j hj
  unfold sp_gr
  split
  · rename_i e
    have := h t i (by omega)
    split <;> omega
  · exact h u j hj
theorem sp_grs_le {L : VK} {t m : Nat} {its : List Nat} (hm : m ≤ 2) (h : ∀ u j, j < 33 → L u j ≤ 2) : ∀ n u j, j < 33 → sp_grs L t m its n u j ≤ 2 := by
  intro n
  induction n with
  | zero => exact h
  | succ n ih => exact sp_gr_le hm ih
/-- circles -/
abbrev tg (ld : Nat → Nat → Bool) (a b : Nat) : Prop := Relation.TransGen (fun x y => ld x y = true) a b
noncomputable def dP (p : Prop) : Bool := @decide p (Classical.propDecidable p)
theorem dP_iff {p : Prop} : dP p = true ↔ p := by
  unfold dP
  exact @decide_eq_true_iff p (Classical.propDecidable p)
theorem dP_not {p : Prop} (h : ¬ p) : dP p = false := by
  cases q : dP p with
  | false => rfl
  | true => exact absurd (dP_iff.mp q) h
/-- the greatest below n -/
def gl : Nat → (Nat → Bool) → Option Nat
  | 0, _ => none
  | n + 1, P => if P n then some n else gl n P
theorem gl_eq {n x : Nat} {P : Nat → Bool} (hx : x < n) (h1 : P x = true) (h2 : ∀ y, x < y → y < n → P y = false) : gl n P = some x := by
  induction n with
  | zero => exact absurd hx (Nat.not_lt_zero _)
  | succ n ih =>
    unfold gl
    by_cases e : x = n
    · rw [← e, if_pos h1]
    · rw [if_neg (by rw [h2 n (by omega) (by omega)]; decide)]
      exact ih (by omega) (fun y hy1 hy2 => h2 y hy1 (by omega))
noncomputable def sp_vic (ld : Nat → Nat → Bool) (c t : Nat) : Option Nat := if dP (tg ld t t) then gl c (fun u => dP (tg ld t u ∧ tg ld u t)) else none
noncomputable def sp_vict (v : VP) (L : VK) (tv : VT) (t : Nat) : Option Nat := if sp_liv tv t then sp_vic (sp_ld v L tv) (tv_c tv) t else none
theorem tg_closed {ld : Nat → Nat → Bool} {S : Nat → Prop} {t : Nat} (h1 : ∀ v, ld t v = true → S v) (h2 : ∀ u v, S u → ld u v = true → S v) : ∀ v, tg ld t v → S v := by
  intro v h
  induction h with
  | single h => exact h1 _ h
  | tail _ h ih => exact h2 _ _ ih h
theorem tg_back {ld : Nat → Nat → Bool} {S : Nat → Prop} {t : Nat} (h1 : ∀ u, ld u t = true → S u) (h2 : ∀ u v, S v → ld u v = true → S u) : ∀ u, tg ld u t → S u := by
  have key : ∀ a b, tg ld a b → (b = t ∨ S b) → S a := by
    intro a b h
    induction h with
    | single h =>
      intro q
      rcases q with q | q
      · subst q
        exact h1 _ h
      · exact h2 _ _ q h
    | tail _ h ih =>
      intro q
      refine ih (Or.inr ?_)
      rcases q with q | q
      · subst q
        exact h1 _ h
      · exact h2 _ _ q h
  exact fun u h => key u t h (Or.inl rfl)
theorem tg_head {ld : Nat → Nat → Bool} {a b c : Nat} (h1 : ld a b = true) (h2 : tg ld b c) : tg ld a c := Relation.TransGen.trans (Relation.TransGen.single h1) h2
theorem bc_lt {n : Nat} {P Q : Nat → Bool} (h : ∀ k, k < n → P k = true → Q k = true) {x : Nat} (hx : x < n) (h1 : P x = false) (h2 : Q x = true) : bc n P + 1 ≤ bc n Q := by
  induction n with
  | zero => exact absurd hx (Nat.not_lt_zero _)
  | succ n ih =>
    unfold bc
    by_cases e : x = n
    · subst e
      rw [h1, h2]
      have := bc_up (n := x) (fun k hk => h k (by omega : k < x + 1))
      simp
      exact this
    · have i := ih (fun k hk => h k (by omega)) (by omega)
      by_cases hp : P n = true
      · rw [if_pos hp, if_pos (h n (by omega) hp)]
        omega
      · rw [if_neg hp]
        omega
theorem bc_full {n : Nat} {P : Nat → Bool} (h : n ≤ bc n P) : ∀ k, k < n → P k = true := by
  induction n with
  | zero => exact fun k hk => absurd hk (Nat.not_lt_zero _)
  | succ n ih =>
    intro k hk
    unfold bc at h
    have hle := bc_le n P
    by_cases hp : P n = true
    · rw [if_pos hp] at h
      by_cases e : k = n
      · rw [e, hp]
      · exact ih (by omega) k (by omega)
    · rw [if_neg hp] at h
      omega
theorem sp_ld_in {v : VP} {L : VK} {tv : VT} (hv : iT tv) (hL : iK tv L) {t u : Nat} (h : sp_ld v L tv t u = true) : t < tv_c tv ∧ u < tv_c tv := by
  unfold sp_ld at h
  rw [Bool.and_eq_true] at h
  have ht : t < tv_c tv := by
    have := h.1
    unfold sp_liv at this
    simp at this
    exact this.1
  refine ⟨ht, ?_⟩
  rcases Bool.or_eq_true _ _ ▸ h.2 with q | q
  · unfold sp_chl sp_liv at q
    simp at q
    exact q.1.1
  · rw [Bool.and_eq_true] at q
    have q2 := q.2
    unfold sp_wf at q2
    rw [Bool.and_eq_true, decide_eq_true_eq] at q2
    by_cases hu : u < tv_c tv
    · exact hu
    · rw [hL.bl_out (sp_its_lt hv ht _ (getD_mem q2.1)) (by omega)] at q2
      cases q2.2
def sp_lack (v : VP) (L : VK) (tv : VT) (t : Nat) : Option Nat := if sp_fr L tv t (sp_pm v tv t) (sp_its v tv t) < (sp_its v tv t).length then some ((sp_its v tv t).getD (sp_fr L tv t (sp_pm v tv t) (sp_its v tv t)) 0) else none
/-- what the reference's look leaves, for the first n -/
def RMV (V : S_MV) (v : VP) (L : VK) (tv : VT) (n : Nat) : Prop := ∀ t, t < n → (tv_st tv t = 2 → MV_lacks V t = pI (sp_lack v L tv t) ∧ MV_lackMode V t = jI (sp_pm v tv t)) ∧ (¬ tv_st tv t = 2 → MV_lacks V t = -1)
theorem sp_wf_lack (v : VP) (L : VK) (tv : VT) (t u : Nat) : sp_wf v L tv t u = match sp_lack v L tv t with
    | none => false
    | some i => sp_bl L (tv_lin tv t) i (sp_pm v tv t) u := by
  unfold sp_wf sp_lack
  by_cases q : sp_fr L tv t (sp_pm v tv t) (sp_its v tv t) < (sp_its v tv t).length
  · rw [if_pos q, decide_eq_true q]
    rfl
  · rw [if_neg q, decide_eq_false q]
    rfl
