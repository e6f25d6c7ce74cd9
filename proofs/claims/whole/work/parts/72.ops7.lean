section OPS7
variable {A : S_A} {G : S_G} {K : S_K} {T : S_T} {v : VP} {g : VG} {tv : VT} {L : VK} {c : Nat}
theorem bc_or {P Q : Nat → Bool} : ∀ n, bc n (fun r => P r || Q r) ≤ bc n P + bc n Q := by
  intro n
  induction n with
  | zero => exact Nat.le_refl _
  | succ n ih =>
    show bc n (fun r => P r || Q r) + (if (P n || Q n) = true then 1 else 0) ≤ bc n P + (if P n = true then 1 else 0) + (bc n Q + (if Q n = true then 1 else 0))
    cases P n <;> cases Q n <;> simp only [Bool.or_true, Bool.or_false, Bool.true_or, Bool.false_or, if_true, Bool.false_eq_true, if_false] <;> omega
theorem bc_eq1 {x : Nat} : ∀ n, bc n (fun r => x == r) ≤ 1 ∧ (n ≤ x → bc n (fun r => x == r) = 0) := by
  intro n
  induction n with
  | zero => exact ⟨Nat.zero_le _, fun _ => rfl⟩
  | succ n ih =>
    show bc n (fun r => x == r) + (if (x == n) = true then 1 else 0) ≤ 1 ∧ (n + 1 ≤ x → bc n (fun r => x == r) + (if (x == n) = true then 1 else 0) = 0)
    by_cases e : x = n
    · have := ih.2 (by omega)
      rw [this]
      refine ⟨by split <;> omega, fun h => by omega⟩
    · rw [show (x == n) = false by simpa using e]
      exact ⟨by simpa using ih.1, fun h => by simpa using ih.2 (by omega)⟩
theorem bc_mono {P : Nat → Bool} {m n : Nat} (h : m ≤ n) : bc m P ≤ bc n P := by
  obtain ⟨d, rfl⟩ : ∃ d, n = m + d := ⟨n - m, by omega⟩
  clear h
  induction d with
  | zero => exact Nat.le_refl _
  | succ d ih =>
    show bc m P ≤ bc (m + d) P + _
    omega
theorem bc_und {kd : Nat → Bool} {ou : Nat → Nat} {k a : Nat} : ∀ d, bc k (fun r => bx (a + d) (fun x => kd x && ou x == r) && !bx a (fun x => kd x && ou x == r)) ≤ d := by
  intro d
  induction d with
  | zero =>
    rw [bc_zero.mpr]
    · exact Nat.le_refl _
    · intro r _
      show (bx a _ && !bx a _) = false
      cases bx a (fun x => kd x && ou x == r) <;> rfl
  | succ d ih =>
    have h1 : bc k (fun r => bx (a + (d + 1)) (fun x => kd x && ou x == r) && !bx a (fun x => kd x && ou x == r)) ≤ bc k (fun r => (bx (a + d) (fun x => kd x && ou x == r) && !bx a (fun x => kd x && ou x == r)) || ou (a + d) == r) := by
      refine bc_up (fun r _ h => ?_)
      have h : ((bx (a + d) (fun x => kd x && ou x == r) || (kd (a + d) && ou (a + d) == r)) && !bx a (fun x => kd x && ou x == r)) = true := h
      cases q : (ou (a + d) == r) with
      | true => rw [Bool.or_true]
      | false =>
        rw [q, Bool.and_false, Bool.or_false] at h
        rw [h]
        rfl
    have h2 := bc_or (P := fun r => bx (a + d) (fun x => kd x && ou x == r) && !bx a (fun x => kd x && ou x == r)) (Q := fun r => ou (a + d) == r) k
    have h3 := (bc_eq1 (x := ou (a + d)) k).1
    omega
/-- the log behind a crash that keeps n more -/
def sp_cut (g : VG) (f : Nat) : VG := gv_n' (gv_f' g f) (f - gv_b g)
/-- to tell the updates that the crash must undo -/
def sp_X (tv : VT) : VT := tv_st' tv (fun u => if tv_st tv u = 3 then 3 else 1)
theorem liv_X {u : Nat} (hu : u < tv_c tv) : sp_liv (sp_X tv) u = !decide (tv_st tv u = 3) := by
  show (decide (u < tv_c tv) && (decide ((if tv_st tv u = 3 then (3 : Int32) else 1) = 1) || decide ((if tv_st tv u = 3 then (3 : Int32) else 1) = 2))) = _
  rw [decide_eq_true hu]
  by_cases q : tv_st tv u = 3
  · rw [if_pos q, decide_eq_true q]
    rfl
  · rw [if_neg q, decide_eq_false q]
    rfl
theorem iG.cut (h : iG g c) {f : Nat} (h1 : gv_f g ≤ f) (h2 : f ≤ gv_b g + gv_n g) : iG (sp_cut g f) c := by
  obtain ⟨i1, i2, i3, i4, i5, i6, i7, i8, i9, i10⟩ := h
  have hk : f - gv_b g ≤ gv_n g := by omega
  refine ⟨?_, ?_, ?_, i4, fun r hr => i5 r (Nat.lt_of_lt_of_le hr hk), fun r hr => i6 r (Nat.lt_of_lt_of_le hr hk), fun r hr => i7 r (Nat.lt_of_lt_of_le hr hk), fun x y hx hy => i8 x y (Nat.lt_of_lt_of_le hx hk) (Nat.lt_of_lt_of_le hy hk), fun r hr => i9 r (Nat.lt_of_lt_of_le hr hk), fun r hr => i10 r (Nat.lt_of_lt_of_le hr hk)⟩
  · show f - gv_b g ≤ 300
    omega
  · show gv_b g ≤ f
    omega
  · show f ≤ gv_b g + (f - gv_b g)
    omega
theorem abU_3 (h : iT tv) {u : Nat} (hu : u < tv_c tv) : tv_st (sp_abU tv) (tv_top tv u) = 3 ↔ tv_st tv (tv_top tv u) = 3 := by
  have htl := h.top_lt u hu
  show (if tv_top tv u < tv_c tv ∧ ¬ tv_st tv (tv_top tv (tv_top tv u)) = 3 then 4 else tv_st tv (tv_top tv u)) = 3 ↔ _
  rw [h.top_top u hu]
  by_cases q : tv_st tv (tv_top tv u) = 3
  · rw [if_neg (fun z => z.2 q)]
  · rw [if_pos ⟨by omega, q⟩]
    exact ⟨fun z => absurd z (by decide), fun z => absurd z q⟩
theorem abU_dead (hv : iT tv) (hX : iX g tv) (u : Nat) : sp_liv (sp_abU tv) u = false := by
  by_cases hu : u < tv_c tv
  · show (decide (u < tv_c tv) && (decide ((if u < tv_c tv ∧ ¬ tv_st tv (tv_top tv u) = 3 then 4 else tv_st tv u) = 1) || decide ((if u < tv_c tv ∧ ¬ tv_st tv (tv_top tv u) = 3 then 4 else tv_st tv u) = 2))) = false
    by_cases q : tv_st tv (tv_top tv u) = 3
    · rw [if_neg (fun z => z.2 q)]
      cases z : sp_liv tv u with
      | false => exact z
      | true =>
        have h1 := liv_st (hX.2.2.1 u _ z (hv.lin_top u hu))
        rw [q] at h1
        rcases h1 with h1 | h1 <;> exact absurd h1 (by decide)
    · rw [if_pos ⟨hu, q⟩, Bool.and_eq_false_iff]
      exact Or.inr rfl
  · unfold sp_liv
    rw [decide_eq_false (show ¬ u < tv_c (sp_abU tv) from hu)]
    rfl
theorem iT.abU (h : iT tv) : iT (sp_abU tv) := h.stf (fun t ht => by
  by_cases q : t < tv_c tv ∧ ¬ tv_st tv (tv_top tv t) = 3
  · rw [if_pos q]
    exact Or.inr (Or.inr (Or.inr rfl))
  · rw [if_neg q]
    exact (h.2.1 t ht).1)
/-- there is room for the undos of a crash -/
theorem cut_room (h : iV v g tv L) {f : Nat} (h1 : gv_f g ≤ f) (h2 : f ≤ gv_b g + gv_n g) : gv_n (sp_cut g f) + sp_opens (sp_cut g f) (sp_X (sp_abU tv)) ≤ 300 := by
  obtain ⟨hP, hG, hT, hK, hX, hR⟩ := h
  have hbf := hG.2.1
  obtain ⟨m, hm⟩ : ∃ m, m = f - gv_b g := ⟨_, rfl⟩
  show f - gv_b g + bc (f - gv_b g) (sp_opn (sp_cut g f) (sp_X (sp_abU tv))) ≤ 300
  have hmn : m ≤ gv_n g := by omega
  have hud : ∀ r, sp_ud (sp_cut g f) r = bx m (fun x => decide (gv_kd g x = 3) && gv_ou g x == r) := by
    intro r
    rw [hm]
    rfl
  rw [← hm]
  have a1 : bc m (sp_opn (sp_cut g f) (sp_X (sp_abU tv))) ≤ bc m (fun r => sp_opn g tv r || (bx (m + (gv_n g - m)) (fun x => decide (gv_kd g x = 3) && gv_ou g x == r) && !bx m (fun x => decide (gv_kd g x = 3) && gv_ou g x == r))) := by
    refine bc_up (fun r hr ho => ?_)
    have hr2 : r < gv_n g := by omega
    have hby := hG.2.2.2.2.1 r hr2
    have htl := hT.top_lt _ hby
    obtain ⟨o1, o2, o3⟩ := opn_kd ho
    have o1 : gv_kd g r = 2 := o1
    have o3 : sp_liv (sp_X (sp_abU tv)) (tv_top tv (gv_by g r)) = true := o3
    rw [hud] at o2
    rw [liv_X (tv := sp_abU tv) (show tv_top tv (gv_by g r) < tv_c tv by omega)] at o3
    have o3 : ¬ tv_st (sp_abU tv) (tv_top tv (gv_by g r)) = 3 := by simpa using o3
    rw [abU_3 hT hby] at o3
    rw [o2, show m + (gv_n g - m) = gv_n g by omega, show bx (gv_n g) (fun x => decide (gv_kd g x = 3) && gv_ou g x == r) = sp_ud g r from rfl]
    cases q : sp_ud g r with
    | true =>
      rw [Bool.or_eq_true]
      exact Or.inr rfl
    | false =>
      have : sp_opn g tv r = true := by
        unfold sp_opn
        rw [decide_eq_true o1, q]
        show sp_liv tv (tv_top tv (gv_by g r)) = true
        rcases (hT.2.1 (tv_top tv (gv_by g r)) (by omega)).1 with z | z | z | z
        · exact liv_of (by omega) (Or.inl z)
        · exact liv_of (by omega) (Or.inr z)
        · exact absurd z o3
        · rw [hX.2.2.2.2.2 r hr2 o1 z] at q
          cases q
      rw [this]
      rfl
  have a2 := bc_or (P := sp_opn g tv) (Q := fun r => bx (m + (gv_n g - m)) (fun x => decide (gv_kd g x = 3) && gv_ou g x == r) && !bx m (fun x => decide (gv_kd g x = 3) && gv_ou g x == r)) m
  have a3 := bc_und (kd := fun x => decide (gv_kd g x = 3)) (ou := gv_ou g) (k := m) (a := m) (gv_n g - m)
  have a4 : bc m (sp_opn g tv) ≤ sp_opens g tv := bc_mono hmn
  unfold iRm at hR
  omega
/-- redo -/
def sp_rdP (v : VP) (g : VG) (r : Nat) : VP := if gv_b g + r + 1 ≤ pv_ls v (sp_key g r / 4) then sp_tP v (sp_key g r / 4) else sp_ch (sp_tP v (sp_key g r / 4)) (sp_key g r) (gv_it g r) (gv_iv g r) (gv_b g + r + 1)
def sp_rd (g : VG) (v : VP) : Nat → VP
  | 0 => v
  | r + 1 => if gv_kd g r = 2 ∨ gv_kd g r = 3 then sp_rdP (sp_rd g v r) g r else sp_rd g v r
theorem fl_same (h : iPG v (gv_b g) (gv_n g) (gv_f g)) (hf : gv_f g = gv_b g + gv_n g) {p : Nat} (hp : p < 8) : gv_f' g (sp_tF v (gv_f g) p) = g := by
  have := tF_le h hp
  have e : sp_tF v (gv_f g) p = gv_f g := by omega
  rw [e]
theorem rd_inv (hI : iG g c) (hf : gv_f g = gv_b g + gv_n g) (h : iPG v (gv_b g) (gv_n g) (gv_f g)) : ∀ r, r ≤ gv_n g → iPG (sp_rd g v r) (gv_b g) (gv_n g) (gv_f g) ∧ pv_tk (sp_rd g v r) ≤ pv_tk v + r := by
  intro r
  induction r with
  | zero => exact fun _ => ⟨h, Nat.le_refl _⟩
  | succ r ih =>
    intro hr
    obtain ⟨i1, i2⟩ := ih (by omega)
    unfold sp_rd
    by_cases q : gv_kd g r = 2 ∨ gv_kd g r = 3
    · rw [if_pos q]
      have hkey := hI.key (show r < gv_n g by omega) q
      have ht := i1.touch (show sp_key g r / 4 < 8 by omega)
      have e : sp_tF (sp_rd g v r) (gv_f g) (sp_key g r / 4) = gv_f g := by
        have := tF_le i1 (show sp_key g r / 4 < 8 by omega)
        omega
      rw [e] at ht
      unfold sp_rdP
      split
      · exact ⟨ht.1, by rw [tP_tk]; omega⟩
      · refine ⟨ht.1.ch hkey.1 (by omega) (tP_in i1.1) (hI.2.2.2.2.2.2.2.2.2 r (by omega)), ?_⟩
        show pv_tk (sp_tP (sp_rd g v r) (sp_key g r / 4)) ≤ _
        rw [tP_tk]
        omega
    · rw [if_neg q]
      exact ⟨i1, by omega⟩
/-- undo, from row m - 1 down, what did not come to a commit at the top -/
def iW (v : VP) (g : VG) (tv : VT) : Prop := iPG v (gv_b g) (gv_n g) (gv_f g) ∧ iG g (tv_c tv) ∧ iT tv ∧ gv_n g + sp_opens g tv ≤ 300
theorem iW.und {u t : Nat} (h : iW v g tv) (hu : u < gv_n g) (ho : sp_opn g tv u = true) (ht : t < tv_c tv) : iW (sp_undP v g u) (sp_undG v g u t) tv ∧ gExt g (sp_undG v g u t) ∧ gv_n g < 300 := by
  obtain ⟨hP, hG, hT, hR⟩ := h
  obtain ⟨k2, k3, -⟩ := opn_kd ho
  have hop := opens_und (v := v) (t := t) hG hu ho
  have hn : gv_n g < 300 := by omega
  have hkey := hG.key hu (Or.inl k2)
  have ht1 := hP.touch (show sp_key g u / 4 < 8 by omega)
  have htf := tF_le hP (show sp_key g u / 4 < 8 by omega)
  have hex := und_ext (v := v) (t := t) hG htf.1 hu
  refine ⟨⟨?_, hG.und hn ht hu k2 k3 (by have := hG.2.1; omega) (by omega), hT, ?_⟩, hex, hn⟩
  · have h2 := ht1.1.up (n' := gv_n g + 1) (by omega)
    exact h2.ch hkey.1 (by omega) (tP_in hP.1) (hG.2.2.2.2.2.2.2.2.1 u hu)
  · show gv_n g + 1 + sp_opens (sp_undG v g u t) tv ≤ 300
    omega
def sp_uc (tv : VT) : Nat → Nat × VP × VG → Nat × VP × VG
  | 0, s => s
  | m + 1, s => sp_uc tv m (if sp_opn s.2.2 tv m then (s.1 + 1, sp_undP s.2.1 s.2.2 m, sp_undG s.2.1 s.2.2 m (tv_top tv (gv_by s.2.2 m))) else s)
theorem opn_top (hT : iT tv) {m : Nat} (ho : sp_opn g tv m = true) : tv_top tv (gv_by g m) < tv_c tv := liv_lt (opn_kd ho).2.2
theorem uc_inv : ∀ m (s : Nat × VP × VG), m ≤ gv_n s.2.2 → iW s.2.1 s.2.2 tv → iW (sp_uc tv m s).2.1 (sp_uc tv m s).2.2 tv ∧ gExt s.2.2 (sp_uc tv m s).2.2 ∧ pv_tk (sp_uc tv m s).2.1 + gv_n s.2.2 = pv_tk s.2.1 + gv_n (sp_uc tv m s).2.2 := by
  intro m
  induction m with
  | zero =>
    intro s _ h
    exact ⟨h, gExt.rf, rfl⟩
  | succ m ih =>
    intro s hm h
    unfold sp_uc
    by_cases q : sp_opn s.2.2 tv m = true
    · rw [if_pos q]
      obtain ⟨g1, g2, g3⟩ := h.und (u := m) (by omega) q (opn_top h.2.2.1 q)
      obtain ⟨i1, i2, i4⟩ := ih (s.1 + 1, sp_undP s.2.1 s.2.2 m, sp_undG s.2.1 s.2.2 m (tv_top tv (gv_by s.2.2 m))) (show m ≤ gv_n s.2.2 + 1 by omega) g1
      refine ⟨i1, g2.tr i2, ?_⟩
      have e1 : pv_tk (sp_undP s.2.1 s.2.2 m) = pv_tk s.2.1 + 1 := und_tk
      have e2 : gv_n (sp_undG s.2.1 s.2.2 m (tv_top tv (gv_by s.2.2 m))) = gv_n s.2.2 + 1 := rfl
      dsimp only at i4 ⊢
      omega
    · rw [if_neg q]
      exact ih s (by omega) h
theorem uc_none : ∀ m (s : Nat × VP × VG), m ≤ gv_n s.2.2 → iW s.2.1 s.2.2 tv → ∀ r, r < m → sp_opn (sp_uc tv m s).2.2 tv r = false := by
  intro m
  induction m with
  | zero =>
    intro s _ _ r hr
    omega
  | succ m ih =>
    intro s hm h r hr
    have keep : ∀ s2 : Nat × VP × VG, m ≤ gv_n s2.2.2 → iW s2.2.1 s2.2.2 tv → r < gv_n s2.2.2 → sp_opn s2.2.2 tv r = false → sp_opn (sp_uc tv m s2).2.2 tv r = false := by
      intro s2 hm2 h2 hr2 ho
      obtain ⟨-, ⟨-, -, -, e4, e5, -⟩, -⟩ := uc_inv (tv := tv) m s2 hm2 h2
      unfold sp_opn at ho ⊢
      rw [(e4 r hr2).1, (e4 r hr2).2]
      cases z1 : decide (gv_kd s2.2.2 r = 2) with
      | false => rfl
      | true =>
        cases z2 : sp_liv tv (tv_top tv (gv_by s2.2.2 r)) with
        | false => simp
        | true =>
          rw [z1, z2] at ho
          have hud : sp_ud s2.2.2 r = true := by simpa using ho
          rw [e5 r hr2 hud]
          rfl
    unfold sp_uc
    by_cases q : sp_opn s.2.2 tv m = true
    · rw [if_pos q]
      obtain ⟨g1, g2, g3⟩ := h.und (u := m) (by omega) q (opn_top h.2.2.1 q)
      by_cases e : r = m
      · refine keep _ (show m ≤ gv_n s.2.2 + 1 by omega) g1 (show r < gv_n s.2.2 + 1 by omega) ?_
        rw [e]
        show sp_opn (sp_undG s.2.1 s.2.2 m _) tv m = false
        rw [opn_und h.2.1 (by omega) (by omega)]
        simp
      · exact ih _ (show m ≤ gv_n s.2.2 + 1 by omega) g1 r (by omega)
    · rw [if_neg q]
      by_cases e : r = m
      · refine keep s (by omega) h (by omega) ?_
        rw [e]
        simpa using q
      · exact ih s (by omega) h r (by omega)
end OPS7
