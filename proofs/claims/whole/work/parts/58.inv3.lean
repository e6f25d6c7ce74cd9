section INV3
variable {v : VP} {g g' : VG} {tv : VT} {L : VK} {c : Nat}
/-- a log that goes on from another, by records that are no UPDATE and no COMMIT -/
def gExt (g g' : VG) : Prop := gv_b g' = gv_b g ∧ gv_n g ≤ gv_n g' ∧ gv_f g ≤ gv_f g' ∧ (∀ r, r < gv_n g → gv_kd g' r = gv_kd g r ∧ gv_by g' r = gv_by g r) ∧ (∀ r, r < gv_n g → sp_ud g r = true → sp_ud g' r = true) ∧ ∀ r, gv_n g ≤ r → r < gv_n g' → ¬ gv_kd g' r = 2 ∧ ¬ gv_kd g' r = 4
theorem gExt.rf : gExt g g := ⟨rfl, Nat.le_refl _, Nat.le_refl _, fun r _ => ⟨rfl, rfl⟩, fun r _ h => h, fun r h1 h2 => absurd h2 (by omega)⟩
theorem gExt.tr {g2 : VG} (h1 : gExt g g') (h2 : gExt g' g2) : gExt g g2 := by
  obtain ⟨a1, a2, a3, a4, a5, a6⟩ := h1
  obtain ⟨b1, b2, b3, b4, b5, b6⟩ := h2
  refine ⟨b1.trans a1, Nat.le_trans a2 b2, Nat.le_trans a3 b3, fun r hr => ?_, fun r hr hu => b5 r (by omega) (a5 r hr hu), fun r hr1 hr2 => ?_⟩
  · have x := a4 r hr
    have y := b4 r (by omega)
    exact ⟨y.1.trans x.1, y.2.trans x.2⟩
  · by_cases q : r < gv_n g'
    · rw [(b4 r q).1]
      exact a6 r hr1 q
    · exact b6 r (by omega) hr2
theorem iX.ext (h : iX g tv) (e : gExt g g') : iX g' tv := by
  obtain ⟨x1, x2, x3, x4, x5, x6⟩ := h
  obtain ⟨e1, e2, e3, e4, e5, e6⟩ := e
  have old : ∀ {r : Nat}, r < gv_n g' → gv_kd g' r = 2 ∨ gv_kd g' r = 4 → r < gv_n g := by
    intro r hr hk
    by_cases q : r < gv_n g
    · exact q
    · have := e6 r (by omega) hr
      rcases hk with z | z
      · exact absurd z this.1
      · exact absurd z this.2
  refine ⟨fun r hr hk a ha => ?_, fun t ht => ?_, x3, fun r hr hk hs => ?_, fun r hr hk hp => ?_, fun r hr hk hs => ?_⟩
  · have q := old hr (Or.inl hk)
    rw [(e4 r q).1] at hk
    rw [(e4 r q).2] at ha
    rw [e1]
    exact x1 r q hk a ha
  · have := x2 t ht
    omega
  · have q := old hr (Or.inl hk)
    rw [(e4 r q).1] at hk
    rw [(e4 r q).2] at hs
    obtain ⟨x, y1, y2, y3, y4⟩ := x4 r q hk hs
    refine ⟨x, by omega, ?_, ?_, by omega⟩
    · rw [(e4 x y1).1]
      exact y2
    · rw [(e4 x y1).2, (e4 r q).2]
      exact y3
  · have q := old hr (Or.inr hk)
    rw [(e4 r q).1] at hk
    rw [(e4 r q).2] at hp ⊢
    exact x5 r q hk hp
  · have q := old hr (Or.inl hk)
    rw [(e4 r q).1] at hk
    rw [(e4 r q).2] at hs
    exact e5 r q (x6 r q hk hs)
theorem tF_le (h : iPG v (gv_b g) (gv_n g) (gv_f g)) {p : Nat} (hp : p < 8) : gv_f g ≤ sp_tF v (gv_f g) p ∧ sp_tF v (gv_f g) p ≤ gv_b g + gv_n g := by
  have := h.touch hp
  exact ⟨this.2, this.1.2.2.2.2⟩
theorem und_ext {u t : Nat} (h : iG g c) (hf : gv_f g ≤ sp_tF v (gv_f g) (sp_key g u / 4)) (hu : u < gv_n g) : gExt g (sp_undG v g u t) := by
  refine ⟨rfl, show gv_n g ≤ gv_n g + 1 by omega, hf, fun r hr => ⟨updN_ne _ _ (by omega), updN_ne _ _ (by omega)⟩, fun r hr hud => ?_, fun r h1 h2 => ?_⟩
  · rw [sp_ud_und h.ou (by omega) hu]
    by_cases q : r = u
    · rw [if_pos q]
    · rw [if_neg q, if_pos hr]
      exact hud
  · have h2 : r < gv_n g + 1 := h2
    have e : r = gv_n g := by omega
    show ¬ updN (gv_kd g) (gv_n g) 3 r = 2 ∧ ¬ updN (gv_kd g) (gv_n g) 3 r = 4
    rw [e, updN_same]
    exact ⟨by decide, by decide⟩
theorem opn_und {u t r : Nat} (h : iG g c) (hu : u < gv_n g) (hr : r < gv_n g) : sp_opn (sp_undG v g u t) tv r = (!decide (r = u) && sp_opn g tv r) := by
  unfold sp_opn
  rw [sp_ud_und h.ou (by omega) hu, show gv_kd (sp_undG v g u t) r = gv_kd g r from updN_ne _ _ (by omega), show gv_by (sp_undG v g u t) r = gv_by g r from updN_ne _ _ (by omega)]
  by_cases q : r = u
  · rw [if_pos q, decide_eq_true q]
    simp
  · rw [if_neg q, if_pos hr, decide_eq_false q]
    simp
theorem opens_und {u t : Nat} (h : iG g c) (hu : u < gv_n g) (ho : sp_opn g tv u = true) : sp_opens (sp_undG v g u t) tv + 1 = sp_opens g tv := by
  have e1 : sp_opens (sp_undG v g u t) tv = bc (gv_n g) (sp_opn (sp_undG v g u t) tv) := by
    show bc (gv_n g + 1) (sp_opn (sp_undG v g u t) tv) = _
    rw [bc]
    have : sp_opn (sp_undG v g u t) tv (gv_n g) = false := by
      unfold sp_opn
      rw [show gv_kd (sp_undG v g u t) (gv_n g) = 3 from updN_same _ _ _]
      rfl
    rw [this]
    rfl
  rw [e1]
  symm
  refine bc_one (x := u) hu ?_ ho (fun k hk hne => ?_)
  · rw [opn_und h hu hu]
    simp
  · rw [opn_und h hu hk, decide_eq_false hne]
    rfl
/-- one undo keeps all -/
theorem iV.und {u t : Nat} (h : iV v g tv L) (hu : u < gv_n g) (ho : sp_opn g tv u = true) (ht : t < tv_c tv) : iV (sp_undP v g u) (sp_undG v g u t) tv L ∧ gExt g (sp_undG v g u t) ∧ gv_n g < 300 := by
  obtain ⟨hP, hG, hT, hK, hX, hR⟩ := h
  obtain ⟨k2, k3, -⟩ := opn_kd ho
  have hop := opens_und (v := v) (t := t) hG hu ho
  have hn : gv_n g < 300 := by
    unfold iRm at hR
    omega
  have hkey := hG.key hu (Or.inl k2)
  have ht1 := hP.touch (show sp_key g u / 4 < 8 by omega)
  have htf := tF_le hP (show sp_key g u / 4 < 8 by omega)
  have hex := und_ext (v := v) (t := t) hG htf.1 hu
  refine ⟨⟨?_, hG.und hn ht hu k2 k3 (by have := hG.2.1; omega) (by omega), hT, hK, hX.ext hex, ?_⟩, hex, hn⟩
  · have h2 := ht1.1.up (n' := gv_n g + 1) (by omega)
    exact h2.ch hkey.1 (by omega) (tP_in hP.1) (hG.2.2.2.2.2.2.2.2.1 u hu)
  · show gv_n g + 1 + sp_opens (sp_undG v g u t) tv + sp_lives tv ≤ 300
    unfold iRm at hR
    omega
/-- what a call may add to the clock -/
theorem und_tk {u : Nat} : pv_tk (sp_undP v g u) = pv_tk v + 1 := tP_tk _
/-- undo, from row m - 1 down, what t and those below it updated above pt -/
def sp_uo (tv : VT) (t pt : Nat) : Nat → Nat × VP × VG → Nat × VP × VG
  | 0, s => s
  | m + 1, s => sp_uo tv t pt m (if decide (pt < gv_b s.2.2 + m + 1) && sp_opn s.2.2 tv m && tv_lin tv (gv_by s.2.2 m) t then (s.1 + 1, sp_undP s.2.1 s.2.2 m, sp_undG s.2.1 s.2.2 m t) else s)
theorem uo_stop {t pt : Nat} : ∀ m (s : Nat × VP × VG), gv_b s.2.2 + m ≤ pt → sp_uo tv t pt m s = s := by
  intro m
  induction m with
  | zero =>
    intro s _
    rfl
  | succ m ih =>
    intro s h
    unfold sp_uo
    rw [decide_eq_false (by omega)]
    exact ih s (by omega)
theorem uo_inv {t pt : Nat} (ht : t < tv_c tv) : ∀ m (s : Nat × VP × VG), m ≤ gv_n s.2.2 → iV s.2.1 s.2.2 tv L → iV (sp_uo tv t pt m s).2.1 (sp_uo tv t pt m s).2.2 tv L ∧ gExt s.2.2 (sp_uo tv t pt m s).2.2 ∧ gv_n (sp_uo tv t pt m s).2.2 + sp_opens (sp_uo tv t pt m s).2.2 tv = gv_n s.2.2 + sp_opens s.2.2 tv ∧ pv_tk (sp_uo tv t pt m s).2.1 + gv_n s.2.2 = pv_tk s.2.1 + gv_n (sp_uo tv t pt m s).2.2 := by
  intro m
  induction m with
  | zero =>
    intro s _ h
    exact ⟨h, gExt.rf, rfl, rfl⟩
  | succ m ih =>
    intro s hm h
    unfold sp_uo
    by_cases q : (decide (pt < gv_b s.2.2 + m + 1) && sp_opn s.2.2 tv m && tv_lin tv (gv_by s.2.2 m) t) = true
    · rw [if_pos q]
      simp only [Bool.and_eq_true] at q
      obtain ⟨g1, g2, g3⟩ := h.und (u := m) (t := t) (by omega) q.1.2 ht
      have hop := opens_und (v := s.2.1) (t := t) h.2.1 (show m < gv_n s.2.2 by omega) q.1.2
      obtain ⟨i1, i2, i3, i4⟩ := ih (s.1 + 1, sp_undP s.2.1 s.2.2 m, sp_undG s.2.1 s.2.2 m t) (show m ≤ gv_n s.2.2 + 1 by omega) g1
      refine ⟨i1, g2.tr i2, ?_, ?_⟩
      · rw [i3]
        show gv_n s.2.2 + 1 + sp_opens (sp_undG s.2.1 s.2.2 m t) tv = _
        omega
      · have e1 : pv_tk (sp_undP s.2.1 s.2.2 m) = pv_tk s.2.1 + 1 := und_tk
        have e2 : gv_n (sp_undG s.2.1 s.2.2 m t) = gv_n s.2.2 + 1 := rfl
        dsimp only at i4 ⊢
        omega
    · rw [if_neg q]
      exact ih s (by omega) h
/-- behind it none of them is open above pt -/
theorem uo_none {t pt : Nat} (ht : t < tv_c tv) : ∀ m (s : Nat × VP × VG), m ≤ gv_n s.2.2 → iV s.2.1 s.2.2 tv L → ∀ r, r < m → pt < gv_b s.2.2 + r + 1 → tv_lin tv (gv_by s.2.2 r) t = true → sp_opn (sp_uo tv t pt m s).2.2 tv r = false := by
  intro m
  induction m with
  | zero =>
    intro s _ _ r hr
    omega
  | succ m ih =>
    intro s hm h r hr hp hl
    have keep : ∀ s2 : Nat × VP × VG, m ≤ gv_n s2.2.2 → iV s2.2.1 s2.2.2 tv L → r < gv_n s2.2.2 → sp_opn s2.2.2 tv r = false → gv_kd s2.2.2 r = 2 ∨ True → sp_opn (sp_uo tv t pt m s2).2.2 tv r = false := by
      intro s2 hm2 h2 hr2 ho _
      obtain ⟨-, ⟨-, -, -, e4, e5, -⟩, -, -⟩ := uo_inv (L := L) (pt := pt) ht m s2 hm2 h2
      unfold sp_opn at ho ⊢
      rw [(e4 r hr2).1, (e4 r hr2).2]
      cases z1 : decide (gv_kd s2.2.2 r = 2) with
      | false => rfl
      | true =>
        cases z2 : sp_liv tv (tv_top tv (gv_by s2.2.2 r)) with
        | false => simp
        | true =>
          rw [z1, z2] at ho
          have hud : sp_ud s2.2.2 r = true := by simpa using ho
          rw [e5 r hr2 hud]
          rfl
    unfold sp_uo
    by_cases q : (decide (pt < gv_b s.2.2 + m + 1) && sp_opn s.2.2 tv m && tv_lin tv (gv_by s.2.2 m) t) = true
    · rw [if_pos q]
      simp only [Bool.and_eq_true] at q
      obtain ⟨g1, g2, g3⟩ := h.und (u := m) (t := t) (by omega) q.1.2 ht
      by_cases e : r = m
      · refine keep _ (show m ≤ gv_n s.2.2 + 1 by omega) g1 (show r < gv_n s.2.2 + 1 by omega) ?_ (Or.inr trivial)
        rw [e]
        show sp_opn (sp_undG s.2.1 s.2.2 m t) tv m = false
        rw [opn_und h.2.1 (by omega) (by omega)]
        simp
      · refine ih _ (show m ≤ gv_n s.2.2 + 1 by omega) g1 r (by omega) hp ?_
        show tv_lin tv (gv_by (sp_undG s.2.1 s.2.2 m t) r) t = true
        rw [(g2.2.2.2.1 r (by omega)).2]
        exact hl
    · rw [if_neg q]
      by_cases e : r = m
      · refine keep s (by omega) h (by omega) ?_ (Or.inr trivial)
        rw [e]
        rw [e] at hp hl
        cases z : sp_opn s.2.2 tv m with
        | false => rfl
        | true =>
          refine absurd ?_ q
          rw [z, hl, decide_eq_true hp]
          rfl
      · exact ih s (by omega) h r (by omega) hp hl
end INV3
