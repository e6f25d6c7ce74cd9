section OPS9
variable {A : S_A} {G : S_G} {K : S_K} {N : S_N} {T : S_T} {MA : S_MA} {MD : S_MD} {MG : S_MG} {ML : S_ML} {MN : S_MN} {MT : S_MT} {v : VP} {g : VG} {tv : VT} {L : VK} {c k : Nat}
/-- the reference's redo -/
theorem m_crash128 {Kx : S_MA → S_MD → S_MG → Prop} (hA : RMA MA MD v) (hG : RMG MG g) (hI : iG g c) (hP : iPG v (gv_b g) (gv_n g) (gv_f g)) (hf : gv_f g = gv_b g + gv_n g) (htk : pv_tk v + 300 < 2147483648) (h : ∀ A' D' G', RMA A' D' (sp_rd g v (gv_n g)) → RMG G' g → Kx A' D' G') : ∃ e, wp_M_crash_L128 (jI (gv_n g)) Kx e 0 MA MD MG := by
  have i1 := hI.1
  have i4 := hI.2.2.2.1
  refine lpi (fun n (s : Int32 × S_MA × S_MD × S_MG) => wp_M_crash_L128 (jI (gv_n g)) Kx n s.1 s.2.1 s.2.2.1 s.2.2.2) (fun r s => s.1 = jI r ∧ RMA s.2.1 s.2.2.1 (sp_rd g v r) ∧ RMG s.2.2.2 g) (gv_n g) ?_ ?_ 0 (by omega) (0, MA, MD, MG) ⟨rfl, hA, hG⟩
  · intro r hr s n hs hn
    obtain ⟨i, A1, D1, G1⟩ := s
    obtain ⟨e0, hA1, hG1⟩ := hs
    dsimp only at e0 hA1 hG1 ⊢
    subst e0
    have hrb : r < 2147483648 := by omega
    have hri : vp_in (jI r) 301 := jI_in hrb (by omega)
    have hst : sp_rd g v (r + 1) = if gv_kd g r = 2 ∨ gv_kd g r = 3 then sp_rdP (sp_rd g v r) g r else sp_rd g v r := rfl
    have inv := rd_inv hI hf hP r (by omega)
    have hls : ∀ q, q < 8 → pv_ls (sp_rd g v r) q < 2147483648 := fun q hq => by have := inv.1.2.1 q hq; omega
    have one : gv_kd g r = 2 ∨ gv_kd g r = 3 → wp_M_touch A1 D1 G1 ((MG_about G1 r) / 4) (fun A2 D2 G2 => vp_in (jI r) 301 ∧ vp_in (MG_about G2 r / 4) 8 ∧ (if ((MG_base G2) + jI r) + 1 ≤ MA_lsn A2 (Int32.toNatClampNeg (MG_about G2 r / 4)) then wp_M_crash_L128 (jI (gv_n g)) Kx n (jI r + 1) A2 D2 G2 else vp_in (jI r) 301 ∧ vp_in (jI r) 301 ∧ vp_in (jI r) 301 ∧ wp_M_become A2 (MG_about G2 r) (MG_isThere G2 r) (MG_isValue G2 r) (((MG_base G2) + jI r) + 1) (fun A3 => wp_M_crash_L128 (jI (gv_n g)) Kx n (jI r + 1) A3 D2 G2))) := by
      intro hk
      have hkey := hI.key hr hk
      have hkb : sp_key g r < 2147483648 := by omega
      have hpb : sp_key g r / 4 < 2147483648 := by omega
      have hp8 : sp_key g r / 4 < 8 := by omega
      rw [if_pos hk] at hst
      rw [hG1.2.2.2.2.2.1 r hr, hkey.2, jI_div hkb]
      refine m_touch hA1 hG1 inv.1.1 hp8 hls (by omega) (by omega) (fun A2 D2 G2 hA2 hG2 => ?_)
      rw [fl_same inv.1 hf hp8] at hG2
      rw [hG2.2.2.2.2.2.1 r hr, hkey.2, jI_div hkb, jI_tn hpb, hG2.1, jI_a, jI_s, jI_s, hA2.2.2.2.1 _ hp8 (tP_in inv.1.1), tP_ls, ite_iff' (jI_le (by omega) (hls _ hp8))]
      refine ⟨hri, jI_in hpb hp8, ?_⟩
      unfold sp_rdP at hst
      by_cases q : gv_b g + r + 1 ≤ pv_ls (sp_rd g v r) (sp_key g r / 4)
      · rw [if_pos q] at hst ⊢
        refine hn (_, _, _, _) ⟨rfl, ?_, hG2⟩
        rw [hst]
        exact hA2
      · rw [if_neg q] at hst ⊢
        rw [hG2.2.2.2.2.2.2.2.2.2.1 r hr, hG2.2.2.2.2.2.2.2.2.2.2 r hr]
        refine ⟨hri, hri, hri, m_become hA2 hkey.1 (hI.2.2.2.2.2.2.2.2.2 r hr) (fun _ => rfl) (fun A3 hA3 => hn (_, _, _, _) ⟨rfl, ?_, hG2⟩)⟩
        rw [hst]
        exact hA3
    rw [wp_M_crash_L128, if_neg (by rw [jI_le (by omega) hrb]; omega), jI_tn hrb, hG1.2.2.2.1 r hr]
    refine ⟨hri, ?_⟩
    by_cases q2 : gv_kd g r = 2
    · rw [if_pos q2]
      exact ⟨hri, one (Or.inl q2)⟩
    · rw [if_neg q2]
      refine ⟨hri, ?_⟩
      by_cases q3 : gv_kd g r = 3
      · rw [if_pos q3]
        exact ⟨hri, one (Or.inr q3)⟩
      · rw [if_neg q3]
        rw [if_neg (fun z => z.elim q2 q3)] at hst
        refine hn (_, _, _, _) ⟨jI_s r, ?_, hG1⟩
        rw [hst]
        exact hA1
  · intro s n hs
    obtain ⟨i, A1, D1, G1⟩ := s
    obtain ⟨e0, hA1, hG1⟩ := hs
    dsimp only at e0 hA1 hG1 ⊢
    subst e0
    rw [wp_M_crash_L128, if_pos (by rw [jI_le (by omega) (by omega)]; omega)]
    exact h A1 D1 G1 hA1 hG1
/-- the reference's undo -/
theorem m_crash232 {Kx : Int32 → S_MA → S_MD → S_MG → Prop} (hA : RMA MA MD v) (hG : RMG MG g) (hT : RMT MT tv) (hv : iT tv) (hW : iW v g (sp_X tv)) (hC : ∀ r, r < gv_n g → gv_kd g r = 2 → (bx (gv_n g) (fun x => decide (gv_kd g x = 4) && gv_by g x == tv_top tv (gv_by g r))) = decide (tv_st tv (tv_top tv (gv_by g r)) = 3)) (htk : pv_tk v + 300 < 2147483648)
    (h : ∀ A' D' G', RMA A' D' (sp_uc (sp_X tv) (gv_n g) (0, v, g)).2.1 → RMG G' (sp_uc (sp_X tv) (gv_n g) (0, v, g)).2.2 → Kx (jI (sp_uc (sp_X tv) (gv_n g) (0, v, g)).1) A' D' G') : ∃ e, wp_M_crash_L232 MT Kx e 0 (jI (gv_n g) - 1) MA MD MG := by
  have hc := hv.1
  rw [jI_dm]
  refine lpd (fun n m (s : Int32 × Int32 × S_MA × S_MD × S_MG) => wp_M_crash_L232 MT Kx n s.1 s.2.1 s.2.2.1 s.2.2.2.1 s.2.2.2.2) (fun m s => ∃ (c : Nat) (v' : VP) (g' : VG), s.2.1 = jI m + (-1) ∧ s.1 = jI c ∧ RMA s.2.2.1 s.2.2.2.1 v' ∧ RMG s.2.2.2.2 g' ∧ iW v' g' (sp_X tv) ∧ m ≤ gv_n g ∧ gExt g g' ∧ pv_tk v' + gv_n g = pv_tk v + gv_n g' ∧ sp_uc (sp_X tv) m (c, v', g') = sp_uc (sp_X tv) (gv_n g) (0, v, g)) ?_ ?_ (gv_n g) (0, jI (gv_n g) + (-1), MA, MD, MG) ⟨0, v, g, rfl, rfl, hA, hG, hW, Nat.le_refl _, gExt.rf, rfl, rfl⟩
  · intro m s n hs hn
    obtain ⟨x, i, A1, D1, G1⟩ := s
    obtain ⟨c, v', g', e0, e1, hA', hG', hW', hm, hex, hk', hu⟩ := hs
    dsimp only at e0 e1 hA' hG' ⊢
    have hbn := hW'.bnd
    subst e1
    have b1 := hbn.1
    have b2 := hbn.2.1
    have b3 := hbn.2.2
    have hn3 := hW'.2.1.1
    have hng := hex.2.1
    have hmb : m < 2147483648 := by omega
    have hmi : vp_in (jI m) 301 := jI_in hmb (by omega)
    have hbyA : ∀ r, r < gv_n g' → gv_by g' r < tv_c tv := hW'.2.1.2.2.2.2.1
    have hby : gv_by g' m < tv_c tv := hbyA m (by omega)
    have htl := hv.top_lt _ hby
    have step : sp_uc (sp_X tv) (m + 1) (c, v', g') = sp_uc (sp_X tv) m (if sp_opn g' (sp_X tv) m then (c + 1, sp_undP v' g' m, sp_undG v' g' m (tv_top tv (gv_by g' m))) else (c, v', g')) := rfl
    have ho := opn_X (g := g') hv hby
    have hno : sp_opn g' (sp_X tv) m = false → wp_M_crash_L232 MT Kx n (jI c) (jI m + (-1)) A1 D1 G1 := fun q => hn (_, _, _, _, _) ⟨c, v', g', rfl, rfl, hA', hG', hW', by omega, hex, hk', by rw [← hu, step, q]; rfl⟩
    rw [wp_M_crash_L232, e0, jI_p, if_neg (jI_nn hmb), jI_tn hmb, hG'.2.2.2.1 m (by omega), hG'.2.2.2.2.1 m (by omega), jI_s]
    refine ⟨hmi, ?_⟩
    by_cases q2 : gv_kd g' m = 2
    · rw [if_pos q2]
      rw [decide_eq_true q2, Bool.true_and] at ho
      refine m_undone hG' hW'.2.1 (by omega) ?_
      cases qu : sp_ud g' m with
      | true =>
        rw [if_neg (by decide)]
        rw [qu] at ho
        exact hno ho
      | false =>
        rw [if_pos (by rfl)]
        refine ⟨hmi, m_top hT hv hby (m_committed hG' hn3 (fun r hr => by have := hbyA r hr; omega) (by omega) ?_)⟩
        have hx4 : bx (gv_n g') (fun x => decide (gv_kd g' x = 4) && gv_by g' x == tv_top tv (gv_by g' m)) = decide (tv_st tv (tv_top tv (gv_by g' m)) = 3) := by
          have em := hex.2.2.2.1 m (by omega)
          have h0 := hC m (by omega) (by rw [← em.1]; exact q2)
          rw [em.2, ← h0, Bool.eq_iff_iff, bx_iff, bx_iff]
          constructor
          · rintro ⟨y, hy, e⟩
            have e : gv_kd g' y = 4 ∧ gv_by g' y = tv_top tv (gv_by g m) := by simpa using e
            by_cases w : y < gv_n g
            · obtain ⟨w1, w2⟩ := hex.2.2.2.1 y w
              refine ⟨y, w, ?_⟩
              rw [w1, w2] at e
              rw [decide_eq_true e.1, e.2]
              simp
            · exact absurd e.1 (hex.2.2.2.2.2 y (by omega) hy).2
          · rintro ⟨y, hy, e⟩
            have e : gv_kd g y = 4 ∧ gv_by g y = tv_top tv (gv_by g m) := by simpa using e
            obtain ⟨w1, w2⟩ := hex.2.2.2.1 y hy
            refine ⟨y, by omega, ?_⟩
            rw [w1, w2, decide_eq_true e.1, e.2]
            simp
        rw [hx4]
        by_cases q3 : tv_st tv (tv_top tv (gv_by g' m)) = 3
        · rw [decide_eq_true q3, if_neg (by decide)]
          rw [qu, decide_eq_true q3] at ho
          exact hno ho
        · rw [decide_eq_false q3, if_pos (by rfl)]
          rw [qu, decide_eq_false q3] at ho
          have ho : sp_opn g' (sp_X tv) m = true := ho
          obtain ⟨i1, i2, i3⟩ := hW'.und (u := m) (t := tv_top tv (gv_by g' m)) (by omega) ho (show tv_top tv (gv_by g' m) < tv_c tv by omega)
          have hkey := hW'.2.1.key (show m < gv_n g' by omega) (Or.inl q2)
          have e1 : pv_tk (sp_undP v' g' m) = pv_tk v' + 1 := und_tk
          have e2 : gv_n (sp_undG v' g' m (tv_top tv (gv_by g' m))) = gv_n g' + 1 := rfl
          refine ⟨hmi, m_top hT hv hby (m_undo hA' hG' hW'.1.1 i3 (by omega) hkey.1 hkey.2 (hW'.2.1.2.2.2.2.2.2.2.2.1 m (by omega)) b1 b2 (by omega) (fun A2 D2 G2 hA2 hG2 => hn (_, _, _, _, _) ⟨c + 1, _, _, rfl, rfl, hA2, hG2, i1, by omega, hex.tr i2, by omega, ?_⟩))⟩
          rw [← hu, step, ho]
          rfl
    · rw [if_neg q2]
      rw [decide_eq_false q2] at ho
      exact hno ho
  · intro s n hs
    obtain ⟨x, i, A1, D1, G1⟩ := s
    obtain ⟨c, v', g', e0, e1, hA', hG', hW', hm, hex, hk', hu⟩ := hs
    dsimp only at e0 e1 hA' hG' ⊢
    subst e1
    rw [wp_M_crash_L232, e0, if_pos (by decide)]
    rw [← hu] at h
    exact h A1 D1 G1 hA' hG'
/-- all that a crash does -/
def sp_cr (v : VP) (g : VG) (tv : VT) (f : Nat) : Nat × VP × VG := sp_uc (sp_X (sp_abU tv)) (gv_n (sp_cut g f)) (0, sp_rd (sp_cut g f) (sp_lose v) (gv_n (sp_cut g f)), sp_cut g f)
theorem cr_W (h : iV v g tv L) {f : Nat} (h1 : gv_f g ≤ f) (h2 : f ≤ gv_b g + gv_n g) : iPG (sp_lose v) (gv_b (sp_cut g f)) (gv_n (sp_cut g f)) (gv_f (sp_cut g f)) ∧ iG (sp_cut g f) (tv_c tv) ∧ gv_f (sp_cut g f) = gv_b (sp_cut g f) + gv_n (sp_cut g f) ∧ iW (sp_rd (sp_cut g f) (sp_lose v) (gv_n (sp_cut g f))) (sp_cut g f) (sp_X (sp_abU tv)) := by
  have hroom := cut_room h h1 h2
  obtain ⟨hP, hG, hT, hK, hX, hR⟩ := h
  have hbf := hG.2.1
  have a2 := hG.cut h1 h2
  have a3 : gv_f (sp_cut g f) = gv_b (sp_cut g f) + gv_n (sp_cut g f) := by
    show f = gv_b g + (f - gv_b g)
    omega
  have a1 : iPG (sp_lose v) (gv_b (sp_cut g f)) (gv_n (sp_cut g f)) (gv_f (sp_cut g f)) := hP.lose h1 (show gv_b g ≤ f by omega) (Nat.le_of_eq a3)
  refine ⟨a1, a2, a3, (rd_inv a2 a3 a1 _ (Nat.le_refl _)).1, a2, ?_, hroom⟩
  exact hT.abU.stf (fun t ht => by
    by_cases q : tv_st (sp_abU tv) t = 3
    · rw [if_pos q]
      exact Or.inr (Or.inr (Or.inl rfl))
    · rw [if_neg q]
      exact Or.inl rfl)
theorem iV.crash (h : iV v g tv L) {f : Nat} (h1 : gv_f g ≤ f) (h2 : f ≤ gv_b g + gv_n g) : iV (sp_cr v g tv f).2.1 (gv_f' (sp_cr v g tv f).2.2 (gv_b (sp_cr v g tv f).2.2 + gv_n (sp_cr v g tv f).2.2)) (sp_abU tv) (fun _ _ => 0) ∧ gv_b (sp_cr v g tv f).2.2 = gv_b g ∧ gv_n (sp_cr v g tv f).2.2 ≤ 300 ∧ pv_tk (sp_cr v g tv f).2.1 ≤ pv_tk v + 300 := by
  obtain ⟨a1, a2, a3, a4⟩ := cr_W h h1 h2
  have hrd := (rd_inv a2 a3 a1 _ (Nat.le_refl _)).2
  have hnone := uc_none (tv := sp_X (sp_abU tv)) (gv_n (sp_cut g f)) (0, sp_rd (sp_cut g f) (sp_lose v) (gv_n (sp_cut g f)), sp_cut g f) (Nat.le_refl _) a4
  obtain ⟨c1, c2, c3⟩ := uc_inv (tv := sp_X (sp_abU tv)) (gv_n (sp_cut g f)) (0, sp_rd (sp_cut g f) (sp_lose v) (gv_n (sp_cut g f)), sp_cut g f) (Nat.le_refl _) a4
  obtain ⟨hP, hG, hT, hK, hX, hR⟩ := h
  have dead := abU_dead hT hX
  have hbf := hG.2.1
  show iV (sp_uc _ _ _).2.1 _ _ _ ∧ gv_b (sp_uc _ _ _).2.2 = _ ∧ gv_n (sp_uc _ _ _).2.2 ≤ 300 ∧ pv_tk (sp_uc _ _ _).2.1 ≤ _
  obtain ⟨s, hs⟩ : ∃ s, s = sp_uc (sp_X (sp_abU tv)) (gv_n (sp_cut g f)) (0, sp_rd (sp_cut g f) (sp_lose v) (gv_n (sp_cut g f)), sp_cut g f) := ⟨_, rfl⟩
  have hs2 : sp_cr v g tv f = s := by rw [hs]; rfl
  rw [hs2]
  rw [← hs] at c1 c2 c3 hnone ⊢
  clear hs hs2
  obtain ⟨x, v2, g2⟩ := s
  dsimp only at c1 c2 c3 hnone ⊢
  obtain ⟨d1, d2, d3, d4⟩ := c1
  obtain ⟨e1, e2, e3, e4, e5, e6⟩ := c2
  have e1 : gv_b g2 = gv_b g := e1
  have e2 : f - gv_b g ≤ gv_n g2 := e2
  have e4 : ∀ r, r < f - gv_b g → gv_kd g2 r = gv_kd g r ∧ gv_by g2 r = gv_by g r := e4
  have e6 : ∀ r, f - gv_b g ≤ r → r < gv_n g2 → ¬ gv_kd g2 r = 2 ∧ ¬ gv_kd g2 r = 4 := e6
  have hnone : ∀ r, r < f - gv_b g → sp_opn g2 (sp_X (sp_abU tv)) r = false := hnone
  have hrd : pv_tk (sp_rd (sp_cut g f) (sp_lose v) (gv_n (sp_cut g f))) ≤ pv_tk v + (f - gv_b g) := hrd
  have c3 : pv_tk v2 + (f - gv_b g) = pv_tk (sp_rd (sp_cut g f) (sp_lose v) (gv_n (sp_cut g f))) + gv_n g2 := c3
  have d21 := d2.1
  have row : ∀ r, r < gv_n g2 → gv_kd g2 r = 2 ∨ gv_kd g2 r = 4 → r < f - gv_b g ∧ r < gv_n g ∧ gv_kd g r = gv_kd g2 r ∧ gv_by g r = gv_by g2 r := by
    intro r hr hk
    by_cases w : r < f - gv_b g
    · obtain ⟨w1, w2⟩ := e4 r w
      exact ⟨w, by omega, w1.symm, w2.symm⟩
    · have := e6 r (by omega) hr
      rcases hk with hk | hk
      · exact absurd hk this.1
      · exact absurd hk this.2
  have op0 : sp_opens (gv_f' g2 (gv_b g2 + gv_n g2)) (sp_abU tv) = 0 := by
    refine bc_zero.mpr (fun r _ => ?_)
    unfold sp_opn
    rw [dead, Bool.and_false]
  have lv0 : sp_lives (sp_abU tv) = 0 := bc_zero.mpr (fun u _ => dead u)
  refine ⟨⟨d1.fl d1.2.2.2.2 (Nat.le_refl _), d2.fl (by omega) (Nat.le_refl _), hT.abU, fun t i _ => ⟨Nat.zero_le _, fun _ => rfl⟩, ⟨?_, ?_, ?_, ?_, ?_, ?_⟩, ?_⟩, e1, d21, by omega⟩
  · intro r hr hk a ha
    have hr : r < gv_n g2 := hr
    have hk : gv_kd g2 r = 2 := hk
    have ha : tv_lin tv (gv_by g2 r) a = true := ha
    obtain ⟨r1, r2, r3, r4⟩ := row r hr (Or.inl hk)
    show tv_bg tv a < gv_b g2 + r + 1
    rw [e1]
    exact hX.1 r r2 (by rw [r3]; exact hk) a (by rw [r4]; exact ha)
  · intro t ht
    rw [dead] at ht
    cases ht
  · intro t a ht
    rw [dead] at ht
    cases ht
  · intro r hr hk hst
    have hr : r < gv_n g2 := hr
    have hk : gv_kd g2 r = 2 := hk
    have hst : tv_st (sp_abU tv) (tv_top tv (gv_by g2 r)) = 3 := hst
    obtain ⟨r1, r2, r3, r4⟩ := row r hr (Or.inl hk)
    rw [← r4] at hst
    rw [abU_3 hT (hG.2.2.2.2.1 r r2)] at hst
    obtain ⟨x, x1, x2, x3, x4⟩ := hX.2.2.2.1 r r2 (by rw [r3]; exact hk) hst
    have hx : x < f - gv_b g := by omega
    obtain ⟨w1, w2⟩ := e4 x hx
    refine ⟨x, show x < gv_n g2 by omega, show gv_kd g2 x = 4 by rw [w1]; exact x2, show gv_by g2 x = tv_top tv (gv_by g2 r) by rw [w2, ← r4]; exact x3, show gv_b g2 + x + 1 ≤ gv_b g2 + gv_n g2 by omega⟩
  · intro r hr hk hp
    have hr : r < gv_n g2 := hr
    have hk : gv_kd g2 r = 4 := hk
    have hp : tv_par tv (gv_by g2 r) = none := hp
    obtain ⟨r1, r2, r3, r4⟩ := row r hr (Or.inr hk)
    have hby := hG.2.2.2.2.1 r r2
    rw [← r4] at hp
    have h3 := hX.2.2.2.2.1 r r2 (by rw [r3]; exact hk) hp
    have htop := ((hT.2.1 _ hby).2.2.2.2.1 hp).1
    show tv_st (sp_abU tv) (gv_by g2 r) = 3
    rw [← r4]
    have := (abU_3 hT hby).mpr (by rw [htop]; exact h3)
    rw [htop] at this
    exact this
  · intro r hr hk hst
    have hr : r < gv_n g2 := hr
    have hk : gv_kd g2 r = 2 := hk
    have hst : tv_st (sp_abU tv) (tv_top tv (gv_by g2 r)) = 4 := hst
    obtain ⟨r1, r2, r3, r4⟩ := row r hr (Or.inl hk)
    have hby := hG.2.2.2.2.1 r r2
    have hn := hnone r r1
    rw [opn_X hT.abU (by rw [← r4]; exact hby), decide_eq_true hk, decide_eq_false (show ¬ tv_st (sp_abU tv) (tv_top (sp_abU tv) (gv_by g2 r)) = 3 by rw [show tv_top (sp_abU tv) = tv_top tv from rfl, hst]; decide)] at hn
    show sp_ud g2 r = true
    simpa using hn
  · show gv_n g2 + sp_opens (gv_f' g2 (gv_b g2 + gv_n g2)) (sp_abU tv) + sp_lives (sp_abU tv) ≤ 300
    omega
theorem iT.top_par (h : iT tv) : ∀ t, t < tv_c tv → tv_par tv (tv_top tv t) = none := by
  intro t
  induction t using Nat.strongRecOn with
  | ind t ih =>
    intro ht
    obtain ⟨-, -, -, -, h5, h6⟩ := h.2.1 t ht
    cases q : tv_par tv t with
    | none =>
      rw [(h5 q).1]
      exact q
    | some p =>
      obtain ⟨p1, p2, -⟩ := h6 p q
      rw [p2]
      exact ih p p1 (by omega)
theorem o_crash (hk : k < 512) (a : Int32) (h : Rel k A G K N T MA MD MG ML MN MT) : wp_N_crash A G K T a (fun r A' G' K' T' => wp_M_crash MA MD MG ML MT a (fun r' A2 D2 G2 K2 T2 => r = r' ∧ Rel (k + 1) A' G' K' N T' A2 D2 G2 K2 MN T2)) := by
  have hup := h.up
  obtain ⟨v, g, tv, L, ⟨hA, hG, hT, hK⟩, ⟨mA, mG, mT, mK⟩, hV, hN, hb, htk⟩ := h
  have hv := hV.2.2.1
  have hc := hv.1
  have hbn := hV.bnd
  have i2 := hV.2.1.2.1
  have i3 := hV.2.1.2.2.1
  unfold wp_N_crash
  rcases jI_ex a with ha | ⟨m, hmb, rfl⟩
  · rw [if_pos ha]
    unfold wp_M_crash
    dsimp only
    rw [if_pos ha]
    exact ⟨rfl, hup⟩
  · rw [if_neg (jI_nn hmb)]
    refine k_G_last hG ?_
    rw [hG.2.2.1, jI_sub (by omega), ite_iff' (jI_le hmb (by omega))]
    by_cases q : m ≤ gv_b g + gv_n g - gv_f g
    · rw [if_pos q, jI_a]
      have h1 : gv_f g ≤ gv_f g + m := by omega
      have h2 : gv_f g + m ≤ gv_b g + gv_n g := by omega
      obtain ⟨a1, a2, a3, a4⟩ := cr_W hV h1 h2
      obtain ⟨d1, d2, d3, d4⟩ := hV.crash h1 h2
      have hG1 : RG (G_flushed' G (jI (gv_f g + m))) (gv_f' g (gv_f g + m)) := by
        obtain ⟨x1, x2, x3, x4⟩ := hG
        exact ⟨x1, x2, rfl, x4⟩
      refine k_G_loseUnflushed hG1 (hV.2.1.fl (f := gv_f g + m) (by omega) h2) (fun G2 hG2 => k_A_loseFrames hA (fun A3 hA3 => k_K_releaseAll hK (fun K4 hK4 => k_T_abortUncommitted hT hv (fun T5 hT5 => ?_))))
      have hG2 : RG G2 (sp_cut g (gv_f g + m)) := hG2
      refine k_N_redoLog hA3 hG2 a2 a1 a3 (fun A6 G6 hA6 hG6 => k_N_undoUncommitted hA6 hG6 hT5 hv.abU a4 (fun A7 G7 hA7 hG7 => k_G_last hG7 ?_))
      unfold wp_M_crash
      dsimp only
      rw [if_neg (jI_nn hmb)]
      refine m_last mG ?_
      rw [mG.2.2.1, jI_sub (by omega), ite_iff' (jI_le hmb (by omega)), if_pos q, jI_a, mG.1, jI_sub (show gv_b g ≤ gv_f g + m by omega)]
      refine m_crash44 mA (fun B2 hB2 => m_crash72 mK mT hv hV.2.2.2.1 (fun K2 T2 hK2 hT2 => ?_))
      have hMG : RMG (MG_records' (MG_flushed' MG (jI (gv_f g + m))) (jI (gv_f g + m - gv_b g))) (sp_cut g (gv_f g + m)) := by
        obtain ⟨x1, x2, x3, x4, x5, x6, x7, x8, x9, x10, x11⟩ := mG
        have hle : ∀ r, r < gv_n (sp_cut g (gv_f g + m)) → r < gv_n g := by
          intro r hr
          have hr : r < gv_f g + m - gv_b g := hr
          omega
        exact ⟨x1, rfl, rfl, fun r hr => x4 r (hle r hr), fun r hr => x5 r (hle r hr), fun r hr => x6 r (hle r hr), fun r hr => x7 r (hle r hr), fun r hr => x8 r (hle r hr), fun r hr => x9 r (hle r hr), fun r hr => x10 r (hle r hr), fun r hr => x11 r (hle r hr)⟩
      have htk2 : pv_tk (sp_lose v) = pv_tk v := rfl
      have hrd := (rd_inv a2 a3 a1 _ (Nat.le_refl _)).2
      have hn3 := a2.1
      refine m_crash128 hB2 hMG a2 a1 a3 (by omega) (fun A8 D8 G8 hA8 hG8 => m_crash232 hA8 hG8 hT2 hv.abU a4 ?_ (by omega) (fun A9 D9 G9 hA9 hG9 => m_last hG9 ⟨rfl, ?_⟩))
      · intro r hr hk2
        have hr : r < gv_f g + m - gv_b g := hr
        have hk2 : gv_kd g r = 2 := hk2
        have hr2 : r < gv_n g := by omega
        have hby := hV.2.1.2.2.2.2.1 r hr2
        show bx (gv_f g + m - gv_b g) (fun x => decide (gv_kd g x = 4) && gv_by g x == tv_top tv (gv_by g r)) = decide (tv_st (sp_abU tv) (tv_top tv (gv_by g r)) = 3)
        have hX := hV.2.2.2.2.1
        have htl := hv.top_lt _ hby
        rw [Bool.eq_iff_iff, bx_iff, decide_eq_true_eq, abU_3 hv hby]
        constructor
        · rintro ⟨y, hy, e⟩
          have e : gv_kd g y = 4 ∧ gv_by g y = tv_top tv (gv_by g r) := by simpa using e
          have hp : tv_par tv (tv_top tv (gv_by g r)) = none := hv.top_par _ hby
          have := hX.2.2.2.2.1 y (by omega) e.1 (by rw [e.2]; exact hp)
          rw [e.2] at this
          exact this
        · intro z
          obtain ⟨y, y1, y2, y3, y4⟩ := hX.2.2.2.1 r hr2 hk2 z
          refine ⟨y, by omega, ?_⟩
          rw [decide_eq_true y2, y3]
          simp
      · have fG : ∀ {G9 : S_G} {g9 : VG}, RG G9 g9 → RG (G_flushed' G9 (jI (gv_b g9 + gv_n g9))) (gv_f' g9 (gv_b g9 + gv_n g9)) := by
          intro G9 g9 hx
          obtain ⟨x1, x2, x3, x4⟩ := hx
          exact ⟨x1, x2, rfl, x4⟩
        have fM : ∀ {G9 : S_MG} {g9 : VG}, RMG G9 g9 → RMG (MG_flushed' G9 (jI (gv_b g9 + gv_n g9))) (gv_f' g9 (gv_b g9 + gv_n g9)) := by
          intro G9 g9 hx
          obtain ⟨x1, x2, x3, x4⟩ := hx
          exact ⟨x1, x2, rfl, x4⟩
        refine ⟨(sp_cr v g tv (gv_f g + m)).2.1, gv_f' (sp_cr v g tv (gv_f g + m)).2.2 (gv_b (sp_cr v g tv (gv_f g + m)).2.2 + gv_n (sp_cr v g tv (gv_f g + m)).2.2), sp_abU tv, fun _ _ => 0, ⟨hA7, fG hG7, hT5, hK4⟩, ⟨hA9, fM hG9, hT2, hK2⟩, d1, hN, ?_, by omega⟩
        show gv_b (sp_cr v g tv (gv_f g + m)).2.2 ≤ 300 * (k + 1)
        omega
    · rw [if_neg q]
      unfold wp_M_crash
      dsimp only
      rw [if_neg (jI_nn hmb)]
      refine m_last mG ?_
      rw [mG.2.2.1, jI_sub (by omega), ite_iff' (jI_le hmb (by omega)), if_neg q]
      exact ⟨rfl, hup⟩
end OPS9
