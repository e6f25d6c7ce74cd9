section PN5
variable {A : S_A} {G : S_G} {T : S_T} {K : S_K} {v : VP} {g : VG} {tv : VT} {L : VK} {t : Nat}
theorem iV.bnd (h : iV v g tv L) : (∀ q, q < 8 → pv_ls v q < 2147483648) ∧ gv_f g < 2147483648 ∧ gv_b g + gv_n g < 400000 := by
  obtain ⟨hP, hG, -⟩ := h
  have h1 := hG.1
  have h2 := hG.2.2.2.1
  have h3 := hG.2.2.1
  refine ⟨fun q hq => ?_, by omega, by omega⟩
  have := hP.2.1 q hq
  omega
theorem k_N_undoOpenUpdates {post : Int32 → S_A → S_G → Prop} {pt : Nat} (hA : RA A v) (hG : RG G g) (hT : RT T tv) (hV : iV v g tv L) (ht : t < tv_c tv) (hpt : pt < 2147483648)
    (h : ∀ A' G', RA A' (sp_uo tv t pt (gv_n g) (0, v, g)).2.1 → RG G' (sp_uo tv t pt (gv_n g) (0, v, g)).2.2 → post (jI (sp_uo tv t pt (gv_n g) (0, v, g)).1) A' G') : wp_N_undoOpenUpdates A G T (jI t) (jI pt) post := by
  have hv := hV.2.2.1
  have hc := hv.1
  unfold wp_N_undoOpenUpdates
  rw [hG.2.1, jI_dm]
  refine lpd (fun n m (s : Int32 × Int32 × S_A × S_G) => wp_N_undoOpenUpdates_L13 T (jI t) (jI pt) (fun x6 A7 G8 => post x6 A7 G8) n s.1 s.2.1 s.2.2.1 s.2.2.2) (fun m s => ∃ (c : Nat) (v' : VP) (g' : VG), s.2.1 = jI m + (-1) ∧ s.1 = jI c ∧ RA s.2.2.1 v' ∧ RG s.2.2.2 g' ∧ iV v' g' tv L ∧ m ≤ gv_n g' ∧ sp_uo tv t pt m (c, v', g') = sp_uo tv t pt (gv_n g) (0, v, g)) ?_ ?_ (gv_n g) (0, jI (gv_n g) + (-1), A, G) ⟨0, v, g, rfl, rfl, hA, hG, hV, Nat.le_refl _, rfl⟩
  · intro m s n hs hn
    obtain ⟨x, i, A, G⟩ := s
    obtain ⟨c, v', g', e0, e1, hA', hG', hV', hm, hu⟩ := hs
    dsimp only at e0 e1 hA' hG' ⊢
    have hbn := hV'.bnd
    subst e1
    have b1 := hbn.1
    have b2 := hbn.2.1
    have b3 := hbn.2.2
    have hn3 := hV'.2.1.1
    have hmb : m < 2147483648 := by omega
    have hmi : vp_in (jI m) 300 := jI_in hmb (by omega)
    have hby := hV'.2.1.2.2.2.2.1 m (by omega)
    have step : sp_uo tv t pt (m + 1) (c, v', g') = sp_uo tv t pt m (if decide (pt < gv_b g' + m + 1) && sp_opn g' tv m && tv_lin tv (gv_by g' m) t then (c + 1, sp_undP v' g' m, sp_undG v' g' m t) else (c, v', g')) := rfl
    rw [wp_N_undoOpenUpdates_L13, e0, jI_p, if_neg (jI_nn hmb), jI_s]
    refine k_G_lsnOf hG' ?_
    rw [ite_iff' (jI_le (by omega) hpt)]
    by_cases q : gv_b g' + m + 1 ≤ pt
    · rw [if_pos q]
      rw [uo_stop _ _ (show gv_b g' + (m + 1) ≤ pt by omega)] at hu
      rw [← hu] at h
      exact h A G hA' hG'
    · rw [if_neg q]
      rw [decide_eq_true (show pt < gv_b g' + m + 1 by omega), Bool.true_and] at step
      refine k_N_isOpen hG' hT hv hn3 (by omega) hby ?_
      cases ho : sp_opn g' tv m with
      | false =>
        rw [if_pos (by rfl)]
        refine hn (_, _, _, _) ⟨c, v', g', rfl, rfl, hA', hG', hV', by omega, ?_⟩
        rw [← hu, step, ho]
        rfl
      | true =>
        rw [if_neg (by decide), jI_tn hmb, hG'.2.2.2.2.1 m (by omega)]
        refine ⟨hmi, k_T_isWithin hT hv hby (by omega) ?_⟩
        cases hl : tv_lin tv (gv_by g' m) t with
        | false =>
          rw [if_pos (by rfl)]
          refine hn (_, _, _, _) ⟨c, v', g', rfl, rfl, hA', hG', hV', by omega, ?_⟩
          rw [← hu, step, ho, hl]
          rfl
        | true =>
          rw [if_neg (by decide)]
          obtain ⟨i1, i2, i3⟩ := hV'.und (u := m) (t := t) (by omega) ho ht
          have hkey := hV'.2.1.key (show m < gv_n g' by omega) (Or.inl (opn_kd ho).1)
          refine k_N_undo hA' hG' hV'.1.1 i3 hV'.2.1.ou (by omega) hkey.1 hkey.2 b1 b2 (fun A2 G2 hA2 hG2 => hn (_, _, _, _) ⟨c + 1, _, _, rfl, rfl, hA2, hG2, i1, show m ≤ gv_n g' + 1 by omega, ?_⟩)
          rw [← hu, step, ho, hl]
          rfl
  · intro s n hs
    obtain ⟨x, i, A, G⟩ := s
    obtain ⟨c, v', g', e0, e1, hA', hG', hV', hm, hu⟩ := hs
    dsimp only at e0 e1 hA' hG' ⊢
    have hbn := hV'.bnd
    subst e1
    rw [wp_N_undoOpenUpdates_L13, e0, if_pos (by decide)]
    rw [← hu] at h
    exact h A G hA' hG'
theorem uo_pt {pt : Nat} (ht : t < tv_c tv) : ∀ m (s : Nat × VP × VG), m ≤ gv_n s.2.2 → iV s.2.1 s.2.2 tv L → pt ≤ tv_bg tv t → sp_uo tv t pt m s = sp_uo tv t 0 m s := by
  intro m
  induction m with
  | zero =>
    intro s _ _ _
    rfl
  | succ m ih =>
    intro s hm h hp
    unfold sp_uo
    have e : (decide (pt < gv_b s.2.2 + m + 1) && sp_opn s.2.2 tv m && tv_lin tv (gv_by s.2.2 m) t) = (decide (0 < gv_b s.2.2 + m + 1) && sp_opn s.2.2 tv m && tv_lin tv (gv_by s.2.2 m) t) := by
      cases ho : sp_opn s.2.2 tv m with
      | false => simp
      | true =>
        cases hl : tv_lin tv (gv_by s.2.2 m) t with
        | false => simp
        | true =>
          have := h.2.2.2.2.1.1 m (by omega) (opn_kd ho).1 t hl
          rw [decide_eq_true (show pt < gv_b s.2.2 + m + 1 by omega), decide_eq_true (show 0 < gv_b s.2.2 + m + 1 by omega)]
    rw [e]
    by_cases q : (decide (0 < gv_b s.2.2 + m + 1) && sp_opn s.2.2 tv m && tv_lin tv (gv_by s.2.2 m) t) = true
    · rw [if_pos q]
      simp only [Bool.and_eq_true] at q
      obtain ⟨g1, g2, g3⟩ := h.und (u := m) (t := t) (by omega) q.1.2 ht
      exact ih _ (show m ≤ gv_n s.2.2 + 1 by omega) g1 hp
    · rw [if_neg q]
      exact ih s (by omega) h hp
/-- an abort -/
def sp_abort (tv : VT) (L : VK) (v : VP) (g : VG) (t : Nat) : Nat × VP × VG × VT × VK := ((sp_uo tv t 0 (gv_n g) (0, v, g)).1, (sp_uo tv t 0 (gv_n g) (0, v, g)).2.1, sp_abG (sp_fall tv t) (tv_c tv) (sp_uo tv t 0 (gv_n g) (0, v, g)).2.2, sp_abT tv (sp_fall tv t) 0, sp_abL L (sp_fall tv t) 0)
theorem abG_low {F : Nat → Bool} : ∀ m (g : VG), (∀ u, u < m → F u = false) → sp_abG F m g = g := by
  intro m
  induction m with
  | zero => exact fun g _ => rfl
  | succ m ih =>
    intro g h
    unfold sp_abG
    rw [h m (by omega), if_neg (by decide)]
    exact ih g (fun u hu => h u (by omega))
theorem k_N_abort {post : Int32 → S_A → S_G → S_K → S_T → Prop} (hA : RA A v) (hG : RG G g) (hT : RT T tv) (hK : RK K L) (hV : iV v g tv L) (ht : t < tv_c tv)
    (h : ∀ A' G' K' T', RA A' (sp_abort tv L v g t).2.1 → RG G' (sp_abort tv L v g t).2.2.1 → RK K' (sp_abort tv L v g t).2.2.2.2 → RT T' (sp_abort tv L v g t).2.2.2.1 → post (jI (sp_abort tv L v g t).1) A' G' K' T') : wp_N_abortWithDescendants A G K T (jI t) post := by
  have hv := hV.2.2.1
  have hc := hv.1
  have htb : t < 2147483648 := by omega
  have hbg := (hv.2.1 t ht).2.2.2.1
  have hu0 : sp_uo tv t (tv_bg tv t) (gv_n g) (0, v, g) = sp_uo tv t 0 (gv_n g) (0, v, g) := uo_pt (L := L) ht (gv_n g) (0, v, g) (Nat.le_refl _) hV (Nat.le_refl _)
  have hU := uo_inv (L := L) (pt := 0) ht (gv_n g) (0, v, g) (Nat.le_refl _) hV
  have hab := hV.abort ht
  unfold wp_N_abortWithDescendants
  rw [jI_tn htb, hT.2.2.2.2.2.1 t ht]
  refine ⟨jI_in htb (by omega), k_N_undoOpenUpdates hA hG hT hV ht hbg (fun A1 G1 hA1 hG1 => ?_)⟩
  rw [hu0] at hA1 hG1 ⊢
  unfold sp_abort at h
  obtain ⟨s1, hs1⟩ : ∃ s1, s1 = sp_uo tv t 0 (gv_n g) (0, v, g) := ⟨_, rfl⟩
  rw [← hs1] at hA1 hG1 h hU hab ⊢
  obtain ⟨n1, v1, g1⟩ := s1
  dsimp only at hA1 hG1 h hU hab ⊢
  have hF : ∀ u, sp_fall tv t u = true → t ≤ u ∧ u < tv_c tv := by
    intro u hu
    unfold sp_fall at hu
    simp only [Bool.and_eq_true] at hu
    exact ⟨hv.lin_le u (liv_lt hu.1) t hu.2, liv_lt hu.1⟩
  have fin : ∀ m (G' : S_G) (K' : S_K) (T' : S_T) (g' : VG), m ≤ t → RG G' g' → RK K' (sp_abL L (sp_fall tv t) m) → RT T' (sp_abT tv (sp_fall tv t) m) → sp_abG (sp_fall tv t) m g' = sp_abG (sp_fall tv t) (tv_c tv) g1 → post (jI n1) A1 G' K' T' := by
    intro m G' K' T' g' hm hG' hK' hT' he
    have hlow : ∀ u, u < m → sp_fall tv t u = false := by
      intro u hu
      cases q : sp_fall tv t u with
      | false => rfl
      | true =>
        have := hF u q
        omega
    rw [abG_low m g' hlow] at he
    rw [he] at hG'
    refine h A1 G' K' T' hA1 hG' (hK'.ext (fun u j _ => ?_)) ?_
    · unfold sp_abL
      by_cases z : m ≤ u ∧ sp_fall tv t u = true
      · rw [if_pos z, if_pos ⟨Nat.zero_le _, z.2⟩]
      · rw [if_neg z, if_neg (fun z2 => z ⟨by have := hF u z2.2; omega, z2.2⟩)]
    · have e : sp_abT tv (sp_fall tv t) m = sp_abT tv (sp_fall tv t) 0 := by
        unfold sp_abT
        have : (fun u => if m ≤ u ∧ sp_fall tv t u = true then 4 else tv_st tv u) = fun u => if 0 ≤ u ∧ sp_fall tv t u = true then 4 else tv_st tv u := by
          funext u
          by_cases z : m ≤ u ∧ sp_fall tv t u = true
          · rw [if_pos z, if_pos ⟨Nat.zero_le _, z.2⟩]
          · rw [if_neg z, if_neg (fun z2 => z ⟨by have := hF u z2.2; omega, z2.2⟩)]
        rw [this]
      rw [← e]
      exact hT'
  rw [hT.1, jI_dm]
  refine lpd (fun n m (s : Int32 × S_G × S_K × S_T) => wp_N_abortWithDescendants_L25 (jI t) (jI n1) (fun G9 K10 T11 => post (jI n1) A1 G9 K10 T11) n s.1 s.2.1 s.2.2.1 s.2.2.2) (fun m s => s.1 = jI m + (-1) ∧ m ≤ tv_c tv ∧ ∃ g', RG s.2.1 g' ∧ RK s.2.2.1 (sp_abL L (sp_fall tv t) m) ∧ RT s.2.2.2 (sp_abT tv (sp_fall tv t) m) ∧ gv_n g' + bc m (sp_fall tv t) ≤ 300 ∧ iG g' (tv_c tv) ∧ sp_abG (sp_fall tv t) m g' = sp_abG (sp_fall tv t) (tv_c tv) g1) ?_ ?_ (tv_c tv) (jI (tv_c tv) + (-1), G1, K, T) ⟨rfl, Nat.le_refl _, g1, hG1, ?_, ?_, hab.2, hU.1.2.1, rfl⟩
  · intro m s n hs hn
    obtain ⟨i, G', K', T'⟩ := s
    obtain ⟨e0, hm, g', hG', hK', hT', hn3, hiG, he⟩ := hs
    dsimp only at e0 hG' hK' hT' ⊢
    have hmb : m < 2147483648 := by omega
    have hmc : m < tv_c tv := by omega
    have hbs : bc (m + 1) (sp_fall tv t) = bc m (sp_fall tv t) + (if sp_fall tv t m then 1 else 0) := rfl
    have step : sp_abG (sp_fall tv t) (m + 1) g' = sp_abG (sp_fall tv t) m (if sp_fall tv t m then sp_app g' 5 m 0 else g') := rfl
    have hv' : iT (sp_abT tv (sp_fall tv t) (m + 1)) := hv.ab (m + 1)
    have hlive : sp_liv (sp_abT tv (sp_fall tv t) (m + 1)) m = sp_liv tv m := by
      show (decide (m < tv_c tv) && (decide ((if m + 1 ≤ m ∧ sp_fall tv t m = true then 4 else tv_st tv m) = 1) || decide ((if m + 1 ≤ m ∧ sp_fall tv t m = true then 4 else tv_st tv m) = 2))) = _
      rw [if_neg (by omega)]
      rfl
    have hnext : sp_fall tv t m = false → wp_N_abortWithDescendants_L25 (jI t) (jI n1) (fun G9 K10 T11 => post (jI n1) A1 G9 K10 T11) n (jI m + (-1)) G' K' T' := by
      intro q
      rw [q] at hbs step
      refine hn (_, _, _, _) ⟨rfl, by omega, g', hG', hK'.ext (fun u j _ => ?_), ?_, by have hbs : bc (m + 1) (sp_fall tv t) = bc m (sp_fall tv t) := hbs; omega, hiG, ?_⟩
      · unfold sp_abL
        by_cases z : m + 1 ≤ u ∧ sp_fall tv t u = true
        · rw [if_pos z, if_pos ⟨by omega, z.2⟩]
        · rw [if_neg z, if_neg (fun z2 => z ⟨by
            have : ¬ u = m := fun w => by rw [w, q] at z2; cases z2.2
            omega, z2.2⟩)]
      · have e : sp_abT tv (sp_fall tv t) m = sp_abT tv (sp_fall tv t) (m + 1) := by
          unfold sp_abT
          have : (fun u => if m ≤ u ∧ sp_fall tv t u = true then 4 else tv_st tv u) = fun u => if m + 1 ≤ u ∧ sp_fall tv t u = true then 4 else tv_st tv u := by
            funext u
            by_cases z : m + 1 ≤ u ∧ sp_fall tv t u = true
            · rw [if_pos z, if_pos ⟨by omega, z.2⟩]
            · rw [if_neg z, if_neg (fun z2 => z ⟨by
                have : ¬ u = m := fun w => by rw [w, q] at z2; cases z2.2
                omega, z2.2⟩)]
          rw [this]
        rw [e]
        exact hT'
      · rw [← he, step]
        rfl
    rw [wp_N_abortWithDescendants_L25, e0, jI_p, ite_iff' (jI_lt hmb htb)]
    by_cases q : m < t
    · rw [if_pos q]
      refine fin (m + 1) G' K' T' g' (by omega) hG' hK' hT' he
    · rw [if_neg q]
      refine k_T_isLive hT' hv' hmb ?_
      rw [hlive]
      cases hl : sp_liv tv m with
      | false =>
        rw [if_pos (by rfl)]
        refine hnext ?_
        unfold sp_fall
        rw [hl]
        rfl
      | true =>
        rw [if_neg (by decide)]
        refine k_T_isWithin (a := t) hT' hv' hmc (by omega) ?_
        rw [show tv_lin (sp_abT tv (sp_fall tv t) (m + 1)) m t = tv_lin tv m t from rfl]
        cases hw : tv_lin tv m t with
        | false =>
          rw [if_pos (by rfl)]
          refine hnext ?_
          unfold sp_fall
          rw [hw, Bool.and_false]
        | true =>
          rw [if_neg (by decide), jI_tn hmb]
          have hf : sp_fall tv t m = true := by
            unfold sp_fall
            rw [hl, hw]
            rfl
          rw [hf] at hbs step
          have hbs : bc (m + 1) (sp_fall tv t) = bc m (sp_fall tv t) + 1 := hbs
          have hn4 : gv_n g' < 300 := by omega
          refine ⟨jI_in hmb (by omega), k_G_append hG' hn4 hiG.ou (fun G2 hG2 => k_K_release hK' (by omega) (fun K2 hK2 => hn (_, _, _, _) ⟨rfl, by omega, sp_app g' 5 m 0, hG2, hK2.ext (fun u j _ => ?_), ?_, show gv_n g' + 1 + bc m (sp_fall tv t) ≤ 300 by omega, hiG.app hn4 hmc (by decide) (fun z => absurd z (by decide)), ?_⟩))⟩
          · unfold sp_rel sp_abL
            by_cases eu : u = m
            · rw [if_pos eu, if_pos ⟨by omega, by rw [eu]; exact hf⟩]
            · rw [if_neg eu]
              by_cases z : m + 1 ≤ u ∧ sp_fall tv t u = true
              · rw [if_pos z, if_pos ⟨by omega, z.2⟩]
              · rw [if_neg z, if_neg (fun z2 => z ⟨by omega, z2.2⟩)]
          · have e : sp_abT tv (sp_fall tv t) m = tv_st' (sp_abT tv (sp_fall tv t) (m + 1)) (updN (tv_st (sp_abT tv (sp_fall tv t) (m + 1))) m 4) := by
              show tv_st' tv (fun u => if m ≤ u ∧ sp_fall tv t u = true then 4 else tv_st tv u) = tv_st' tv (updN (fun u => if m + 1 ≤ u ∧ sp_fall tv t u = true then 4 else tv_st tv u) m 4)
              have : (fun u => if m ≤ u ∧ sp_fall tv t u = true then (4 : Int32) else tv_st tv u) = updN (fun u => if m + 1 ≤ u ∧ sp_fall tv t u = true then 4 else tv_st tv u) m 4 := by
                funext u
                by_cases eu : u = m
                · rw [eu, updN_same, if_pos ⟨Nat.le_refl _, hf⟩]
                · rw [updN_ne _ _ eu]
                  by_cases z : m + 1 ≤ u ∧ sp_fall tv t u = true
                  · rw [if_pos z, if_pos ⟨by omega, z.2⟩]
                  · rw [if_neg z, if_neg (fun z2 => z ⟨by omega, z2.2⟩)]
              rw [this]
            rw [e]
            exact k_T_setState hT'
          · rw [← he, step]
            rfl
  · intro s n hs
    obtain ⟨i, G', K', T'⟩ := s
    obtain ⟨e0, hm, g', hG', hK', hT', hn3, hiG, he⟩ := hs
    dsimp only at e0 hG' hK' hT' ⊢
    rw [wp_N_abortWithDescendants_L25, e0, if_pos (by
      rw [Int32.lt_iff_toInt_lt, jI_ti htb]
      show (-1 : Int) < _
      omega)]
    exact fin 0 G' K' T' g' (Nat.zero_le _) hG' hK' hT' he
  · refine hK.ext (fun u j _ => ?_)
    unfold sp_abL
    rw [if_neg (fun z => by have := hF u z.2; omega)]
  · have e : sp_abT tv (sp_fall tv t) (tv_c tv) = tv := by
      unfold sp_abT
      have : (fun u => if tv_c tv ≤ u ∧ sp_fall tv t u = true then 4 else tv_st tv u) = tv_st tv := by
        funext u
        rw [if_neg (fun z => by have := hF u z.2; omega)]
      rw [this]
    rw [e]
    exact hT
end PN5
