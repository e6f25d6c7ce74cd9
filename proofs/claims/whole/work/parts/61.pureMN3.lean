section PMN3
variable {A : S_MA} {D : S_MD} {G : S_MG} {T : S_MT} {K : S_ML} {F : S_MF} {v : VP} {g : VG} {tv : VT} {L : VK} {t : Nat}
theorem m_undoes {post : Int32 → S_MA → S_MD → S_MG → Prop} {pt : Nat} (hA : RMA A D v) (hG : RMG G g) (hT : RMT T tv) (hV : iV v g tv L) (ht : t < tv_c tv) (hpt : pt < 2147483648) (htk : pv_tk v + 300 < 2147483648 + gv_n g)
    (h : ∀ A' D' G', RMA A' D' (sp_uo tv t pt (gv_n g) (0, v, g)).2.1 → RMG G' (sp_uo tv t pt (gv_n g) (0, v, g)).2.2 → post (jI (sp_uo tv t pt (gv_n g) (0, v, g)).1) A' D' G') : wp_M_undoes A D G T (jI t) (jI pt) post := by
  have hv := hV.2.2.1
  have hc := hv.1
  unfold wp_M_undoes
  rw [hG.2.1, jI_dm]
  refine lpd (fun n m (s : Int32 × Int32 × S_MA × S_MD × S_MG) => wp_M_undoes_L10 T (jI t) (jI pt) (fun x9 MA10 MD11 MG12 => post x9 MA10 MD11 MG12) n s.1 s.2.1 s.2.2.1 s.2.2.2.1 s.2.2.2.2) (fun m s => ∃ (c : Nat) (v' : VP) (g' : VG), s.2.1 = jI m + (-1) ∧ s.1 = jI c ∧ RMA s.2.2.1 s.2.2.2.1 v' ∧ RMG s.2.2.2.2 g' ∧ iV v' g' tv L ∧ m ≤ gv_n g' ∧ pv_tk v' + gv_n g = pv_tk v + gv_n g' ∧ sp_uo tv t pt m (c, v', g') = sp_uo tv t pt (gv_n g) (0, v, g)) ?_ ?_ (gv_n g) (0, jI (gv_n g) + (-1), A, D, G) ⟨0, v, g, rfl, rfl, hA, hG, hV, Nat.le_refl _, rfl, rfl⟩
  · intro m s n hs hn
    obtain ⟨x, i, A, D, G⟩ := s
    obtain ⟨c, v', g', e0, e1, hA', hG', hV', hm, hk', hu⟩ := hs
    dsimp only at e0 e1 hA' hG' ⊢
    have hbn := hV'.bnd
    subst e1
    have b1 := hbn.1
    have b2 := hbn.2.1
    have b3 := hbn.2.2
    have hn3 := hV'.2.1.1
    have hmb : m < 2147483648 := by omega
    have hmi : vp_in (jI m) 301 := jI_in hmb (by omega)
    have hby := hV'.2.1.2.2.2.2.1 m (by omega)
    have step : sp_uo tv t pt (m + 1) (c, v', g') = sp_uo tv t pt m (if decide (pt < gv_b g' + m + 1) && sp_opn g' tv m && tv_lin tv (gv_by g' m) t then (c + 1, sp_undP v' g' m, sp_undG v' g' m t) else (c, v', g')) := rfl
    have next : (decide (pt < gv_b g' + m + 1) && sp_opn g' tv m && tv_lin tv (gv_by g' m) t) = false → wp_M_undoes_L10 T (jI t) (jI pt) (fun x9 MA10 MD11 MG12 => post x9 MA10 MD11 MG12) n (jI c) (jI m + (-1)) A D G := by
      intro q
      refine hn (_, _, _, _, _) ⟨c, v', g', rfl, rfl, hA', hG', hV', by omega, hk', ?_⟩
      rw [← hu, step, q]
      rfl
    have doit : sp_opn g' tv m = true → (decide (pt < gv_b g' + m + 1) && sp_opn g' tv m && tv_lin tv (gv_by g' m) t) = true → wp_M_undo A D G (jI t) (jI m) (fun A2 D2 G2 => wp_M_undoes_L10 T (jI t) (jI pt) (fun x9 MA10 MD11 MG12 => post x9 MA10 MD11 MG12) n (jI (c + 1)) (jI m + (-1)) A2 D2 G2) := by
      intro ho q
      obtain ⟨i1, i2, i3⟩ := hV'.und (u := m) (t := t) (by omega) ho ht
      have hkey := hV'.2.1.key (show m < gv_n g' by omega) (Or.inl (opn_kd ho).1)
      refine m_undo hA' hG' hV'.1.1 i3 (by omega) hkey.1 hkey.2 (hV'.2.1.2.2.2.2.2.2.2.2.1 m (by omega)) b1 b2 (by omega) (fun A2 D2 G2 hA2 hG2 => hn (_, _, _, _, _) ⟨c + 1, _, _, rfl, rfl, hA2, hG2, i1, show m ≤ gv_n g' + 1 by omega, ?_, ?_⟩)
      · have e1 : pv_tk (sp_undP v' g' m) = pv_tk v' + 1 := und_tk
        have e2 : gv_n (sp_undG v' g' m t) = gv_n g' + 1 := rfl
        omega
      · rw [← hu, step, q]
        rfl
    rw [wp_M_undoes_L10, e0, jI_p, if_neg (jI_nn hmb), hG'.1, jI_a, jI_s, ite_iff' (jI_le (by omega) hpt)]
    by_cases q : gv_b g' + m + 1 ≤ pt
    · rw [if_pos q]
      refine next ?_
      rw [decide_eq_false (by omega)]
      rfl
    · rw [if_neg q]
      have hd : decide (pt < gv_b g' + m + 1) = true := decide_eq_true (by omega)
      refine m_open hG' hT hv hV'.2.1 (by omega) ?_
      cases ho : sp_opn g' tv m with
      | false =>
        rw [if_pos (by rfl)]
        refine next ?_
        rw [ho, Bool.and_false]
        rfl
      | true =>
        rw [if_neg (by decide), jI_tn hmb, hG'.2.2.2.2.1 m (by omega), jI_s, ite_iff' (jI_eq (by omega) (by omega))]
        have hla := hv.lin_abv hby t
        refine ⟨hmi, ?_⟩
        by_cases e : gv_by g' m = t
        · rw [if_pos e]
          rw [decide_eq_true e, Bool.true_or] at hla
          exact doit ho (by rw [hd, ho, hla]; rfl)
        · rw [if_neg e]
          rw [decide_eq_false e, Bool.false_or] at hla
          refine ⟨hmi, m_above hT hv hby (by omega) ?_⟩
          cases hl : sp_abv tv t (gv_by g' m) with
          | false =>
            rw [if_pos (by rfl)]
            rw [hl] at hla
            refine next ?_
            rw [hla, Bool.and_false]
          | true =>
            rw [if_neg (by decide)]
            rw [hl] at hla
            exact doit ho (by rw [hd, ho, hla]; rfl)
  · intro s n hs
    obtain ⟨x, i, A, D, G⟩ := s
    obtain ⟨c, v', g', e0, e1, hA', hG', hV', hm, hk', hu⟩ := hs
    dsimp only at e0 e1 hA' hG' ⊢
    subst e1
    rw [wp_M_undoes_L10, e0, if_pos (by decide)]
    rw [← hu] at h
    exact h A D G hA' hG'
theorem RMT.st (hT : RMT T tv) {k : Nat} {x : Int32} (hx : ¬ x = 2) : RMT (MT_state' T (upd (MT_state T) k x)) (tv_st' tv (updN (tv_st tv) k x)) := by
  obtain ⟨h1, h2, h3, h4, h5⟩ := hT
  refine ⟨h1, up_k (fun x => x) h2 rfl, h3, h4, fun t ht hs => ?_⟩
  have hs : updN (tv_st tv) k x t = 2 := hs
  by_cases e : t = k
  · rw [e, updN_same] at hs
    exact absurd hs hx
  · rw [updN_ne _ _ e] at hs
    exact h5 t ht hs
theorem m_aborts {post : Int32 → S_MA → S_MD → S_MF → S_MG → S_ML → S_MT → Prop} (hA : RMA A D v) (hG : RMG G g) (hT : RMT T tv) (hK : RML K L) (hV : iV v g tv L) (ht : t < tv_c tv) (htk : pv_tk v + 300 < 2147483648 + gv_n g)
    (h : ∀ A' D' F' G' K' T', RMA A' D' (sp_abort tv L v g t).2.1 → RMG G' (sp_abort tv L v g t).2.2.1 → RML K' (sp_abort tv L v g t).2.2.2.2 → RMT T' (sp_abort tv L v g t).2.2.2.1 → post (jI (sp_abort tv L v g t).1) A' D' F' G' K' T') : wp_M_aborts A D F G K T (jI t) post := by
  have hv := hV.2.2.1
  have hc := hv.1
  have htb : t < 2147483648 := by omega
  have hU := uo_inv (L := L) (pt := 0) ht (gv_n g) (0, v, g) (Nat.le_refl _) hV
  have hab := hV.abort ht
  unfold wp_M_aborts
  rw [hT.1]
  refine lpi (fun n (s : Int32 × S_MF) => wp_M_aborts_L2 T (jI t) _ n s.1 s.2) (fun k s => s.1 = jI k ∧ ∀ u, u < k → MF_falls s.2 u = b2i (sp_fall tv t u)) (tv_c tv) ?_ ?_ 0 (by omega) (0, F) ⟨rfl, fun u hu => by omega⟩
  · intro k hk s n hs hn
    obtain ⟨x, F⟩ := s
    obtain ⟨hx, hs⟩ := hs
    dsimp only at hx hs ⊢
    subst hx
    have hkb : k < 2147483648 := by omega
    have hki : vp_in (jI k) 60 := jI_in hkb (by omega)
    have next : ∀ y : Int32, y = b2i (sp_fall tv t k) → ∀ u, u < k + 1 → upd (MF_falls F) k y u = b2i (sp_fall tv t u) := by
      intro y hy u hu
      by_cases e : u = k
      · rw [e, upd_same, hy]
      · rw [upd_ne _ _ e]
        exact hs u (by omega)
    rw [wp_M_aborts_L2, hT.1, if_neg (by rw [jI_le (by omega) hkb]; omega), jI_tn hkb, jI_s]
    refine m_live hT hv hk ?_
    have hla := hv.lin_abv hk t
    cases hl : sp_liv tv k with
    | false =>
      rw [if_pos (by rfl), nar_0]
      refine ⟨hki, hn (_, MF_falls' F (upd (MF_falls F) k _)) ⟨rfl, next _ ?_⟩⟩
      unfold sp_fall
      rw [hl]
      rfl
    | true =>
      rw [if_neg (by decide), ite_iff' (jI_eq hkb htb)]
      by_cases e : k = t
      · rw [if_pos e, nar_1]
        rw [decide_eq_true e, Bool.true_or] at hla
        refine ⟨hki, hn (_, MF_falls' F (upd (MF_falls F) k _)) ⟨rfl, next _ ?_⟩⟩
        unfold sp_fall
        rw [hl, hla]
        rfl
      · rw [if_neg e]
        rw [decide_eq_false e, Bool.false_or] at hla
        refine m_above hT hv hk htb ?_
        cases hl2 : sp_abv tv t k with
        | false =>
          rw [if_pos (by rfl), nar_0]
          refine ⟨hki, hn (_, MF_falls' F (upd (MF_falls F) k _)) ⟨rfl, next _ ?_⟩⟩
          unfold sp_fall
          rw [hl, hla, hl2]
          rfl
        | true =>
          rw [if_neg (by decide), nar_1]
          refine ⟨hki, hn (_, MF_falls' F (upd (MF_falls F) k _)) ⟨rfl, next _ ?_⟩⟩
          unfold sp_fall
          rw [hl, hla, hl2]
          rfl
  · intro s n hs
    obtain ⟨x, F⟩ := s
    obtain ⟨hx, hs⟩ := hs
    dsimp only at hx hs ⊢
    subst hx
    rw [wp_M_aborts_L2, hT.1, if_pos (by rw [jI_le (by omega) (by omega)]; omega), show (0 : Int32) = jI 0 from rfl]
    refine m_undoes hA hG hT hV ht (by omega) htk (fun A1 D1 G1 hA1 hG1 => ?_)
    unfold sp_abort at h
    obtain ⟨s1, hs1⟩ : ∃ s1, s1 = sp_uo tv t 0 (gv_n g) (0, v, g) := ⟨_, rfl⟩
    rw [← hs1] at hA1 hG1 h hU hab ⊢
    obtain ⟨n1, v1, g1⟩ := s1
    dsimp only at hA1 hG1 h hU hab ⊢
    have hF : ∀ u, sp_fall tv t u = true → t ≤ u ∧ u < tv_c tv := by
      intro u hu
      unfold sp_fall at hu
      simp only [Bool.and_eq_true] at hu
      exact ⟨hv.lin_le u (liv_lt hu.1) t hu.2, liv_lt hu.1⟩
    rw [jI_dm]
    refine lpd (fun n m (s : Int32 × S_MG × S_ML × S_MT) => wp_M_aborts_L63 F (jI n1) (fun MG11 ML12 MT13 => post (jI n1) A1 D1 F MG11 ML12 MT13) n s.1 s.2.1 s.2.2.1 s.2.2.2) (fun m s => s.1 = jI m + (-1) ∧ m ≤ tv_c tv ∧ ∃ g', RMG s.2.1 g' ∧ RML s.2.2.1 (sp_abL L (sp_fall tv t) m) ∧ RMT s.2.2.2 (sp_abT tv (sp_fall tv t) m) ∧ gv_n g' + bc m (sp_fall tv t) ≤ 300 ∧ sp_abG (sp_fall tv t) m g' = sp_abG (sp_fall tv t) (tv_c tv) g1) ?_ ?_ (tv_c tv) (jI (tv_c tv) + (-1), G1, K, T) ⟨rfl, Nat.le_refl _, g1, hG1, ?_, ?_, hab.2, rfl⟩
    · intro m s n hs2 hn
      obtain ⟨i, G', K', T'⟩ := s
      obtain ⟨e0, hm, g', hG', hK', hT', hn3, he⟩ := hs2
      dsimp only at e0 hG' hK' hT' ⊢
      have hmb : m < 2147483648 := by omega
      have hmc : m < tv_c tv := by omega
      have hmi : vp_in (jI m) 60 := jI_in hmb (by omega)
      have hbs : bc (m + 1) (sp_fall tv t) = bc m (sp_fall tv t) + (if sp_fall tv t m then 1 else 0) := rfl
      have step : sp_abG (sp_fall tv t) (m + 1) g' = sp_abG (sp_fall tv t) m (if sp_fall tv t m then sp_app g' 5 m 0 else g') := rfl
      rw [wp_M_aborts_L63, e0, jI_p, if_neg (jI_nn hmb), jI_tn hmb, hs m hmc]
      refine ⟨hmi, ?_⟩
      cases q : sp_fall tv t m with
      | false =>
        rw [if_pos (by rfl)]
        rw [q] at hbs step
        refine hn (_, _, _, _) ⟨rfl, by omega, g', hG', fun u j hu hj => ?_, ?_, by have hbs : bc (m + 1) (sp_fall tv t) = bc m (sp_fall tv t) := hbs; omega, ?_⟩
        · rw [hK' u j hu hj]
          unfold sp_abL
          by_cases z : m + 1 ≤ u ∧ sp_fall tv t u = true
          · rw [if_pos z, if_pos ⟨by omega, z.2⟩]
          · rw [if_neg z, if_neg (fun z2 => z ⟨by
              have : ¬ u = m := fun w => by rw [w, q] at z2; cases z2.2
              omega, z2.2⟩)]
        · have e : sp_abT tv (sp_fall tv t) m = sp_abT tv (sp_fall tv t) (m + 1) := by
            unfold sp_abT
            have : (fun u => if m ≤ u ∧ sp_fall tv t u = true then 4 else tv_st tv u) = fun u => if m + 1 ≤ u ∧ sp_fall tv t u = true then 4 else tv_st tv u := by
              funext u
              by_cases z : m + 1 ≤ u ∧ sp_fall tv t u = true
              · rw [if_pos z, if_pos ⟨by omega, z.2⟩]
              · rw [if_neg z, if_neg (fun z2 => z ⟨by
                  have : ¬ u = m := fun w => by rw [w, q] at z2; cases z2.2
                  omega, z2.2⟩)]
            rw [this]
          rw [e]
          exact hT'
        · rw [← he, step]
          rfl
      | true =>
        rw [if_neg (by decide)]
        rw [q] at hbs step
        have hbs : bc (m + 1) (sp_fall tv t) = bc m (sp_fall tv t) + 1 := hbs
        have hn4 : gv_n g' < 300 := by omega
        have hnb : gv_n g' < 2147483648 := by omega
        refine m_append hG' (by omega) (fun G2 hG2 => ?_)
        have eby : MG_by G2 (gv_n g') = jI m := by
          rw [hG2.2.2.2.2.1 _ (show gv_n g' < gv_n g' + 1 by omega)]
          exact congrArg jI (updN_same _ _ _)
        rw [jI_tn hnb, eby, jI_tn hmb]
        refine ⟨jI_in hnb (by omega), hmi, m_unlock hK' (by omega) (fun K2 hK2 => hn (_, _, _, _) ⟨rfl, by omega, sp_app g' 5 m 0, hG2, fun u j hu hj => ?_, ?_, show gv_n g' + 1 + bc m (sp_fall tv t) ≤ 300 by omega, ?_⟩)⟩
        · rw [hK2 u j hu hj]
          unfold sp_rel sp_abL
          by_cases eu : u = m
          · rw [if_pos eu, if_pos ⟨by omega, by rw [eu]; exact q⟩]
          · rw [if_neg eu]
            by_cases z : m + 1 ≤ u ∧ sp_fall tv t u = true
            · rw [if_pos z, if_pos ⟨by omega, z.2⟩]
            · rw [if_neg z, if_neg (fun z2 => z ⟨by omega, z2.2⟩)]
        · have e : sp_abT tv (sp_fall tv t) m = tv_st' (sp_abT tv (sp_fall tv t) (m + 1)) (updN (tv_st (sp_abT tv (sp_fall tv t) (m + 1))) m 4) := by
            show tv_st' tv (fun u => if m ≤ u ∧ sp_fall tv t u = true then 4 else tv_st tv u) = tv_st' tv (updN (fun u => if m + 1 ≤ u ∧ sp_fall tv t u = true then 4 else tv_st tv u) m 4)
            have : (fun u => if m ≤ u ∧ sp_fall tv t u = true then (4 : Int32) else tv_st tv u) = updN (fun u => if m + 1 ≤ u ∧ sp_fall tv t u = true then 4 else tv_st tv u) m 4 := by
              funext u
              by_cases eu : u = m
              · rw [eu, updN_same, if_pos ⟨Nat.le_refl _, q⟩]
              · rw [updN_ne _ _ eu]
                by_cases z : m + 1 ≤ u ∧ sp_fall tv t u = true
                · rw [if_pos z, if_pos ⟨by omega, z.2⟩]
                · rw [if_neg z, if_neg (fun z2 => z ⟨by omega, z2.2⟩)]
            rw [this]
          rw [e]
          exact hT'.st (by decide)
        · rw [← he, step]
          rfl
    · intro s n hs2
      obtain ⟨i, G', K', T'⟩ := s
      obtain ⟨e0, hm, g', hG', hK', hT', hn3, he⟩ := hs2
      dsimp only at e0 hG' hK' hT' ⊢
      rw [wp_M_aborts_L63, e0, if_pos (by decide)]
      have he : g' = sp_abG (sp_fall tv t) (tv_c tv) g1 := he
      rw [he] at hG'
      exact h A1 D1 F G' K' T' hA1 hG' hK' hT'
    · intro u j hu hj
      show ML_locks K (33 * u + j) = jI (if tv_c tv ≤ u ∧ sp_fall tv t u = true then 0 else L u j)
      rw [if_neg (fun z => by have := hF u z.2; omega)]
      exact hK u j hu hj
    · have e : sp_abT tv (sp_fall tv t) (tv_c tv) = tv := by
        unfold sp_abT
        have : (fun u => if tv_c tv ≤ u ∧ sp_fall tv t u = true then 4 else tv_st tv u) = tv_st tv := by
          funext u
          rw [if_neg (fun z => by have := hF u z.2; omega)]
        rw [this]
      rw [e]
      exact hT
end PMN3
