section OPS3
variable {A : S_A} {D : S_D} {G : S_G} {K : S_K} {N : S_N} {P : S_P} {T : S_T} {MA : S_MA} {MD : S_MD} {MF : S_MF} {MG : S_MG} {ML : S_ML} {MN : S_MN} {MP : S_MP} {MT : S_MT} {MV : S_MV} {k : Nat} {v : VP} {g : VG} {tv : VT} {L : VK} {t : Nat}
theorem abort_b {x : Nat} (h : iV v g tv L) (hx : x < tv_c tv) : gv_b (sp_abort tv L v g x).2.2.1 = gv_b g := by
  have hab := h.abort hx
  have hU := uo_inv (L := L) (pt := 0) hx (gv_n g) (0, v, g) (Nat.le_refl _) h
  have hF : ∀ u, sp_fall tv x u = true → u < tv_c tv := by
    intro u hu
    unfold sp_fall at hu
    simp only [Bool.and_eq_true] at hu
    exact liv_lt hu.1
  exact ((abG_facts hF (tv_c tv) _ hab.2 hU.1.2.1).2.1.1).trans hU.2.1.1
theorem o_abort (hk : k < 512) (a : Int32) (h : Rel k A G K N T MA MD MG ML MN MT) : wp_N_abort A G K T a (fun r A' G' K' T' => wp_M_abort MA MD MF MG ML MT a (fun r' A2 D2 _ G2 K2 T2 => r = r' ∧ Rel (k + 1) A' G' K' N T' A2 D2 G2 K2 MN T2)) := by
  have hup := h.up
  obtain ⟨v, g, tv, L, ⟨hA, hG, hT, hK⟩, ⟨mA, mG, mT, mK⟩, hV, hN, hb, htk⟩ := h
  have hv := hV.2.2.1
  have hc := hv.1
  unfold wp_N_abort
  rcases jI_ex a with ha | ⟨t, htb, rfl⟩
  · refine k_T_isLive_neg ha ?_
    rw [if_pos (by rfl)]
    unfold wp_M_abort
    refine m_is_neg ha ?_
    rw [if_pos (by rfl)]
    exact ⟨rfl, hup⟩
  · refine k_T_isLive hT hv htb ?_
    cases q : sp_liv tv t with
    | false =>
      rw [if_pos (by rfl)]
      unfold wp_M_abort
      refine m_is mT hv htb ?_
      by_cases z : t < tv_c tv
      · rw [decide_eq_true z, if_neg (by decide)]
        refine m_live mT hv z ?_
        rw [q, if_pos (by rfl)]
        exact ⟨rfl, hup⟩
      · rw [decide_eq_false z, if_pos (by rfl)]
        exact ⟨rfl, hup⟩
    | true =>
      have htc := liv_lt q
      have hab := hV.abort htc
      have htk2 := abort_tk hV htc
      have hb2 := abort_b hV htc
      have hn3 := hab.1.2.1.1
      rw [if_neg (by decide)]
      refine k_N_abort hA hG hT hK hV htc (fun A' G' K' T' hA' hG' hK' hT' => ?_)
      unfold wp_M_abort
      refine m_is mT hv htb ?_
      rw [decide_eq_true htc, if_neg (by decide)]
      refine m_live mT hv htc ?_
      rw [q, if_neg (by decide)]
      refine m_aborts mA mG mT mK hV htc (by omega) (fun A2 D2 F2 G2 K2 T2 hA2 hG2 hK2 hT2 => ⟨rfl, ?_⟩)
      have hn4 : gv_n (sp_abort tv L v g t).2.2.1 ≤ 300 := hn3
      exact ⟨_, _, _, _, ⟨hA', hG', hT', hK'⟩, ⟨hA2, hG2, hT2, hK2⟩, hab.1, hN, by omega, by omega⟩
theorem o_rollback (hk : k < 512) (a b : Int32) (h : Rel k A G K N T MA MD MG ML MN MT) : wp_N_rollback A G T a b (fun r A' G' => wp_M_rollback MA MD MG MT a b (fun r' A2 D2 G2 => r = r' ∧ Rel (k + 1) A' G' K N T A2 D2 G2 ML MN MT)) := by
  have hup := h.up
  obtain ⟨v, g, tv, L, ⟨hA, hG, hT, hK⟩, ⟨mA, mG, mT, mK⟩, hV, hN, hb, htk⟩ := h
  have hv := hV.2.2.1
  have hc := hv.1
  have hbn := hV.bnd
  unfold wp_N_rollback
  rcases jI_ex a with ha | ⟨t, htb, rfl⟩
  · refine k_T_isActive_neg ha ?_
    rw [if_pos (by rfl)]
    unfold wp_M_rollback
    refine m_active_neg ha ?_
    rw [if_pos (by rfl)]
    exact ⟨rfl, hup⟩
  · refine k_T_isActive hT hv htb ?_
    cases q : sp_act tv t with
    | false =>
      rw [if_pos (by rfl)]
      unfold wp_M_rollback
      refine m_active mT hv htb ?_
      rw [q, if_pos (by rfl)]
      exact ⟨rfl, hup⟩
    | true =>
      have htc := liv_lt (act_liv q)
      have hti : vp_in (jI t) 60 := jI_in htb (by omega)
      have hbg := (hv.2.1 t htc).2.2.2.1
      rw [if_neg (by decide), jI_tn htb, hT.2.2.2.2.2.1 t htc]
      refine ⟨hti, ?_⟩
      have refNo : (b < jI (tv_bg tv t) ∨ ¬ b ≤ jI (gv_b g + gv_n g)) → wp_M_rollback MA MD MG MT (jI t) b (fun r' A2 D2 G2 => (-1 : Int32) = r' ∧ Rel (k + 1) A G K N T A2 D2 G2 ML MN MT) := by
        intro hno
        unfold wp_M_rollback
        refine m_active mT hv htb ?_
        rw [q, if_neg (by decide), jI_tn htb, mT.2.2.2.1 t htc]
        refine ⟨hti, ?_⟩
        by_cases z : b < jI (tv_bg tv t)
        · rw [if_pos z]
          exact ⟨rfl, hup⟩
        · rw [if_neg z]
          refine m_last mG ?_
          rw [if_neg (by
            rcases hno with w | w
            · exact absurd w z
            · exact w)]
          exact ⟨rfl, hup⟩
      by_cases z : b < jI (tv_bg tv t)
      · rw [if_pos z]
        exact refNo (Or.inl z)
      · rw [if_neg z]
        refine k_G_last hG ?_
        by_cases z2 : b ≤ jI (gv_b g + gv_n g)
        · rw [if_pos z2]
          rcases jI_ex b with hbneg | ⟨p, hpb, rfl⟩
          · exact absurd (by
              rw [Int32.lt_iff_toInt_lt, jI_ti hbg]
              rw [Int32.lt_iff_toInt_lt] at hbneg
              have : (0 : Int32).toInt = 0 := rfl
              omega) z
          · refine k_T_isBusy hT hv htc ?_
            cases w : sp_busy tv t with
            | true =>
              rw [if_neg (by decide)]
              unfold wp_M_rollback
              refine m_active mT hv htb ?_
              rw [q, if_neg (by decide), jI_tn htb, mT.2.2.2.1 t htc, if_neg z]
              refine ⟨hti, m_last mG ?_⟩
              rw [if_pos z2]
              refine m_busy mT hv htc ?_
              rw [w, if_neg (by decide)]
              exact ⟨rfl, hup⟩
            | false =>
              rw [if_pos (by rfl)]
              obtain ⟨u1, u2, u3, u4⟩ := uo_inv (L := L) (pt := p) htc (gv_n g) (0, v, g) (Nat.le_refl _) hV
              have hn3 := u1.2.1.1
              refine k_N_undoOpenUpdates hA hG hT hV htc hpb (fun A' G' hA' hG' => ?_)
              unfold wp_M_rollback
              refine m_active mT hv htb ?_
              rw [q, if_neg (by decide), jI_tn htb, mT.2.2.2.1 t htc, if_neg z]
              refine ⟨hti, m_last mG ?_⟩
              rw [if_pos z2]
              refine m_busy mT hv htc ?_
              rw [w, if_pos (by rfl)]
              refine m_undoes mA mG mT hV htc hpb (by omega) (fun A2 D2 G2 hA2 hG2 => ⟨rfl, ?_⟩)
              have e1 := u2.1
              dsimp only at u4 e1
              exact ⟨_, _, _, _, ⟨hA', hG', hT, hK⟩, ⟨hA2, hG2, mT, mK⟩, u1, hN, by omega, by omega⟩
        · rw [if_neg z2]
          exact refNo (Or.inr z2)
theorem o_write (hk : k < 512) (a : Int32) (h : Rel k A G K N T MA MD MG ML MN MT) : wp_N_write A G a (fun r A' G' => wp_M_write MA MD MG a (fun r' A2 D2 G2 => r = r' ∧ Rel (k + 1) A' G' K N T A2 D2 G2 ML MN MT)) := by
  have hup := h.up
  obtain ⟨v, g, tv, L, ⟨hA, hG, hT, hK⟩, ⟨mA, mG, mT, mK⟩, hV, hN, hb, htk⟩ := h
  have hbn := hV.bnd
  unfold wp_N_write
  rcases jI_ex a with ha | ⟨p, hpb, rfl⟩
  · refine k_isPage_neg ha ?_
    rw [if_pos (by rfl)]
    unfold wp_M_write
    refine m_isPage_neg ha ?_
    rw [if_pos (by rfl)]
    exact ⟨rfl, hup⟩
  · refine k_isPage hpb ?_
    by_cases q : p < 8
    · have hpi : vp_in (jI p) 8 := jI_in hpb q
      rw [decide_eq_true q, if_neg (by decide), jI_tn hpb, hA.2.2.2.1 p q]
      refine ⟨hpi, ?_⟩
      cases z : pv_dy v p with
      | false =>
        rw [if_pos (by rfl)]
        unfold wp_M_write
        refine m_isPage hpb ?_
        rw [decide_eq_true q, if_neg (by decide), jI_tn hpb, mA.2.1 p q, mA.2.2.1 p q, z]
        refine ⟨hpi, ?_⟩
        cases w : sp_in v p with
        | false =>
          rw [if_pos (by rfl)]
          exact ⟨rfl, hup⟩
        | true =>
          rw [if_neg (by decide)]
          refine ⟨hpi, ?_⟩
          rw [if_pos (by rfl)]
          exact ⟨rfl, hup⟩
      | true =>
        have hin : sp_in v p = true := by
          cases w : sp_in v p with
          | true => rfl
          | false =>
            rw [(hV.1.1.out q w).1] at z
            cases z
        rw [if_neg (by decide)]
        refine k_A_putOnDisk hA hG q (hbn.1 p q) hbn.2.1 (fun A' G' hA' hG' => ?_)
        unfold wp_M_write
        refine m_isPage hpb ?_
        rw [decide_eq_true q, if_neg (by decide), jI_tn hpb, mA.2.1 p q, mA.2.2.1 p q, z, hin]
        refine ⟨hpi, ?_⟩
        rw [if_neg (by decide)]
        refine ⟨hpi, ?_⟩
        rw [if_neg (by decide)]
        exact m_writes mA mG q hin (hbn.1 p q) hbn.2.1 (fun A2 D2 G2 hA2 hG2 => ⟨rfl, _, _, _, _, ⟨hA', hG', hT, hK⟩, ⟨hA2, hG2, mT, mK⟩, hV.write q hin, hN, show gv_b g ≤ _ by omega, show pv_tk v ≤ _ by omega⟩)
    · rw [decide_eq_false q, if_pos (by rfl)]
      unfold wp_M_write
      refine m_isPage hpb ?_
      rw [decide_eq_false q, if_pos (by rfl)]
      exact ⟨rfl, hup⟩
theorem o_entry (a b : Int32) (h : Rel k A G K N T MA MD MG ML MN MT) : wp_N_entry G a b (fun r => wp_M_entry MG a b (fun r' => r = r')) := by
  obtain ⟨v, g, tv, L, ⟨-, hG, -⟩, ⟨-, mG, -⟩, hV, -⟩ := h
  have hbn := hV.bnd
  have hn3 := hV.2.1.1
  unfold wp_N_entry
  rw [hG.1]
  have hbb : gv_b g < 2147483648 := by omega
  by_cases q1 : a ≤ jI (gv_b g)
  · rw [if_pos q1]
    unfold wp_M_entry
    dsimp only
    rw [mG.1, if_pos q1]
  · rw [if_neg q1]
    refine k_G_last hG ?_
    have hpos : ¬ a < 0 := fun z => q1 (by
      rw [Int32.le_iff_toInt_le, jI_ti hbb]
      rw [Int32.lt_iff_toInt_lt] at z
      have : (0 : Int32).toInt = 0 := rfl
      omega)
    rcases jI_ex a with ha | ⟨x, hxb, rfl⟩
    · exact absurd ha hpos
    · have q1' : gv_b g < x := by
        rw [jI_le hxb hbb] at q1
        omega
      rw [ite_iff' (jI_le hxb (by omega))]
      by_cases q2 : x ≤ gv_b g + gv_n g
      · rw [if_pos q2]
        obtain ⟨r, hr⟩ : ∃ r, x = gv_b g + r + 1 := ⟨x - gv_b g - 1, by omega⟩
        subst hr
        have hrn : r < gv_n g := by omega
        have hrb : r < 2147483648 := by omega
        have hri : vp_in (jI r) 300 := jI_in hrb (by omega)
        have hri1 : vp_in (jI r) 301 := jI_in hrb (by omega)
        have mrow : jI (gv_b g + r + 1) - MG_base MG - 1 = jI r := by
          rw [mG.1, jI_sub (by omega), show gv_b g + r + 1 - gv_b g = r + 1 by omega, jI_d]
        refine k_G_rowOf hG ?_
        have mm : ∀ {post : Int32 → Prop}, (if b < 0 then post (-1) else if b ≤ 5 then (if b = 0 then post (gv_kd g r) else if b = 1 then post (jI (gv_by g r)) else if b = 2 then post (gv_ab g r) else if b = 3 then (if gv_kd g r = 3 then post (gv_of g r) else (if b2i (gv_wt g r) = 0 then post 0 else post 1)) else if b = 4 then (if b2i (gv_it g r) = 0 then post 0 else post 1) else post (gv_iv g r)) else post (-1)) → wp_M_entry MG (jI (gv_b g + r + 1)) b post := by
          intro post hp
          unfold wp_M_entry
          rw [if_neg (by rw [mG.1]; exact q1)]
          refine m_last mG ?_
          rw [if_neg (by rw [jI_lt (by omega) hxb]; omega), mrow, jI_tn hrb, mG.2.2.2.1 r hrn, mG.2.2.2.2.1 r hrn, mG.2.2.2.2.2.1 r hrn, mG.2.2.2.2.2.2.1 r hrn, mG.2.2.2.2.2.2.2.1 r hrn, mG.2.2.2.2.2.2.2.2.2.1 r hrn, mG.2.2.2.2.2.2.2.2.2.2 r hrn]
          by_cases z : b < 0
          · rw [if_pos z] at hp ⊢
            exact hp
          · rw [if_neg z] at hp ⊢
            by_cases z5 : b ≤ 5
            · rw [if_pos z5] at hp ⊢
              by_cases z0 : b = 0
              · rw [if_pos z0] at hp ⊢
                exact ⟨hri1, hp⟩
              · rw [if_neg z0] at hp ⊢
                by_cases z1 : b = 1
                · rw [if_pos z1] at hp ⊢
                  exact ⟨hri1, hp⟩
                · rw [if_neg z1] at hp ⊢
                  by_cases z2 : b = 2
                  · rw [if_pos z2] at hp ⊢
                    exact ⟨hri1, hp⟩
                  · rw [if_neg z2] at hp ⊢
                    by_cases z3 : b = 3
                    · rw [if_pos z3] at hp ⊢
                      refine ⟨hri1, ?_⟩
                      by_cases w : gv_kd g r = 3
                      · rw [if_pos w] at hp ⊢
                        exact ⟨hri1, hp⟩
                      · rw [if_neg w] at hp ⊢
                        exact ⟨hri1, hp⟩
                    · rw [if_neg z3] at hp ⊢
                      by_cases z4 : b = 4
                      · rw [if_pos z4] at hp ⊢
                        exact ⟨hri1, hp⟩
                      · rw [if_neg z4] at hp ⊢
                        exact ⟨hri1, hp⟩
            · rw [if_neg z5] at hp ⊢
              exact hp
        rw [jI_tn hrb, hG.2.2.2.1 r hrn, hG.2.2.2.2.1 r hrn, hG.2.2.2.2.2.1 r hrn, hG.2.2.2.2.2.2.1 r hrn, hG.2.2.2.2.2.2.2.2.1 r hrn, hG.2.2.2.2.2.2.2.2.2.1 r hrn, hG.2.2.2.2.2.2.2.2.2.2.1 r hrn]
        by_cases z0 : b = 0
        · rw [if_pos z0]
          refine ⟨hri, mm ?_⟩
          subst z0
          rw [if_neg (by decide), if_pos (by decide), if_pos (by rfl)]
        · rw [if_neg z0]
          by_cases z1 : b = 1
          · rw [if_pos z1]
            refine ⟨hri, mm ?_⟩
            subst z1
            rw [if_neg (by decide), if_pos (by decide), if_neg (by decide), if_pos (by rfl)]
          · rw [if_neg z1]
            by_cases z2 : b = 2
            · rw [if_pos z2]
              refine ⟨hri, mm ?_⟩
              subst z2
              rw [if_neg (by decide), if_pos (by decide), if_neg (by decide), if_neg (by decide), if_pos (by rfl)]
            · rw [if_neg z2]
              by_cases z3 : b = 3
              · rw [if_pos z3]
                refine ⟨hri, ?_⟩
                subst z3
                by_cases w : gv_kd g r = 3
                · rw [if_pos w]
                  refine ⟨hri, mm ?_⟩
                  rw [if_neg (by decide), if_pos (by decide), if_neg (by decide), if_neg (by decide), if_neg (by decide), if_pos (by rfl), if_pos w]
                · rw [if_neg w]
                  refine ⟨hri, asNum _ (mm ?_)⟩
                  rw [if_neg (by decide), if_pos (by decide), if_neg (by decide), if_neg (by decide), if_neg (by decide), if_pos (by rfl), if_neg w]
                  exact asNum2 _
              · rw [if_neg z3]
                by_cases z4 : b = 4
                · rw [if_pos z4]
                  refine ⟨hri, asNum _ (mm ?_)⟩
                  subst z4
                  rw [if_neg (by decide), if_pos (by decide), if_neg (by decide), if_neg (by decide), if_neg (by decide), if_neg (by decide), if_pos (by rfl)]
                  exact asNum2 _
                · rw [if_neg z4]
                  by_cases z5 : b = 5
                  · rw [if_pos z5]
                    refine ⟨hri, mm ?_⟩
                    subst z5
                    rw [if_neg (by decide), if_pos (by decide), if_neg (by decide), if_neg (by decide), if_neg (by decide), if_neg (by decide), if_neg (by decide)]
                  · rw [if_neg z5]
                    refine mm ?_
                    rcases jI_ex b with hb | ⟨i, hib, rfl⟩
                    · rw [if_pos hb]
                    · rw [if_neg (jI_nn hib), show (5 : Int32) = jI 5 from rfl, ite_iff' (jI_le hib (by omega)), if_neg (fun z => by
                        have h0 : ¬ i = 0 := fun e => z0 (by rw [e]; rfl)
                        have h1 : ¬ i = 1 := fun e => z1 (by rw [e]; rfl)
                        have h2 : ¬ i = 2 := fun e => z2 (by rw [e]; rfl)
                        have h3 : ¬ i = 3 := fun e => z3 (by rw [e]; rfl)
                        have h4 : ¬ i = 4 := fun e => z4 (by rw [e]; rfl)
                        have h5 : ¬ i = 5 := fun e => z5 (by rw [e]; rfl)
                        omega)]
      · rw [if_neg q2]
        unfold wp_M_entry
        dsimp only
        rw [if_neg (by rw [mG.1]; exact q1)]
        refine m_last mG ?_
        rw [if_pos (by rw [jI_lt (by omega) hxb]; omega)]
end OPS3
