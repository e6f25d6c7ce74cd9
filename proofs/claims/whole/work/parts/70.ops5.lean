section OPS5
variable {A : S_A} {D : S_D} {G : S_G} {K : S_K} {N : S_N} {P : S_P} {T : S_T} {MA : S_MA} {MD : S_MD} {MF : S_MF} {MG : S_MG} {ML : S_ML} {MN : S_MN} {MP : S_MP} {MT : S_MT} {MV : S_MV} {k : Nat} {v : VP} {g : VG} {tv : VT} {L : VK} {t : Nat}
theorem iT.child (h : iT tv) : ∀ u, u < tv_c tv → ¬ u = t → tv_lin tv u t = true → ∃ w, tv_lin tv u w = true ∧ tv_par tv w = some t := by
  intro u
  induction u using Nat.strongRecOn with
  | ind u ih =>
    intro hu hne hl
    obtain ⟨-, -, -, -, h1, h2⟩ := h.2.1 u hu
    cases hp : tv_par tv u with
    | none =>
      rw [(h1 hp).2.2 t] at hl
      exact absurd (by simpa using hl) hne
    | some p =>
      obtain ⟨g1, -, -, g4⟩ := h2 p hp
      by_cases e : p = t
      · exact ⟨u, h.lin_self hu, by rw [hp, e]⟩
      · rw [g4 t, decide_eq_false hne, Bool.false_or] at hl
        obtain ⟨w, w1, w2⟩ := ih p g1 (by omega) e hl
        exact ⟨w, by rw [g4 w, w1, Bool.or_true], w2⟩
def sp_cmL (tv : VT) (L : VK) (t : Nat) : VK := match tv_par tv t with
  | none => sp_rel L t
  | some p => sp_rel (sp_pass L t p) t
theorem iV.commit (h : iV v g tv L) (ht : sp_liv tv t = true) (hb : sp_busy tv t = false) {f : Nat} (hf1 : gv_f g ≤ f) (hf2 : f ≤ gv_b g + gv_n g + 1) (hf3 : tv_par tv t = none → f = gv_b g + gv_n g + 1) : iV v (gv_f' (sp_app g 4 t 0) f) (tv_st' tv (updN (tv_st tv) t 3)) (sp_cmL tv L t) ∧ gv_n g < 300 := by
  obtain ⟨hP, hG, hT, hK, ⟨x1, x2, x3, x4, x5, x6⟩, hR⟩ := h
  have htc := liv_lt ht
  have hlv1 : sp_lives (tv_st' tv (updN (tv_st tv) t 3)) + 1 = sp_lives tv := by
    symm
    refine bc_one (x := t) htc ?_ ht (fun u _ hu => ?_)
    · unfold sp_liv
      show (decide (t < tv_c tv) && (decide (updN (tv_st tv) t 3 t = 1) || decide (updN (tv_st tv) t 3 t = 2))) = false
      rw [updN_same]
      simp
    · unfold sp_liv
      show (decide (u < tv_c tv) && (decide (updN (tv_st tv) t 3 u = 1) || decide (updN (tv_st tv) t 3 u = 2))) = _
      rw [updN_ne _ _ hu]
  have hn : gv_n g < 300 := by
    unfold iRm at hR
    omega
  have liv : ∀ u, sp_liv (tv_st' tv (updN (tv_st tv) t 3)) u = (sp_liv tv u && !decide (u = t)) := by
    intro u
    unfold sp_liv
    show (decide (u < tv_c tv) && (decide (updN (tv_st tv) t 3 u = 1) || decide (updN (tv_st tv) t 3 u = 2))) = _
    by_cases e : u = t
    · rw [e, updN_same]
      simp
    · rw [updN_ne _ _ e, decide_eq_false e]
      simp
  have lt : ∀ {r : Nat}, r < gv_n g + 1 → ¬ r = gv_n g → r < gv_n g := fun h1 h2 => by omega
  have kdn : gv_kd (gv_f' (sp_app g 4 t 0) f) (gv_n g) = 4 := updN_same _ _ _
  have byn : gv_by (gv_f' (sp_app g 4 t 0) f) (gv_n g) = t := updN_same _ _ _
  have kd : ∀ r, r < gv_n g → gv_kd (gv_f' (sp_app g 4 t 0) f) r = gv_kd g r := fun r hr => updN_ne _ _ (by omega)
  have by' : ∀ r, r < gv_n g → gv_by (gv_f' (sp_app g 4 t 0) f) r = gv_by g r := fun r hr => updN_ne _ _ (by omega)
  have ud : ∀ r, r < gv_n g → sp_ud (gv_f' (sp_app g 4 t 0) f) r = sp_ud g r := by
    intro r hr
    have : sp_ud (sp_app g 4 t 0) r = sp_ud g r := by
      rw [sp_ud_app hG.ou (by omega), if_pos hr]
    exact this
  have hpl : ∀ p, tv_par tv t = some p → ¬ p = t ∧ sp_liv tv p = true := by
    intro p hp
    obtain ⟨-, -, -, -, -, h2⟩ := hT.2.1 t htc
    obtain ⟨g1, -, -, g4⟩ := h2 p hp
    refine ⟨by omega, x3 t p ht ?_⟩
    rw [g4 p, hT.lin_self (by omega), Bool.or_true]
  have pP : iPG v (gv_b g) (gv_n g + 1) f := (hP.up (show gv_n g ≤ gv_n g + 1 by omega)).fl hf1 (by omega)
  have pG : iG (gv_f' (sp_app g 4 t 0) f) (tv_c tv) := (hG.app (k := 4) (t := t) (a := 0) hn htc (by decide) (fun z => absurd z (by decide))).fl (show gv_b g ≤ f by have := hG.2.1; omega) (show f ≤ gv_b g + (gv_n g + 1) by omega)
  refine ⟨⟨pP, pG, hT.stf (fun u hu => ?_), fun u i hi => ?_, ⟨fun r hr hk a ha => ?_, fun u hu => ?_, fun u a hu ha => ?_, fun r hr hk hs => ?_, fun r hr hk hp => ?_, fun r hr hk hs => ?_⟩, ?_⟩, hn⟩
  · by_cases e : u = t
    · rw [e, updN_same]
      exact Or.inr (Or.inr (Or.inl rfl))
    · rw [updN_ne _ _ e]
      exact (hT.2.1 u hu).1
  · rw [liv]
    unfold sp_cmL
    cases hp : tv_par tv t with
    | none =>
      dsimp only
      unfold sp_rel
      by_cases e : u = t
      · rw [if_pos e]
        exact ⟨by omega, fun _ => rfl⟩
      · rw [if_neg e, decide_eq_false e, Bool.not_false, Bool.and_true]
        exact hK u i hi
    | some p =>
      dsimp only
      unfold sp_rel sp_pass
      by_cases e : u = t
      · rw [if_pos e]
        exact ⟨by omega, fun _ => rfl⟩
      · rw [if_neg e, decide_eq_false e, Bool.not_false, Bool.and_true]
        by_cases e2 : u = p
        · rw [if_pos e2]
          refine ⟨?_, fun z => ?_⟩
          · have a1 := (hK p i hi).1
            have a2 := (hK t i hi).1
            split <;> omega
          · rw [e2, (hpl p hp).2] at z
            cases z
        · rw [if_neg e2]
          exact hK u i hi
  · by_cases e : r = gv_n g
    · rw [e, kdn] at hk
      exact absurd hk (by decide)
    · rw [kd r (lt hr e)] at hk
      rw [by' r (lt hr e)] at ha
      exact x1 r (lt hr e) hk a ha
  · rw [liv, Bool.and_eq_true] at hu
    have := x2 u hu.1
    show tv_bg tv u ≤ gv_b g + (gv_n g + 1)
    omega
  · rw [liv] at hu ⊢
    simp only [Bool.and_eq_true, Bool.not_eq_true', decide_eq_false_iff_not] at hu ⊢
    have ha' : tv_lin tv u a = true := ha
    refine ⟨x3 u a hu.1 ha', fun e => ?_⟩
    rw [e] at ha'
    obtain ⟨w, w1, w2⟩ := hT.child u (liv_lt hu.1) hu.2 ha'
    have hlw := x3 u w hu.1 w1
    have : sp_busy tv t = true := bx_iff.mpr ⟨w, liv_lt hlw, by
      unfold sp_chl
      rw [hlw, decide_eq_true w2]
      rfl⟩
    rw [hb] at this
    cases this
  · by_cases e : r = gv_n g
    · rw [e, kdn] at hk
      exact absurd hk (by decide)
    · have hr2 := lt hr e
      rw [kd r hr2] at hk
      rw [by' r hr2] at hs ⊢
      have hs : updN (tv_st tv) t 3 (tv_top tv (gv_by g r)) = 3 := hs
      by_cases e2 : tv_top tv (gv_by g r) = t
      · refine ⟨gv_n g, show gv_n g < gv_n g + 1 by omega, kdn, ?_, ?_⟩
        · rw [byn]
          exact e2.symm
        · show gv_b g + gv_n g + 1 ≤ f
          have hby := hG.2.2.2.2.1 r hr2
          have htt := hT.top_top _ hby
          rw [e2] at htt
          cases hp : tv_par tv t with
          | none => rw [hf3 hp]; omega
          | some p =>
            obtain ⟨-, -, -, -, -, h2⟩ := hT.2.1 t htc
            obtain ⟨g1, g2, -, -⟩ := h2 p hp
            have := hT.top_lt p (by omega)
            omega
      · rw [updN_ne _ _ e2] at hs
        obtain ⟨y, y1, y2, y3, y4⟩ := x4 r hr2 hk hs
        refine ⟨y, show y < gv_n g + 1 by omega, ?_, ?_, show gv_b g + y + 1 ≤ f by omega⟩
        · rw [kd y y1]
          exact y2
        · rw [by' y y1]
          exact y3
  · show updN (tv_st tv) t 3 (gv_by (gv_f' (sp_app g 4 t 0) f) r) = 3
    by_cases e : r = gv_n g
    · rw [e, byn, updN_same]
    · rw [kd r (lt hr e)] at hk
      rw [by' r (lt hr e)] at hp ⊢
      by_cases e2 : gv_by g r = t
      · rw [e2, updN_same]
      · rw [updN_ne _ _ e2]
        exact x5 r (lt hr e) hk hp
  · by_cases e : r = gv_n g
    · rw [e, kdn] at hk
      exact absurd hk (by decide)
    · have hr2 := lt hr e
      rw [kd r hr2] at hk
      rw [by' r hr2] at hs
      rw [ud r hr2]
      have hs : updN (tv_st tv) t 3 (tv_top tv (gv_by g r)) = 4 := hs
      by_cases e2 : tv_top tv (gv_by g r) = t
      · rw [e2, updN_same] at hs
        exact absurd hs (by decide)
      · rw [updN_ne _ _ e2] at hs
        exact x6 r hr2 hk hs
  · have hop : sp_opens (gv_f' (sp_app g 4 t 0) f) (tv_st' tv (updN (tv_st tv) t 3)) ≤ sp_opens g tv := by
      show bc (gv_n g + 1) (sp_opn (gv_f' (sp_app g 4 t 0) f) (tv_st' tv (updN (tv_st tv) t 3))) ≤ bc (gv_n g) (sp_opn g tv)
      rw [bc]
      have e : sp_opn (gv_f' (sp_app g 4 t 0) f) (tv_st' tv (updN (tv_st tv) t 3)) (gv_n g) = false := by
        unfold sp_opn
        rw [kdn]
        rfl
      rw [e]
      refine bc_up (fun r hr ho => ?_)
      obtain ⟨o1, o2, o3⟩ := opn_kd ho
      rw [kd r hr] at o1
      rw [ud r hr] at o2
      rw [by' r hr, liv, Bool.and_eq_true] at o3
      unfold sp_opn
      rw [decide_eq_true o1, o2]
      exact o3.1
    show gv_n g + 1 + sp_opens (gv_f' (sp_app g 4 t 0) f) (tv_st' tv (updN (tv_st tv) t 3)) + sp_lives (tv_st' tv (updN (tv_st tv) t 3)) ≤ 300
    unfold iRm at hR
    omega
theorem o_commit (hk : k < 512) (a : Int32) (h : Rel k A G K N T MA MD MG ML MN MT) : wp_N_commit G K T a (fun r G' K' T' => wp_M_commit MG ML MT a (fun r' G2 K2 T2 => r = r' ∧ Rel (k + 1) A G' K' N T' MA MD G2 K2 MN T2)) := by
  have hup := h.up
  obtain ⟨v, g, tv, L, ⟨hA, hG, hT, hK⟩, ⟨mA, mG, mT, mK⟩, hV, hN, hb, htk⟩ := h
  have hv := hV.2.2.1
  have hc := hv.1
  have hbn := hV.bnd
  unfold wp_N_commit wp_N_refusalOf
  rcases jI_ex a with ha | ⟨t, htb, rfl⟩
  · refine k_T_isActive_neg ha ?_
    rw [if_pos (by rfl)]
    dsimp only
    rw [if_neg (by decide)]
    unfold wp_M_commit
    refine m_active_neg ha ?_
    rw [if_pos (by rfl)]
    exact ⟨rfl, hup⟩
  · refine k_T_isActive hT hv htb ?_
    cases q : sp_act tv t with
    | false =>
      rw [if_pos (by rfl)]
      dsimp only
      rw [if_neg (by decide)]
      unfold wp_M_commit
      refine m_active mT hv htb ?_
      rw [q, if_pos (by rfl)]
      exact ⟨rfl, hup⟩
    | true =>
      have hl := act_liv q
      have htc := liv_lt hl
      have hti : vp_in (jI t) 60 := jI_in htb (by omega)
      rw [if_neg (by decide)]
      refine k_T_isBusy hT hv htc ?_
      cases z : sp_busy tv t with
      | true =>
        rw [if_neg (by decide)]
        dsimp only
        rw [if_neg (by decide)]
        unfold wp_M_commit
        refine m_active mT hv htb ?_
        rw [q, if_neg (by decide)]
        refine m_busy mT hv htc ?_
        rw [z, if_neg (by decide)]
        exact ⟨rfl, hup⟩
      | false =>
        rw [if_pos (by rfl)]
        dsimp only
        rw [if_pos (by rfl)]
        have hn := (hV.commit hl z (f := gv_b g + gv_n g + 1) (by have := hV.2.1.2.2.1; omega) (Nat.le_refl _) (fun _ => rfl)).2
        have hnb : gv_n g < 2147483648 := by omega
        have hni : vp_in (jI (gv_n g)) 301 := jI_in hnb (by omega)
        -- the reference
        have ref : ∀ {post : Int32 → S_MG → S_ML → S_MT → Prop} {f : Nat}, (f = if tv_par tv t = none then gv_b g + gv_n g + 1 else gv_f g) → (∀ G2 K2 T2, RMG G2 (gv_f' (sp_app g 4 t 0) f) → RML K2 (sp_cmL tv L t) → RMT T2 (tv_st' tv (updN (tv_st tv) t 3)) → post 0 G2 K2 T2) → wp_M_commit MG ML MT (jI t) post := by
          intro post f hf hp
          unfold wp_M_commit
          refine m_active mT hv htb ?_
          rw [q, if_neg (by decide)]
          refine m_busy mT hv htc ?_
          rw [z, if_pos (by rfl)]
          refine m_append mG (by omega) (fun G2 hG2 => ?_)
          have eby : MG_by G2 (gv_n g) = jI t := by
            rw [hG2.2.2.2.2.1 _ (show gv_n g < gv_n g + 1 by omega)]
            exact congrArg jI (updN_same _ _ _)
          rw [jI_tn hnb, eby, jI_tn htb, mT.2.2.1 t htc]
          refine ⟨hni, hti, hti, ?_⟩
          have hT3 : RMT (MT_state' MT (upd (MT_state MT) t 3)) (tv_st' tv (updN (tv_st tv) t 3)) := mT.st (by decide)
          cases hp0 : tv_par tv t with
          | none =>
            rw [if_pos hp0] at hf
            refine lpi (fun n (s : Int32 × S_ML) => wp_M_commit_L51 (jI t) (pI none) _ n s.1 s.2) (fun d s => s.1 = jI d ∧ RML s.2 L) 0 ?_ ?_ 0 (by omega) (0, ML) ⟨rfl, mK⟩
            · intro d hd
              omega
            · intro s n hs
              obtain ⟨x, K2⟩ := s
              obtain ⟨hx, hK2⟩ := hs
              dsimp only at hx hK2 ⊢
              subst hx
              rw [wp_M_commit_L51, if_neg (by decide), if_pos (by decide), if_neg (by decide)]
              refine m_last hG2 (m_unlock hK2 (by omega) (fun K3 hK3 => ?_))
              refine hp _ K3 _ ?_ ?_ hT3
              · rw [hf]
                exact hG2.fl _
              · unfold sp_cmL
                rw [hp0]
                exact hK3
          | some p =>
            rw [if_neg (by rw [hp0]; intro w; cases w)] at hf
            have hpp := ((hv.2.1 t htc).2.2.2.2.2 p hp0).1
            have hpb : p < 2147483648 := by omega
            refine lpi (fun n (s : Int32 × S_ML) => wp_M_commit_L51 (jI t) (pI (some p)) _ n s.1 s.2) (fun d s => s.1 = jI d ∧ RML s.2 (fun u j => if j < d then sp_pass L t p u j else L u j)) 33 ?_ ?_ 0 (by omega) (0, ML) ⟨rfl, fun u j hu hj => ?_⟩
            · intro d hd s n hs hn2
              obtain ⟨x, K2⟩ := s
              obtain ⟨hx, hK2⟩ := hs
              dsimp only at hx hK2 ⊢
              subst hx
              have hK2 : ∀ u j, u < 60 → j < 33 → ML_locks K2 (33 * u + j) = jI (if j < d then sp_pass L t p u j else L u j) := hK2
              obtain ⟨e1, e2, e3⟩ := ix33 (show t < 60 by omega) hd
              obtain ⟨f1, f2, f3⟩ := ix33 (show p < 60 by omega) hd
              have l1 := (hV.2.2.2.1 t d hd).1
              have l2 := (hV.2.2.2.1 p d hd).1
              have fi : vp_in (jI (33 * p + d)) 1980 := jI_in f3 f2
              have nxt : ∀ y : Int32, y = jI (if L t d ≤ L p d then L p d else L t d) → RML (ML_locks' K2 (upd (ML_locks K2) (33 * p + d) y)) (fun u j => if j < d + 1 then sp_pass L t p u j else L u j) := by
                intro y hy u j hu hj
                show upd (ML_locks K2) (33 * p + d) y (33 * u + j) = jI (if j < d + 1 then sp_pass L t p u j else L u j)
                by_cases e : 33 * u + j = 33 * p + d
                · have hup' : u = p := by omega
                  have hjd : j = d := by omega
                  rw [e, upd_same, hy, hup', hjd, if_pos (show d < d + 1 by omega)]
                  unfold sp_pass
                  rw [if_pos rfl]
                · rw [upd_ne _ _ e, hK2 u j hu hj]
                  by_cases ej : j = d
                  · rw [ej, if_neg (by omega), if_pos (by omega)]
                    unfold sp_pass
                    rw [if_neg (fun w => e (by rw [w, ej]))]
                  · by_cases w : j < d
                    · rw [if_pos w, if_pos (by omega)]
                    · rw [if_neg w, if_neg (by omega)]
              rw [wp_M_commit_L51, if_neg (by rw [show (33 : Int32) = jI 33 from rfl, jI_le (by omega) (by omega)]; omega), show pI (some p) = jI p from rfl, if_neg (jI_nn hpb), e1, f1, jI_tn e3, jI_tn f3, hK2 t d (by omega) hd, hK2 p d (by omega) hd, if_neg (show ¬ d < d by omega), if_neg (show ¬ d < d by omega), ite_iff' (jI_le (by omega) (by omega)), jI_s]
              refine ⟨jI_in e3 e2, fi, ?_⟩
              by_cases w : L t d ≤ L p d
              · rw [if_pos w]
                exact ⟨fi, fi, hn2 (_, ML_locks' K2 (upd (ML_locks K2) (33 * p + d) _)) ⟨rfl, nxt _ (by rw [if_pos w])⟩⟩
              · rw [if_neg w]
                exact ⟨fi, hn2 (_, ML_locks' K2 (upd (ML_locks K2) (33 * p + d) _)) ⟨rfl, nxt _ (by rw [if_neg w])⟩⟩
            · intro s n hs
              obtain ⟨x, K2⟩ := s
              obtain ⟨hx, hK2⟩ := hs
              dsimp only at hx hK2 ⊢
              subst hx
              rw [wp_M_commit_L51, if_pos (by decide), show pI (some p) = jI p from rfl, if_pos (by rw [← jI_0, jI_le (by omega) hpb]; omega)]
              have hK3 : RML K2 (sp_pass L t p) := by
                intro u j hu hj
                have := hK2 u j hu hj
                rw [this]
                show jI (if j < 33 then sp_pass L t p u j else L u j) = _
                rw [if_pos hj]
              refine m_unlock hK3 (by omega) (fun K4 hK4 => ?_)
              refine hp _ K4 _ ?_ ?_ hT3
              · have ef : MG_flushed G2 = jI (gv_f g) := hG2.2.2.1
                rw [hf, ef]
                exact hG2.fl _
              · unfold sp_cmL
                rw [hp0]
                exact hK4
            · show ML_locks ML (33 * u + j) = jI (if j < 0 then sp_pass L t p u j else L u j)
              rw [if_neg (by omega)]
              exact mK u j hu hj
        -- the class
        refine k_G_append hG hn hV.2.1.ou (fun G1 hG1 => ?_)
        rw [jI_tn htb, hT.2.1 t htc]
        refine ⟨hti, hti, ?_⟩
        cases hp0 : tv_par tv t with
        | none =>
          rw [if_pos (by rfl)]
          refine k_G_last hG1 (k_K_release hK (by omega) (fun K1 hK1 => ?_))
          refine ref (f := gv_b g + gv_n g + 1) (by rw [if_pos hp0]) (fun G2 K2 T2 hG2 hK2 hT2 => ⟨rfl, ?_⟩)
          have hi := (hV.commit hl z (f := gv_b g + gv_n g + 1) (by have := hV.2.1.2.2.1; omega) (Nat.le_refl _) (fun _ => rfl)).1
          refine ⟨_, _, _, _, ⟨hA, hG1.fl _, k_T_setState hT, ?_⟩, ⟨mA, hG2, hT2, hK2⟩, hi, hN, show gv_b g ≤ _ by omega, by omega⟩
          unfold sp_cmL
          rw [hp0]
          exact hK1
        | some p =>
          have hpp := ((hv.2.1 t htc).2.2.2.2.2 p hp0).1
          have hpb : p < 2147483648 := by omega
          rw [show pI (some p) = jI p from rfl, if_neg (jI_m1 hpb)]
          refine k_K_passOn hK (fun u j hj => (hV.2.2.2.1 u j hj).1) (by omega) (by omega) (by omega) (fun K1 hK1 => k_K_release hK1 (by omega) (fun K2' hK2' => ?_))
          refine ref (f := gv_f g) (by rw [if_neg (by rw [hp0]; intro w; cases w)]) (fun G2 K2 T2 hG2 hK2 hT2 => ⟨rfl, ?_⟩)
          have hi := (hV.commit hl z (f := gv_f g) (Nat.le_refl _) (by have := hV.2.1.2.2.1; omega) (fun w => by rw [hp0] at w; cases w)).1
          refine ⟨_, _, _, _, ⟨hA, hG1, k_T_setState hT, ?_⟩, ⟨mA, hG2, hT2, hK2⟩, hi, hN, show gv_b g ≤ _ by omega, by omega⟩
          unfold sp_cmL
          rw [hp0]
          exact hK2'
end OPS5
