section OPS4
variable {A : S_A} {D : S_D} {G : S_G} {K : S_K} {N : S_N} {P : S_P} {T : S_T} {MA : S_MA} {MD : S_MD} {MF : S_MF} {MG : S_MG} {ML : S_ML} {MN : S_MN} {MP : S_MP} {MT : S_MT} {MV : S_MV} {k : Nat} {v : VP} {g : VG} {tv : VT} {L : VK} {t : Nat}
theorem iG.mono {c c' : Nat} (h : iG g c) (hc : c ≤ c') : iG g c' := by
  obtain ⟨i1, i2, i3, i4, i5, i6⟩ := h
  exact ⟨i1, i2, i3, i4, fun r hr => Nat.lt_of_lt_of_le (i5 r hr) hc, i6⟩
theorem iT.add (h : iT tv) {o : Option Nat} {l : Nat} (hc : tv_c tv < 60) (ho : ∀ q, o = some q → q < tv_c tv ∧ tv_dep tv q < 4) (hl : l < 2147483648) : iT (sp_addT tv o l) := by
  have o1 : ∀ u, u < tv_c tv → tv_st (sp_addT tv o l) u = tv_st tv u := fun u hu => updN_ne _ _ (by omega)
  have o2 : ∀ u, u < tv_c tv → tv_dep (sp_addT tv o l) u = tv_dep tv u := fun u hu => updN_ne _ _ (by omega)
  have o3 : ∀ u, u < tv_c tv → tv_top (sp_addT tv o l) u = tv_top tv u := fun u hu => updN_ne _ _ (by omega)
  have o4 : ∀ u, u < tv_c tv → tv_par (sp_addT tv o l) u = tv_par tv u := fun u hu => updN_ne _ _ (by omega)
  have o5 : ∀ u, u < tv_c tv → tv_bg (sp_addT tv o l) u = tv_bg tv u := fun u hu => updN_ne _ _ (by omega)
  have o6 : ∀ u, u < tv_c tv → tv_lin (sp_addT tv o l) u = tv_lin tv u := fun u hu => updN_ne _ _ (by omega)
  have n1 : tv_st (sp_addT tv o l) (tv_c tv) = 1 := updN_same _ _ _
  have n4 : tv_par (sp_addT tv o l) (tv_c tv) = o := updN_same _ _ _
  have n5 : tv_bg (sp_addT tv o l) (tv_c tv) = l := updN_same _ _ _
  refine ⟨show tv_c tv + 1 ≤ 60 by omega, fun u hu => ?_, h.2.2⟩
  have hu : u < tv_c tv + 1 := hu
  by_cases e : u = tv_c tv
  · rw [e, n1, n4, n5]
    cases o with
    | none =>
      have n2 : tv_dep (sp_addT tv none l) (tv_c tv) = 1 := updN_same _ _ _
      have n3 : tv_top (sp_addT tv none l) (tv_c tv) = tv_c tv := updN_same _ _ _
      have n6 : tv_lin (sp_addT tv none l) (tv_c tv) = fun a => decide (tv_c tv = a) || false := updN_same _ _ _
      rw [n2, n3, n6]
      exact ⟨Or.inl rfl, by omega, by omega, hl, fun _ => ⟨rfl, rfl, fun a => (by simp)⟩, fun p z => (by cases z)⟩
    | some q =>
      obtain ⟨hq, hd⟩ := ho q rfl
      have n2 : tv_dep (sp_addT tv (some q) l) (tv_c tv) = tv_dep tv q + 1 := updN_same _ _ _
      have n3 : tv_top (sp_addT tv (some q) l) (tv_c tv) = tv_top tv q := updN_same _ _ _
      have n6 : tv_lin (sp_addT tv (some q) l) (tv_c tv) = fun a => decide (tv_c tv = a) || tv_lin tv q a := updN_same _ _ _
      rw [n2, n3, n6]
      refine ⟨Or.inl rfl, by omega, by omega, hl, fun z => (by cases z), fun p z => ?_⟩
      cases z
      rw [o2 q hq, o3 q hq, o6 q hq]
      exact ⟨hq, rfl, rfl, fun a => rfl⟩
  · have hu2 : u < tv_c tv := by omega
    rw [o1 u hu2, o2 u hu2, o3 u hu2, o4 u hu2, o5 u hu2, o6 u hu2]
    obtain ⟨a1, a2, a3, a4, a5, a6⟩ := h.2.1 u hu2
    refine ⟨a1, a2, a3, a4, a5, fun p z => ?_⟩
    obtain ⟨b1, b2, b3, b4⟩ := a6 p z
    have hp2 : p < tv_c tv := by omega
    rw [o2 p hp2, o3 p hp2, o6 p hp2]
    exact ⟨b1, b2, b3, b4⟩
theorem iV.begin (h : iV v g tv L) {o : Option Nat} (hc : tv_c tv < 60) (ho : ∀ q, o = some q → sp_act tv q = true ∧ tv_dep tv q < 4) (hr : sp_room g tv = true) : iV v (sp_app g 1 (tv_c tv) (pI o)) (sp_addT tv o (gv_b g + gv_n g + 1)) L ∧ gv_n g < 300 := by
  have hbn := h.bnd
  obtain ⟨hP, hG, hT, hK, ⟨x1, x2, x3, x4, x5, x6⟩, hR⟩ := h
  have hroom : gv_n g + sp_opens g tv + sp_lives tv + 2 ≤ 300 := by
    unfold sp_room at hr
    simpa using hr
  have hn : gv_n g < 300 := by omega
  have ho2 : ∀ q, o = some q → q < tv_c tv ∧ tv_dep tv q < 4 := fun q hq => ⟨liv_lt (act_liv (ho q hq).1), (ho q hq).2⟩
  have hT2 := hT.add (l := gv_b g + gv_n g + 1) hc ho2 (by omega)
  have lt : ∀ {r : Nat}, r < gv_n g + 1 → ¬ r = gv_n g → r < gv_n g := fun h1 h2 => by omega
  have liv : ∀ u, sp_liv (sp_addT tv o (gv_b g + gv_n g + 1)) u = (sp_liv tv u || decide (u = tv_c tv)) := by
    intro u
    unfold sp_liv
    show (decide (u < tv_c tv + 1) && (decide (updN (tv_st tv) (tv_c tv) 1 u = 1) || decide (updN (tv_st tv) (tv_c tv) 1 u = 2))) = _
    by_cases e : u = tv_c tv
    · rw [e, updN_same]
      simp
    · rw [updN_ne _ _ e, decide_eq_false e, Bool.or_false]
      congr 1
      rw [decide_eq_decide]
      omega
  have st' : ∀ u, u < tv_c tv → tv_st (sp_addT tv o (gv_b g + gv_n g + 1)) u = tv_st tv u := fun u hu => updN_ne _ _ (by omega)
  have top' : ∀ u, u < tv_c tv → tv_top (sp_addT tv o (gv_b g + gv_n g + 1)) u = tv_top tv u := fun u hu => updN_ne _ _ (by omega)
  have lin' : ∀ u, u < tv_c tv → tv_lin (sp_addT tv o (gv_b g + gv_n g + 1)) u = tv_lin tv u := fun u hu => updN_ne _ _ (by omega)
  have hby := hG.2.2.2.2.1
  refine ⟨⟨hP.up (by show gv_n g ≤ gv_n g + 1; omega), (hG.mono (show tv_c tv ≤ tv_c tv + 1 by omega)).app hn (by omega) (by decide) (fun z => absurd z (by decide)), hT2, fun u i hi => ⟨(hK u i hi).1, fun hd => ?_⟩, ⟨fun r hr hk a ha => ?_, fun u hu => ?_, fun u a hu ha => ?_, fun r hr hk hs => ?_, fun r hr hk hp => ?_, fun r hr hk hs => ?_⟩, ?_⟩, hn⟩
  · rw [liv, Bool.or_eq_false_iff] at hd
    exact (hK u i hi).2 hd.1
  · by_cases e : r = gv_n g
    · have hk : updN (gv_kd g) (gv_n g) 1 r = 2 := hk
      rw [e, updN_same] at hk
      exact absurd hk (by decide)
    · have hr2 := lt hr e
      rw [app_kd hr2] at hk
      rw [app_by hr2, lin' _ (hby r hr2)] at ha
      have hle := hT.lin_le _ (hby r hr2) a ha
      have := hby r hr2
      show updN (tv_bg tv) (tv_c tv) _ a < _
      rw [updN_ne _ _ (by omega)]
      exact x1 r hr2 hk a ha
  · show updN (tv_bg tv) (tv_c tv) (gv_b g + gv_n g + 1) u ≤ gv_b g + (gv_n g + 1)
    by_cases e : u = tv_c tv
    · rw [e, updN_same]
      omega
    · rw [updN_ne _ _ e]
      rw [liv, decide_eq_false e, Bool.or_false] at hu
      have := x2 u hu
      omega
  · rw [liv] at hu ⊢
    by_cases e : u = tv_c tv
    · by_cases e2 : a = tv_c tv
      · simp [e2]
      · rw [e] at ha
        cases o with
        | none =>
          rw [show tv_lin (sp_addT tv none (gv_b g + gv_n g + 1)) (tv_c tv) = fun a => decide (tv_c tv = a) || false from updN_same _ _ _] at ha
          simp at ha
          exact absurd ha.symm e2
        | some q =>
          rw [show tv_lin (sp_addT tv (some q) (gv_b g + gv_n g + 1)) (tv_c tv) = fun a => decide (tv_c tv = a) || tv_lin tv q a from updN_same _ _ _] at ha
          dsimp only at ha
          rw [decide_eq_false (fun z => e2 z.symm), Bool.false_or] at ha
          rw [x3 q a (act_liv (ho q rfl).1) ha]
          rfl
    · rw [decide_eq_false e, Bool.or_false] at hu
      have hu2 := liv_lt hu
      rw [lin' u hu2] at ha
      rw [x3 u a hu ha]
      rfl
  · by_cases e : r = gv_n g
    · have hk : updN (gv_kd g) (gv_n g) 1 r = 2 := hk
      rw [e, updN_same] at hk
      exact absurd hk (by decide)
    · have hr2 := lt hr e
      have htl := hT.top_lt _ (hby r hr2)
      have hb2 := hby r hr2
      rw [app_kd hr2] at hk
      rw [app_by hr2, top' _ hb2, st' _ (by omega)] at hs
      obtain ⟨y, y1, y2, y3, y4⟩ := x4 r hr2 hk hs
      refine ⟨y, show y < gv_n g + 1 by omega, ?_, ?_, y4⟩
      · rw [app_kd y1]
        exact y2
      · rw [app_by y1, app_by hr2, top' _ hb2]
        exact y3
  · by_cases e : r = gv_n g
    · have hk : updN (gv_kd g) (gv_n g) 1 r = 4 := hk
      rw [e, updN_same] at hk
      exact absurd hk (by decide)
    · have hr2 := lt hr e
      have hb2 := hby r hr2
      rw [app_kd hr2] at hk
      rw [app_by hr2] at hp ⊢
      have hp : updN (tv_par tv) (tv_c tv) o (gv_by g r) = none := hp
      rw [updN_ne _ _ (by omega)] at hp
      rw [st' _ hb2]
      exact x5 r hr2 hk hp
  · by_cases e : r = gv_n g
    · have hk : updN (gv_kd g) (gv_n g) 1 r = 2 := hk
      rw [e, updN_same] at hk
      exact absurd hk (by decide)
    · have hr2 := lt hr e
      have htl := hT.top_lt _ (hby r hr2)
      have hb2 := hby r hr2
      rw [app_kd hr2] at hk
      rw [app_by hr2, top' _ hb2, st' _ (by omega)] at hs
      rw [sp_ud_app hG.ou (by omega), if_pos hr2]
      exact x6 r hr2 hk hs
  · have hop : sp_opens (sp_app g 1 (tv_c tv) (pI o)) (sp_addT tv o (gv_b g + gv_n g + 1)) = sp_opens g tv := by
      refine bc_ext (fun r hr2 => ?_) ?_
      · unfold sp_opn
        have htl := hT.top_lt _ (hby r hr2)
        have hb2 := hby r hr2
        rw [app_kd hr2, app_by hr2, sp_ud_app hG.ou (by omega), if_pos hr2, top' _ hb2, liv, decide_eq_false (show ¬ tv_top tv (gv_by g r) = tv_c tv by omega), Bool.or_false]
      · unfold sp_opn
        rw [show gv_kd (sp_app g 1 (tv_c tv) (pI o)) (gv_n g) = 1 from updN_same _ _ _]
        rfl
    have hlv : sp_lives (sp_addT tv o (gv_b g + gv_n g + 1)) = sp_lives tv + 1 := by
      show bc (tv_c tv + 1) (sp_liv (sp_addT tv o (gv_b g + gv_n g + 1))) = _
      rw [bc, liv, decide_eq_true rfl, Bool.or_true, bc_congr (Q := sp_liv tv) (fun u hu => by rw [liv, decide_eq_false (by omega), Bool.or_false])]
      rfl
    show gv_n g + 1 + _ + _ ≤ 300
    rw [hop, hlv]
    omega
theorem o_begin (hk : k < 512) (a : Int32) (h : Rel k A G K N T MA MD MG ML MN MT) : wp_N_begin G T a (fun r G' T' => wp_M_begin MG MT a (fun r' G2 T2 => r = r' ∧ Rel (k + 1) A G' K N T' MA MD G2 ML MN T2)) := by
  have hup := h.up
  obtain ⟨v, g, tv, L, ⟨hA, hG, hT, hK⟩, ⟨mA, mG, mT, mK⟩, hV, hN, hb, htk⟩ := h
  have hv := hV.2.2.1
  have hc := hv.1
  have hbn := hV.bnd
  have hn3 := hV.2.1.1
  have hby := hV.2.1.2.2.2.2.1
  have hcb : tv_c tv < 2147483648 := by omega
  -- the end of both, for a parent o that may be
  have good : ∀ o : Option Nat, a = pI o → tv_c tv < 60 → (∀ q, o = some q → sp_act tv q = true ∧ tv_dep tv q < 4) → ∀ {post : Int32 → S_MG → S_MT → Prop} , (sp_room g tv = false → post (-5) MG MT) → (sp_room g tv = true → ∀ G2 T2, RMG G2 (sp_app g 1 (tv_c tv) (pI o)) → RMT T2 (sp_addT tv o (gv_b g + gv_n g + 1)) → post (jI (tv_c tv)) G2 T2) → wp_M_full MG MT (fun r16 => if r16 = 0 then vp_in (MT_many MT) 60 ∧ vp_in (MT_many MT) 60 ∧ wp_M_append MG 1 (MT_many MT) a (fun r17 MG18 => wp_M_last MG18 (fun r19 => vp_in (MT_many MT) 60 ∧ vp_in r17 301 ∧ post ((MG_by MG18) (Int32.toNatClampNeg r17)) MG18 (MT_many' (MT_began' (MT_parent' (MT_state' MT (upd (MT_state MT) (Int32.toNatClampNeg (MT_many MT)) 1)) (upd (MT_parent MT) (Int32.toNatClampNeg (MT_many MT)) a)) (upd (MT_began MT) (Int32.toNatClampNeg (MT_many MT)) r19)) ((MT_many MT) + 1)))) else post (-5) MG MT) := by
    intro o hao hc60 ho post h1 h2
    refine m_full mG mT hv hV.2.1 ?_
    cases q : sp_room g tv with
    | false =>
      rw [if_neg (by decide)]
      exact h1 q
    | true =>
      rw [if_pos (by rfl), mT.1, jI_tn hcb, hao]
      have hci : vp_in (jI (tv_c tv)) 60 := jI_in hcb hc60
      have hn : gv_n g < 300 := (hV.begin hc60 ho q).2
      have hnb : gv_n g < 2147483648 := by omega
      refine ⟨hci, hci, m_append mG (by omega) (fun G2 hG2 => m_last hG2 ⟨hci, jI_in hnb (by omega), ?_⟩)⟩
      have eby : MG_by G2 (gv_n g) = jI (tv_c tv) := by
        rw [hG2.2.2.2.2.1 _ (show gv_n g < gv_n g + 1 by omega)]
        exact congrArg jI (updN_same _ _ _)
      rw [jI_tn hnb, eby]
      refine h2 q _ _ hG2 ?_
      obtain ⟨t1, t2, t3, t4, t5⟩ := mT
      refine ⟨jI_s _, up_n (fun x => x) t2 rfl, up_n pI t3 rfl, up_n jI t4 rfl, fun u hu hs => ?_⟩
      have hu : u < tv_c tv + 1 := hu
      have hs : updN (tv_st tv) (tv_c tv) 1 u = 2 := hs
      by_cases e : u = tv_c tv
      · rw [e, updN_same] at hs
        exact absurd hs (by decide)
      · rw [updN_ne _ _ e] at hs
        exact t5 u (by omega) hs
  have refNo : ∀ {post : Int32 → S_MG → S_MT → Prop}, post (-1) MG MT → ((∃ q, a = jI q ∧ q < 2147483648 ∧ (sp_act tv q = false ∨ ¬ tv_dep tv q < 4)) ∨ (a < 0 ∧ ¬ a = -1) ∨ tv_c tv = 60) → wp_M_begin MG MT a post := by
    intro post hp hno
    unfold wp_M_begin
    by_cases e1 : a = -1
    · rw [if_pos e1]
      have : tv_c tv = 60 := by
        rcases hno with ⟨q, z, zb, -⟩ | ⟨-, z⟩ | z
        · rw [z] at e1
          exact absurd e1 (jI_m1 zb)
        · exact absurd e1 z
        · exact z
      rw [mT.1, this, if_pos (by rfl)]
      exact hp
    · rw [if_neg e1]
      rcases jI_ex a with ha | ⟨q, hqb, rfl⟩
      · refine m_active_neg ha ?_
        rw [if_pos (by rfl)]
        exact hp
      · refine m_active mT hv hqb ?_
        cases z : sp_act tv q with
        | false =>
          rw [if_pos (by rfl)]
          exact hp
        | true =>
          rw [if_neg (by decide), mT.1]
          by_cases z60 : tv_c tv = 60
          · rw [z60, if_pos (by rfl)]
            exact hp
          · rw [if_neg (by rw [show (60 : Int32) = jI 60 from rfl, jI_eq hcb (by omega)]; exact z60), if_neg e1]
            refine m_depth mT hv (liv_lt (act_liv z)) ?_
            have hd : ¬ tv_dep tv q < 4 := by
              rcases hno with ⟨q', w, wb, w2⟩ | ⟨w, -⟩ | w
              · have := (jI_eq hqb wb).mp w
                subst this
                rcases w2 with w2 | w2
                · rw [z] at w2
                  cases w2
                · exact w2
              · exact absurd w (jI_nn hqb)
              · exact absurd w z60
            have hd4 := (hv.2.1 q (liv_lt (act_liv z))).2.2.1
            rw [if_neg (by rw [show (4 : Int32) = jI 4 from rfl, jI_lt (by omega) (by omega)]; exact hd)]
            exact hp
  unfold wp_N_begin
  refine jn_in (fun jk => ∀ (b : Bool), (b = false → (∃ q, a = jI q ∧ q < 2147483648 ∧ (sp_act tv q = false ∨ ¬ tv_dep tv q < 4)) ∨ (a < 0 ∧ ¬ a = -1)) → (b = true → a = -1 ∨ ∃ q, a = jI q ∧ q < 2147483648 ∧ sp_act tv q = true ∧ tv_dep tv q < 4) → jk (b2i b)) ?_ ?_
  · intro b hb0 hb1
    cases b with
    | false =>
      rw [if_pos (by rfl)]
      refine refNo ⟨rfl, hup⟩ ?_
      rcases hb0 rfl with z | z
      · exact Or.inl z
      · exact Or.inr (Or.inl z)
    | true =>
      rw [if_neg (by decide), hT.1]
      by_cases h60 : tv_c tv < 60
      · rw [if_pos (by rw [show (60 : Int32) = jI 60 from rfl, jI_lt hcb (by omega)]; exact h60)]
        obtain ⟨o, hao, ho⟩ : ∃ o : Option Nat, a = pI o ∧ ∀ q, o = some q → sp_act tv q = true ∧ tv_dep tv q < 4 := by
          rcases hb1 rfl with z | ⟨q, z, zb, z1, z2⟩
          · exact ⟨none, z, fun q hq => by cases hq⟩
          · exact ⟨some q, z, fun q' hq => by cases hq; exact ⟨z1, z2⟩⟩
        refine k_N_hasRoomForOne hG hT hv hn3 hby ?_
        have mref : ∀ {post : Int32 → S_MG → S_MT → Prop}, wp_M_full MG MT (fun r16 => if r16 = 0 then vp_in (MT_many MT) 60 ∧ vp_in (MT_many MT) 60 ∧ wp_M_append MG 1 (MT_many MT) a (fun r17 MG18 => wp_M_last MG18 (fun r19 => vp_in (MT_many MT) 60 ∧ vp_in r17 301 ∧ post ((MG_by MG18) (Int32.toNatClampNeg r17)) MG18 (MT_many' (MT_began' (MT_parent' (MT_state' MT (upd (MT_state MT) (Int32.toNatClampNeg (MT_many MT)) 1)) (upd (MT_parent MT) (Int32.toNatClampNeg (MT_many MT)) a)) (upd (MT_began MT) (Int32.toNatClampNeg (MT_many MT)) r19)) ((MT_many MT) + 1)))) else post (-5) MG MT) → wp_M_begin MG MT a post := by
          intro post hp
          unfold wp_M_begin
          by_cases e1 : a = -1
          · rw [if_pos e1, if_neg (by rw [mT.1, show (60 : Int32) = jI 60 from rfl, jI_eq hcb (by omega)]; omega), if_pos e1]
            exact hp
          · rw [if_neg e1]
            rcases hb1 rfl with z | ⟨q, z, zb, z1, z2⟩
            · exact absurd z e1
            · subst z
              refine m_active mT hv zb ?_
              have hd4 := (hv.2.1 q (liv_lt (act_liv z1))).2.2.1
              rw [z1, if_neg (by decide), if_neg (by rw [mT.1, show (60 : Int32) = jI 60 from rfl, jI_eq hcb (by omega)]; omega), if_neg e1]
              refine m_depth mT hv (liv_lt (act_liv z1)) ?_
              rw [if_pos (by rw [show (4 : Int32) = jI 4 from rfl, jI_lt (by omega) (by omega)]; exact z2)]
              exact hp
        cases q : sp_room g tv with
        | false =>
          rw [if_pos (by rfl)]
          exact mref (post := fun r' G2 T2 => (-5 : Int32) = r' ∧ Rel (k + 1) A G K N T MA MD G2 ML MN T2) (good o hao h60 ho (post := fun r' G2 T2 => (-5 : Int32) = r' ∧ Rel (k + 1) A G K N T MA MD G2 ML MN T2) (fun _ => ⟨rfl, hup⟩) (fun z => by rw [q] at z; cases z))
        | true =>
          rw [if_neg (by decide)]
          obtain ⟨b1, b2⟩ := hV.begin h60 ho q
          refine k_G_last hG ?_
          rw [jI_s, hao]
          refine k_T_add hT hv h60 (fun q' hq' => liv_lt (act_liv (ho q' hq').1)) (fun T' hT' => k_G_append hG b2 hV.2.1.ou (fun G' hG' => ?_))
          rw [← hao]
          refine mref (post := fun r' G2 T2 => jI (tv_c tv) = r' ∧ Rel (k + 1) A G' K N T' MA MD G2 ML MN T2) (good o hao h60 ho (post := fun r' G2 T2 => jI (tv_c tv) = r' ∧ Rel (k + 1) A G' K N T' MA MD G2 ML MN T2) (fun z => by rw [q] at z; cases z) (fun _ G2 T2 hG2 hT2 => ⟨rfl, ?_⟩))
          exact ⟨_, _, _, _, ⟨hA, hG', hT', hK⟩, ⟨mA, hG2, hT2, mK⟩, b1, hN, show gv_b g ≤ _ by omega, by omega⟩
      · rw [if_neg (by rw [show (60 : Int32) = jI 60 from rfl, jI_lt hcb (by omega)]; exact h60)]
        exact refNo ⟨rfl, hup⟩ (Or.inr (Or.inr (by omega)))
  · intro jk hjk
    by_cases e1 : a = -1
    · rw [if_pos e1]
      exact hjk true (fun z => by cases z) (fun _ => Or.inl e1)
    · rw [if_neg e1]
      rcases jI_ex a with ha | ⟨q, hqb, rfl⟩
      · refine k_T_isActive_neg ha ?_
        rw [if_pos (by rfl)]
        exact hjk false (fun _ => Or.inr ⟨ha, e1⟩) (fun z => by cases z)
      · refine k_T_isActive hT hv hqb ?_
        cases z : sp_act tv q with
        | false =>
          rw [if_pos (by rfl)]
          exact hjk false (fun _ => Or.inl ⟨q, rfl, hqb, Or.inl z⟩) (fun z => by cases z)
        | true =>
          have hqc := liv_lt (act_liv z)
          have hd4 := (hv.2.1 q hqc).2.2.1
          rw [if_neg (by decide), jI_tn hqb, hT.2.2.2.1 q hqc, show (4 : Int32) = jI 4 from rfl, ite_iff' (jI_le (by omega) (by omega))]
          refine ⟨jI_in hqb (by omega), ?_⟩
          by_cases w : 4 ≤ tv_dep tv q
          · rw [if_pos w]
            exact hjk false (fun _ => Or.inl ⟨q, rfl, hqb, Or.inr (by omega)⟩) (fun z => by cases z)
          · rw [if_neg w]
            exact hjk true (fun z => by cases z) (fun _ => Or.inr ⟨q, rfl, hqb, z, by omega⟩)
end OPS4
