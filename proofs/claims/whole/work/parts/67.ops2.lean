section OPS2
variable {A : S_A} {D : S_D} {G : S_G} {K : S_K} {N : S_N} {P : S_P} {T : S_T} {MA : S_MA} {MD : S_MD} {MF : S_MF} {MG : S_MG} {ML : S_ML} {MN : S_MN} {MP : S_MP} {MT : S_MT} {MV : S_MV} {k : Nat} {v : VP} {g : VG} {tv : VT} {L : VK} {t : Nat}
/-- the clock and the log's base behind a request -/
theorem brk_inv (t : Nat) : ∀ n (s : VP × VG × VT × VK), iV s.1 s.2.1 s.2.2.1 s.2.2.2 → iV (sp_brk t n s).1 (sp_brk t n s).2.1 (sp_brk t n s).2.2.1 (sp_brk t n s).2.2.2 ∧ gv_b (sp_brk t n s).2.1 = gv_b s.2.1 ∧ pv_tk (sp_brk t n s).1 + gv_n s.2.1 ≤ pv_tk s.1 + gv_n (sp_brk t n s).2.1 := by
  intro n
  induction n with
  | zero => exact fun s h => ⟨h, rfl, Nat.le_refl _⟩
  | succ n ih =>
    intro s h
    have step : sp_brk t (n + 1) s = match sp_vict s.1 s.2.2.2 s.2.2.1 t with
        | none => s
        | some x => sp_brk t n ((sp_abort s.2.2.1 s.2.2.2 s.1 s.2.1 x).2.1, (sp_abort s.2.2.1 s.2.2.2 s.1 s.2.1 x).2.2.1, (sp_abort s.2.2.1 s.2.2.2 s.1 s.2.1 x).2.2.2.1, (sp_abort s.2.2.1 s.2.2.2 s.1 s.2.1 x).2.2.2.2) := rfl
    cases z : sp_vict s.1 s.2.2.2 s.2.2.1 t with
    | none =>
      rw [z] at step
      rw [step]
      exact ⟨h, rfl, Nat.le_refl _⟩
    | some x =>
      rw [z] at step
      rw [step]
      obtain ⟨x1, x2⟩ := vict_lt z
      have hab := h.abort x1
      have htk := abort_tk h x1
      obtain ⟨i1, i2, i3⟩ := ih ((sp_abort s.2.2.1 s.2.2.2 s.1 s.2.1 x).2.1, (sp_abort s.2.2.1 s.2.2.2 s.1 s.2.1 x).2.2.1, (sp_abort s.2.2.1 s.2.2.2 s.1 s.2.1 x).2.2.2.1, (sp_abort s.2.2.1 s.2.2.2 s.1 s.2.1 x).2.2.2.2) hab.1
      refine ⟨i1, ?_, ?_⟩
      · rw [i2]
        have hU := uo_inv (L := s.2.2.2) (pt := 0) x1 (gv_n s.2.1) (0, s.1, s.2.1) (Nat.le_refl _) h
        have hF : ∀ u, sp_fall s.2.2.1 x u = true → u < tv_c s.2.2.1 := by
          intro u hu
          unfold sp_fall at hu
          simp only [Bool.and_eq_true] at hu
          exact liv_lt hu.1
        have e1 := (abG_facts hF (tv_c s.2.2.1) _ hab.2 hU.1.2.1).2.1.1
        have e2 := hU.2.1.1
        exact e1.trans e2
      · dsimp only at i3 ⊢
        omega
theorem req_inv (h : iV v g tv L) (ht : sp_liv tv t = true) (la : Int32) : iV (sp_request v g tv L la t).2.1 (sp_request v g tv L la t).2.2.1 (sp_request v g tv L la t).2.2.2.1 (sp_request v g tv L la t).2.2.2.2.1 ∧ gv_b (sp_request v g tv L la t).2.2.1 = gv_b g ∧ pv_tk (sp_request v g tv L la t).2.1 ≤ pv_tk v + 400 := by
  have hv := h.2.2.1
  have hc := hv.1
  have htc := liv_lt ht
  have hm := (sp_pm_le v tv t).1
  obtain ⟨r1, r2, r3⟩ := hv.2.2 t (by omega)
  have hlo : tv_lo tv t < 32 := by omega
  unfold sp_request
  by_cases q : sp_fr L tv t (sp_pm v tv t) (sp_its v tv t) = (sp_its v tv t).length
  · rw [if_pos q]
    dsimp only
    have hg1 := h.grs (n := sp_fr L tv t (sp_pm v tv t) (sp_its v tv t)) (its := sp_its v tv t) ht (Or.inl (rfl : (1 : Int32) = 1)) hm
    have hl1 : sp_liv (tv_st' tv (updN (tv_st tv) t 1)) t = true := by
      rw [liv_12 ht (Or.inl rfl)]
      exact ht
    obtain ⟨tv1, htv1⟩ : ∃ tv1, tv1 = tv_st' tv (updN (tv_st tv) t 1) := ⟨_, rfl⟩
    have e1 : tv_rk tv1 t = tv_rk tv t := by rw [htv1]
    have e2 : tv_lo tv1 t = tv_lo tv t := by rw [htv1]
    have e3 : tv_hi tv1 t = tv_hi tv t := by rw [htv1]
    rw [← htv1] at hg1 hl1 ⊢
    unfold sp_carry
    rw [e1, e2, e3]
    by_cases k0 : tv_rk tv t = 0
    · rw [if_pos k0]
      refine ⟨hg1.touch (by omega), rfl, ?_⟩
      have := tP_tk (v := v) (tv_lo tv t / 4)
      dsimp only
      omega
    · rw [if_neg k0]
      by_cases k1 : tv_rk tv t = 1
      · rw [if_pos k1]
        cases z : sp_room g tv1 with
        | false => exact ⟨hg1, rfl, by show pv_tk v ≤ _; omega⟩
        | true =>
          refine ⟨(hg1.upd (now := true) hl1 hlo (fun w => by cases w) z).1, rfl, ?_⟩
          have : pv_tk (sp_updP v g (tv_lo tv t) true (tv_nv tv1 t)) = pv_tk v + 1 := tP_tk (v := v) (tv_lo tv t / 4)
          show pv_tk (sp_updP v g (tv_lo tv t) true (tv_nv tv1 t)) ≤ _
          omega
      · rw [if_neg k1]
        by_cases k2 : tv_rk tv t = 2
        · rw [if_pos k2]
          cases w : pv_th v (tv_lo tv t) with
          | false => exact ⟨hg1, rfl, by show pv_tk v ≤ _; omega⟩
          | true =>
            cases z : sp_room g tv1 with
            | false => exact ⟨hg1, rfl, by show pv_tk v ≤ _; omega⟩
            | true =>
              refine ⟨(hg1.upd (now := false) hl1 hlo (fun _ => rfl) z).1, rfl, ?_⟩
              have : pv_tk (sp_updP v g (tv_lo tv t) false 0) = pv_tk v + 1 := tP_tk (v := v) (tv_lo tv t / 4)
              show pv_tk (sp_updP v g (tv_lo tv t) false 0) ≤ _
              omega
        · rw [if_neg k2]
          obtain ⟨t1, -, -, t4⟩ := ts_inv (g := g) (tv_hi tv t / 4 + 1 - tv_lo tv t / 4) (tv_lo tv t / 4) (v, gv_f g) (by omega) hg1
          refine ⟨t1, rfl, ?_⟩
          dsimp only at t4 ⊢
          omega
  · rw [if_neg q]
    have hg2 := h.grs (n := sp_fr L tv t (sp_pm v tv t) (sp_its v tv t)) (its := sp_its v tv t) ht (Or.inr (rfl : (2 : Int32) = 2)) hm
    obtain ⟨i1, i2, i3⟩ := brk_inv t 60 (v, g, tv_st' tv (updN (tv_st tv) t 2), sp_grs L t (sp_pm v tv t) (sp_its v tv t) (sp_fr L tv t (sp_pm v tv t) (sp_its v tv t))) hg2
    refine ⟨i1, i2, ?_⟩
    have hn := i1.2.1.1
    dsimp only at i3 ⊢
    omega
theorem iV.req (h : iV v g tv L) {kd lo hi : Nat} {x : Int32} (hkd : kd < 4) (hlo : lo ≤ hi) (hhi : hi < 32) : iV v g (sp_req tv t kd lo hi x) L := by
  obtain ⟨hP, hG, hT, hK, hX, hR⟩ := h
  refine ⟨hP, hG, ⟨hT.1, hT.2.1, fun u hu => ?_⟩, hK, hX, hR⟩
  show updN (tv_rk tv) t kd u < 4 ∧ updN (tv_lo tv) t lo u ≤ updN (tv_hi tv) t hi u ∧ updN (tv_hi tv) t hi u < 32
  by_cases e : u = t
  · rw [e, updN_same, updN_same, updN_same]
    exact ⟨hkd, hlo, hhi⟩
  · rw [updN_ne _ _ e, updN_ne _ _ e, updN_ne _ _ e]
    exact hT.2.2 u hu
theorem RMT.req (h : RMT MT tv) {kd lo hi : Nat} {x : Int32} (hs : tv_st tv t = 1) : RMT MT (sp_req tv t kd lo hi x) := by
  obtain ⟨h1, h2, h3, h4, h5⟩ := h
  refine ⟨h1, h2, h3, h4, fun u hu hsu => ?_⟩
  have hsu : tv_st tv u = 2 := hsu
  have e : ¬ u = t := by
    intro z
    rw [z, hs] at hsu
    exact absurd hsu (by decide)
  obtain ⟨a1, a2, a3⟩ := h5 u hu hsu
  refine ⟨?_, ?_, ?_⟩
  · show MT_asks MT u = jI (updN (tv_rk tv) t kd u + 1)
    rw [updN_ne _ _ e]
    exact a1
  · show MT_first MT u = jI (updN (tv_lo tv) t lo u)
    rw [updN_ne _ _ e]
    exact a2
  · rw [a3]
    show sp_sec tv u = (if updN (tv_rk tv) t kd u = 3 then jI (updN (tv_hi tv) t hi u) else if updN (tv_rk tv) t kd u = 1 then updN (tv_nv tv) t x u else 0)
    rw [updN_ne _ _ e, updN_ne _ _ e, updN_ne _ _ e]
    rfl
/-- the reference's request behind the class's -/
theorem o_end {A' : S_A} {G' : S_G} {K' : S_K} {T' : S_T} (hk : k < 512) (mA : RMA MA MD v) (mG : RMG MG g) (mT : RMT MT tv) (mK : RML ML L) (hV : iV v g tv L) (hN : MN = N) (hb : gv_b g ≤ 300 * k) (htk : pv_tk v ≤ 1000 * k) (ht : sp_liv tv t = true)
    (hA' : RA A' (sp_request v g tv L N t).2.1) (hG' : RG G' (sp_request v g tv L N t).2.2.1) (hT' : RT T' (sp_request v g tv L N t).2.2.2.1) (hK' : RK K' (sp_request v g tv L N t).2.2.2.2.1) :
    wp_M_request MA MD MF MG ML MN MP MT MV (jI t) (jI (tv_rk tv t + 1)) (jI (tv_lo tv t)) (sp_sec tv t) (fun r' A2 D2 _ G2 K2 N2 _ T2 _ => (sp_request v g tv L N t).1 = r' ∧ Rel (k + 1) A' G' K' (sp_request v g tv L N t).2.2.2.2.2 T' A2 D2 G2 K2 N2 T2) := by
  obtain ⟨i1, i2, i3⟩ := req_inv hV ht N
  subst hN
  refine m_request mA mG mT mK hV ht (by omega) (fun A2 D2 F2 G2 K2 P2 T2 V2 hA2 hG2 hT2 hK2 => ⟨rfl, ?_⟩)
  exact ⟨_, _, _, _, ⟨hA', hG', hT', hK'⟩, ⟨hA2, hG2, hT2, hK2⟩, i1, rfl, by omega, by omega⟩
theorem m_active_any {post : Int32 → Prop} (hT : RMT MT tv) (hv : iT tv) (a : Int32) (h : ∀ b : Bool, post (b2i b)) : wp_M_active MT a post := by
  rcases jI_ex a with ha | ⟨t, htb, rfl⟩
  · exact m_active_neg ha (h false)
  · exact m_active hT hv htb (h _)
theorem k_prep_neg {post : Int32 → S_T → Prop} {a kd x : Int32} {lo hi : Nat} (hlo : lo ≤ hi) (hhi : hi < 32) (ha : a < 0) (h : post (-1) T) : wp_N_prepare T a kd (jI lo) (jI hi) x post := by
  unfold wp_N_prepare wp_N_refusalOf
  refine k_isKey (by omega) ?_
  rw [decide_eq_true (show lo < 32 by omega), if_neg (by decide)]
  refine k_isKey (by omega) ?_
  rw [decide_eq_true hhi, if_neg (by decide), if_pos ((jI_le (by omega) (by omega)).mpr hlo)]
  refine k_T_isActive_neg ha ?_
  rw [if_pos (by rfl)]
  dsimp only
  rw [if_neg (by decide)]
  exact h
theorem k_prep {post : Int32 → S_T → Prop} {kd lo hi : Nat} {x : Int32} (hT : RT T tv) (hv : iT tv) (ht : t < 2147483648) (hlo : lo ≤ hi) (hhi : hi < 32) (h1 : sp_act tv t = false → post (-1) T) (h2 : sp_act tv t = true → sp_busy tv t = true → post (-4) T) (h3 : sp_act tv t = true → sp_busy tv t = false → ∀ T4, RT T4 (sp_req tv t kd lo hi x) → post 0 T4) : wp_N_prepare T (jI t) (jI kd) (jI lo) (jI hi) x post := by
  have hc := hv.1
  unfold wp_N_prepare wp_N_refusalOf
  refine k_isKey (by omega) ?_
  rw [decide_eq_true (show lo < 32 by omega), if_neg (by decide)]
  refine k_isKey (by omega) ?_
  rw [decide_eq_true hhi, if_neg (by decide), if_pos ((jI_le (by omega) (by omega)).mpr hlo)]
  refine k_T_isActive hT hv ht ?_
  cases q : sp_act tv t with
  | false =>
    rw [if_pos (by rfl)]
    dsimp only
    rw [if_neg (by decide)]
    exact h1 q
  | true =>
    have htc := liv_lt (act_liv q)
    rw [if_neg (by decide)]
    refine k_T_isBusy hT hv htc ?_
    cases z : sp_busy tv t with
    | true =>
      rw [if_neg (by decide)]
      dsimp only
      rw [if_neg (by decide)]
      exact h2 q z
    | false =>
      rw [if_pos (by rfl)]
      dsimp only
      rw [if_pos (by rfl)]
      exact k_T_setRequest hT (by omega) (fun T4 hT4 => h3 q z T4 hT4)
theorem act_st (h : sp_act tv t = true) : tv_st tv t = 1 := by
  unfold sp_act at h
  simp at h
  exact h.2
theorem o_get (hk : k < 512) (a b : Int32) (h : Rel k A G K N T MA MD MG ML MN MT) : wp_N_get A D G K N P T a b (fun r A' _ G' K' N' _ T' => wp_M_get MA MD MF MG ML MN MP MT MV a b (fun r' A2 D2 _ G2 K2 N2 _ T2 _ => r = r' ∧ Rel (k + 1) A' G' K' N' T' A2 D2 G2 K2 N2 T2)) := by
  have hup := h.up
  obtain ⟨v, g, tv, L, ⟨hA, hG, hT, hK⟩, ⟨mA, mG, mT, mK⟩, hV, hN, hb, htk⟩ := h
  have hv := hV.2.2.1
  have hc := hv.1
  unfold wp_N_get
  rcases jI_ex b with hbn | ⟨i, hib, rfl⟩
  · unfold wp_N_prepare
    refine k_isKey_neg hbn ?_
    rw [if_pos (by rfl)]
    dsimp only
    rw [if_neg (by decide)]
    unfold wp_M_get
    refine m_active_any mT hv a (fun q => ?_)
    cases q with
    | false =>
      rw [if_pos (by rfl)]
      exact ⟨rfl, hup⟩
    | true =>
      rw [if_neg (by decide)]
      refine m_isKey_neg hbn ?_
      rw [if_pos (by rfl)]
      exact ⟨rfl, hup⟩
  · by_cases hi : i < 32
    · rcases jI_ex a with ha | ⟨t, htb, rfl⟩
      · refine k_prep_neg (Nat.le_refl i) hi ha ?_
        rw [if_neg (by decide)]
        unfold wp_M_get
        refine m_active_neg ha ?_
        rw [if_pos (by rfl)]
        exact ⟨rfl, hup⟩
      · refine k_prep (kd := 0) hT hv htb (Nat.le_refl i) hi (fun q => ?_) (fun q z => ?_) (fun q z T4 hT4 => ?_)
        · rw [if_neg (by decide)]
          unfold wp_M_get
          refine m_active mT hv htb ?_
          rw [q, if_pos (by rfl)]
          exact ⟨rfl, hup⟩
        · rw [if_neg (by decide)]
          unfold wp_M_get
          refine m_active mT hv htb ?_
          rw [q, if_neg (by decide)]
          refine m_isKey hib ?_
          rw [decide_eq_true hi, if_neg (by decide)]
          unfold wp_M_ask
          refine m_busy mT hv (liv_lt (act_liv q)) ?_
          rw [z, if_neg (by decide)]
          exact ⟨rfl, hup⟩
        · rw [if_pos (by rfl)]
          have hV4 := hV.req (t := t) (kd := 0) (x := 0) (by omega) (Nat.le_refl i) hi
          refine k_N_request hA hG hT4 hK hV4 (act_liv q) (fun A' D' G' K' P' T' hA' hG' hT' hK' => ?_)
          unfold wp_M_get
          refine m_active mT hv htb ?_
          rw [q, if_neg (by decide)]
          refine m_isKey hib ?_
          rw [decide_eq_true hi, if_neg (by decide)]
          unfold wp_M_ask
          refine m_busy mT hv (liv_lt (act_liv q)) ?_
          rw [z, if_pos (by rfl)]
          have e := o_end (MF := MF) (MP := MP) (MV := MV) hk mA mG (mT.req (kd := 0) (lo := i) (hi := i) (x := 0) (act_st q)) mK hV4 hN hb htk (t := t) (act_liv q) hA' hG' hT' hK'
          rw [show tv_rk (sp_req tv t 0 i i 0) t = 0 from updN_same _ _ _, show tv_lo (sp_req tv t 0 i i 0) t = i from updN_same _ _ _, show sp_sec (sp_req tv t 0 i i 0) t = 0 by
            show (if updN (tv_rk tv) t 0 t = 3 then jI (updN (tv_hi tv) t i t) else if updN (tv_rk tv) t 0 t = 1 then updN (tv_nv tv) t 0 t else 0) = 0
            rw [updN_same, updN_same, updN_same]
            rfl] at e
          exact e
    · unfold wp_N_prepare
      refine k_isKey hib ?_
      rw [decide_eq_false hi, if_pos (by rfl)]
      dsimp only
      rw [if_neg (by decide)]
      unfold wp_M_get
      refine m_active_any mT hv a (fun q => ?_)
      cases q with
      | false =>
        rw [if_pos (by rfl)]
        exact ⟨rfl, hup⟩
      | true =>
        rw [if_neg (by decide)]
        refine m_isKey hib ?_
        rw [decide_eq_false hi, if_pos (by rfl)]
        exact ⟨rfl, hup⟩
theorem o_put (hk : k < 512) (a b c : Int32) (h : Rel k A G K N T MA MD MG ML MN MT) : wp_N_put A D G K N P T a b c (fun r A' _ G' K' N' _ T' => wp_M_put MA MD MF MG ML MN MP MT MV a b c (fun r' A2 D2 _ G2 K2 N2 _ T2 _ => r = r' ∧ Rel (k + 1) A' G' K' N' T' A2 D2 G2 K2 N2 T2)) := by
  have hup := h.up
  obtain ⟨v, g, tv, L, ⟨hA, hG, hT, hK⟩, ⟨mA, mG, mT, mK⟩, hV, hN, hb, htk⟩ := h
  have hv := hV.2.2.1
  have hc := hv.1
  unfold wp_N_put
  rcases jI_ex b with hbn | ⟨i, hib, rfl⟩
  · unfold wp_N_prepare
    refine k_isKey_neg hbn ?_
    rw [if_pos (by rfl)]
    dsimp only
    rw [if_neg (by decide)]
    unfold wp_M_put
    refine m_active_any mT hv a (fun q => ?_)
    cases q with
    | false =>
      rw [if_pos (by rfl)]
      exact ⟨rfl, hup⟩
    | true =>
      rw [if_neg (by decide)]
      refine m_isKey_neg hbn ?_
      rw [if_pos (by rfl)]
      exact ⟨rfl, hup⟩
  · by_cases hi : i < 32
    · rcases jI_ex a with ha | ⟨t, htb, rfl⟩
      · refine k_prep_neg (Nat.le_refl i) hi ha ?_
        rw [if_neg (by decide)]
        unfold wp_M_put
        refine m_active_neg ha ?_
        rw [if_pos (by rfl)]
        exact ⟨rfl, hup⟩
      · refine k_prep (kd := 1) hT hv htb (Nat.le_refl i) hi (fun q => ?_) (fun q z => ?_) (fun q z T4 hT4 => ?_)
        · rw [if_neg (by decide)]
          unfold wp_M_put
          refine m_active mT hv htb ?_
          rw [q, if_pos (by rfl)]
          exact ⟨rfl, hup⟩
        · rw [if_neg (by decide)]
          unfold wp_M_put
          refine m_active mT hv htb ?_
          rw [q, if_neg (by decide)]
          refine m_isKey hib ?_
          rw [decide_eq_true hi, if_neg (by decide)]
          unfold wp_M_ask
          refine m_busy mT hv (liv_lt (act_liv q)) ?_
          rw [z, if_neg (by decide)]
          exact ⟨rfl, hup⟩
        · rw [if_pos (by rfl)]
          have hV4 := hV.req (t := t) (kd := 1) (x := c) (by omega) (Nat.le_refl i) hi
          refine k_N_request hA hG hT4 hK hV4 (act_liv q) (fun A' D' G' K' P' T' hA' hG' hT' hK' => ?_)
          unfold wp_M_put
          refine m_active mT hv htb ?_
          rw [q, if_neg (by decide)]
          refine m_isKey hib ?_
          rw [decide_eq_true hi, if_neg (by decide)]
          unfold wp_M_ask
          refine m_busy mT hv (liv_lt (act_liv q)) ?_
          rw [z, if_pos (by rfl)]
          have e := o_end (MF := MF) (MP := MP) (MV := MV) hk mA mG (mT.req (kd := 1) (lo := i) (hi := i) (x := c) (act_st q)) mK hV4 hN hb htk (t := t) (act_liv q) hA' hG' hT' hK'
          rw [show tv_rk (sp_req tv t 1 i i c) t = 1 from updN_same _ _ _, show tv_lo (sp_req tv t 1 i i c) t = i from updN_same _ _ _, show sp_sec (sp_req tv t 1 i i c) t = c by
            show (if updN (tv_rk tv) t 1 t = 3 then jI (updN (tv_hi tv) t i t) else if updN (tv_rk tv) t 1 t = 1 then updN (tv_nv tv) t c t else 0) = c
            rw [updN_same, updN_same, updN_same]
            rfl] at e
          exact e
    · unfold wp_N_prepare
      refine k_isKey hib ?_
      rw [decide_eq_false hi, if_pos (by rfl)]
      dsimp only
      rw [if_neg (by decide)]
      unfold wp_M_put
      refine m_active_any mT hv a (fun q => ?_)
      cases q with
      | false =>
        rw [if_pos (by rfl)]
        exact ⟨rfl, hup⟩
      | true =>
        rw [if_neg (by decide)]
        refine m_isKey hib ?_
        rw [decide_eq_false hi, if_pos (by rfl)]
        exact ⟨rfl, hup⟩
theorem o_delete (hk : k < 512) (a b : Int32) (h : Rel k A G K N T MA MD MG ML MN MT) : wp_N_delete A D G K N P T a b (fun r A' _ G' K' N' _ T' => wp_M_delete MA MD MF MG ML MN MP MT MV a b (fun r' A2 D2 _ G2 K2 N2 _ T2 _ => r = r' ∧ Rel (k + 1) A' G' K' N' T' A2 D2 G2 K2 N2 T2)) := by
  have hup := h.up
  obtain ⟨v, g, tv, L, ⟨hA, hG, hT, hK⟩, ⟨mA, mG, mT, mK⟩, hV, hN, hb, htk⟩ := h
  have hv := hV.2.2.1
  have hc := hv.1
  unfold wp_N_delete
  rcases jI_ex b with hbn | ⟨i, hib, rfl⟩
  · unfold wp_N_prepare
    refine k_isKey_neg hbn ?_
    rw [if_pos (by rfl)]
    dsimp only
    rw [if_neg (by decide)]
    unfold wp_M_delete
    refine m_active_any mT hv a (fun q => ?_)
    cases q with
    | false =>
      rw [if_pos (by rfl)]
      exact ⟨rfl, hup⟩
    | true =>
      rw [if_neg (by decide)]
      refine m_isKey_neg hbn ?_
      rw [if_pos (by rfl)]
      exact ⟨rfl, hup⟩
  · by_cases hi : i < 32
    · rcases jI_ex a with ha | ⟨t, htb, rfl⟩
      · refine k_prep_neg (Nat.le_refl i) hi ha ?_
        rw [if_neg (by decide)]
        unfold wp_M_delete
        refine m_active_neg ha ?_
        rw [if_pos (by rfl)]
        exact ⟨rfl, hup⟩
      · refine k_prep (kd := 2) hT hv htb (Nat.le_refl i) hi (fun q => ?_) (fun q z => ?_) (fun q z T4 hT4 => ?_)
        · rw [if_neg (by decide)]
          unfold wp_M_delete
          refine m_active mT hv htb ?_
          rw [q, if_pos (by rfl)]
          exact ⟨rfl, hup⟩
        · rw [if_neg (by decide)]
          unfold wp_M_delete
          refine m_active mT hv htb ?_
          rw [q, if_neg (by decide)]
          refine m_isKey hib ?_
          rw [decide_eq_true hi, if_neg (by decide)]
          unfold wp_M_ask
          refine m_busy mT hv (liv_lt (act_liv q)) ?_
          rw [z, if_neg (by decide)]
          exact ⟨rfl, hup⟩
        · rw [if_pos (by rfl)]
          have hV4 := hV.req (t := t) (kd := 2) (x := 0) (by omega) (Nat.le_refl i) hi
          refine k_N_request hA hG hT4 hK hV4 (act_liv q) (fun A' D' G' K' P' T' hA' hG' hT' hK' => ?_)
          unfold wp_M_delete
          refine m_active mT hv htb ?_
          rw [q, if_neg (by decide)]
          refine m_isKey hib ?_
          rw [decide_eq_true hi, if_neg (by decide)]
          unfold wp_M_ask
          refine m_busy mT hv (liv_lt (act_liv q)) ?_
          rw [z, if_pos (by rfl)]
          have e := o_end (MF := MF) (MP := MP) (MV := MV) hk mA mG (mT.req (kd := 2) (lo := i) (hi := i) (x := 0) (act_st q)) mK hV4 hN hb htk (t := t) (act_liv q) hA' hG' hT' hK'
          rw [show tv_rk (sp_req tv t 2 i i 0) t = 2 from updN_same _ _ _, show tv_lo (sp_req tv t 2 i i 0) t = i from updN_same _ _ _, show sp_sec (sp_req tv t 2 i i 0) t = 0 by
            show (if updN (tv_rk tv) t 2 t = 3 then jI (updN (tv_hi tv) t i t) else if updN (tv_rk tv) t 2 t = 1 then updN (tv_nv tv) t 0 t else 0) = 0
            rw [updN_same, updN_same, updN_same]
            rfl] at e
          exact e
    · unfold wp_N_prepare
      refine k_isKey hib ?_
      rw [decide_eq_false hi, if_pos (by rfl)]
      dsimp only
      rw [if_neg (by decide)]
      unfold wp_M_delete
      refine m_active_any mT hv a (fun q => ?_)
      cases q with
      | false =>
        rw [if_pos (by rfl)]
        exact ⟨rfl, hup⟩
      | true =>
        rw [if_neg (by decide)]
        refine m_isKey hib ?_
        rw [decide_eq_false hi, if_pos (by rfl)]
        exact ⟨rfl, hup⟩
theorem o_scan (hk : k < 512) (a b c : Int32) (h : Rel k A G K N T MA MD MG ML MN MT) : wp_N_scan A D G K N P T a b c (fun r A' _ G' K' N' _ T' => wp_M_scan MA MD MF MG ML MN MP MT MV a b c (fun r' A2 D2 _ G2 K2 N2 _ T2 _ => r = r' ∧ Rel (k + 1) A' G' K' N' T' A2 D2 G2 K2 N2 T2)) := by
  have hup := h.up
  obtain ⟨v, g, tv, L, ⟨hA, hG, hT, hK⟩, ⟨mA, mG, mT, mK⟩, hV, hN, hb, htk⟩ := h
  have hv := hV.2.2.1
  have hc := hv.1
  have bad : (¬ ∃ i j, b = jI i ∧ c = jI j ∧ i ≤ j ∧ j < 32) → wp_M_scan MA MD MF MG ML MN MP MT MV a b c (fun r' A2 D2 _ G2 K2 N2 _ T2 _ => (-1 : Int32) = r' ∧ Rel (k + 1) A G K N T A2 D2 G2 K2 N2 T2) := by
    intro hbad
    unfold wp_M_scan
    refine m_active_any mT hv a (fun q => ?_)
    cases q with
    | false =>
      rw [if_pos (by rfl)]
      exact ⟨rfl, hup⟩
    | true =>
      rw [if_neg (by decide)]
      rcases jI_ex b with hbn | ⟨i, hib, rfl⟩
      · refine m_isKey_neg hbn ?_
        rw [if_pos (by rfl)]
        exact ⟨rfl, hup⟩
      · refine m_isKey hib ?_
        by_cases hi : i < 32
        · rw [decide_eq_true hi, if_neg (by decide)]
          rcases jI_ex c with hcn | ⟨j, hjb, rfl⟩
          · refine m_isKey_neg hcn ?_
            rw [if_pos (by rfl)]
            exact ⟨rfl, hup⟩
          · refine m_isKey hjb ?_
            by_cases hj : j < 32
            · rw [decide_eq_true hj, if_neg (by decide), if_neg (fun z => hbad ⟨i, j, rfl, rfl, (jI_le hib hjb).mp z, hj⟩)]
              exact ⟨rfl, hup⟩
            · rw [decide_eq_false hj, if_pos (by rfl)]
              exact ⟨rfl, hup⟩
        · rw [decide_eq_false hi, if_pos (by rfl)]
          exact ⟨rfl, hup⟩
  by_cases good : ∃ i j, b = jI i ∧ c = jI j ∧ i ≤ j ∧ j < 32
  · obtain ⟨i, j, rfl, rfl, hij, hj⟩ := good
    have hib : i < 2147483648 := by omega
    have hjb : j < 2147483648 := by omega
    have hi : i < 32 := by omega
    unfold wp_N_scan
    rcases jI_ex a with ha | ⟨t, htb, rfl⟩
    · refine k_prep_neg hij hj ha ?_
      rw [if_neg (by decide)]
      unfold wp_M_scan
      refine m_active_neg ha ?_
      rw [if_pos (by rfl)]
      exact ⟨rfl, hup⟩
    · refine k_prep (kd := 3) hT hv htb hij hj (fun q => ?_) (fun q z => ?_) (fun q z T4 hT4 => ?_)
      · rw [if_neg (by decide)]
        unfold wp_M_scan
        refine m_active mT hv htb ?_
        rw [q, if_pos (by rfl)]
        exact ⟨rfl, hup⟩
      · rw [if_neg (by decide)]
        unfold wp_M_scan
        refine m_active mT hv htb ?_
        rw [q, if_neg (by decide)]
        refine m_isKey hib ?_
        rw [decide_eq_true hi, if_neg (by decide)]
        refine m_isKey hjb ?_
        rw [decide_eq_true hj, if_neg (by decide), if_pos ((jI_le hib hjb).mpr hij)]
        unfold wp_M_ask
        refine m_busy mT hv (liv_lt (act_liv q)) ?_
        rw [z, if_neg (by decide)]
        exact ⟨rfl, hup⟩
      · rw [if_pos (by rfl)]
        have hV4 := hV.req (t := t) (kd := 3) (x := 0) (by omega) hij hj
        refine k_N_request hA hG hT4 hK hV4 (act_liv q) (fun A' D' G' K' P' T' hA' hG' hT' hK' => ?_)
        unfold wp_M_scan
        refine m_active mT hv htb ?_
        rw [q, if_neg (by decide)]
        refine m_isKey hib ?_
        rw [decide_eq_true hi, if_neg (by decide)]
        refine m_isKey hjb ?_
        rw [decide_eq_true hj, if_neg (by decide), if_pos ((jI_le hib hjb).mpr hij)]
        unfold wp_M_ask
        refine m_busy mT hv (liv_lt (act_liv q)) ?_
        rw [z, if_pos (by rfl)]
        have e := o_end (MF := MF) (MP := MP) (MV := MV) hk mA mG (mT.req (kd := 3) (lo := i) (hi := j) (x := 0) (act_st q)) mK hV4 hN hb htk (t := t) (act_liv q) hA' hG' hT' hK'
        rw [show tv_rk (sp_req tv t 3 i j 0) t = 3 from updN_same _ _ _, show tv_lo (sp_req tv t 3 i j 0) t = i from updN_same _ _ _, show sp_sec (sp_req tv t 3 i j 0) t = jI j by
          show (if updN (tv_rk tv) t 3 t = 3 then jI (updN (tv_hi tv) t j t) else if updN (tv_rk tv) t 3 t = 1 then updN (tv_nv tv) t 0 t else 0) = jI j
          rw [updN_same, updN_same]
          rfl] at e
        exact e
  · have hm := bad good
    unfold wp_N_scan wp_N_prepare
    rcases jI_ex b with hbn | ⟨i, hib, rfl⟩
    · refine k_isKey_neg hbn ?_
      rw [if_pos (by rfl)]
      dsimp only
      rw [if_neg (by decide)]
      exact hm
    · refine k_isKey hib ?_
      by_cases hi : i < 32
      · rw [decide_eq_true hi, if_neg (by decide)]
        rcases jI_ex c with hcn | ⟨j, hjb, rfl⟩
        · refine k_isKey_neg hcn ?_
          rw [if_pos (by rfl)]
          dsimp only
          rw [if_neg (by decide)]
          exact hm
        · refine k_isKey hjb ?_
          by_cases hj : j < 32
          · rw [decide_eq_true hj, if_neg (by decide), if_neg (fun z => good ⟨i, j, rfl, rfl, (jI_le hib hjb).mp z, hj⟩)]
            dsimp only
            rw [if_neg (by decide)]
            exact hm
          · rw [decide_eq_false hj, if_pos (by rfl)]
            dsimp only
            rw [if_neg (by decide)]
            exact hm
      · rw [decide_eq_false hi, if_pos (by rfl)]
        dsimp only
        rw [if_neg (by decide)]
        exact hm
theorem o_resume (hk : k < 512) (a : Int32) (h : Rel k A G K N T MA MD MG ML MN MT) : wp_N_resume A D G K N P T a (fun r A' _ G' K' N' _ T' => wp_M_resume MA MD MF MG ML MN MP MT MV a (fun r' A2 D2 _ G2 K2 N2 _ T2 _ => r = r' ∧ Rel (k + 1) A' G' K' N' T' A2 D2 G2 K2 N2 T2)) := by
  have hup := h.up
  obtain ⟨v, g, tv, L, ⟨hA, hG, hT, hK⟩, ⟨mA, mG, mT, mK⟩, hV, hN, hb, htk⟩ := h
  have hv := hV.2.2.1
  have hc := hv.1
  unfold wp_N_resume
  rcases jI_ex a with ha | ⟨t, htb, rfl⟩
  · refine k_T_isWaiting_neg ha ?_
    rw [if_pos (by rfl)]
    unfold wp_M_resume
    refine m_is_neg ha ?_
    rw [if_pos (by rfl)]
    exact ⟨rfl, hup⟩
  · refine k_T_isWaiting hT hv htb ?_
    cases w : sp_wai tv t with
    | false =>
      rw [if_pos (by rfl)]
      unfold wp_M_resume
      refine m_is mT hv htb ?_
      by_cases q : t < tv_c tv
      · rw [decide_eq_true q, if_neg (by decide), jI_tn htb, mT.2.1 t q]
        refine ⟨jI_in htb (by omega), ?_⟩
        rw [if_neg (fun z => by
          unfold sp_wai at w
          rw [decide_eq_true q, decide_eq_true z] at w
          cases w)]
        exact ⟨rfl, hup⟩
      · rw [decide_eq_false q, if_pos (by rfl)]
        exact ⟨rfl, hup⟩
    | true =>
      have hl := wai_liv w
      have htc := liv_lt hl
      have hti : vp_in (jI t) 60 := jI_in htb (by omega)
      have hs : tv_st tv t = 2 := by
        unfold sp_wai at w
        simp at w
        exact w.2
      obtain ⟨a1, a2, a3⟩ := mT.2.2.2.2 t htc hs
      rw [if_neg (by decide)]
      refine k_N_request hA hG hT hK hV hl (fun A' D' G' K' P' T' hA' hG' hT' hK' => ?_)
      unfold wp_M_resume
      refine m_is mT hv htb ?_
      rw [decide_eq_true htc, if_neg (by decide), jI_tn htb, mT.2.1 t htc, if_pos hs, a1, a2, a3]
      exact ⟨hti, hti, hti, hti, o_end hk mA mG mT mK hV hN hb htk hl hA' hG' hT' hK'⟩
end OPS2
