/-- between calls: the class's state and the reference's are of one mind; k calls have been made -/
def Rel (k : Nat) (A : S_A) (G : S_G) (K : S_K) (N : S_N) (T : S_T) (MA : S_MA) (MD : S_MD) (MG : S_MG) (ML : S_ML) (MN : S_MN) (MT : S_MT) : Prop := ∃ (v : VP) (g : VG) (tv : VT) (L : VK), (RA A v ∧ RG G g ∧ RT T tv ∧ RK K L) ∧ (RMA MA MD v ∧ RMG MG g ∧ RMT MT tv ∧ RML ML L) ∧ iV v g tv L ∧ MN = N ∧ gv_b g ≤ 300 * k ∧ pv_tk v ≤ 1000 * k
section OPS1
variable {A : S_A} {D : S_D} {G : S_G} {K : S_K} {N : S_N} {P : S_P} {T : S_T} {MA : S_MA} {MD : S_MD} {MF : S_MF} {MG : S_MG} {ML : S_ML} {MN : S_MN} {MP : S_MP} {MT : S_MT} {MV : S_MV} {k : Nat}
theorem Rel.up (h : Rel k A G K N T MA MD MG ML MN MT) : Rel (k + 1) A G K N T MA MD MG ML MN MT := by
  obtain ⟨v, g, tv, L, h1, h2, h3, h4, h5, h6⟩ := h
  exact ⟨v, g, tv, L, h1, h2, h3, h4, by omega, by omega⟩
theorem k_T_isWaiting_neg {post : Int32 → Prop} {a : Int32} (ha : a < 0) (h : post 0) : wp_T_isWaiting T a post := by
  unfold wp_T_isWaiting
  refine k_T_exists_neg ha ?_
  rw [if_pos (by rfl)]
  exact h
theorem k_T_isActive_neg {post : Int32 → Prop} {a : Int32} (ha : a < 0) (h : post 0) : wp_T_isActive T a post := by
  unfold wp_T_isActive
  refine k_T_exists_neg ha ?_
  rw [if_pos (by rfl)]
  exact h
theorem k_T_isLive_neg {post : Int32 → Prop} {a : Int32} (ha : a < 0) (h : post 0) : wp_T_isLive T a post := by
  unfold wp_T_isLive
  refine k_T_exists_neg ha ?_
  rw [if_pos (by rfl)]
  exact h
theorem m_active_neg {post : Int32 → Prop} {a : Int32} (ha : a < 0) (h : post 0) : wp_M_active MT a post := by
  unfold wp_M_active
  refine m_is_neg ha ?_
  rw [if_pos (by rfl)]
  exact h
theorem k_isKey_neg {post : Int32 → Prop} {a : Int32} (ha : a < 0) (h : post 0) : wp_N_isKey a post := by
  unfold wp_N_isKey
  rw [if_pos ha]
  exact h
theorem k_isKey {post : Int32 → Prop} {p : Nat} (hb : p < 2147483648) (h : post (b2i (decide (p < 32)))) : wp_N_isKey (jI p) post := by
  unfold wp_N_isKey
  rw [if_neg (jI_nn hb), show (32 : Int32) = jI 32 from rfl, ite_iff' (jI_le (by omega) hb)]
  by_cases q : p < 32
  · rw [if_neg (by omega)]
    rw [decide_eq_true q] at h
    exact h
  · rw [if_pos (by omega)]
    rw [decide_eq_false q] at h
    exact h
theorem m_isKey_neg {post : Int32 → Prop} {a : Int32} (ha : a < 0) (h : post 0) : wp_M_isKey a post := by
  unfold wp_M_isKey
  rw [if_pos ha]
  exact h
theorem m_isKey {post : Int32 → Prop} {p : Nat} (hb : p < 2147483648) (h : post (b2i (decide (p < 32)))) : wp_M_isKey (jI p) post := by
  unfold wp_M_isKey
  rw [if_neg (jI_nn hb), show (31 : Int32) = jI 31 from rfl, ite_iff' (jI_lt (by omega) hb)]
  by_cases q : p < 32
  · rw [if_neg (by omega)]
    rw [decide_eq_true q] at h
    exact h
  · rw [if_pos (by omega)]
    rw [decide_eq_false q] at h
    exact h
theorem k_isPage_neg {post : Int32 → Prop} {a : Int32} (ha : a < 0) (h : post 0) : wp_N_isPage a post := by
  unfold wp_N_isPage
  rw [if_pos ha]
  exact h
theorem k_isPage {post : Int32 → Prop} {p : Nat} (hb : p < 2147483648) (h : post (b2i (decide (p < 8)))) : wp_N_isPage (jI p) post := by
  unfold wp_N_isPage
  rw [if_neg (jI_nn hb), show (8 : Int32) = jI 8 from rfl, ite_iff' (jI_le (by omega) hb)]
  by_cases q : p < 8
  · rw [if_neg (by omega)]
    rw [decide_eq_true q] at h
    exact h
  · rw [if_pos (by omega)]
    rw [decide_eq_false q] at h
    exact h
theorem m_isPage_neg {post : Int32 → Prop} {a : Int32} (ha : a < 0) (h : post 0) : wp_M_isPage a post := by
  unfold wp_M_isPage
  rw [if_pos ha]
  exact h
theorem m_isPage {post : Int32 → Prop} {p : Nat} (hb : p < 2147483648) (h : post (b2i (decide (p < 8)))) : wp_M_isPage (jI p) post := by
  unfold wp_M_isPage
  rw [if_neg (jI_nn hb), show (7 : Int32) = jI 7 from rfl, ite_iff' (jI_lt (by omega) hb)]
  by_cases q : p < 8
  · rw [if_neg (by omega)]
    rw [decide_eq_true q] at h
    exact h
  · rw [if_pos (by omega)]
    rw [decide_eq_false q] at h
    exact h
theorem o_value (h : Rel k A G K N T MA MD MG ML MN MT) : wp_N_value N (fun r => wp_M_value MN (fun r' => r = r')) := by
  obtain ⟨v, g, tv, L, h1, h2, h3, h4, h5, h6⟩ := h
  unfold wp_N_value wp_M_value
  exact h4.symm
theorem o_state (a : Int32) (h : Rel k A G K N T MA MD MG ML MN MT) : wp_N_state T a (fun r => wp_M_state MT a (fun r' => r = r')) := by
  obtain ⟨v, g, tv, L, ⟨-, -, hT, -⟩, ⟨-, -, mT, -⟩, hV, -⟩ := h
  have hv := hV.2.2.1
  have hc := hv.1
  unfold wp_N_state wp_M_state
  rcases jI_ex a with ha | ⟨t, htb, rfl⟩
  · refine k_T_exists_neg ha ?_
    rw [if_pos (by rfl)]
    refine m_is_neg ha ?_
    rw [if_pos (by rfl)]
  · refine k_T_exists hT hv htb ?_
    by_cases q : t < tv_c tv
    · rw [decide_eq_true q, if_neg (by decide), jI_tn htb, hT.2.2.2.2.1 t q]
      refine ⟨jI_in htb (by omega), m_is mT hv htb ?_⟩
      rw [decide_eq_true q, if_neg (by decide), mT.2.1 t q]
      exact ⟨jI_in htb (by omega), rfl⟩
    · rw [decide_eq_false q, if_pos (by rfl)]
      refine m_is mT hv htb ?_
      rw [decide_eq_false q, if_pos (by rfl)]
theorem o_parent (a : Int32) (h : Rel k A G K N T MA MD MG ML MN MT) : wp_N_parent T a (fun r => wp_M_parent MT a (fun r' => r = r')) := by
  obtain ⟨v, g, tv, L, ⟨-, -, hT, -⟩, ⟨-, -, mT, -⟩, hV, -⟩ := h
  have hv := hV.2.2.1
  have hc := hv.1
  unfold wp_N_parent wp_M_parent
  rcases jI_ex a with ha | ⟨t, htb, rfl⟩
  · refine k_T_exists_neg ha ?_
    rw [if_pos (by rfl)]
    refine m_is_neg ha ?_
    rw [if_pos (by rfl)]
  · refine k_T_exists hT hv htb ?_
    by_cases q : t < tv_c tv
    · rw [decide_eq_true q, if_neg (by decide), jI_tn htb, hT.2.1 t q]
      refine ⟨jI_in htb (by omega), m_is mT hv htb ?_⟩
      rw [decide_eq_true q, if_neg (by decide), mT.2.2.1 t q]
      exact ⟨jI_in htb (by omega), rfl⟩
    · rw [decide_eq_false q, if_pos (by rfl)]
      refine m_is mT hv htb ?_
      rw [decide_eq_false q, if_pos (by rfl)]
theorem o_lock (a b : Int32) (h : Rel k A G K N T MA MD MG ML MN MT) : wp_N_lock K T a b (fun r => wp_M_lock ML MT a b (fun r' => r = r')) := by
  obtain ⟨v, g, tv, L, ⟨-, -, hT, hK⟩, ⟨-, -, mT, mK⟩, hV, -⟩ := h
  have hv := hV.2.2.1
  have hc := hv.1
  unfold wp_N_lock wp_M_lock
  rcases jI_ex a with ha | ⟨t, htb, rfl⟩
  · refine k_T_exists_neg ha ?_
    rw [if_pos (by rfl)]
    refine m_is_neg ha ?_
    rw [if_pos (by rfl)]
  · refine k_T_exists hT hv htb ?_
    by_cases q : t < tv_c tv
    · rw [decide_eq_true q, if_neg (by decide)]
      rcases jI_ex b with hb | ⟨i, hib, rfl⟩
      · rw [if_pos hb]
        refine m_is mT hv htb ?_
        rw [decide_eq_true q, if_neg (by decide), if_pos hb]
      · rw [if_neg (jI_nn hib), show (33 : Int32) = jI 33 from rfl, ite_iff' (jI_lt hib (by omega))]
        by_cases z : i < 33
        · rw [if_pos z]
          obtain ⟨e1, e2, e3⟩ := ix33 (show t < 60 by omega) z
          refine k_K_heldBy hK (hV.2.2.2.1 t i z).1 (by omega) z (m_is mT hv htb ?_)
          rw [decide_eq_true q, if_neg (by decide), if_neg (jI_nn hib), show (32 : Int32) = jI 32 from rfl, ite_iff' (jI_le hib (by omega)), if_pos (by omega), show jI 33 * jI t + jI i = jI (33 * t + i) from e1, jI_tn e3, mK t i (by omega) z]
          exact ⟨jI_in e3 e2, rfl⟩
        · rw [if_neg z]
          refine m_is mT hv htb ?_
          rw [decide_eq_true q, if_neg (by decide), if_neg (jI_nn hib), show (32 : Int32) = jI 32 from rfl, ite_iff' (jI_le hib (by omega)), if_neg (by omega)]
    · rw [decide_eq_false q, if_pos (by rfl)]
      refine m_is mT hv htb ?_
      rw [decide_eq_false q, if_pos (by rfl)]
theorem o_waits (a b : Int32) (h : Rel k A G K N T MA MD MG ML MN MT) : wp_N_waits A K P T a b (fun r _ => wp_M_waits MA MD ML MP MT MV a b (fun r' _ _ => r = r')) := by
  obtain ⟨v, g, tv, L, ⟨hA, -, hT, hK⟩, ⟨mA, -, mT, mK⟩, hV, -⟩ := h
  have hv := hV.2.2.1
  have hc := hv.1
  unfold wp_N_waits wp_M_waits
  rcases jI_ex a with ha | ⟨t, htb, rfl⟩
  · refine k_T_isWaiting_neg ha ?_
    rw [if_pos (by rfl)]
    refine m_is_neg ha ?_
    rw [if_pos (by rfl)]
  · refine k_T_isWaiting hT hv htb ?_
    by_cases q : t < tv_c tv
    · have hti : vp_in (jI t) 60 := jI_in htb (by omega)
      cases w : sp_wai tv t with
      | false =>
        rw [if_pos (by rfl)]
        refine m_is mT hv htb ?_
        rw [decide_eq_true q, if_neg (by decide)]
        have hs : ¬ tv_st tv t = 2 := fun z => by
          unfold sp_wai at w
          rw [decide_eq_true q, decide_eq_true z] at w
          cases w
        rcases jI_ex b with hb | ⟨u, hub, rfl⟩
        · refine m_is_neg hb ?_
          rw [if_pos (by rfl)]
        · refine m_is mT hv hub ?_
          by_cases qu : u < tv_c tv
          · rw [decide_eq_true qu, if_neg (by decide), jI_tn htb, mT.2.1 t q, if_neg hs]
            exact ⟨hti, rfl⟩
          · rw [decide_eq_false qu, if_pos (by rfl)]
      | true =>
        have hs : tv_st tv t = 2 := by
          unfold sp_wai at w
          simp at w
          exact w.2
        rw [if_neg (by decide)]
        rcases jI_ex b with hb | ⟨u, hub, rfl⟩
        · refine k_T_exists_neg hb ?_
          rw [if_pos (by rfl)]
          refine m_is mT hv htb ?_
          rw [decide_eq_true q, if_neg (by decide)]
          refine m_is_neg hb ?_
          rw [if_pos (by rfl)]
        · refine k_T_exists hT hv hub ?_
          by_cases qu : u < tv_c tv
          · rw [decide_eq_true qu, if_neg (by decide)]
            refine k_N_blockersOf hA hK hT hv hV.2.2.2.1 q (fun x P' hx => ?_)
            have ref : ∀ r : Int32, r = b2i (sp_wf v L tv t u) → wp_M_is MT (jI t) (fun r1 => if r1 = 0 then r = 0 else wp_M_is MT (jI u) (fun r2 => if r2 = 0 then r = 0 else vp_in (jI t) 60 ∧ (if MT_state MT (Int32.toNatClampNeg (jI t)) = 2 then wp_M_look MA MD ML MP MT MV (fun MP3 MV4 => vp_in (jI t) 60 ∧ (if MV_lacks MV4 (Int32.toNatClampNeg (jI t)) < 0 then r = 0 else vp_in (jI t) 60 ∧ vp_in (jI t) 60 ∧ wp_M_bars ML MT (jI u) (jI t) (MV_lacks MV4 (Int32.toNatClampNeg (jI t))) (MV_lackMode MV4 (Int32.toNatClampNeg (jI t))) (fun r5 => if r5 = 0 then r = 0 else r = 1))) else r = 0))) := by
              intro r hr
              refine m_is mT hv htb ?_
              rw [decide_eq_true q, if_neg (by decide)]
              refine m_is mT hv hub ?_
              rw [decide_eq_true qu, if_neg (by decide), jI_tn htb, mT.2.1 t q, if_pos hs]
              refine ⟨hti, m_look mA hV.1.1 mK mT hv hV.2.2.2.1 (fun P3 V4 hV4 => ⟨hti, ?_⟩)⟩
              obtain ⟨l1, l2⟩ := (hV4 t q).1 hs
              rw [l1, l2, hr, sp_wf_lack]
              cases z : sp_lack v L tv t with
              | none =>
                rw [if_pos (by decide)]
                rfl
              | some i =>
                have hi := sp_lack_lt hv q z
                rw [show pI (some i) = jI i from rfl, if_neg (jI_nn (by omega))]
                dsimp only
                refine ⟨hti, hti, m_bars mK mT hv qu q hi (by have := (sp_pm_le v tv t).1; omega) (hV.2.2.2.1 u i hi).1 ?_⟩
                cases sp_bl L (tv_lin tv t) i (sp_pm v tv t) u with
                | false =>
                  rw [if_pos (by rfl)]
                  rfl
                | true =>
                  rw [if_neg (by decide)]
                  rfl
            rw [show (1 : Int64) <<< (Int32.toInt64 (jI u) &&& 63) = oneb u from rfl, ite_iff' (cmp_bit (show u < 64 by omega)), hx u (by omega)]
            cases z : sp_wf v L tv t u with
            | false =>
              rw [if_pos rfl]
              exact ref 0 (by rw [z]; rfl)
            | true =>
              rw [if_neg (by decide)]
              exact ref 1 (by rw [z]; rfl)
          · rw [decide_eq_false qu, if_pos (by rfl)]
            refine m_is mT hv htb ?_
            rw [decide_eq_true q, if_neg (by decide)]
            refine m_is mT hv hub ?_
            rw [decide_eq_false qu, if_pos (by rfl)]
    · have w : sp_wai tv t = false := by
        unfold sp_wai
        rw [decide_eq_false q]
        rfl
      rw [w, if_pos (by rfl)]
      refine m_is mT hv htb ?_
      rw [decide_eq_false q, if_pos (by rfl)]
theorem o_page (a : Int32) (h : Rel k A G K N T MA MD MG ML MN MT) : wp_N_page A a (fun r => wp_M_page MA MD a (fun r' => r = r')) := by
  obtain ⟨v, g, tv, L, ⟨hA, -⟩, ⟨mA, -⟩, hV, -⟩ := h
  unfold wp_N_page wp_M_page
  rcases jI_ex a with ha | ⟨p, hpb, rfl⟩
  · refine k_isPage_neg ha ?_
    rw [if_pos (by rfl)]
    refine m_isPage_neg ha ?_
    rw [if_pos (by rfl)]
  · refine k_isPage hpb ?_
    by_cases q : p < 8
    · rw [decide_eq_true q, if_neg (by decide), jI_tn hpb, hA.2.2.2.2.1 p q]
      refine ⟨jI_in hpb q, m_isPage hpb ?_⟩
      rw [decide_eq_true q, if_neg (by decide)]
      exact m_lsnNow mA hV.1.1 q rfl
    · rw [decide_eq_false q, if_pos (by rfl)]
      refine m_isPage hpb ?_
      rw [decide_eq_false q, if_pos (by rfl)]
theorem o_log (a : Int32) (h : Rel k A G K N T MA MD MG ML MN MT) : wp_N_log G T a (fun r => wp_M_log MG MT a (fun r' => r = r')) := by
  obtain ⟨v, g, tv, L, ⟨-, hG, hT, -⟩, ⟨-, mG, mT, -⟩, hV, -⟩ := h
  have hv := hV.2.2.1
  unfold wp_N_log
  by_cases q0 : a = 0
  · rw [if_pos q0]
    refine k_G_last hG ?_
    unfold wp_M_log
    dsimp only
    rw [if_pos q0]
    exact m_last mG rfl
  · rw [if_neg q0]
    by_cases q1 : a = 1
    · rw [if_pos q1]
      unfold wp_M_log
      dsimp only
      rw [if_neg q0, if_pos q1, hG.2.2.1, mG.2.2.1]
    · rw [if_neg q1]
      by_cases q2 : a = 2
      · rw [if_pos q2]
        unfold wp_M_log
        dsimp only
        rw [if_neg q0, if_neg q1, if_pos q2, hG.2.1, mG.2.1]
      · rw [if_neg q2]
        by_cases q3 : a = 3
        · rw [if_pos q3]
          refine k_N_openUpdateCount hG hT hv hV.2.1.1 hV.2.1.2.2.2.2.1 ?_
          unfold wp_M_log
          dsimp only
          rw [if_neg q0, if_neg q1, if_neg q2, if_pos q3]
          exact m_opens mG mT hv hV.2.1 rfl
        · rw [if_neg q3]
          by_cases q4 : a = 4
          · rw [if_pos q4]
            refine k_T_liveCount hT hv ?_
            unfold wp_M_log
            dsimp only
            rw [if_neg q0, if_neg q1, if_neg q2, if_neg q3, if_pos q4]
            exact m_lives mT hv rfl
          · rw [if_neg q4]
            unfold wp_M_log
            dsimp only
            rw [if_neg q0, if_neg q1, if_neg q2, if_neg q3, if_neg q4]
theorem o_save (a : Int32) (h : Rel k A G K N T MA MD MG ML MN MT) : wp_N_save G T a (fun r => wp_M_save MG MT a (fun r' => r = r')) := by
  obtain ⟨v, g, tv, L, ⟨-, hG, hT, -⟩, ⟨-, mG, mT, -⟩, hV, -⟩ := h
  have hv := hV.2.2.1
  unfold wp_N_save wp_M_save wp_N_refusalOf
  rcases jI_ex a with ha | ⟨t, htb, rfl⟩
  · refine k_T_isActive_neg ha ?_
    rw [if_pos (by rfl)]
    dsimp only
    rw [if_neg (by decide)]
    refine m_active_neg ha ?_
    rw [if_pos (by rfl)]
  · refine k_T_isActive hT hv htb ?_
    cases q : sp_act tv t with
    | false =>
      rw [if_pos (by rfl)]
      dsimp only
      rw [if_neg (by decide)]
      refine m_active mT hv htb ?_
      rw [q, if_pos (by rfl)]
    | true =>
      have htc := liv_lt (act_liv q)
      rw [if_neg (by decide)]
      refine k_T_isBusy hT hv htc ?_
      cases z : sp_busy tv t with
      | false =>
        rw [if_pos (by rfl)]
        dsimp only
        rw [if_pos (by rfl)]
        refine k_G_last hG (m_active mT hv htb ?_)
        rw [q, if_neg (by decide)]
        refine m_busy mT hv htc ?_
        rw [z, if_pos (by rfl)]
        exact m_last mG rfl
      | true =>
        rw [if_neg (by decide)]
        dsimp only
        rw [if_neg (by decide)]
        refine m_active mT hv htb ?_
        rw [q, if_neg (by decide)]
        refine m_busy mT hv htc ?_
        rw [z, if_neg (by decide)]
theorem asNum {post : Int32 → Prop} (b : Bool) (h : post (b2i b)) : wp_N_asNumber (b2i b) post := by
  unfold wp_N_asNumber
  cases b with
  | false =>
    rw [if_pos (by rfl)]
    exact h
  | true =>
    rw [if_neg (by decide)]
    exact h
theorem asNum2 (b : Bool) : (if b2i b = 0 then b2i b = 0 else b2i b = 1) := by
  cases b with
  | false =>
    rw [if_pos (by rfl)]
    rfl
  | true =>
    rw [if_neg (by decide)]
    rfl
theorem o_key (a b : Int32) (h : Rel k A G K N T MA MD MG ML MN MT) : wp_N_key A a b (fun r => wp_M_key MA MD a b (fun r' => r = r')) := by
  obtain ⟨v, g, tv, L, ⟨hA, -⟩, ⟨mA, -⟩, hV, -⟩ := h
  unfold wp_N_key
  rcases jI_ex a with ha | ⟨p, hpb, rfl⟩
  · refine k_isKey_neg ha ?_
    rw [if_pos (by rfl)]
    unfold wp_M_key
    refine m_isKey_neg ha ?_
    rw [if_pos (by rfl)]
  · refine k_isKey hpb ?_
    by_cases hp : p < 32
    · have hpi : vp_in (jI p) 32 := jI_in hpb hp
      rw [decide_eq_true hp, if_neg (by decide), jI_tn hpb, hA.2.2.2.2.2.1 p hp, hA.2.2.2.2.2.2.1 p hp, hA.2.2.2.2.2.2.2.2.1 p hp, hA.2.2.2.2.2.2.2.2.2 p hp]
      by_cases q0 : b = 0
      · subst q0
        rw [if_pos (by rfl)]
        refine ⟨hpi, asNum _ ?_⟩
        unfold wp_M_key
        refine m_isKey hpb ?_
        rw [decide_eq_true hp, if_neg (by decide), if_neg (by decide), if_pos (by decide), if_neg (by decide), if_pos (by rfl)]
        exact m_isThereNow mA hV.1.1 hp (asNum2 _)
      · rw [if_neg q0]
        by_cases q1 : b = 1
        · subst q1
          rw [if_pos (by rfl)]
          refine ⟨hpi, ?_⟩
          unfold wp_M_key
          refine m_isKey hpb ?_
          rw [decide_eq_true hp, if_neg (by decide), if_neg (by decide), if_pos (by decide), if_neg (by decide), if_neg (by decide)]
          exact m_valueNow mA hV.1.1 hp rfl
        · rw [if_neg q1]
          by_cases q2 : b = 2
          · subst q2
            rw [if_pos (by rfl)]
            refine ⟨hpi, asNum _ ?_⟩
            unfold wp_M_key
            refine m_isKey hpb ?_
            rw [decide_eq_true hp, if_neg (by decide), if_neg (by decide), if_pos (by decide), if_pos (by decide), if_pos (by rfl), jI_tn hpb, mA.2.2.2.2.2.2.2.2.1 p hp]
            exact ⟨hpi, asNum2 _⟩
          · rw [if_neg q2]
            by_cases q3 : b = 3
            · subst q3
              rw [if_pos (by rfl)]
              refine ⟨hpi, ?_⟩
              unfold wp_M_key
              refine m_isKey hpb ?_
              rw [decide_eq_true hp, if_neg (by decide), if_neg (by decide), if_pos (by decide), if_pos (by decide), if_neg (by decide), jI_tn hpb, mA.2.2.2.2.2.2.2.2.2.1 p hp]
              exact ⟨hpi, rfl⟩
            · rw [if_neg q3]
              unfold wp_M_key
              refine m_isKey hpb ?_
              rw [decide_eq_true hp, if_neg (by decide)]
              rcases jI_ex b with hb | ⟨i, hib, rfl⟩
              · rw [if_pos hb]
              · rw [if_neg (jI_nn hib), show (3 : Int32) = jI 3 from rfl, ite_iff' (jI_le hib (by omega)), if_neg (fun z => by
                  have h0 : ¬ i = 0 := fun e => q0 (by rw [e]; rfl)
                  have h1 : ¬ i = 1 := fun e => q1 (by rw [e]; rfl)
                  have h2 : ¬ i = 2 := fun e => q2 (by rw [e]; rfl)
                  have h3 : ¬ i = 3 := fun e => q3 (by rw [e]; rfl)
                  omega)]
    · rw [decide_eq_false hp, if_pos (by rfl)]
      unfold wp_M_key
      refine m_isKey hpb ?_
      rw [decide_eq_false hp, if_pos (by rfl)]
end OPS1
