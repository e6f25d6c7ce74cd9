section PMN2
variable {A : S_MA} {D : S_MD} {T : S_MT} {K : S_ML} {P : S_MP} {V : S_MV} {v : VP} {tv : VT} {L : VK} {t : Nat}
theorem m_want {post : S_MP → Prop} {its : List Nat} {m x : Nat} (hP : RMP P its m) (hl : its.length < 33) (h : ∀ P', RMP P' (its ++ [x]) m → post P') : wp_M_want P (jI x) post := by
  have hb : its.length < 2147483648 := by omega
  unfold wp_M_want
  rw [hP.2.1, jI_tn hb, jI_s]
  refine ⟨jI_in hb hl, h _ ⟨hP.1, ?_, fun i y hi => ?_⟩⟩
  · rw [List.length_append]
    rfl
  · show upd (MP_item P) its.length (jI x) i = jI y
    by_cases e : i = its.length
    · rw [e, upd_same]
      rw [e, List.getElem?_append_right (Nat.le_refl _)] at hi
      simp at hi
      rw [hi]
    · rw [upd_ne _ _ e]
      have hlt : i < its.length := by
        have := (List.getElem?_eq_some_iff.mp hi).1
        simp at this
        omega
      rw [List.getElem?_append_left hlt] at hi
      exact hP.2.2 i y hi
theorem RMP.nil (P : S_MP) (m : Nat) : RMP (MP_mode' (MP_wanted' P 0) (jI m)) [] m := ⟨rfl, rfl, fun i x h => by cases h⟩
theorem m_needs {post : S_MP → Prop} (hA : RMA A D v) (hi : iP v) (hv : iT tv) (ht : t < tv_c tv) (h : ∀ P', RMP P' (sp_its v tv t) (sp_pm v tv t) → post P') : wp_M_needs A D P (jI (tv_rk tv t + 1)) (jI (tv_lo tv t)) (sp_sec tv t) post := by
  have hc := hv.1
  obtain ⟨r1, r2, r3⟩ := hv.2.2 t (by omega)
  have hlo : tv_lo tv t < 32 := by omega
  unfold wp_M_needs
  refine m_isThereNow hA hi hlo ?_
  unfold sp_its sp_pm at h
  by_cases k0 : tv_rk tv t = 0
  · rw [show jI (tv_rk tv t + 1) = 1 by rw [k0]; rfl]
    rw [if_pos k0, if_neg (show ¬ tv_rk tv t = 1 by omega), if_neg (show ¬ tv_rk tv t = 2 by omega)] at h
    refine jn_intro ?_
    rw [if_neg (by decide), if_neg (by decide)]
    dsimp only
    rw [if_neg (by decide), if_pos (by rfl)]
    cases hth : pv_th v (tv_lo tv t) with
    | false =>
      rw [if_pos (by rfl)]
      rw [hth] at h
      exact m_next hA hi hlo (m_want (RMP.nil P 1) (by decide) (fun P' hP' => h P' hP'))
    | true =>
      rw [if_neg (by decide)]
      rw [hth] at h
      exact m_want (RMP.nil P 1) (by decide) (fun P' hP' => h P' hP')
  · rw [if_neg k0] at h
    by_cases k1 : tv_rk tv t = 1
    · rw [show jI (tv_rk tv t + 1) = 2 by rw [k1]; rfl]
      rw [if_pos k1, if_pos k1] at h
      refine jn_intro ?_
      rw [if_pos (by rfl)]
      dsimp only
      rw [if_neg (by decide), if_neg (by decide), if_neg (by decide)]
      cases hth : pv_th v (tv_lo tv t) with
      | false =>
        rw [if_neg (by decide), if_pos (by rfl)]
        rw [hth] at h
        exact m_next hA hi hlo (m_want (RMP.nil P 2) (by decide) (fun P' hP' => m_want hP' (by simp) (fun P2 hP2 => h P2 hP2)))
      | true =>
        rw [if_neg (by decide), if_neg (by decide)]
        rw [hth] at h
        exact m_want (RMP.nil P 2) (by decide) (fun P' hP' => h P' hP')
    · rw [if_neg k1, if_neg k1] at h
      by_cases k2 : tv_rk tv t = 2
      · rw [show jI (tv_rk tv t + 1) = 3 by rw [k2]; rfl]
        rw [if_pos k2, if_pos k2] at h
        refine jn_intro ?_
        cases hth : pv_th v (tv_lo tv t) with
        | false =>
          rw [hth] at h
          rw [if_neg (by decide), if_pos (by rfl), if_pos (by rfl)]
          dsimp only
          rw [if_neg (by decide), if_neg (by decide), if_pos (by rfl), if_pos (by rfl), if_pos (by rfl)]
          exact m_next hA hi hlo (m_want (RMP.nil P 1) (by decide) (fun P' hP' => h P' hP'))
        | true =>
          rw [hth] at h
          rw [if_neg (by decide), if_pos (by rfl), if_neg (by decide)]
          dsimp only
          rw [if_neg (by decide), if_neg (by decide), if_pos (by rfl), if_neg (by decide), if_pos (by rfl)]
          exact m_next hA hi hlo (m_want (RMP.nil P 2) (by decide) (fun P' hP' => m_want hP' (by simp) (fun P2 hP2 => h P2 hP2)))
      · have k3 : tv_rk tv t = 3 := by omega
        rw [show jI (tv_rk tv t + 1) = 4 by rw [k3]; rfl]
        rw [if_neg k2, if_neg k2] at h
        have hsec : sp_sec tv t = jI (tv_hi tv t) := by
          unfold sp_sec
          rw [if_pos k3]
        rw [hsec]
        refine jn_intro ?_
        rw [if_neg (by decide), if_neg (by decide)]
        dsimp only
        rw [if_pos (by rfl)]
        refine lpi (fun n (s : Int32 × S_MP) => wp_M_needs_L44 A D (jI (tv_hi tv t)) _ n s.1 s.2) (fun k s => s.1 = jI (tv_lo tv t + k) ∧ RMP s.2 (sp_ks v (tv_lo tv t) k) 1) (tv_hi tv t + 1 - tv_lo tv t) ?_ ?_ 0 (by omega) (jI (tv_lo tv t), MP_mode' (MP_wanted' P 0) (jI 1)) ⟨rfl, RMP.nil P 1⟩
        · intro k hk s n hs hn
          obtain ⟨x, P⟩ := s
          obtain ⟨hx, hs⟩ := hs
          dsimp only at hx hs ⊢
          subst hx
          have hkb : tv_lo tv t + k < 2147483648 := by omega
          have hl := sp_ks_len v (tv_lo tv t) k
          rw [wp_M_needs_L44, if_neg (by rw [jI_lt (by omega) hkb]; omega), jI_s]
          refine m_isThereNow hA hi (by omega) ?_
          cases hth : pv_th v (tv_lo tv t + k) with
          | false =>
            rw [if_pos (by rfl)]
            refine hn (_, _) ⟨rfl, ?_⟩
            unfold sp_ks
            rw [hth, if_neg (by decide), List.append_nil]
            exact hs
          | true =>
            rw [if_neg (by decide)]
            refine m_want hs (by omega) (fun P' hP' => hn (_, _) ⟨rfl, ?_⟩)
            unfold sp_ks
            rw [hth, if_pos (by rfl)]
            exact hP'
        · intro s n hs
          obtain ⟨x, P⟩ := s
          obtain ⟨hx, hs⟩ := hs
          dsimp only at hx hs ⊢
          subst hx
          have hl := sp_ks_len v (tv_lo tv t) (tv_hi tv t + 1 - tv_lo tv t)
          rw [wp_M_needs_L44, if_pos (by rw [jI_lt (by omega) (by omega)]; omega)]
          exact m_next hA hi r3 (m_want hs (by omega) (fun P' hP' => h P' hP'))
theorem ff_step {Q : Nat → Bool} {l m : Nat} (h : m < l) : ff Q (l - m) m = if Q m then m else ff Q (l - (m + 1)) (m + 1) := by
  rw [show l - m = (l - (m + 1)) + 1 by omega]
  rfl
theorem m_look56 {Kx : S_MV → Prop} {its : List Nat} {m : Nat} (hK : RML K L) (hT : RMT T tv) (hv : iT tv) (hL : iK tv L) (hP : RMP P its m) (hm : m ≤ 2) (hl : its.length ≤ 33) (hit : ∀ x, x ∈ its → x < 33) (ht : t < tv_c tv) (h0 : MV_lacks V t = -1)
    (h : ∀ V', (∀ u, ¬ u = t → MV_lacks V' u = MV_lacks V u) → MV_lackMode V' = MV_lackMode V → MV_lacks V' t = pI (if sp_fr L tv t m its < its.length then some (its.getD (sp_fr L tv t m its) 0) else none) → Kx V') : ∃ e, wp_M_look_L56 K P T (jI t) Kx e (jI its.length + (-1)) V := by
  have hc := hv.1
  have htb : t < 2147483648 := by omega
  have hti : vp_in (jI t) 60 := jI_in htb (by omega)
  refine lpd (fun n k (s : S_MV) => wp_M_look_L56 K P T (jI t) Kx n (jI k + (-1)) s) (fun k s => k ≤ its.length ∧ (∀ u, ¬ u = t → MV_lacks s u = MV_lacks V u) ∧ MV_lackMode s = MV_lackMode V ∧ MV_lacks s t = pI (if ff (fun i => sp_lk L tv t m (its.getD i 0)) (its.length - k) k < its.length then some (its.getD (ff (fun i => sp_lk L tv t m (its.getD i 0)) (its.length - k) k) 0) else none)) ?_ ?_ its.length V ⟨Nat.le_refl _, fun u _ => rfl, rfl, ?_⟩
  · intro k s n hs hn
    have hk := hs.1
    have h1 := hs.2.1
    have h2 := hs.2.2.1
    have h3 := hs.2.2.2
    have hb : k < 2147483648 := by omega
    have hkl : k < its.length := by omega
    have hi : its.getD k 0 < 33 := hit _ (getD_mem hkl)
    have hki : vp_in (jI k) 33 := jI_in hb (by omega)
    have e1 := (ix33 (show t < 60 by omega) hi).1
    have e2 := (ix33 (show t < 60 by omega) hi).2.1
    have e3 := (ix33 (show t < 60 by omega) hi).2.2
    show wp_M_look_L56 K P T (jI t) Kx (n + 1) (jI (k + 1) + (-1)) s
    rw [wp_M_look_L56, jI_p, if_neg (jI_nn hb), jI_tn hb, hP.2.2 k _ (getD_of hkl), e1, jI_tn e3, hK t _ (by omega) hi, hP.1]
    refine ⟨hki, jI_in e3 e2, jn_in (fun jk => jk (b2i (sp_lk L tv t m (its.getD k 0)))) ?_ ?_⟩
    · rw [jI_tn htb]
      cases q : sp_lk L tv t m (its.getD k 0) with
      | false =>
        rw [if_pos (by rfl)]
        refine ⟨hti, hti, hn _ ⟨by omega, fun u hu => ?_, h2, ?_⟩⟩
        · show upd (MV_lacks s) t (MV_lacks s t) u = _
          rw [upd_ne _ _ hu]
          exact h1 u hu
        · show upd (MV_lacks s) t (MV_lacks s t) t = _
          rw [upd_same, h3, ff_step hkl, q]
          rfl
      | true =>
        rw [if_neg (by decide)]
        refine ⟨hki, hti, hn _ ⟨by omega, fun u hu => ?_, h2, ?_⟩⟩
        · show upd (MV_lacks s) t _ u = _
          rw [upd_ne _ _ hu]
          exact h1 u hu
        · show upd (MV_lacks s) t _ t = _
          rw [upd_same, ff_step hkl, q, if_pos (rfl : true = true), if_pos hkl]
          rfl
    · intro jk hjk
      unfold sp_lk at hjk
      rw [ite_iff' (jI_le (by omega) (by have := (hL t _ hi).1; omega))]
      by_cases q : m ≤ L t (its.getD k 0)
      · rw [if_pos q]
        rw [decide_eq_false (by omega : ¬ L t (its.getD k 0) < m)] at hjk
        exact hjk
      · rw [if_neg q]
        rw [decide_eq_true (by omega : L t (its.getD k 0) < m), Bool.true_and] at hjk
        refine ⟨hki, m_may hK hT hv ht hi (by omega) (fun u => (hL u _ hi).1) ?_⟩
        cases z : sp_bar L tv t (its.getD k 0) m with
        | true =>
          rw [if_pos (by rfl)]
          rw [z] at hjk
          exact hjk
        | false =>
          rw [if_neg (by decide)]
          rw [z] at hjk
          exact hjk
  · intro s n hs
    show wp_M_look_L56 K P T (jI t) Kx (n + 1) (jI 0 + (-1)) s
    rw [wp_M_look_L56, if_pos (by decide)]
    exact h s hs.2.1 hs.2.2.1 hs.2.2.2
  · rw [h0, Nat.sub_self]
    show (-1 : Int32) = pI (if its.length < its.length then _ else none)
    rw [if_neg (by omega)]
    rfl
theorem m_look {post : S_MP → S_MV → Prop} (hA : RMA A D v) (hi : iP v) (hK : RML K L) (hT : RMT T tv) (hv : iT tv) (hL : iK tv L) (h : ∀ P' V', RMV V' v L tv (tv_c tv) → post P' V') : wp_M_look A D K P T V post := by
  have hc := hv.1
  unfold wp_M_look
  refine lpi (fun n (s : Int32 × S_MP × S_MV) => wp_M_look_L2 A D K T (fun MP5 MV6 => post MP5 MV6) n s.1 s.2.1 s.2.2) (fun k s => s.1 = jI k ∧ RMV s.2.2 v L tv k) (tv_c tv) ?_ ?_ 0 (by omega) (0, P, V) ⟨rfl, fun t ht => absurd ht (Nat.not_lt_zero _)⟩
  · intro k hk s n hs hn
    obtain ⟨x, P, V⟩ := s
    obtain ⟨hx, hs⟩ := hs
    dsimp only at hx hs ⊢
    subst hx
    have hb : k < 2147483648 := by omega
    have hki : vp_in (jI k) 60 := jI_in hb (by omega)
    rw [wp_M_look_L2, hT.1, if_neg (by rw [jI_le (by omega) hb]; omega), jI_tn hb, hT.2.1 k hk, jI_s]
    refine ⟨hki, hki, ?_⟩
    by_cases q : tv_st tv k = 2
    · rw [if_pos q]
      obtain ⟨a1, a2, a3⟩ := hT.2.2.2.2 k hk q
      rw [a1, a2, a3]
      refine ⟨hki, hki, hki, m_needs hA hi hv hk (fun P1 hP1 => ?_)⟩
      rw [hP1.2.1, jI_dm]
      refine m_look56 hK hT hv hL hP1 (sp_pm_le v tv k).1 (sp_its_len hv hk) (sp_its_lt hv hk) hk (upd_same _ _ _) (fun V' h1 h2 h3 => ⟨hki, hn (_, _, _) ⟨rfl, fun t ht => ?_⟩⟩)
      by_cases e : t = k
      · subst e
        refine ⟨fun _ => ⟨?_, ?_⟩, fun z => absurd q z⟩
        · show MV_lacks V' t = pI (sp_lack v L tv t)
          rw [h3]
          rfl
        · show upd (MV_lackMode V') t (MP_mode P1) t = _
          rw [upd_same, hP1.1]
      · have e1 : MV_lacks V' t = MV_lacks V t := by
          rw [h1 t e]
          exact upd_ne _ _ e
        have e2 : upd (MV_lackMode V') k (MP_mode P1) t = MV_lackMode V t := by
          rw [upd_ne _ _ e, h2]
        have hst := hs t (by omega)
        refine ⟨fun z => ⟨?_, ?_⟩, fun z => ?_⟩
        · show MV_lacks V' t = _
          rw [e1]
          exact (hst.1 z).1
        · show upd (MV_lackMode V') k (MP_mode P1) t = _
          rw [e2]
          exact (hst.1 z).2
        · show MV_lacks V' t = _
          rw [e1]
          exact hst.2 z
    · rw [if_neg q]
      refine hn (_, _, _) ⟨rfl, fun t ht => ?_⟩
      by_cases e : t = k
      · subst e
        exact ⟨fun z => absurd z q, fun _ => upd_same _ _ _⟩
      · have e1 : upd (MV_lacks V) k (-1) t = MV_lacks V t := upd_ne _ _ e
        have hst := hs t (by omega)
        refine ⟨fun z => ⟨?_, (hst.1 z).2⟩, fun z => ?_⟩
        · show upd (MV_lacks V) k (-1) t = _
          rw [e1]
          exact (hst.1 z).1
        · show upd (MV_lacks V) k (-1) t = _
          rw [e1]
          exact hst.2 z
  · intro s n hs
    obtain ⟨x, P, V⟩ := s
    obtain ⟨hx, hs⟩ := hs
    dsimp only at hx hs ⊢
    subst hx
    rw [wp_M_look_L2, hT.1, if_pos (by rw [jI_le (by omega) (by omega)]; omega)]
    exact h P V hs
theorem sp_lack_lt (hv : iT tv) (ht : t < tv_c tv) {i : Nat} (h : sp_lack v L tv t = some i) : i < 33 := by
  unfold sp_lack at h
  split at h
  · rename_i q
    cases h
    exact sp_its_lt hv ht _ (getD_mem q)
  · cases h
theorem m_leads {post : Int32 → Prop} {u : Nat} (hK : RML K L) (hT : RMT T tv) (hv : iT tv) (hL : iK tv L) (hV : RMV V v L tv (tv_c tv)) (ht : t < tv_c tv) (hu : u < tv_c tv) (h : post (b2i (sp_ld v L tv t u))) : wp_M_leads K T V (jI t) (jI u) post := by
  have hc := hv.1
  have htb : t < 2147483648 := by omega
  have hub : u < 2147483648 := by omega
  have hti : vp_in (jI t) 60 := jI_in htb (by omega)
  have hui : vp_in (jI u) 60 := jI_in hub (by omega)
  obtain ⟨v1, v2⟩ := hV t ht
  have tail : post (b2i (sp_wai tv t && sp_wf v L tv t u)) → (vp_in (jI t) 60 ∧ (if tv_st tv t = 2 then vp_in (jI t) 60 ∧ (if MV_lacks V t < 0 then post 0 else vp_in (jI t) 60 ∧ vp_in (jI t) 60 ∧ wp_M_bars K T (jI u) (jI t) (MV_lacks V t) (MV_lackMode V t) (fun r2 => if r2 = 0 then post 0 else post 1)) else post 0)) := by
    intro hp
    refine ⟨hti, ?_⟩
    unfold sp_wai at hp
    rw [decide_eq_true ht, Bool.true_and] at hp
    by_cases q : tv_st tv t = 2
    · rw [if_pos q]
      rw [decide_eq_true q, Bool.true_and, sp_wf_lack] at hp
      refine ⟨hti, ?_⟩
      obtain ⟨l1, l2⟩ := v1 q
      rw [l1, l2]
      cases z : sp_lack v L tv t with
      | none =>
        rw [if_pos (by decide)]
        rw [z] at hp
        exact hp
      | some i =>
        have hi := sp_lack_lt hv ht z
        rw [show pI (some i) = jI i from rfl, if_neg (jI_nn (by omega))]
        rw [z] at hp
        dsimp only at hp
        refine ⟨hti, hti, m_bars hK hT hv hu ht hi (by have := (sp_pm_le v tv t).1; omega) (hL u i hi).1 ?_⟩
        cases w : sp_bl L (tv_lin tv t) i (sp_pm v tv t) u with
        | false =>
          rw [if_pos (by rfl)]
          rw [w] at hp
          exact hp
        | true =>
          rw [if_neg (by decide)]
          rw [w] at hp
          exact hp
    · rw [if_neg q]
      rw [decide_eq_false q, Bool.false_and] at hp
      exact hp
  unfold wp_M_leads
  refine m_live hT hv ht ?_
  unfold sp_ld at h
  rw [jI_tn htb, jI_tn hub, hT.2.1 t ht, hT.2.2.1 u hu]
  cases hl : sp_liv tv t with
  | false =>
    rw [if_pos (by rfl)]
    rw [hl, Bool.false_and] at h
    refine tail ?_
    have : sp_wai tv t = false := by
      unfold sp_liv at hl
      unfold sp_wai
      rw [decide_eq_true ht, Bool.true_and] at hl ⊢
      rw [Bool.or_eq_false_iff] at hl
      exact hl.2
    rw [this, Bool.false_and]
    exact h
  | true =>
    rw [if_neg (by decide)]
    rw [hl, Bool.true_and] at h
    unfold sp_chl at h
    refine m_live hT hv hu ?_
    cases hl2 : sp_liv tv u with
    | false =>
      rw [if_pos (by rfl)]
      rw [hl2, Bool.false_and, Bool.false_or] at h
      exact tail h
    | true =>
      rw [if_neg (by decide)]
      rw [hl2, Bool.true_and] at h
      refine ⟨hui, ?_⟩
      have hpp : pI (tv_par tv u) = jI t ↔ tv_par tv u = some t := by
        cases hp : tv_par tv u with
        | none =>
          constructor
          · intro z
            exact absurd z.symm (jI_m1 htb)
          · intro z
            cases z
        | some p =>
          have := (hv.2.1 _ hu).2.2.2.2.2 p hp
          constructor
          · intro z
            rw [(jI_eq (by omega) (by omega)).mp z]
          · intro z
            cases z
            rfl
      by_cases hp : tv_par tv u = some t
      · rw [if_pos (hpp.mpr hp)]
        rw [decide_eq_true hp, Bool.true_or] at h
        exact h
      · rw [if_neg (fun z => hp (hpp.mp z))]
        rw [decide_eq_false hp, Bool.false_or] at h
        exact tail h
end PMN2
