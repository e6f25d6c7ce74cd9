section PN3
variable {A : S_A} {T : S_T} {K : S_K} {P : S_P} {v : VP} {tv : VT} {L : VK} {t : Nat}
theorem k_N_freeLocks {post : Int32 → Prop} {its : List Nat} {m : Nat} (hK : RK K L) (hT : RT T tv) (hv : iT tv) (hL : iK tv L) (hP : RPl P its m) (hm : m ≤ 2) (hl : its.length ≤ 33) (hit : ∀ x, x ∈ its → x < 33) (ht : t < tv_c tv) (h : post (jI (sp_fr L tv t m its))) : wp_N_freeLocks K P T (jI t) post := by
  have hc := hv.1
  have htb : t < 2147483648 := by omega
  unfold wp_N_freeLocks
  refine lpi (fun n (s : Int32) => wp_N_freeLocks_L2 K P T (jI t) post (post (P_size P)) n s) (fun d s => s = jI d ∧ ∀ x, x < d → sp_lk L tv t m (its.getD x 0) = false) its.length ?_ ?_ 0 (by omega) 0 ⟨rfl, fun x hx => by omega⟩
  · intro d hd s n hs hn
    obtain ⟨rfl, hs⟩ := hs
    have hb : d < 2147483648 := by omega
    have hi : its.getD d 0 < 33 := hit _ (getD_mem hd)
    have next : sp_lk L tv t m (its.getD d 0) = false → wp_N_freeLocks_L2 K P T (jI t) post (post (jI its.length)) n (jI (d + 1)) := by
      intro q
      rw [← hP.2.1]
      refine hn _ ⟨rfl, fun x hx => ?_⟩
      by_cases e : x = d
      · rw [e, q]
      · exact hs x (by omega)
    rw [wp_N_freeLocks_L2, hP.2.1, if_neg (by rw [jI_le (by omega) hb]; omega), jI_tn hb, hP.2.2 d _ (getD_of hd), hP.1, jI_s, jI_tn htb]
    refine ⟨jI_in hb (by omega), k_K_heldBy hK (hL t _ hi).1 (by omega) hi ?_⟩
    refine jn_in (fun jk => jk (b2i (!decide (L t (its.getD d 0) < m)))) ?_ ?_
    · by_cases q : L t (its.getD d 0) < m
      · rw [decide_eq_true q, if_pos (by rfl)]
        refine ⟨jI_in htb (by omega), k_K_blockers hK (fun u => (hL u _ hi).1) hi (by omega) (hT.2.2.2.2.2.2.1 t ht) (fun x hx => ?_)⟩
        have hbar : lg_cmp x 0 = 0 ↔ sp_bar L tv t (its.getD d 0) m = false := by
          rw [cmp_z]
          constructor
          · intro z
            cases z2 : sp_bar L tv t (its.getD d 0) m with
            | false => rfl
            | true =>
              obtain ⟨u, hu, hz⟩ := bx_iff.mp z2
              rw [← hx u (by omega), z u (by omega)] at hz
              cases hz
          · intro z u hu
            rw [hx u hu]
            cases z2 : sp_bl L (tv_lin tv t) (its.getD d 0) m u with
            | false => rfl
            | true =>
              by_cases huc : u < tv_c tv
              · have : sp_bar L tv t (its.getD d 0) m = true := bx_iff.mpr ⟨u, huc, z2⟩
                rw [z] at this
                cases this
              · rw [hL.bl_out hi (by omega)] at z2
                cases z2
        by_cases z : sp_bar L tv t (its.getD d 0) m = false
        · rw [if_pos (hbar.mpr z)]
          refine next ?_
          unfold sp_lk
          rw [z, Bool.and_false]
        · rw [if_neg (fun y => z (hbar.mp y))]
          have z : sp_bar L tv t (its.getD d 0) m = true := by simpa using z
          have : sp_fr L tv t m its = d := ff_eq _ _ _ _ (by omega) (by omega) (fun x _ hx => hs x hx) (fun _ => by
            show sp_lk L tv t m (its.getD d 0) = true
            unfold sp_lk
            rw [z, decide_eq_true q]
            rfl)
          rw [this] at h
          exact h
      · rw [decide_eq_false q, if_neg (by decide)]
        refine next ?_
        unfold sp_lk
        rw [decide_eq_false q]
        rfl
    · intro jk hjk
      rw [ite_iff' (jI_lt (by have := (hL t _ hi).1; omega) (by omega))]
      by_cases q : L t (its.getD d 0) < m
      · rw [if_pos q]
        rw [decide_eq_true q] at hjk
        exact hjk
      · rw [if_neg q]
        rw [decide_eq_false q] at hjk
        exact hjk
  · intro s n hs
    obtain ⟨rfl, hs⟩ := hs
    rw [wp_N_freeLocks_L2, hP.2.1, if_pos (by rw [jI_le (by omega) (by omega)]; omega)]
    have : sp_fr L tv t m its = its.length := ff_eq _ _ _ _ (by omega) (by omega) (fun x _ hx => hs x hx) (fun z => by omega)
    rw [this] at h
    exact h
theorem sp_fr_le {m : Nat} {its : List Nat} : sp_fr L tv t m its ≤ its.length := by
  have := (ff_spec (fun i => sp_lk L tv t m (its.getD i 0)) its.length 0).2.1
  show ff _ _ _ ≤ _
  omega
theorem k_N_takeLocks {post : Int32 → S_K → S_P → Prop} (hA : RA A v) (hK : RK K L) (hT : RT T tv) (hv : iT tv) (hL : iK tv L) (ht : t < tv_c tv)
    (h : ∀ K' P', RK K' (sp_grs L t (sp_pm v tv t) (sp_its v tv t) (sp_fr L tv t (sp_pm v tv t) (sp_its v tv t))) → RPl P' (sp_its v tv t) (sp_pm v tv t) → post (b2i (decide (sp_fr L tv t (sp_pm v tv t) (sp_its v tv t) = (sp_its v tv t).length))) K' P') : wp_N_takeLocks A K P T (jI t) post := by
  have hc := hv.1
  have hl := sp_its_len (v := v) hv ht
  have hit := sp_its_lt (v := v) hv ht
  have hm := (sp_pm_le v tv t).1
  unfold wp_N_takeLocks
  refine k_N_planLocks hA hT hv ht (fun P1 hP1 => k_N_freeLocks hK hT hv hL hP1 hm hl hit ht ?_)
  obtain ⟨its, hits⟩ : ∃ its, its = sp_its v tv t := ⟨_, rfl⟩
  obtain ⟨m, hmm⟩ : ∃ m, m = sp_pm v tv t := ⟨_, rfl⟩
  rw [← hits] at hl hit hP1 h ⊢
  rw [← hmm] at hm hP1 h ⊢
  have hfr := sp_fr_le (L := L) (tv := tv) (t := t) (m := m) (its := its)
  refine lpi (fun n (s : Int32 × S_K) => wp_N_takeLocks_L13 P1 (jI t) (jI (sp_fr L tv t m its)) _ n s.1 s.2) (fun d s => s.1 = jI d ∧ RK s.2 (sp_grs L t m its d)) (sp_fr L tv t m its) ?_ ?_ 0 (by omega) (0, K) ⟨rfl, hK⟩
  · intro d hd s n hs hn
    obtain ⟨x, K⟩ := s
    obtain ⟨hx, hs⟩ := hs
    dsimp only at hx hs ⊢
    subst hx
    have hb : d < 2147483648 := by omega
    have hdl : d < its.length := by omega
    have hi : its.getD d 0 < 33 := hit _ (getD_mem hdl)
    rw [wp_N_takeLocks_L13, if_neg (by rw [jI_le (by omega) hb]; omega), jI_tn hb, hP1.2.2 d _ (getD_of hdl), hP1.1, jI_s]
    exact ⟨jI_in hb (by omega), k_K_grant hs (sp_grs_le hm (fun u j hj => (hL u j hj).1) d t _ hi) (by omega) hi hm (fun K' hK' => hn (_, _) ⟨rfl, hK'⟩)⟩
  · intro s n hs
    obtain ⟨x, K⟩ := s
    obtain ⟨hx, hs⟩ := hs
    dsimp only at hx hs ⊢
    subst hx
    rw [wp_N_takeLocks_L13, if_pos (by rw [jI_le (by omega) (by omega)]; omega), hP1.2.1, ite_iff' (jI_eq (by omega) (by omega))]
    have hh := h K P1 hs hP1
    by_cases q : sp_fr L tv t m its = its.length
    · rw [if_pos q]
      rw [decide_eq_true q] at hh
      exact hh
    · rw [if_neg q]
      rw [decide_eq_false q] at hh
      exact hh
theorem k_N_blockersOf {post : Int64 → S_P → Prop} (hA : RA A v) (hK : RK K L) (hT : RT T tv) (hv : iT tv) (hL : iK tv L) (ht : t < tv_c tv)
    (h : ∀ x P', (∀ u, u < 64 → tb x u = sp_wf v L tv t u) → post x P') : wp_N_blockersOf A K P T (jI t) post := by
  have hc := hv.1
  have htb : t < 2147483648 := by omega
  have hl := sp_its_len (v := v) hv ht
  have hit := sp_its_lt (v := v) hv ht
  have hm := (sp_pm_le v tv t).1
  unfold wp_N_blockersOf
  refine k_N_planLocks hA hT hv ht (fun P1 hP1 => k_N_freeLocks hK hT hv hL hP1 hm hl hit ht ?_)
  have hfr := sp_fr_le (L := L) (tv := tv) (t := t) (m := sp_pm v tv t) (its := sp_its v tv t)
  have hfb : sp_fr L tv t (sp_pm v tv t) (sp_its v tv t) < 2147483648 := by omega
  rw [hP1.2.1, ite_iff' (jI_eq hfb (by omega))]
  by_cases q : sp_fr L tv t (sp_pm v tv t) (sp_its v tv t) = (sp_its v tv t).length
  · rw [if_pos q]
    refine h _ _ (fun u hu => ?_)
    unfold sp_wf
    rw [tb_0, decide_eq_false (by omega)]
    rfl
  · rw [if_neg q]
    have hlt : sp_fr L tv t (sp_pm v tv t) (sp_its v tv t) < (sp_its v tv t).length := by omega
    have hi := hit _ (getD_mem hlt)
    rw [jI_tn hfb, jI_tn htb, hP1.2.2 _ _ (getD_of hlt), hP1.1]
    refine ⟨jI_in hfb (by omega), jI_in htb (by omega), k_K_blockers hK (fun u => (hL u _ hi).1) hi (by omega) (hT.2.2.2.2.2.2.1 t ht) (fun x hx => h x _ (fun u hu => ?_))⟩
    rw [hx u hu]
    unfold sp_wf
    rw [decide_eq_true hlt]
    rfl
theorem k_N_leadsOf {post : Int64 → S_P → Prop} (hA : RA A v) (hK : RK K L) (hT : RT T tv) (hv : iT tv) (hL : iK tv L) (ht : t < tv_c tv)
    (h : ∀ x P', (∀ u, u < 64 → tb x u = sp_ld v L tv t u) → post x P') : wp_N_leadsOf A K P T (jI t) post := by
  have hc := hv.1
  have htb : t < 2147483648 := by omega
  unfold wp_N_leadsOf
  refine k_T_isLive hT hv htb ?_
  cases hl : sp_liv tv t with
  | false =>
    rw [if_pos (by rfl)]
    refine h _ _ (fun u hu => ?_)
    unfold sp_ld
    rw [tb_0, hl]
    rfl
  | true =>
    rw [if_neg (by decide)]
    refine k_T_liveChildren hT hv ht (fun x hx => k_T_isWaiting hT hv htb ?_)
    cases hw : sp_wai tv t with
    | false =>
      rw [if_pos (by rfl)]
      refine h _ _ (fun u hu => ?_)
      unfold sp_ld
      rw [hx u, hl, hw]
      simp
    | true =>
      rw [if_neg (by decide)]
      refine k_N_blockersOf hA hK hT hv hL ht (fun y P' hy => h _ _ (fun u hu => ?_))
      unfold sp_ld
      rw [tb_or, hx u, hy u hu, hl, hw]
      simp
end PN3
