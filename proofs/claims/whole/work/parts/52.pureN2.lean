section PN2
variable {A : S_A} {T : S_T} {P : S_P} {v : VP} {tv : VT} {t : Nat}
theorem k_P_add {post : S_P → Prop} {its : List Nat} {m x : Nat} (hP : RPl P its m) (hl : its.length < 33) (h : ∀ P', RPl P' (its ++ [x]) m → post P') : wp_P_add P (jI x) post := by
  have hb : its.length < 2147483648 := by omega
  unfold wp_P_add
  rw [hP.2.1, if_neg (by rw [show (33 : Int32) = jI 33 from rfl, jI_le (by omega) hb]; omega), jI_tn hb, jI_s]
  refine ⟨jI_in hb hl, h _ ⟨hP.1, ?_, fun i y hi => ?_⟩⟩
  · rw [List.length_append]
    rfl
  · show upd (P_items P) its.length (jI x) i = jI y
    by_cases e : i = its.length
    · rw [e, upd_same]
      rw [e, List.getElem?_append_right (Nat.le_refl _)] at hi
      simp at hi
      rw [hi]
    · rw [upd_ne _ _ e]
      have hlt : i < its.length := by
        have := (List.getElem?_eq_some_iff.mp hi).1
        simp at this
        omega
      rw [List.getElem?_append_left hlt] at hi
      exact hP.2.2 i y hi
theorem RPl.nil (P : S_P) (m : Nat) : RPl (P_size' (P_mode' P (jI m)) 0) [] m := ⟨rfl, rfl, fun i x h => by cases h⟩
theorem k_N_planLocks {post : S_P → Prop} (hA : RA A v) (hT : RT T tv) (hv : iT tv) (ht : t < tv_c tv) (h : ∀ P', RPl P' (sp_its v tv t) (sp_pm v tv t) → post P') : wp_N_planLocks A P T (jI t) post := by
  have hc := hv.1
  have hb : t < 2147483648 := by omega
  have hti : vp_in (jI t) 60 := jI_in hb (by omega)
  obtain ⟨r1, r2, r3⟩ := hv.2.2 t (by omega)
  have hlo : tv_lo tv t < 32 := by omega
  have hlob : tv_lo tv t < 2147483648 := by omega
  have hloi : vp_in (jI (tv_lo tv t)) 32 := jI_in hlob hlo
  have e4 : ∀ m : Nat, (P_size' (P_mode' P (jI m)) 0) = (P_size' (P_mode' P (jI m)) 0) := fun _ => rfl
  unfold wp_N_planLocks
  rw [jI_tn hb, hT.2.2.2.2.2.2.2.1 t (by omega), hT.2.2.2.2.2.2.2.2.1 t (by omega), hT.2.2.2.2.2.2.2.2.2.1 t (by omega), jI_tn hlob, hA.2.2.2.2.2.1 _ hlo]
  refine ⟨hti, hti, hloi, hti, ?_⟩
  unfold sp_its sp_pm at h
  rw [show (0 : Int32) = jI 0 from rfl, show (1 : Int32) = jI 1 from rfl, show (2 : Int32) = jI 2 from rfl, ite_iff' (jI_eq (by omega) (by omega)), ite_iff' (jI_eq (by omega) (by omega)), ite_iff' (jI_eq (by omega) (by omega))]
  by_cases k0 : tv_rk tv t = 0
  · rw [if_pos k0]
    rw [if_pos k0, if_neg (show ¬ tv_rk tv t = 1 by omega), if_neg (show ¬ tv_rk tv t = 2 by omega)] at h
    unfold wp_P_start
    cases hth : pv_th v (tv_lo tv t) with
    | false =>
      rw [if_pos (by rfl)]
      rw [hth] at h
      exact k_A_nextItem hA hlo (k_P_add (RPl.nil P 1) (by decide) (fun P' hP' => h P' hP'))
    | true =>
      rw [if_neg (by decide)]
      rw [hth] at h
      exact k_P_add (RPl.nil P 1) (by decide) (fun P' hP' => h P' hP')
  · rw [if_neg k0]
    rw [if_neg k0] at h
    by_cases k1 : tv_rk tv t = 1
    · rw [if_pos k1]
      rw [if_pos k1, if_pos k1] at h
      unfold wp_P_start
      cases hth : pv_th v (tv_lo tv t) with
      | false =>
        rw [if_pos (by rfl)]
        rw [hth] at h
        exact k_A_nextItem hA hlo (k_P_add (RPl.nil P 2) (by decide) (fun P' hP' => k_P_add hP' (by simp) (fun P2 hP2 => h P2 hP2)))
      | true =>
        rw [if_neg (by decide)]
        rw [hth] at h
        exact k_P_add (RPl.nil P 2) (by decide) (fun P' hP' => h P' hP')
    · rw [if_neg k1]
      rw [if_neg k1, if_neg k1] at h
      by_cases k2 : tv_rk tv t = 2
      · rw [if_pos k2]
        rw [if_pos k2, if_pos k2] at h
        cases hth : pv_th v (tv_lo tv t) with
        | false =>
          rw [hth] at h
          refine jn_intro ?_
          rw [if_pos (by rfl)]
          unfold wp_P_start
          refine k_A_nextItem hA hlo (k_P_add (RPl.nil P 1) (by decide) (fun P' hP' => ?_))
          rw [if_pos (by rfl)]
          exact h P' hP'
        | true =>
          rw [hth] at h
          refine jn_intro ?_
          rw [if_neg (by decide)]
          unfold wp_P_start
          refine k_A_nextItem hA hlo (k_P_add (RPl.nil P 2) (by decide) (fun P' hP' => ?_))
          rw [if_neg (by decide)]
          exact k_P_add hP' (by simp) (fun P2 hP2 => h P2 hP2)
      · rw [if_neg k2]
        rw [if_neg k2, if_neg k2] at h
        unfold wp_P_start
        refine lpi (fun n (s : Int32 × S_P) => wp_N_planLocks_L201 A (jI (tv_hi tv t)) _ n s.1 s.2) (fun k s => s.1 = jI (tv_lo tv t + k) ∧ RPl s.2 (sp_ks v (tv_lo tv t) k) 1) (tv_hi tv t + 1 - tv_lo tv t) ?_ ?_ 0 (by omega) (jI (tv_lo tv t), P_size' (P_mode' P (jI 1)) 0) ⟨rfl, RPl.nil P 1⟩
        · intro k hk s n hs hn
          obtain ⟨x, P⟩ := s
          obtain ⟨hx, hs⟩ := hs
          dsimp only at hx hs ⊢
          subst hx
          have hkb : tv_lo tv t + k < 2147483648 := by omega
          have hl := sp_ks_len v (tv_lo tv t) k
          rw [wp_N_planLocks_L201, if_neg (by rw [jI_lt (by omega) hkb]; omega), jI_tn hkb, hA.2.2.2.2.2.1 _ (by omega), jI_s]
          refine ⟨jI_in hkb (by omega), ?_⟩
          cases hth : pv_th v (tv_lo tv t + k) with
          | false =>
            rw [if_pos (by rfl)]
            refine hn (_, _) ⟨rfl, ?_⟩
            unfold sp_ks
            rw [hth, if_neg (by decide), List.append_nil]
            exact hs
          | true =>
            rw [if_neg (by decide)]
            refine k_P_add hs (by omega) (fun P' hP' => hn (_, _) ⟨rfl, ?_⟩)
            unfold sp_ks
            rw [hth, if_pos (by rfl)]
            exact hP'
        · intro s n hs
          obtain ⟨x, P⟩ := s
          obtain ⟨hx, hs⟩ := hs
          dsimp only at hx hs ⊢
          subst hx
          have hl := sp_ks_len v (tv_lo tv t) (tv_hi tv t + 1 - tv_lo tv t)
          rw [wp_N_planLocks_L201, if_pos (by rw [jI_lt (by omega) (by omega)]; omega)]
          exact k_A_nextItem hA r3 (k_P_add hs (by omega) (fun P' hP' => h P' hP'))
end PN2
