section PN1
variable {A : S_A} {G : S_G} {T : S_T} {v : VP} {g : VG} {tv : VT}
theorem k_A_loseFrames {post : S_A → Prop} (hA : RA A v) (h : ∀ A', RA A' (sp_lose v) → post A') : wp_A_loseFrames A post := by
  unfold wp_A_loseFrames
  obtain ⟨h1, h2, h3, h4, h5, h6, h7, h8, h9, h10⟩ := hA
  refine lpi (fun n (s : Int32 × S_A) => wp_A_loseFrames_L7 _ n s.1 s.2) (fun k s => s.1 = jI k ∧ RA s.2 (pv_m' (pv_ls' (pv_dy' v (fun p => if p < k then false else pv_dy v p)) (fun p => if p < k then pv_dls v p else pv_ls v p)) 0)) 8 ?_ ?_ 0 (by omega) (0, A_framesInUse' A 0) ⟨rfl, h1, rfl, fun i hi => absurd hi (Nat.not_lt_zero _), fun p hp => ?_, fun p hp => ?_, h6, h7, h8, h9, h10⟩
  · intro k hk s n hs hn
    obtain ⟨x, A⟩ := s
    obtain ⟨hx, q1, q2, q3, q4, q5, q6, q7, q8, q9, q10⟩ := hs
    dsimp only at hx ⊢
    subst hx
    have q4 : ∀ p, p < 8 → A_dirty A p = b2i (if p < k then false else pv_dy v p) := q4
    have q5 : ∀ p, p < 8 → A_lsn A p = jI (if p < k then pv_dls v p else pv_ls v p) := q5
    have q8 : ∀ p, p < 8 → A_diskLsn A p = jI (pv_dls v p) := q8
    have hb : k < 2147483648 := by omega
    have hii : vp_in (jI k) 8 := jI_in hb hk
    rw [wp_A_loseFrames_L7, if_neg (by rw [show (8 : Int32) = jI 8 from rfl, jI_le (by omega) hb]; omega), jI_tn hb, jI_s, nar_0]
    refine ⟨hii, hii, hii, hn (_, _) ⟨rfl, q1, q2, q3, fun p hp => ?_, fun p hp => ?_, q6, q7, q8, q9, q10⟩⟩
    · show upd (A_dirty A) k (b2i false) p = b2i (if p < k + 1 then false else pv_dy v p)
      by_cases e : p = k
      · rw [e, upd_same, if_pos (by omega)]
      · rw [upd_ne _ _ e, q4 p hp]
        by_cases z : p < k
        · rw [if_pos z, if_pos (by omega)]
        · rw [if_neg z, if_neg (by omega)]
    · show upd (A_lsn A) k (A_diskLsn A k) p = jI (if p < k + 1 then pv_dls v p else pv_ls v p)
      by_cases e : p = k
      · rw [e, upd_same, if_pos (by omega), q8 k hk]
      · rw [upd_ne _ _ e, q5 p hp]
        by_cases z : p < k
        · rw [if_pos z, if_pos (by omega)]
        · rw [if_neg z, if_neg (by omega)]
  · intro s n hs
    obtain ⟨x, A⟩ := s
    obtain ⟨hx, q1, q2, q3, q4, q5, q6, q7, q8, q9, q10⟩ := hs
    dsimp only at hx ⊢
    subst hx
    have q4 : ∀ p, p < 8 → A_dirty A p = b2i (if p < 8 then false else pv_dy v p) := q4
    have q5 : ∀ p, p < 8 → A_lsn A p = jI (if p < 8 then pv_dls v p else pv_ls v p) := q5
    rw [wp_A_loseFrames_L7, if_pos (by decide)]
    refine lpi (fun n (s : Int32 × S_A) => wp_A_loseFrames_L40 (fun A2 => post A2) n s.1 s.2) (fun k s => s.1 = jI k ∧ RA s.2 (pv_m' (pv_ls' (pv_dy' (pv_va' (pv_th' v (fun x => if x < k then pv_dth v x else pv_th v x)) (fun x => if x < k then pv_dva v x else pv_va v x)) (fun _ => false)) (pv_dls v)) 0)) 32 ?_ ?_ 0 (by omega) (0, A) ⟨rfl, q1, q2, q3, fun p hp => ?_, fun p hp => ?_, fun x hx => ?_, fun x hx => ?_, q8, q9, q10⟩
    · intro k hk s n hs hn
      obtain ⟨x, A⟩ := s
      obtain ⟨hx, q1, q2, q3, q4, q5, q6, q7, q8, q9, q10⟩ := hs
      dsimp only at hx ⊢
      subst hx
      have q6 : ∀ p, p < 32 → A_there A p = b2i (if p < k then pv_dth v p else pv_th v p) := q6
      have q7 : ∀ p, p < 32 → A_value A p = if p < k then pv_dva v p else pv_va v p := q7
      have q9 : ∀ p, p < 32 → A_diskThere A p = b2i (pv_dth v p) := q9
      have q10 : ∀ p, p < 32 → A_diskValue A p = pv_dva v p := q10
      have hb : k < 2147483648 := by omega
      have hii : vp_in (jI k) 32 := jI_in hb hk
      rw [wp_A_loseFrames_L40, if_neg (by rw [show (32 : Int32) = jI 32 from rfl, jI_le (by omega) hb]; omega), jI_tn hb, jI_s]
      refine ⟨hii, hii, hii, hii, hn (_, _) ⟨rfl, q1, q2, q3, q4, q5, fun p hp => ?_, fun p hp => ?_, q8, q9, q10⟩⟩
      · show upd (A_there A) k (vp_nar .boolean (A_diskThere A k)) p = b2i (if p < k + 1 then pv_dth v p else pv_th v p)
        by_cases e : p = k
        · rw [e, upd_same, if_pos (by omega), q9 k hk, nar_b]
        · rw [upd_ne _ _ e, q6 p hp]
          by_cases z : p < k
          · rw [if_pos z, if_pos (by omega)]
          · rw [if_neg z, if_neg (by omega)]
      · show upd (A_value A) k (A_diskValue A k) p = if p < k + 1 then pv_dva v p else pv_va v p
        by_cases e : p = k
        · rw [e, upd_same, if_pos (by omega), q10 k hk]
        · rw [upd_ne _ _ e, q7 p hp]
          by_cases z : p < k
          · rw [if_pos z, if_pos (by omega)]
          · rw [if_neg z, if_neg (by omega)]
    · intro s n hs
      obtain ⟨x, A⟩ := s
      obtain ⟨hx, q1, q2, q3, q4, q5, q6, q7, q8, q9, q10⟩ := hs
      dsimp only at hx ⊢
      subst hx
      have q6 : ∀ p, p < 32 → A_there A p = b2i (if p < 32 then pv_dth v p else pv_th v p) := q6
      have q7 : ∀ p, p < 32 → A_value A p = if p < 32 then pv_dva v p else pv_va v p := q7
      rw [wp_A_loseFrames_L40, if_pos (by decide)]
      refine h A ⟨q1, q2, q3, q4, q5, fun p hp => ?_, fun p hp => ?_, q8, q9, q10⟩
      · rw [q6 p hp, if_pos hp]
        rfl
      · rw [q7 p hp, if_pos hp]
        rfl
    · show A_dirty A p = b2i false
      rw [q4 p hp, if_pos hp]
    · show A_lsn A p = jI (pv_dls v p)
      rw [q5 p hp, if_pos hp]
    · show A_there A x = b2i (if x < 0 then pv_dth v x else pv_th v x)
      rw [if_neg (by omega)]
      exact q6 x hx
    · show A_value A x = if x < 0 then pv_dva v x else pv_va v x
      rw [if_neg (by omega)]
      exact q7 x hx
  · show A_dirty A p = b2i (if p < 0 then false else pv_dy v p)
    rw [if_neg (by omega)]
    exact h4 p hp
  · show A_lsn A p = jI (if p < 0 then pv_dls v p else pv_ls v p)
    rw [if_neg (by omega)]
    exact h5 p hp
theorem k_N_isOpen {post : Int32 → Prop} {r : Nat} (hG : RG G g) (hT : RT T tv) (hv : iT tv) (hn : gv_n g ≤ 300) (hr : r < gv_n g) (hby : gv_by g r < tv_c tv) (h : post (b2i (sp_opn g tv r))) : wp_N_isOpen G T (jI r) post := by
  have hb : r < 2147483648 := by omega
  have hii : vp_in (jI r) 300 := jI_in hb (by omega)
  obtain ⟨h1, h2, h3, h4, h5, h6, h7, h8, h9, h10, h11, h12⟩ := hG
  unfold wp_N_isOpen
  unfold sp_opn at h
  rw [jI_tn hb, h4 r hr, h5 r hr, h12 r hr]
  refine ⟨hii, ?_⟩
  by_cases hk : gv_kd g r = 2
  · rw [if_pos hk]
    rw [decide_eq_true hk, Bool.true_and] at h
    refine ⟨hii, ?_⟩
    cases hu : sp_ud g r with
    | true =>
      rw [if_neg (by decide)]
      rw [hu] at h
      exact h
    | false =>
      rw [if_pos (by rfl)]
      rw [hu, Bool.not_false, Bool.true_and] at h
      refine ⟨hii, k_T_isTopLive hT hv hby ?_⟩
      cases hl : sp_liv tv (tv_top tv (gv_by g r)) with
      | true =>
        rw [if_neg (by decide)]
        rw [hl] at h
        exact h
      | false =>
        rw [if_pos (by rfl)]
        rw [hl] at h
        exact h
  · rw [if_neg hk]
    rw [decide_eq_false hk] at h
    exact h
theorem k_N_openUpdateCount {post : Int32 → Prop} (hG : RG G g) (hT : RT T tv) (hv : iT tv) (hn : gv_n g ≤ 300) (hby : ∀ r, r < gv_n g → gv_by g r < tv_c tv) (h : post (jI (sp_opens g tv))) : wp_N_openUpdateCount G T post := by
  unfold wp_N_openUpdateCount
  refine lpi (fun n (s : Int32 × Int32) => wp_N_openUpdateCount_L4 G T (fun x2 => post x2) n s.1 s.2) (fun k s => s = (jI (bc k (sp_opn g tv)), jI k)) (gv_n g) ?_ ?_ 0 (by omega) (0, 0) rfl
  · intro k hk s n hs hn
    subst hs
    have hb : k < 2147483648 := by omega
    dsimp only
    rw [wp_N_openUpdateCount_L4, hG.2.1, if_neg (by rw [jI_le (by omega) hb]; omega)]
    refine k_N_isOpen hG hT hv (by omega) hk (hby k hk) ?_
    have hs : bc (k + 1) (sp_opn g tv) = bc k (sp_opn g tv) + (if sp_opn g tv k then 1 else 0) := rfl
    cases q : sp_opn g tv k with
    | true =>
      rw [if_neg (by decide), jI_s, jI_s]
      refine hn (_, _) ?_
      rw [hs, q]
      rfl
    | false =>
      rw [if_pos (by rfl), jI_s]
      refine hn (_, _) ?_
      rw [hs, q]
      rfl
  · intro s n hs
    subst hs
    dsimp only
    rw [wp_N_openUpdateCount_L4, hG.2.1, if_pos (by rw [jI_le (by omega) (by omega)]; omega)]
    exact h
theorem k_N_hasRoomForOne {post : Int32 → Prop} (hG : RG G g) (hT : RT T tv) (hv : iT tv) (hn : gv_n g ≤ 300) (hby : ∀ r, r < gv_n g → gv_by g r < tv_c tv) (h : post (b2i (sp_room g tv))) : wp_N_hasRoomForOne G T post := by
  have hc := hv.1
  unfold wp_N_hasRoomForOne
  refine k_N_openUpdateCount hG hT hv hn hby (k_T_liveCount hT hv ?_)
  have hl : sp_lives tv ≤ tv_c tv := bc_le _ _
  have ho : sp_opens g tv ≤ gv_n g := bc_le _ _
  rw [hG.2.1, jI_a, jI_a, show (2 : Int32) = jI 2 from rfl, jI_a, show (300 : Int32) = jI 300 from rfl, ite_iff' (jI_lt (by omega) (by omega))]
  unfold sp_room at h
  by_cases q : gv_n g + sp_opens g tv + sp_lives tv + 2 ≤ 300
  · rw [if_neg (by omega)]
    rw [decide_eq_true q] at h
    exact h
  · rw [if_pos (by omega)]
    rw [decide_eq_false q] at h
    exact h
theorem k_N_update {post : S_A → S_G → Prop} {t k : Nat} {now : Bool} {x : Int32} (hA : RA A v) (hG : RG G g) (hi : iP v) (hn : gv_n g < 300) (hou : ∀ x, x < gv_n g → gv_kd g x = 3 → gv_ou g x < x) (hk : k < 32) (hls : ∀ q, q < 8 → pv_ls v q < 2147483648) (hf : gv_f g < 2147483648)
    (h : ∀ A' G', RA A' (sp_updP v g k now x) → RG G' (sp_updG v g t k now x) → post A' G') : wp_N_update A G (jI t) (jI k) (b2i now) x post := by
  have hb : k < 2147483648 := by omega
  have hki : vp_in (jI k) 32 := jI_in hb hk
  unfold wp_N_update
  refine k_G_append hG hn hou (fun G1 hG1 => ?_)
  rw [jI_tn hb, hA.2.2.2.2.2.1 k hk, hA.2.2.2.2.2.2.1 k hk, jI_div hb]
  refine ⟨hki, hki, k_G_setBefore hG1 (show gv_n g + 1 ≤ 300 by omega) (show gv_n g < gv_n g + 1 by omega) (fun G2 hG2 => k_G_setAfter hG2 (show gv_n g + 1 ≤ 300 by omega) (show gv_n g < gv_n g + 1 by omega) (fun G3 hG3 => k_A_touch hA hG3 hi (by omega) hls hf (fun A4 G4 hA4 hG4 => k_G_lsnOf hG4 (k_A_change hA4 hk (fun A5 hA5 => h A5 G4 hA5 hG4)))))⟩
theorem k_N_undo {post : S_A → S_G → Prop} {u t : Nat} (hA : RA A v) (hG : RG G g) (hi : iP v) (hn : gv_n g < 300) (hou : ∀ x, x < gv_n g → gv_kd g x = 3 → gv_ou g x < x) (hu : u < gv_n g) (hk : sp_key g u < 32) (hab : gv_ab g u = jI (sp_key g u)) (hls : ∀ q, q < 8 → pv_ls v q < 2147483648) (hf : gv_f g < 2147483648)
    (h : ∀ A' G', RA A' (sp_undP v g u) → RG G' (sp_undG v g u t) → post A' G') : wp_N_undo A G (jI u) (jI t) post := by
  have hb : sp_key g u < 2147483648 := by omega
  have hub : u < 2147483648 := by omega
  have hui : vp_in (jI u) 300 := jI_in hub (by omega)
  have hnb : gv_n g < 2147483648 := by omega
  have hni : vp_in (jI (gv_n g)) 300 := jI_in hnb (by omega)
  have hG0 := hG
  obtain ⟨h1, h2, h3, h4, h5, h6, h7, h8, h9, h10, h11, h12⟩ := hG0
  unfold wp_N_undo
  rw [jI_tn hub, h6 u hu, h7 u hu, h8 u hu]
  refine ⟨hui, hui, hui, k_G_append hG hn hou (fun G1 hG1 => k_G_setAfter hG1 (show gv_n g + 1 ≤ 300 by omega) (show gv_n g < gv_n g + 1 by omega) (fun G2 hG2 => k_G_lsnOf hG2 ⟨hni, hui, ?_⟩))⟩
  rw [jI_tn hnb, nar_1, hab, jI_div hb]
  have hG3 : RG (G_undone' (G_undoes' G2 (upd (G_undoes G2) (gv_n g) (jI (gv_b g + u + 1)))) (upd (G_undone G2) u (b2i true))) (sp_mark (sp_aft (sp_app g 3 t (gv_ab g u)) (gv_n g) (gv_wt g u) (gv_wv g u)) (gv_n g) u) := by
    obtain ⟨q1, q2, q3, q4, q5, q6, q7, q8, q9, q10, q11, q12⟩ := hG2
    refine ⟨q1, q2, q3, q4, q5, q6, q7, q8, q9, q10, up_k (fun x => x) q11 rfl, fun r hr => ?_⟩
    have hr : r < gv_n g + 1 := hr
    have e := sp_ud_und (v := v) (t := t) hou (show r ≤ gv_n g by omega) hu
    show upd (G_undone G2) u (b2i true) r = b2i (sp_ud (sp_undG v g u t) r)
    rw [e]
    by_cases er : r = u
    · rw [er, upd_same, if_pos (by rfl)]
    · have e2 : sp_ud (sp_aft (sp_app g 3 t (gv_ab g u)) (gv_n g) (gv_wt g u) (gv_wv g u)) r = sp_ud (sp_app g 3 t (gv_ab g u)) r := rfl
      rw [upd_ne _ _ er, if_neg er, q12 r hr, e2, sp_ud_app hou (by omega)]
  exact k_A_touch hA hG3 hi (by omega) hls hf (fun A4 G4 hA4 hG4 => k_G_lsnOf hG4 (k_A_change hA4 hk (fun A5 hA5 => h A5 G4 hA5 hG4)))
end PN1
