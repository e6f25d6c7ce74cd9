section PMG
variable {A : S_MA} {D : S_MD} {G : S_MG} {T : S_MT} {K : S_ML} {v : VP} {g : VG} {tv : VT} {L : VK}
theorem tP_th (p : Nat) : pv_th (sp_tP v p) = pv_th v := by
  unfold sp_tP
  split
  · split <;> rfl
  · split <;> rfl
theorem tP_va (p : Nat) : pv_va (sp_tP v p) = pv_va v := by
  unfold sp_tP
  split
  · split <;> rfl
  · split <;> rfl
theorem tP_ls (p : Nat) : pv_ls (sp_tP v p) = pv_ls v := by
  unfold sp_tP
  split
  · split <;> rfl
  · split <;> rfl
theorem tP_tk (p : Nat) : pv_tk (sp_tP v p) = pv_tk v + 1 := by
  unfold sp_tP
  split
  · rfl
  · split <;> rfl
theorem tP_F (p : Nat) : pv_F (sp_tP v p) = pv_F v := by
  unfold sp_tP
  split
  · split <;> rfl
  · split <;> rfl
/-- the touched page is in a frame -/
theorem tP_in {p : Nat} (hi : iP v) : sp_in (sp_tP v p) p = true := by
  obtain ⟨i1, i2, i3, -⟩ := hi
  have hle : sp_pl v p ≤ pv_m v := by
    have := (ff_spec (fun i => pv_bt v i == p) (pv_m v) 0).2.1
    show ff (fun i => pv_bt v i == p) (pv_m v) 0 ≤ pv_m v
    omega
  unfold sp_tP
  by_cases h1 : sp_pl v p = pv_F v
  · rw [if_pos h1]
    refine (sp_in_fin ?_).mpr (Or.inl rfl)
    split
    · show pv_F v - 1 < pv_m v
      omega
    · omega
  · rw [if_neg h1]
    by_cases h2 : sp_pl v p = pv_m v
    · rw [if_pos h2]
      exact (sp_in_fin (show pv_m v < pv_m v + 1 by omega)).mpr (Or.inl rfl)
    · rw [if_neg h2]
      exact (sp_in_fin (by omega)).mpr (Or.inl rfl)
theorem m_last {post : Int32 → Prop} (hG : RMG G g) (h : post (jI (gv_b g + gv_n g))) : wp_M_last G post := by
  unfold wp_M_last
  rw [hG.1, hG.2.1, jI_a]
  exact h
theorem m_append {post : Int32 → S_MG → Prop} {k : Int32} {t : Nat} {a : Int32} (hG : RMG G g) (hn : gv_n g ≤ 300) (h : ∀ G', RMG G' (sp_app g k t a) → post (jI (gv_n g)) G') : wp_M_append G k (jI t) a post := by
  have hb : gv_n g < 2147483648 := by omega
  have hii : vp_in (jI (gv_n g)) 301 := jI_in hb (by omega)
  obtain ⟨h1, h2, h3, h4, h5, h6, h7, h8, h9, h10, h11⟩ := hG
  unfold wp_M_append
  rw [h2, jI_tn hb, nar_0, jI_s]
  exact ⟨hii, hii, hii, hii, hii, hii, hii, hii, h _ ⟨h1, rfl, h3, up_n (fun x => x) h4 rfl, up_n jI h5 rfl, up_n (fun x => x) h6 rfl, up_n (fun x => x) h7 rfl, up_n b2i h8 rfl, up_n (fun x => x) h9 rfl, up_n b2i h10 rfl, up_n (fun x => x) h11 rfl⟩⟩
theorem m_update {post : S_MA → S_MD → S_MG → Prop} {t k : Nat} {now : Bool} {x : Int32} (hA : RMA A D v) (hG : RMG G g) (hi : iP v) (hn : gv_n g < 300) (hk : k < 32) (hx : now = false → x = 0) (hls : ∀ q, q < 8 → pv_ls v q < 2147483648) (hf : gv_f g < 2147483648) (htk : pv_tk v + 1 < 2147483648) (x' : Int32) (hx' : now = true → x' = x)
    (h : ∀ A' D' G', RMA A' D' (sp_updP v g k now x) → RMG G' (sp_updG v g t k now x) → post A' D' G') : wp_M_update A D G (jI t) (jI k) (b2i now) x' post := by
  have hb : k < 2147483648 := by omega
  have hki : vp_in (jI k) 32 := jI_in hb hk
  have hnb : gv_n g < 2147483648 := by omega
  have hni : vp_in (jI (gv_n g)) 301 := jI_in hnb (by omega)
  unfold wp_M_update
  refine m_append hG (by omega) (fun G1 hG1 => ?_)
  rw [jI_div hb]
  refine m_touch hA hG1 hi (by omega) hls hf htk (fun A2 D2 G2 hA2 hG2 => ?_)
  have hin := tP_in (p := k / 4) hi
  rw [jI_tn hb, jI_tn hnb, hA2.2.2.2.2.1 k hk hin, hA2.2.2.2.2.2.1 k hk hin, tP_th, tP_va, nar_b, nar_b]
  refine ⟨hki, hni, hki, hni, hni, jn_in (fun jk => jk x) ?_ ?_⟩
  · have hG3 : RMG (MG_isValue' (MG_isThere' (MG_wasValue' (MG_wasThere' G2 (upd (MG_wasThere G2) (gv_n g) (b2i (pv_th v k)))) (upd (MG_wasValue G2) (gv_n g) (pv_va v k))) (upd (MG_isThere G2) (gv_n g) (b2i now))) (upd (MG_isValue G2) (gv_n g) x)) (sp_updG v g t k now x) := by
      obtain ⟨q1, q2, q3, q4, q5, q6, q7, q8, q9, q10, q11⟩ := hG2
      exact ⟨q1, q2, q3, q4, q5, q6, q7, up_k b2i q8 rfl, up_k (fun x => x) q9 rfl, up_k b2i q10 rfl, up_k (fun x => x) q11 rfl⟩
    refine ⟨hni, m_last hG3 ?_⟩
    exact m_become hA2 hk hx hx' (fun A' hA' => h _ _ _ hA' hG3)
  · intro jk hjk
    cases now with
    | false =>
      rw [if_pos (by rfl)]
      rw [hx rfl] at hjk
      exact hjk
    | true =>
      rw [if_neg (by decide), hx' rfl]
      exact hjk
theorem m_undo {post : S_MA → S_MD → S_MG → Prop} {u t : Nat} (hA : RMA A D v) (hG : RMG G g) (hi : iP v) (hn : gv_n g < 300) (hu : u < gv_n g) (hk : sp_key g u < 32) (hab : gv_ab g u = jI (sp_key g u)) (hw : gv_wt g u = false → gv_wv g u = 0) (hls : ∀ q, q < 8 → pv_ls v q < 2147483648) (hf : gv_f g < 2147483648) (htk : pv_tk v + 1 < 2147483648)
    (h : ∀ A' D' G', RMA A' D' (sp_undP v g u) → RMG G' (sp_undG v g u t) → post A' D' G') : wp_M_undo A D G (jI t) (jI u) post := by
  have hb : sp_key g u < 2147483648 := by omega
  have hub : u < 2147483648 := by omega
  have hui : vp_in (jI u) 301 := jI_in hub (by omega)
  have hnb : gv_n g < 2147483648 := by omega
  have hni : vp_in (jI (gv_n g)) 301 := jI_in hnb (by omega)
  unfold wp_M_undo
  rw [jI_tn hub, hG.2.2.2.2.2.1 u hu]
  refine ⟨hui, m_append hG (by omega) (fun G1 hG1 => ?_)⟩
  have hG1' := hG1
  obtain ⟨q1, q2, q3, q4, q5, q6, q7, q8, q9, q10, q11⟩ := hG1'
  have hlt : u < gv_n g + 1 := by omega
  have eab : MG_about G1 u = gv_ab g u := by
    rw [q6 u hlt]
    exact updN_ne _ _ (by omega)
  have ewt : MG_wasThere G1 u = b2i (gv_wt g u) := by
    rw [q8 u hlt]
    exact congrArg b2i (updN_ne _ _ (by omega))
  have ewv : MG_wasValue G1 u = gv_wv g u := by
    rw [q9 u hlt]
    exact updN_ne _ _ (by omega)
  have eb : MG_base G1 = jI (gv_b g) := q1
  rw [jI_tn hnb, ewt, ewv, eab, nar_b, eb, jI_a, jI_s, hab, jI_div hb]
  have hG3 : RMG (MG_isValue' (MG_isThere' (MG_of' G1 (upd (MG_of G1) (gv_n g) (jI (gv_b g + u + 1)))) (upd (MG_isThere G1) (gv_n g) (b2i (gv_wt g u)))) (upd (MG_isValue G1) (gv_n g) (gv_wv g u))) (sp_mark (sp_aft (sp_app g 3 t (gv_ab g u)) (gv_n g) (gv_wt g u) (gv_wv g u)) (gv_n g) u) := ⟨q1, q2, q3, q4, q5, q6, up_k (fun x => x) q7 rfl, q8, q9, up_k b2i q10 rfl, up_k (fun x => x) q11 rfl⟩
  refine ⟨hni, hui, hni, hui, hni, hui, m_touch hA hG3 hi (by omega) hls hf htk (fun A4 D4 G4 hA4 hG4 => ⟨hui, hni, hni, m_last hG4 ?_⟩)⟩
  have hG4' := hG4
  obtain ⟨r1, r2, r3, r4, r5, r6, r7, r8, r9, r10, r11⟩ := hG4'
  have e1 : MG_about G4 u = jI (sp_key g u) := by
    rw [r6 u hlt, ← hab]
    exact updN_ne _ _ (by omega)
  have e2 : MG_isThere G4 (gv_n g) = b2i (gv_wt g u) := by
    rw [r10 _ (show gv_n g < gv_n g + 1 by omega)]
    exact congrArg b2i (updN_same _ _ _)
  have e3 : MG_isValue G4 (gv_n g) = gv_wv g u := by
    rw [r11 _ (show gv_n g < gv_n g + 1 by omega)]
    exact updN_same _ _ _
  rw [e1, e2, e3]
  exact m_become hA4 hk hw (fun _ => rfl) (fun A' hA' => h _ _ _ hA' hG4)
theorem ix33 {t i : Nat} (ht : t < 60) (hi : i < 33) : (33 : Int32) * jI t + jI i = jI (33 * t + i) ∧ 33 * t + i < 1980 ∧ 33 * t + i < 2147483648 := by
  refine ⟨?_, by omega, by omega⟩
  rw [show (33 : Int32) = jI 33 from rfl, jI_m, jI_a]
theorem m_unlock {post : S_ML → Prop} {t : Nat} (hK : RML K L) (ht : t < 60) (h : ∀ K', RML K' (sp_rel L t) → post K') : wp_M_unlock K (jI t) post := by
  unfold wp_M_unlock
  refine lpi (fun n (s : Int32 × S_ML) => wp_M_unlock_L2 (jI t) (fun x => post x) n s.1 s.2) (fun k s => s.1 = jI k ∧ RML s.2 (fun u j => if j < k ∧ u = t then 0 else L u j)) 33 ?_ ?_ 0 (by omega) (0, K) ⟨rfl, fun u j hu hj => ?_⟩
  · intro k hk s n hs hn
    obtain ⟨x, K⟩ := s
    obtain ⟨hx, hs⟩ := hs
    dsimp only at hx hs ⊢
    subst hx
    obtain ⟨e1, e2, e3⟩ := ix33 ht hk
    rw [wp_M_unlock_L2, if_neg (by rw [show (33 : Int32) = jI 33 from rfl, jI_le (by omega) (by omega)]; omega), e1, jI_tn e3, jI_s]
    refine ⟨jI_in e3 e2, hn (_, _) ⟨rfl, fun u j hu hj => ?_⟩⟩
    have hs : ∀ u j, u < 60 → j < 33 → ML_locks K (33 * u + j) = jI (if j < k ∧ u = t then 0 else L u j) := hs
    show upd (ML_locks K) (33 * t + k) 0 (33 * u + j) = jI (if j < k + 1 ∧ u = t then 0 else L u j)
    by_cases e : 33 * u + j = 33 * t + k
    · have hut : u = t := by omega
      have hjk : j = k := by omega
      rw [e, upd_same, if_pos ⟨by omega, hut⟩]
      rfl
    · rw [upd_ne _ _ e, hs u j hu hj]
      by_cases z : j < k ∧ u = t
      · rw [if_pos z, if_pos ⟨by omega, z.2⟩]
      · rw [if_neg z, if_neg (fun z2 => by
          have : j = k := by omega
          rw [this, z2.2] at e
          exact e rfl)]
  · intro s n hs
    obtain ⟨x, K⟩ := s
    obtain ⟨hx, hs⟩ := hs
    dsimp only at hx hs ⊢
    subst hx
    rw [wp_M_unlock_L2, if_pos (by decide)]
    refine h K (fun u j hu hj => ?_)
    have hs : ∀ u j, u < 60 → j < 33 → ML_locks K (33 * u + j) = jI (if j < 33 ∧ u = t then 0 else L u j) := hs
    rw [hs u j hu hj]
    unfold sp_rel
    by_cases z : u = t
    · rw [if_pos z, if_pos ⟨hj, z⟩]
    · rw [if_neg z, if_neg (fun z2 => z z2.2)]
  · dsimp only
    rw [if_neg (by omega)]
    exact hK u j hu hj
theorem m_bars {post : Int32 → Prop} {u t i m : Nat} (hK : RML K L) (hT : RMT T tv) (hv : iT tv) (hu : u < tv_c tv) (ht : t < tv_c tv) (hi : i < 33) (hm : m < 2147483648) (hL : L u i ≤ 2) (h : post (b2i (sp_bl L (tv_lin tv t) i m u))) : wp_M_bars K T (jI u) (jI t) (jI i) (jI m) post := by
  have hc := hv.1
  obtain ⟨e1, e2, e3⟩ := ix33 (show u < 60 by omega) hi
  have hlin := hv.lin_abv ht u
  unfold wp_M_bars
  unfold sp_bl at h
  rw [e1, jI_tn e3, hK u i (by omega) hi, ite_iff' (jI_eq (by omega) (by omega)), show (0 : Int32) = jI 0 from rfl, ite_iff' (jI_le (by omega) (by omega)), show (2 : Int32) = jI 2 from rfl, ite_iff' (jI_eq hm (by omega)), ite_iff' (jI_eq (by omega) (by omega))]
  refine ⟨jI_in e3 e2, ?_⟩
  by_cases hut : u = t
  · rw [if_pos hut]
    rw [hlin, decide_eq_true hut.symm] at h
    simp at h
    exact h
  · rw [if_neg hut]
    have htu : ¬ t = u := fun z => hut z.symm
    rw [hlin, decide_eq_false htu, Bool.false_or] at h
    by_cases h0 : L u i ≤ 0
    · rw [if_pos h0]
      rw [decide_eq_false (by omega : ¬ 0 < L u i)] at h
      exact h
    · rw [if_neg h0]
      rw [decide_eq_true (by omega : 0 < L u i), Bool.true_and] at h
      have fin : ∀ post' : Int32 → Prop, post' (b2i (!sp_abv tv u t)) → wp_M_above T (jI u) (jI t) (fun r1 => if r1 = 0 then post' 1 else post' 0) := by
        intro post' hp
        refine m_above hT hv ht (by omega) ?_
        cases z : sp_abv tv u t with
        | true =>
          rw [if_neg (by decide)]
          rw [z] at hp
          exact hp
        | false =>
          rw [if_pos (by rfl)]
          rw [z] at hp
          exact hp
      by_cases h2 : m = 2
      · rw [if_pos h2]
        rw [decide_eq_true h2, Bool.true_or, Bool.true_and] at h
        exact fin post h
      · rw [if_neg h2]
        rw [decide_eq_false h2, Bool.false_or] at h
        by_cases h3 : L u i = 2
        · rw [if_pos h3]
          rw [decide_eq_true h3, Bool.true_and] at h
          exact fin post h
        · rw [if_neg h3]
          rw [decide_eq_false h3, Bool.false_and] at h
          exact h
theorem m_may {post : Int32 → Prop} {t i m : Nat} (hK : RML K L) (hT : RMT T tv) (hv : iT tv) (ht : t < tv_c tv) (hi : i < 33) (hm : m < 2147483648) (hL : ∀ u, L u i ≤ 2) (h : post (b2i (!sp_bar L tv t i m))) : wp_M_may K T (jI t) (jI i) (jI m) post := by
  have hc := hv.1
  unfold wp_M_may
  refine lpi (fun n (s : Int32 × Int32) => wp_M_may_L6 K T (jI t) (jI i) (jI m) (fun x2 => vp_nar .boolean x2 = x2 ∧ post x2) n s.1 s.2) (fun k s => s = (b2i (!bx k (sp_bl L (tv_lin tv t) i m)), jI k)) (tv_c tv) ?_ ?_ 0 (by omega) (1, 0) rfl
  · intro k hk s n hs hn
    subst hs
    have hb : k < 2147483648 := by omega
    have hs : bx (k + 1) (sp_bl L (tv_lin tv t) i m) = (bx k (sp_bl L (tv_lin tv t) i m) || sp_bl L (tv_lin tv t) i m k) := rfl
    dsimp only
    rw [wp_M_may_L6, hT.1, if_neg (by rw [jI_le (by omega) hb]; omega), jI_s]
    cases q : bx k (sp_bl L (tv_lin tv t) i m) with
    | true =>
      rw [if_pos (by rfl)]
      refine hn (_, _) ?_
      rw [hs, q]
      rfl
    | false =>
      rw [if_neg (by decide)]
      refine m_bars hK hT hv hk ht hi hm (hL k) ?_
      cases z : sp_bl L (tv_lin tv t) i m k with
      | true =>
        rw [if_neg (by decide)]
        refine hn (_, _) ?_
        rw [hs, q, z]
        rfl
      | false =>
        rw [if_pos (by rfl)]
        refine hn (_, _) ?_
        rw [hs, q, z]
        rfl
  · intro s n hs
    subst hs
    dsimp only
    rw [wp_M_may_L6, hT.1, if_pos (by rw [jI_le (by omega) (by omega)]; omega)]
    exact ⟨nar_b _, h⟩
end PMG
