section OPS8
variable {A : S_A} {G : S_G} {K : S_K} {T : S_T} {MA : S_MA} {MD : S_MD} {MG : S_MG} {ML : S_ML} {MT : S_MT} {v : VP} {g : VG} {tv : VT} {L : VK} {c : Nat}
theorem k_N_redo {post : S_A → S_G → Prop} {r : Nat} (hA : RA A v) (hG : RG G g) (hI : iG g c) (hP : iPG v (gv_b g) (gv_n g) (gv_f g)) (hf : gv_f g = gv_b g + gv_n g) (hr : r < gv_n g) (hk : gv_kd g r = 2 ∨ gv_kd g r = 3) (h : ∀ A' G', RA A' (sp_rdP v g r) → RG G' g → post A' G') : wp_N_redo A G (jI r) post := by
  have hkey := hI.key hr hk
  have i1 := hI.1
  have i4 := hI.2.2.2.1
  have hrb : r < 2147483648 := by omega
  have hri : vp_in (jI r) 300 := jI_in hrb (by omega)
  have hkb : sp_key g r < 2147483648 := by omega
  have hpb : sp_key g r / 4 < 2147483648 := by omega
  have hp8 : sp_key g r / 4 < 8 := by omega
  have hls : ∀ q, q < 8 → pv_ls v q < 2147483648 := fun q hq => by have := hP.2.1 q hq; omega
  unfold wp_N_redo
  rw [jI_tn hrb, hG.2.2.2.2.2.1 r hr, hkey.2, jI_div hkb]
  refine ⟨hri, k_A_touch hA hG hP.1 hp8 hls (by omega) (fun A1 G1 hA1 hG1 => ?_)⟩
  rw [fl_same hP hf hp8] at hG1
  refine ⟨jI_in hpb hp8, k_G_lsnOf hG1 ?_⟩
  rw [jI_tn hpb, hA1.2.2.2.2.1 _ hp8, tP_ls, ite_iff' (jI_le (by omega) (hls _ hp8))]
  unfold sp_rdP at h
  by_cases q : gv_b g + r + 1 ≤ pv_ls v (sp_key g r / 4)
  · rw [if_pos q] at h ⊢
    exact h A1 G1 hA1 hG1
  · rw [if_neg q] at h ⊢
    rw [hG1.2.2.2.2.2.2.2.2.1 r hr, hG1.2.2.2.2.2.2.2.2.2.1 r hr]
    exact ⟨hri, hri, k_G_lsnOf hG1 (k_A_change hA1 hkey.1 (fun A2 hA2 => h A2 G1 hA2 hG1))⟩
theorem k_N_redoLog {post : S_A → S_G → Prop} (hA : RA A v) (hG : RG G g) (hI : iG g c) (hP : iPG v (gv_b g) (gv_n g) (gv_f g)) (hf : gv_f g = gv_b g + gv_n g) (h : ∀ A' G', RA A' (sp_rd g v (gv_n g)) → RG G' g → post A' G') : wp_N_redoLog A G post := by
  have i1 := hI.1
  unfold wp_N_redoLog
  refine lpi (fun n (s : Int32 × S_A × S_G) => wp_N_redoLog_L2 (fun A5 G6 => post A5 G6) n s.1 s.2.1 s.2.2) (fun r s => s.1 = jI r ∧ RA s.2.1 (sp_rd g v r) ∧ RG s.2.2 g) (gv_n g) ?_ ?_ 0 (by omega) (0, A, G) ⟨rfl, hA, hG⟩
  · intro r hr s n hs hn
    obtain ⟨i, A1, G1⟩ := s
    obtain ⟨e0, hA1, hG1⟩ := hs
    dsimp only at e0 hA1 hG1 ⊢
    subst e0
    have hrb : r < 2147483648 := by omega
    have hri : vp_in (jI r) 300 := jI_in hrb (by omega)
    have hst : sp_rd g v (r + 1) = if gv_kd g r = 2 ∨ gv_kd g r = 3 then sp_rdP (sp_rd g v r) g r else sp_rd g v r := rfl
    have inv := (rd_inv hI hf hP r (by omega)).1
    rw [wp_N_redoLog_L2, hG1.2.1, if_neg (by rw [jI_le (by omega) hrb]; omega), jI_tn hrb, hG1.2.2.2.1 r hr]
    refine ⟨hri, ?_⟩
    by_cases q2 : gv_kd g r = 2
    · rw [if_pos q2]
      rw [if_pos (Or.inl q2)] at hst
      refine k_N_redo hA1 hG1 hI inv hf hr (Or.inl q2) (fun A2 G2 hA2 hG2 => hn (_, _, _) ⟨jI_s r, ?_, hG2⟩)
      rw [hst]
      exact hA2
    · rw [if_neg q2]
      refine ⟨hri, ?_⟩
      by_cases q3 : gv_kd g r = 3
      · rw [if_pos q3]
        rw [if_pos (Or.inr q3)] at hst
        refine k_N_redo hA1 hG1 hI inv hf hr (Or.inr q3) (fun A2 G2 hA2 hG2 => hn (_, _, _) ⟨jI_s r, ?_, hG2⟩)
        rw [hst]
        exact hA2
      · rw [if_neg q3]
        rw [if_neg (fun z => z.elim q2 q3)] at hst
        refine hn (_, _, _) ⟨jI_s r, ?_, hG1⟩
        rw [hst]
        exact hA1
  · intro s n hs
    obtain ⟨i, A1, G1⟩ := s
    obtain ⟨e0, hA1, hG1⟩ := hs
    dsimp only at e0 hA1 hG1 ⊢
    subst e0
    rw [wp_N_redoLog_L2, hG1.2.1, if_pos (by rw [jI_le (by omega) (by omega)]; omega)]
    exact h A1 G1 hA1 hG1
theorem iW.bnd (h : iW v g tv) : (∀ q, q < 8 → pv_ls v q < 2147483648) ∧ gv_f g < 2147483648 ∧ gv_b g + gv_n g < 400000 := by
  obtain ⟨hP, hG, -⟩ := h
  have h1 := hG.1
  have h2 := hG.2.2.2.1
  have h3 := hG.2.2.1
  refine ⟨fun q hq => ?_, by omega, by omega⟩
  have := hP.2.1 q hq
  omega
theorem opn_X {m : Nat} (hT : iT tv) (hby : gv_by g m < tv_c tv) : sp_opn g (sp_X tv) m = (decide (gv_kd g m = 2) && !sp_ud g m && !decide (tv_st tv (tv_top tv (gv_by g m)) = 3)) := by
  have htl := hT.top_lt _ hby
  show (decide (gv_kd g m = 2) && !sp_ud g m && sp_liv (sp_X tv) (tv_top tv (gv_by g m))) = _
  rw [liv_X (by omega)]
theorem k_N_undoUncommitted {post : Int32 → S_A → S_G → Prop} (hA : RA A v) (hG : RG G g) (hT : RT T tv) (hv : iT tv) (hW : iW v g (sp_X tv))
    (h : ∀ A' G', RA A' (sp_uc (sp_X tv) (gv_n g) (0, v, g)).2.1 → RG G' (sp_uc (sp_X tv) (gv_n g) (0, v, g)).2.2 → post (jI (sp_uc (sp_X tv) (gv_n g) (0, v, g)).1) A' G') : wp_N_undoUncommitted A G T post := by
  have hc := hv.1
  unfold wp_N_undoUncommitted
  rw [hG.2.1, jI_dm]
  refine lpd (fun n m (s : Int32 × Int32 × S_A × S_G) => wp_N_undoUncommitted_L12 T (fun x6 A7 G8 => post x6 A7 G8) n s.1 s.2.1 s.2.2.1 s.2.2.2) (fun m s => ∃ (c : Nat) (v' : VP) (g' : VG), s.2.1 = jI m + (-1) ∧ s.1 = jI c ∧ RA s.2.2.1 v' ∧ RG s.2.2.2 g' ∧ iW v' g' (sp_X tv) ∧ m ≤ gv_n g' ∧ sp_uc (sp_X tv) m (c, v', g') = sp_uc (sp_X tv) (gv_n g) (0, v, g)) ?_ ?_ (gv_n g) (0, jI (gv_n g) + (-1), A, G) ⟨0, v, g, rfl, rfl, hA, hG, hW, Nat.le_refl _, rfl⟩
  · intro m s n hs hn
    obtain ⟨x, i, A, G⟩ := s
    obtain ⟨c, v', g', e0, e1, hA', hG', hW', hm, hu⟩ := hs
    dsimp only at e0 e1 hA' hG' ⊢
    have hbn := hW'.bnd
    subst e1
    have b1 := hbn.1
    have b2 := hbn.2.1
    have b3 := hbn.2.2
    have hn3 := hW'.2.1.1
    have hmb : m < 2147483648 := by omega
    have hmi : vp_in (jI m) 300 := jI_in hmb (by omega)
    have hby : gv_by g' m < tv_c tv := hW'.2.1.2.2.2.2.1 m (by omega)
    have htl := hv.top_lt _ hby
    have hbb : gv_by g' m < 2147483648 := by omega
    have htb : tv_top tv (gv_by g' m) < 2147483648 := by omega
    have step : sp_uc (sp_X tv) (m + 1) (c, v', g') = sp_uc (sp_X tv) m (if sp_opn g' (sp_X tv) m then (c + 1, sp_undP v' g' m, sp_undG v' g' m (tv_top tv (gv_by g' m))) else (c, v', g')) := rfl
    have ho := opn_X (g := g') hv hby
    have hno : sp_opn g' (sp_X tv) m = false → wp_N_undoUncommitted_L12 T (fun x6 A7 G8 => post x6 A7 G8) n (jI c) (jI m + (-1)) A G := fun q => hn (_, _, _, _) ⟨c, v', g', rfl, rfl, hA', hG', hW', by omega, by rw [← hu, step, q]; rfl⟩
    rw [wp_N_undoUncommitted_L12, e0, jI_p, if_neg (jI_nn hmb), jI_tn hmb, hG'.2.2.2.1 m (by omega), hG'.2.2.2.2.1 m (by omega), jI_tn hbb, hT.2.2.1 _ hby, jI_tn htb, hT.2.2.2.2.1 _ (by omega), hG'.2.2.2.2.2.2.2.2.2.2.2 m (by omega), jI_s]
    refine ⟨hmi, jI_in hbb (by omega), hmi, ?_⟩
    by_cases q2 : gv_kd g' m = 2
    · rw [if_pos q2]
      rw [decide_eq_true q2, Bool.true_and] at ho
      refine ⟨hmi, ?_⟩
      cases qu : sp_ud g' m with
      | true =>
        rw [if_neg (by decide)]
        rw [qu] at ho
        exact hno ho
      | false =>
        rw [if_pos (by rfl)]
        refine ⟨jI_in htb (by omega), ?_⟩
        by_cases q3 : tv_st tv (tv_top tv (gv_by g' m)) = 3
        · rw [if_pos q3]
          rw [qu, decide_eq_true q3] at ho
          exact hno ho
        · rw [if_neg q3]
          rw [qu, decide_eq_false q3] at ho
          have ho : sp_opn g' (sp_X tv) m = true := ho
          obtain ⟨i1, i2, i3⟩ := hW'.und (u := m) (t := tv_top tv (gv_by g' m)) (by omega) ho (show tv_top tv (gv_by g' m) < tv_c tv by omega)
          have hkey := hW'.2.1.key (show m < gv_n g' by omega) (Or.inl q2)
          refine k_N_undo hA' hG' hW'.1.1 i3 hW'.2.1.ou (by omega) hkey.1 hkey.2 b1 b2 (fun A2 G2 hA2 hG2 => hn (_, _, _, _) ⟨c + 1, _, _, rfl, rfl, hA2, hG2, i1, show m ≤ gv_n g' + 1 by omega, ?_⟩)
          rw [← hu, step, ho]
          rfl
    · rw [if_neg q2]
      rw [decide_eq_false q2] at ho
      exact hno ho
  · intro s n hs
    obtain ⟨x, i, A, G⟩ := s
    obtain ⟨c, v', g', e0, e1, hA', hG', hW', hm, hu⟩ := hs
    dsimp only at e0 e1 hA' hG' ⊢
    subst e1
    rw [wp_N_undoUncommitted_L12, e0, if_pos (by decide)]
    rw [← hu] at h
    exact h A G hA' hG'
theorem m_committed {post : Int32 → Prop} {t : Nat} (hG : RMG MG g) (hn : gv_n g ≤ 300) (hby : ∀ r, r < gv_n g → gv_by g r < 60) (ht : t < 60) (h : post (b2i (bx (gv_n g) (fun x => decide (gv_kd g x = 4) && gv_by g x == t)))) : wp_M_committed MG (jI t) post := by
  unfold wp_M_committed
  refine lpi (fun n (s : Int32 × Int32) => wp_M_committed_L4 MG (jI t) (fun x1 => vp_nar .boolean x1 = x1 ∧ post x1) n s.1 s.2) (fun d s => s = (b2i (bx d (fun x => decide (gv_kd g x = 4) && gv_by g x == t)), jI d)) (gv_n g) ?_ ?_ 0 (by omega) (0, 0) rfl
  · intro d hd s n hs hn
    subst hs
    have hb : d < 2147483648 := by omega
    have hii : vp_in (jI d) 301 := jI_in hb (by omega)
    have hs : bx (d + 1) (fun x => decide (gv_kd g x = 4) && gv_by g x == t) = (bx d (fun x => decide (gv_kd g x = 4) && gv_by g x == t) || (decide (gv_kd g d = 4) && gv_by g d == t)) := rfl
    have hbd := hby d hd
    dsimp only
    rw [wp_M_committed_L4, hG.2.1, if_neg (by rw [jI_le (by omega) hb]; omega), jI_tn hb, hG.2.2.2.1 _ hd, hG.2.2.2.2.1 _ hd, jI_s]
    cases q : bx d (fun x => decide (gv_kd g x = 4) && gv_by g x == t) with
    | true =>
      rw [if_neg (by decide)]
      refine hn (_, _) ?_
      rw [hs, q]
      rfl
    | false =>
      rw [if_pos (by rfl)]
      refine ⟨hii, ?_⟩
      by_cases hk : gv_kd g d = 4
      · rw [if_pos hk, ite_iff' (jI_eq (by omega) (by omega))]
        refine ⟨hii, ?_⟩
        by_cases he : gv_by g d = t
        · rw [if_pos he]
          refine hn (_, _) ?_
          rw [hs, q, decide_eq_true hk, show (gv_by g d == t) = true by simpa using he]
          rfl
        · rw [if_neg he]
          refine hn (_, _) ?_
          rw [hs, q, show (gv_by g d == t) = false by simpa using he, Bool.and_false]
          rfl
      · rw [if_neg hk]
        refine hn (_, _) ?_
        rw [hs, q, decide_eq_false hk]
        rfl
  · intro s n hs
    subst hs
    dsimp only
    rw [wp_M_committed_L4, hG.2.1, if_pos (by rw [jI_le (by omega) (by omega)]; omega)]
    exact ⟨nar_b _, h⟩
/-- the reference's frames behind a crash -/
theorem m_crash44 {Kx : S_MA → Prop} (hA : RMA MA MD v) (h : ∀ A', RMA A' MD (sp_lose v) → Kx A') : ∃ e, wp_M_crash_L44 Kx e 0 MA := by
  obtain ⟨a1, a2, a3, a4, a5, a6, a7, a8, a9, a10, a11⟩ := hA
  have hin : ∀ p, sp_in (sp_lose v) p = false := fun p => rfl
  refine lpi (fun n (s : Int32 × S_MA) => wp_M_crash_L44 Kx n s.1 s.2) (fun d s => s.1 = jI d ∧ ∃ fi fd, s.2 = MA_dirty' (MA_inFrame' MA fi) fd ∧ ∀ p, p < d → fi p = 0 ∧ fd p = 0) 8 ?_ ?_ 0 (by omega) (0, MA) ⟨rfl, MA_inFrame MA, MA_dirty MA, rfl, fun p hp => absurd hp (Nat.not_lt_zero _)⟩
  · intro d hd s n hs hn
    obtain ⟨i, A1⟩ := s
    obtain ⟨e0, fi, fd, e1, e2⟩ := hs
    dsimp only at e0 e1 ⊢
    subst e0
    subst e1
    have hb : d < 2147483648 := by omega
    have hii : vp_in (jI d) 8 := jI_in hb hd
    rw [wp_M_crash_L44, if_neg (by rw [show (8 : Int32) = jI 8 from rfl, jI_le (by omega) hb]; omega), jI_tn hb, nar_0]
    refine ⟨hii, hii, hn (_, _) ⟨jI_s d, upd fi d 0, upd fd d 0, rfl, fun p hp => ?_⟩⟩
    by_cases e : p = d
    · rw [e, upd_same, upd_same]
      exact ⟨rfl, rfl⟩
    · rw [upd_ne _ _ e, upd_ne _ _ e]
      exact e2 p (by omega)
  · intro s n hs
    obtain ⟨i, A1⟩ := s
    obtain ⟨e0, fi, fd, e1, e2⟩ := hs
    dsimp only at e0 e1 ⊢
    subst e0
    subst e1
    rw [wp_M_crash_L44, if_pos (by decide)]
    refine h _ ⟨a1, fun p hp => ?_, fun p hp => ?_, fun p hp q => ?_, fun p hp q => ?_, fun p hp q => ?_, a7, a8, a9, a10, a11⟩
    · exact (e2 p hp).1
    · exact (e2 p hp).2
    · rw [hin] at q
      cases q
    · rw [hin] at q
      cases q
    · rw [hin] at q
      cases q
/-- the reference's locks and states behind a crash -/
theorem m_crash72 {Kx : S_ML → S_MT → Prop} (hK : RML ML L) (hT : RMT MT tv) (hv : iT tv) (hL : iK tv L) (h : ∀ K' T', RML K' (fun _ _ => 0) → RMT T' (sp_abU tv) → Kx K' T') : ∃ e, wp_M_crash_L72 Kx e 0 ML MT := by
  have hc := hv.1
  refine lpi (fun n (s : Int32 × S_ML × S_MT) => wp_M_crash_L72 Kx n s.1 s.2.1 s.2.2) (fun d s => s.1 = jI d ∧ RML s.2.1 (fun u i => if u < d then 0 else L u i) ∧ RMT s.2.2 (tv_st' tv (fun u => if u < d ∧ ¬ tv_st tv (tv_top tv u) = 3 then 4 else tv_st tv u))) (tv_c tv) ?_ ?_ 0 (by omega) (0, ML, MT) ⟨rfl, ?_, ?_⟩
  · intro d hd s n hs hn
    obtain ⟨i, K1, T1⟩ := s
    obtain ⟨e0, hK1, hT1⟩ := hs
    dsimp only at e0 hK1 hT1 ⊢
    subst e0
    have hb : d < 2147483648 := by omega
    have htl := hv.top_lt d hd
    have htb : tv_top tv d < 2147483648 := by omega
    have hdi : vp_in (jI d) 60 := jI_in hb (by omega)
    have hv1 : iT (tv_st' tv (fun u => if u < d ∧ ¬ tv_st tv (tv_top tv u) = 3 then 4 else tv_st tv u)) := hv.stf (fun t ht => by
      by_cases q : t < d ∧ ¬ tv_st tv (tv_top tv t) = 3
      · rw [if_pos q]
        exact Or.inr (Or.inr (Or.inr rfl))
      · rw [if_neg q]
        exact (hv.2.1 t ht).1)
    have hs1 : ∀ t, t < tv_c tv → MT_state T1 t = if t < d ∧ ¬ tv_st tv (tv_top tv t) = 3 then 4 else tv_st tv t := hT1.2.1
    rw [wp_M_crash_L72, hT1.1, if_neg (by rw [jI_le (show tv_c tv < 2147483648 by omega) hb]; exact Nat.not_le.mpr hd)]
    refine m_unlock hK1 (by omega) (fun K2 hK2 => m_top hT1 hv1 hd ?_)
    show vp_in (jI (tv_top tv d)) 60 ∧ _
    rw [jI_tn htb, jI_tn hb, hs1 _ (by omega)]
    refine ⟨jI_in htb (by omega), ?_⟩
    have hK3 : RML K2 (fun u i => if u < d + 1 then 0 else L u i) := by
      intro t i ht hi
      rw [hK2 t i ht hi]
      show jI (if t = d then 0 else if t < d then 0 else L t i) = jI (if t < d + 1 then 0 else L t i)
      by_cases e : t = d
      · rw [if_pos e, if_pos (by omega)]
      · rw [if_neg e]
        by_cases e2 : t < d
        · rw [if_pos e2, if_pos (by omega)]
        · rw [if_neg e2, if_neg (by omega)]
    have key : (if tv_top tv d < d ∧ ¬ tv_st tv (tv_top tv (tv_top tv d)) = 3 then 4 else tv_st tv (tv_top tv d)) = 3 ↔ tv_st tv (tv_top tv d) = 3 := by
      rw [hv.top_top d hd]
      by_cases q : tv_top tv d < d ∧ ¬ tv_st tv (tv_top tv d) = 3
      · rw [if_pos q]
        exact ⟨fun z => absurd z (by decide), fun z => absurd z q.2⟩
      · rw [if_neg q]
    by_cases q : tv_st tv (tv_top tv d) = 3
    · rw [if_pos (key.mpr q)]
      refine ⟨hdi, hdi, hn (_, _, _) ⟨jI_s d, hK3, ?_⟩⟩
      have e1 : upd (MT_state T1) d (MT_state T1 d) = MT_state T1 := by
        funext x
        by_cases e : x = d
        · rw [e, upd_same]
        · rw [upd_ne _ _ e]
      have e2 : (fun u => if u < d + 1 ∧ ¬ tv_st tv (tv_top tv u) = 3 then (4 : Int32) else tv_st tv u) = fun u => if u < d ∧ ¬ tv_st tv (tv_top tv u) = 3 then 4 else tv_st tv u := by
        funext u
        by_cases z : u < d ∧ ¬ tv_st tv (tv_top tv u) = 3
        · rw [if_pos z, if_pos ⟨by omega, z.2⟩]
        · rw [if_neg z, if_neg (fun z2 => z ⟨by
            have : ¬ u = d := fun w => by rw [w] at z2; exact z2.2 q
            omega, z2.2⟩)]
      dsimp only
      rw [e1, e2]
      exact hT1
    · rw [if_neg (fun z => q (key.mp z))]
      refine ⟨hdi, hn (_, _, _) ⟨jI_s d, hK3, ?_⟩⟩
      have e2 : (fun u => if u < d + 1 ∧ ¬ tv_st tv (tv_top tv u) = 3 then (4 : Int32) else tv_st tv u) = updN (fun u => if u < d ∧ ¬ tv_st tv (tv_top tv u) = 3 then 4 else tv_st tv u) d 4 := by
        funext u
        by_cases e : u = d
        · rw [e, updN_same, if_pos ⟨by omega, q⟩]
        · rw [updN_ne _ _ e]
          by_cases z : u < d ∧ ¬ tv_st tv (tv_top tv u) = 3
          · rw [if_pos z, if_pos ⟨by omega, z.2⟩]
          · rw [if_neg z, if_neg (fun z2 => z ⟨by omega, z2.2⟩)]
      dsimp only
      rw [e2]
      exact hT1.st (k := d) (x := 4) (by decide)
  · intro s n hs
    obtain ⟨i, K1, T1⟩ := s
    obtain ⟨e0, hK1, hT1⟩ := hs
    dsimp only at e0 hK1 hT1 ⊢
    subst e0
    rw [wp_M_crash_L72, hT1.1, if_pos (by rw [jI_le (show tv_c tv < 2147483648 by omega) (by omega)]; exact Nat.le_refl _)]
    refine h K1 T1 (fun t i ht hi => ?_) hT1
    rw [hK1 t i ht hi]
    dsimp only
    by_cases e : t < tv_c tv
    · rw [if_pos e]
    · rw [if_neg e, (hL t i hi).2]
      unfold sp_liv
      rw [decide_eq_false e]
      rfl
  · intro t i ht hi
    rw [hK t i ht hi]
    dsimp only
    rw [if_neg (Nat.not_lt_zero _)]
  · have e : (fun u => if u < 0 ∧ ¬ tv_st tv (tv_top tv u) = 3 then (4 : Int32) else tv_st tv u) = tv_st tv := by
      funext u
      rw [if_neg (by omega)]
    rw [e]
    exact hT
end OPS8
