section PMN5
variable {A : S_MA} {D : S_MD} {G : S_MG} {T : S_MT} {K : S_ML} {F : S_MF} {P : S_MP} {V : S_MV} {N : S_MN} {v : VP} {g : VG} {tv : VT} {L : VK} {t : Nat}
theorem m_scanned {post : Int32 → S_MA → S_MD → S_MG → S_MN → Prop} {lo hi : Nat} (hA : RMA A D v) (hG : RMG G g) (hV : iV v g tv L) (hlo : lo ≤ hi) (hhi : hi < 32) (htk : pv_tk v + 1000 < 2147483648)
    (h : ∀ A' D' G', RMA A' D' (sp_ts (hi / 4 + 1 - lo / 4) (lo / 4) (v, gv_f g)).1 → RMG G' (gv_f' g (sp_ts (hi / 4 + 1 - lo / 4) (lo / 4) (v, gv_f g)).2) → post (jI (bc (hi + 1 - lo) (fun i => pv_th v (lo + i)))) A' D' G' (sp_sm v lo (hi + 1 - lo))) : wp_M_scanned A D G N (jI lo) (jI hi) post := by
  have hlob : lo < 2147483648 := by omega
  have hhib : hi < 2147483648 := by omega
  have hfin := ts_inv (g := g) (tv := tv) (L := L) (hi / 4 + 1 - lo / 4) (lo / 4) (v, gv_f g) (by omega) hV
  unfold wp_M_scanned
  rw [jI_div hlob]
  refine lpi (fun n (s : Int32 × S_MA × S_MD × S_MG) => wp_M_scanned_L4 (jI lo) (jI hi) _ n s.1 s.2.1 s.2.2.1 s.2.2.2) (fun k s => s.1 = jI (lo / 4 + k) ∧ ∃ (v' : VP) (f' : Nat), RMA s.2.1 s.2.2.1 v' ∧ RMG s.2.2.2 (gv_f' g f') ∧ iV v' (gv_f' g f') tv L ∧ pv_tk v' = pv_tk v + k ∧ sp_ts (hi / 4 + 1 - lo / 4 - k) (lo / 4 + k) (v', f') = sp_ts (hi / 4 + 1 - lo / 4) (lo / 4) (v, gv_f g)) (hi / 4 + 1 - lo / 4) ?_ ?_ 0 (by omega) (jI (lo / 4), A, D, G) ⟨rfl, v, gv_f g, hA, hG, hV, rfl, rfl⟩
  · intro k hk s n hs hn
    obtain ⟨x, A, D, G⟩ := s
    obtain ⟨hx, v', f', hA', hG', hV', hk', he⟩ := hs
    dsimp only at hx hA' hG' ⊢
    subst hx
    have hb := hV'.bnd
    rw [wp_M_scanned_L4, jI_div hhib, if_neg (by rw [jI_lt (by omega) (by omega)]; omega), jI_s]
    refine m_touch hA' hG' hV'.1.1 (by omega) hb.1 hb.2.1 (by omega) (fun A2 D2 G2 hA2 hG2 => hn (_, _, _, _) ⟨rfl, _, _, hA2, hG2, hV'.touch (by omega), ?_, ?_⟩)
    · have : pv_tk (sp_tP v' (lo / 4 + k)) = pv_tk v' + 1 := tP_tk _
      omega
    · rw [← he, show hi / 4 + 1 - lo / 4 - k = (hi / 4 + 1 - lo / 4 - (k + 1)) + 1 by omega]
      rfl
  · intro s n hs
    obtain ⟨x, A, D, G⟩ := s
    obtain ⟨hx, v', f', hA', hG', hV', hk', he⟩ := hs
    dsimp only at hx hA' hG' ⊢
    subst hx
    rw [wp_M_scanned_L4, jI_div hhib, if_pos (by rw [jI_lt (by omega) (by omega)]; omega)]
    rw [Nat.sub_self] at he
    have he : (v', f') = sp_ts (hi / 4 + 1 - lo / 4) (lo / 4) (v, gv_f g) := he
    rw [← he] at h hfin
    have e1 : pv_th v' = pv_th v := hfin.2.1
    have e2 : pv_va v' = pv_va v := hfin.2.2.1
    refine lpi (fun n (s : Int32 × Int32 × Int32) => wp_M_scanned_L32 A D (jI hi) (fun x10 MN11 => post x10 A D G MN11) n s.1 s.2.1 s.2.2) (fun k s => s = (jI (bc k (fun i => pv_th v (lo + i))), jI (lo + k), sp_sm v lo k)) (hi + 1 - lo) ?_ ?_ 0 (by omega) (0, jI lo, 0) rfl
    · intro k hk s n hs hn
      subst hs
      have hkb : lo + k < 2147483648 := by omega
      have hbs : bc (k + 1) (fun i => pv_th v (lo + i)) = bc k (fun i => pv_th v (lo + i)) + (if pv_th v (lo + k) then 1 else 0) := rfl
      have hss : sp_sm v lo (k + 1) = sp_sm v lo k + pv_va v (lo + k) := rfl
      dsimp only
      rw [wp_M_scanned_L32, if_neg (by rw [jI_lt (by omega) hkb]; omega)]
      refine m_isThereNow hA' hV'.1.1 (by omega) ?_
      refine jn_in (fun jk => jk (b2i (pv_th v (lo + k)))) ?_ ?_
      · refine m_valueNow hA' hV'.1.1 (by omega) ?_
        rw [e2, jI_s]
        refine hn (_, _, _) ?_
        rw [hbs, hss]
        cases q : pv_th v (lo + k) with
        | false =>
          rw [b2i_f, Int32.add_zero]
          rfl
        | true =>
          rw [b2i_t, jI_s]
          rfl
      · intro jk hjk
        rw [e1]
        cases q : pv_th v (lo + k) with
        | false =>
          rw [if_pos (by rfl)]
          rw [q] at hjk
          exact hjk
        | true =>
          rw [if_neg (by decide)]
          rw [q] at hjk
          exact hjk
    · intro s n hs
      subst hs
      dsimp only
      rw [wp_M_scanned_L32, if_pos (by rw [jI_lt (by omega) (by omega)]; omega)]
      exact h A D G hA' hG'
theorem m_stays {post : Int32 → S_MA → S_MD → S_MF → S_MG → S_ML → S_MP → S_MT → S_MV → Prop} (hA : RMA A D v) (hG : RMG G g) (hT : RMT T (tv_st' tv (updN (tv_st tv) t 1))) (hK : RML K L) (hV : iV v g (tv_st' tv (updN (tv_st tv) t 2)) L) (htc : t < tv_c tv) (htk : pv_tk v + 1000 < 2147483648)
    (h : ∀ A' D' F' G' K' P' T' V', RMA A' D' (sp_brk t 60 (v, g, tv_st' tv (updN (tv_st tv) t 2), L)).1 → RMG G' (sp_brk t 60 (v, g, tv_st' tv (updN (tv_st tv) t 2), L)).2.1 → RMT T' (sp_brk t 60 (v, g, tv_st' tv (updN (tv_st tv) t 2), L)).2.2.1 → RML K' (sp_brk t 60 (v, g, tv_st' tv (updN (tv_st tv) t 2), L)).2.2.2 → post (if sp_liv (sp_brk t 60 (v, g, tv_st' tv (updN (tv_st tv) t 2), L)).2.2.1 t then -2 else -3) A' D' F' G' K' P' T' V') : wp_M_stays A D F G K P T V (jI t) (jI (tv_rk tv t + 1)) (jI (tv_lo tv t)) (sp_sec tv t) post := by
  have hc : tv_c tv ≤ 60 := hV.2.2.1.1
  have htb : t < 2147483648 := by omega
  have hti : vp_in (jI t) 60 := jI_in htb (by omega)
  unfold wp_M_stays
  rw [jI_tn htb]
  obtain ⟨tv2, htv2⟩ : ∃ tv2, tv2 = tv_st' tv (updN (tv_st tv) t 2) := ⟨_, rfl⟩
  have hc2 : tv_c tv2 = tv_c tv := by
    rw [htv2]
  have hT2 : RMT (MT_second' (MT_first' (MT_asks' (MT_state' T (upd (MT_state T) t 2)) (upd (MT_asks T) t (jI (tv_rk tv t + 1)))) (upd (MT_first T) t (jI (tv_lo tv t)))) (upd (MT_second T) t (sp_sec tv t))) tv2 := by
    rw [htv2]
    obtain ⟨h1, h2, h3, h4, h5⟩ := hT
    refine ⟨h1, fun u hu => ?_, h3, h4, fun u hu hs => ?_⟩
    · show upd (MT_state T) t 2 u = updN (tv_st tv) t 2 u
      by_cases e : u = t
      · rw [e, upd_same, updN_same]
      · rw [upd_ne _ _ e, updN_ne _ _ e]
        have := h2 u hu
        rw [this]
        exact updN_ne _ _ e
    · show upd (MT_asks T) t (jI (tv_rk tv t + 1)) u = jI (tv_rk tv u + 1) ∧ upd (MT_first T) t (jI (tv_lo tv t)) u = jI (tv_lo tv u) ∧ upd (MT_second T) t (sp_sec tv t) u = sp_sec tv u
      by_cases e : u = t
      · rw [e, upd_same, upd_same, upd_same]
        exact ⟨rfl, rfl, rfl⟩
      · rw [upd_ne _ _ e, upd_ne _ _ e, upd_ne _ _ e]
        have hs : updN (tv_st tv) t 2 u = 2 := hs
        rw [updN_ne _ _ e] at hs
        exact h5 u hu (by show updN (tv_st tv) t 1 u = 2; rw [updN_ne _ _ e]; exact hs)
  rw [← htv2] at hV h
  refine ⟨hti, hti, hti, hti, ?_⟩
  have fin : ∀ (A' : S_MA) (D' : S_MD) (F' : S_MF) (G' : S_MG) (K' : S_ML) (P' : S_MP) (T' : S_MT) (V' : S_MV) (v' : VP) (g' : VG) (tv' : VT) (L' : VK), RMA A' D' v' → RMG G' g' → RMT T' tv' → RML K' L' → iT tv' → tv_c tv' = tv_c tv → (v', g', tv', L') = sp_brk t 60 (v, g, tv2, L) → wp_M_live T' (jI t) (fun r20 => if r20 = 0 then post (-3) A' D' F' G' K' P' T' V' else post (-2) A' D' F' G' K' P' T' V') := by
    intro A' D' F' G' K' P' T' V' v' g' tv' L' hA' hG' hT' hK' hv' hcc he
    rw [← he] at h
    dsimp only at h
    refine m_live hT' hv' (by omega) ?_
    cases w : sp_liv tv' t with
    | true =>
      rw [if_neg (by decide)]
      rw [w] at h
      exact h A' D' F' G' K' P' T' V' hA' hG' hT' hK'
    | false =>
      rw [if_pos (by rfl)]
      rw [w] at h
      exact h A' D' F' G' K' P' T' V' hA' hG' hT' hK'
  refine lpi (fun n (s : Int32 × S_MA × S_MD × S_MF × S_MG × S_ML × S_MP × S_MT × S_MV) => wp_M_stays_L32 (jI t) post _ n s.1 s.2.1 s.2.2.1 s.2.2.2.1 s.2.2.2.2.1 s.2.2.2.2.2.1 s.2.2.2.2.2.2.1 s.2.2.2.2.2.2.2.1 s.2.2.2.2.2.2.2.2) (fun k s => s.1 = jI k ∧ ∃ (v' : VP) (g' : VG) (tv' : VT) (L' : VK), RMA s.2.1 s.2.2.1 v' ∧ RMG s.2.2.2.2.1 g' ∧ RML s.2.2.2.2.2.1 L' ∧ RMT s.2.2.2.2.2.2.2.1 tv' ∧ iV v' g' tv' L' ∧ tv_c tv' = tv_c tv ∧ pv_tk v' + gv_n g ≤ pv_tk v + gv_n g' ∧ sp_brk t (60 - k) (v', g', tv', L') = sp_brk t 60 (v, g, tv2, L)) 60 ?_ ?_ 0 (by omega) (0, A, D, F, G, K, P, _, V) ⟨rfl, v, g, tv2, L, hA, hG, hK, hT2, hV, hc2, Nat.le_refl _, rfl⟩
  · intro k hk s n hs hn
    obtain ⟨i, A', D', F', G', K', P', T', V'⟩ := s
    obtain ⟨e0, v', g', tv', L', hA', hG', hK', hT', hV', hcc, htk', he⟩ := hs
    dsimp only at e0 hA' hG' hK' hT' ⊢
    subst e0
    have hn3 := hV'.2.1.1
    rw [wp_M_stays_L32, if_neg (by rw [show (60 : Int32) = jI 60 from rfl, jI_le (by omega) (by omega)]; omega), jI_s]
    have step : sp_brk t (60 - k) (v', g', tv', L') = match sp_vict v' L' tv' t with
        | none => (v', g', tv', L')
        | some y => sp_brk t (60 - (k + 1)) ((sp_abort tv' L' v' g' y).2.1, (sp_abort tv' L' v' g' y).2.2.1, (sp_abort tv' L' v' g' y).2.2.2.1, (sp_abort tv' L' v' g' y).2.2.2.2) := by
      rw [show 60 - k = (60 - (k + 1)) + 1 by omega]
      rfl
    refine m_live hT' hV'.2.2.1 (by omega) ?_
    cases w : sp_liv tv' t with
    | false =>
      rw [if_pos (by rfl)]
      have z : sp_vict v' L' tv' t = none := by
        unfold sp_vict
        rw [w]
        rfl
      rw [z, he] at step
      exact fin A' D' F' G' K' P' T' V' v' g' tv' L' hA' hG' hT' hK' hV'.2.2.1 hcc step.symm
    | true =>
      rw [if_neg (by decide)]
      refine m_victim hA' hV'.1.1 hK' hT' hV'.2.2.1 hV'.2.2.2.1 w (fun P2 V2 => ?_)
      cases z : sp_vict v' L' tv' t with
      | none =>
        rw [if_neg (by decide)]
        rw [z, he] at step
        rw [step] at h
        dsimp only at h
        rw [w] at h
        exact h A' D' F' G' K' P2 T' V2 hA' hG' hT' hK'
      | some y =>
        obtain ⟨y1, y2⟩ := vict_lt z
        have hyb : y < 2147483648 := by have := hV'.2.2.1.1; omega
        rw [show pI (some y) = jI y from rfl, if_pos (by rw [← jI_0, jI_le (by omega) hyb]; omega)]
        rw [z, he] at step
        have hab := hV'.abort y1
        have htk2 := abort_tk hV' y1
        refine m_aborts hA' hG' hT' hK' hV' y1 (by omega) (fun A3 D3 F3 G3 K3 T3 hA3 hG3 hK3 hT3 => ?_)
        refine hn (_, _, _, _, _, _, _, _, _) ⟨rfl, _, _, _, _, hA3, hG3, hK3, hT3, hab.1, hcc, by omega, ?_⟩
        exact step.symm
  · intro s n hs
    obtain ⟨i, A', D', F', G', K', P', T', V'⟩ := s
    obtain ⟨e0, v', g', tv', L', hA', hG', hK', hT', hV', hcc, htk', he⟩ := hs
    dsimp only at e0 hA' hG' hK' hT' ⊢
    subst e0
    rw [wp_M_stays_L32, if_pos (by decide)]
    exact fin A' D' F' G' K' P' T' V' v' g' tv' L' hA' hG' hT' hK' hV'.2.2.1 hcc he
theorem grs_ge {m : Nat} {its : List Nat} : ∀ n u i, L u i ≤ sp_grs L t m its n u i := by
  intro n
  induction n with
  | zero => exact fun u i => Nat.le_refl _
  | succ n ih =>
    intro u i
    show L u i ≤ sp_gr (sp_grs L t m its n) t (its.getD n 0) m u i
    unfold sp_gr
    split
    · rename_i e
      have := ih t (its.getD n 0)
      rw [e.1, e.2]
      split <;> omega
    · exact ih u i
theorem grs_at {m : Nat} {its : List Nat} : ∀ n i, sp_grs L t m its n t i = L t i ∨ ∃ x, x < n ∧ its.getD x 0 = i := by
  intro n
  induction n with
  | zero => exact fun i => Or.inl rfl
  | succ n ih =>
    intro i
    by_cases e : i = its.getD n 0
    · exact Or.inr ⟨n, by omega, e.symm⟩
    · rcases ih i with z | ⟨x, x1, x2⟩
      · left
        show sp_gr (sp_grs L t m its n) t (its.getD n 0) m t i = L t i
        unfold sp_gr
        rw [if_neg (fun z => e z.2)]
        exact z
      · exact Or.inr ⟨x, by omega, x2⟩
theorem bar_grs {m n i k : Nat} {its : List Nat} (hv : iT tv) (ht : t < tv_c tv) {f : Nat → Int32} : sp_bar (sp_grs L t m its n) (tv_st' tv f) t i k = sp_bar L tv t i k := by
  unfold sp_bar
  refine bx_congr (fun u hu => ?_)
  unfold sp_bl
  by_cases e : u = t
  · rw [e, show tv_lin (tv_st' tv f) t t = tv_lin tv t t from rfl, hv.lin_self ht]
    simp
  · rw [grs_other n u i e]
theorem m_request {post : Int32 → S_MA → S_MD → S_MF → S_MG → S_ML → S_MN → S_MP → S_MT → S_MV → Prop} (hA : RMA A D v) (hG : RMG G g) (hT : RMT T tv) (hK : RML K L) (hV : iV v g tv L) (ht : sp_liv tv t = true) (htk : pv_tk v + 1000 < 2147483648)
    (h : ∀ A' D' F' G' K' P' T' V', RMA A' D' (sp_request v g tv L N t).2.1 → RMG G' (sp_request v g tv L N t).2.2.1 → RMT T' (sp_request v g tv L N t).2.2.2.1 → RML K' (sp_request v g tv L N t).2.2.2.2.1 → post (sp_request v g tv L N t).1 A' D' F' G' K' (sp_request v g tv L N t).2.2.2.2.2 P' T' V') : wp_M_request A D F G K N P T V (jI t) (jI (tv_rk tv t + 1)) (jI (tv_lo tv t)) (sp_sec tv t) post := by
  have hv := hV.2.2.1
  have hc := hv.1
  have htc := liv_lt ht
  have htb : t < 2147483648 := by omega
  have hti : vp_in (jI t) 60 := jI_in htb (by omega)
  obtain ⟨r1, r2, r3⟩ := hv.2.2 t (by omega)
  have hlo : tv_lo tv t < 32 := by omega
  have hlob : tv_lo tv t < 2147483648 := by omega
  have hb := hV.bnd
  unfold wp_M_request
  rw [jI_tn htb]
  refine ⟨hti, m_needs hA hV.1.1 hv htc (fun P1 hP1 => ?_)⟩
  have hlen := sp_its_len (v := v) hv htc
  have hit := sp_its_lt (v := v) hv htc
  have hm := (sp_pm_le v tv t).1
  unfold sp_request at h
  obtain ⟨its, hits⟩ : ∃ its, its = sp_its v tv t := ⟨_, rfl⟩
  obtain ⟨m, hmm⟩ : ∃ m, m = sp_pm v tv t := ⟨_, rfl⟩
  have hg1 : ∀ n, iV v g (tv_st' tv (updN (tv_st tv) t 1)) (sp_grs L t m its n) := fun n => by
    rw [hmm]
    exact hV.grs ht (Or.inl rfl) hm
  have hg2 : ∀ n, iV v g (tv_st' tv (updN (tv_st tv) t 2)) (sp_grs L t m its n) := fun n => by
    rw [hmm]
    exact hV.grs ht (Or.inr rfl) hm
  rw [← hits] at hlen hit hP1 h
  rw [← hmm] at hm hP1 h
  have hT1 : RMT (MT_state' T (upd (MT_state T) t 1)) (tv_st' tv (updN (tv_st tv) t 1)) := hT.st (by decide)
  have hv1 : iT (tv_st' tv (updN (tv_st tv) t 1)) := (hg1 0).2.2.1
  have hl1 : sp_liv (tv_st' tv (updN (tv_st tv) t 1)) t = true := by
    rw [liv_12 ht (Or.inl rfl)]
    exact ht
  refine lpi (fun n (s : Int32 × S_ML) => wp_M_request_L18 N (jI t) (jI (tv_rk tv t + 1)) (jI (tv_lo tv t)) (sp_sec tv t) post _ n s.1 A D F G s.2 P1 (MT_state' T (upd (MT_state T) t 1)) V) (fun d s => s.1 = jI d ∧ RML s.2 (sp_grs L t m its d) ∧ ∀ x, x < d → sp_lk L tv t m (its.getD x 0) = false) its.length ?_ ?_ 0 (by omega) (0, K) ⟨rfl, hK, fun x hx => by omega⟩
  · intro d hd s n hs hn
    obtain ⟨x, K'⟩ := s
    obtain ⟨hx, hK', hs⟩ := hs
    dsimp only at hx hK' ⊢
    subst hx
    have hdb : d < 2147483648 := by omega
    have hi : its.getD d 0 < 33 := hit _ (getD_mem hd)
    obtain ⟨e1, e2, e3⟩ := ix33 (show t < 60 by omega) hi
    have hle := (hg1 d).2.2.2.1 t _ hi
    have hdi : vp_in (jI d) 33 := jI_in hdb (by omega)
    rw [wp_M_request_L18, hP1.2.1, if_neg (by rw [jI_le (by omega) hdb]; omega), jI_tn hdb, hP1.2.2 d _ (getD_of hd), e1, jI_tn e3, hK' t _ (by omega) hi, hP1.1, jI_s, ite_iff' (jI_le (by omega) (by omega))]
    refine ⟨hdi, jI_in e3 e2, ?_⟩
    have nx : sp_lk L tv t m (its.getD d 0) = false → ∀ x, x < d + 1 → sp_lk L tv t m (its.getD x 0) = false := by
      intro hl x hx
      by_cases e : x = d
      · rw [e, hl]
      · exact hs x (by omega)
    have gs : sp_grs L t m its (d + 1) = sp_gr (sp_grs L t m its d) t (its.getD d 0) m := rfl
    by_cases q : m ≤ sp_grs L t m its d t (its.getD d 0)
    · rw [if_pos q]
      refine hn (_, _) ⟨rfl, fun u j hu hj => ?_, nx ?_⟩
      · rw [hK' u j hu hj, gs]
        congr 1
        unfold sp_gr
        by_cases e : u = t ∧ j = its.getD d 0
        · rw [if_pos e, if_pos q, e.1, e.2]
        · rw [if_neg e]
      · rcases grs_at (L := L) (t := t) (m := m) (its := its) d (its.getD d 0) with z | ⟨x, x1, x2⟩
        · rw [z] at q
          unfold sp_lk
          rw [decide_eq_false (by omega)]
          rfl
        · rw [← x2]
          exact hs x x1
    · rw [if_neg q]
      have hge := grs_ge (L := L) (t := t) (m := m) (its := its) d t (its.getD d 0)
      have hlt : L t (its.getD d 0) < m := by omega
      refine ⟨hdi, m_may hK' hT1 hv1 htc hi (by omega) (fun u => ((hg1 d).2.2.2.1 u _ hi).1) ?_⟩
      rw [bar_grs hv htc]
      cases z : sp_bar L tv t (its.getD d 0) m with
      | true =>
        rw [if_pos (by rfl)]
        have hfr : sp_fr L tv t m its = d := ff_eq _ _ _ _ (by omega) (by omega) (fun x _ hx => hs x hx) (fun _ => by
          show sp_lk L tv t m (its.getD d 0) = true
          unfold sp_lk
          rw [z, decide_eq_true hlt]
          rfl)
        rw [hfr, if_neg (by omega)] at h
        exact m_stays hA hG hT1 hK' (hg2 d) htc htk (fun A' D' F' G' K2 P' T' V' hA' hG' hT' hK2 => h A' D' F' G' K2 P' T' V' hA' hG' hT' hK2)
      | false =>
        rw [if_neg (by decide)]
        refine ⟨jI_in e3 e2, hn (_, _) ⟨rfl, fun u j hu hj => ?_, nx ?_⟩⟩
        · show upd (ML_locks K') (33 * t + its.getD d 0) (jI m) (33 * u + j) = jI (sp_grs L t m its (d + 1) u j)
          rw [gs]
          unfold sp_gr
          by_cases e : u = t ∧ j = its.getD d 0
          · rw [if_pos e, if_neg q, e.1, e.2, upd_same]
          · rw [if_neg e, upd_ne _ _ (fun w => e ⟨by omega, by omega⟩)]
            exact hK' u j hu hj
        · unfold sp_lk
          rw [z, Bool.and_false]
  · intro s n hs
    obtain ⟨x, K'⟩ := s
    obtain ⟨hx, hK', hs⟩ := hs
    dsimp only at hx hK' ⊢
    subst hx
    have hfr : sp_fr L tv t m its = its.length := ff_eq _ _ _ _ (by omega) (by omega) (fun x _ hx => hs x hx) (fun z => by omega)
    rw [hfr, if_pos rfl] at h
    rw [wp_M_request_L18, hP1.2.1, if_pos (by rw [jI_le (by omega) (by omega)]; omega)]
    have hVV := hg1 its.length
    unfold sp_carry at h
    by_cases k0 : tv_rk tv t = 0
    · rw [show jI (tv_rk tv t + 1) = 1 by rw [k0]; rfl, if_pos (by rfl), jI_div hlob]
      rw [if_pos (show tv_rk (tv_st' tv (updN (tv_st tv) t 1)) t = 0 from k0)] at h
      refine m_touch hA hG hV.1.1 (by omega) hb.1 hb.2.1 (by omega) (fun A2 D2 G2 hA2 hG2 => ?_)
      have hV2 := hV.touch (p := tv_lo tv t / 4) (by omega)
      refine m_valueNow hA2 hV2.1.1 hlo (m_isThereNow hA2 hV2.1.1 hlo ?_)
      have hh := h A2 D2 F G2 K' P1 _ V hA2 hG2 hT1 hK'
      dsimp only at hh
      rw [tP_th, tP_va]
      cases q : pv_th v (tv_lo tv t) with
      | false =>
        rw [if_pos (by rfl)]
        have hh : post (b2i (pv_th v (tv_lo tv t))) A2 D2 F G2 K' (pv_va v (tv_lo tv t)) P1 (MT_state' T (upd (MT_state T) t 1)) V := hh
        rw [q] at hh
        exact hh
      | true =>
        rw [if_neg (by decide)]
        have hh : post (b2i (pv_th v (tv_lo tv t))) A2 D2 F G2 K' (pv_va v (tv_lo tv t)) P1 (MT_state' T (upd (MT_state T) t 1)) V := hh
        rw [q] at hh
        exact hh
    · rw [if_neg (show ¬ tv_rk (tv_st' tv (updN (tv_st tv) t 1)) t = 0 from k0)] at h
      by_cases k1 : tv_rk tv t = 1
      · rw [if_pos (show tv_rk (tv_st' tv (updN (tv_st tv) t 1)) t = 1 from k1)] at h
        have hsec : sp_sec tv t = tv_nv tv t := by
          unfold sp_sec
          rw [if_neg (by omega), if_pos k1]
        rw [show jI (tv_rk tv t + 1) = 2 by rw [k1]; rfl, if_neg (by decide), if_neg (by decide), hsec]
        refine m_isThereNow hA hV.1.1 hlo ?_
        rw [if_neg (by decide)]
        refine m_full hG hT1 hv1 hVV.2.1 ?_
        cases q : sp_room g (tv_st' tv (updN (tv_st tv) t 1)) with
        | false =>
          rw [if_neg (by decide)]
          rw [q] at h
          exact h A D F G K' P1 _ V hA hG hT1 hK'
        | true =>
          rw [if_pos (by rfl)]
          rw [q] at h
          obtain ⟨-, u2⟩ := hVV.upd (x := tv_nv tv t) (now := true) hl1 hlo (fun z => by cases z) q
          refine jn_intro ?_
          rw [if_pos (by rfl)]
          refine m_update (now := true) hA hG hV.1.1 u2 hlo (fun z => by cases z) hb.1 hb.2.1 (by omega) _ (fun _ => rfl) (fun A2 D2 G2 hA2 hG2 => ?_)
          rw [if_pos (by rfl)]
          exact h A2 D2 F G2 K' P1 _ V hA2 hG2 hT1 hK'
      · rw [if_neg (show ¬ tv_rk (tv_st' tv (updN (tv_st tv) t 1)) t = 1 from k1)] at h
        by_cases k2 : tv_rk tv t = 2
        · rw [if_pos (show tv_rk (tv_st' tv (updN (tv_st tv) t 1)) t = 2 from k2)] at h
          rw [show jI (tv_rk tv t + 1) = 3 by rw [k2]; rfl, if_neg (by decide), if_neg (by decide)]
          refine m_isThereNow hA hV.1.1 hlo ?_
          rw [if_pos (by rfl)]
          cases hth : pv_th v (tv_lo tv t) with
          | false =>
            rw [if_pos (by rfl)]
            rw [show pv_th v (tv_lo (tv_st' tv (updN (tv_st tv) t 1)) t) = false from hth] at h
            exact h A D F G K' P1 _ V hA hG hT1 hK'
          | true =>
            rw [if_neg (by decide)]
            rw [show pv_th v (tv_lo (tv_st' tv (updN (tv_st tv) t 1)) t) = true from hth] at h
            refine m_full hG hT1 hv1 hVV.2.1 ?_
            cases q : sp_room g (tv_st' tv (updN (tv_st tv) t 1)) with
            | false =>
              rw [if_neg (by decide)]
              rw [q] at h
              exact h A D F G K' P1 _ V hA hG hT1 hK'
            | true =>
              rw [if_pos (by rfl)]
              rw [q] at h
              obtain ⟨-, u2⟩ := hVV.upd (x := 0) (now := false) hl1 hlo (fun _ => rfl) q
              refine jn_intro ?_
              rw [if_neg (by decide)]
              refine m_update (now := false) hA hG hV.1.1 u2 hlo (fun _ => rfl) hb.1 hb.2.1 (by omega) _ (fun z => by cases z) (fun A2 D2 G2 hA2 hG2 => ?_)
              rw [if_neg (by decide)]
              exact h A2 D2 F G2 K' P1 _ V hA2 hG2 hT1 hK'
        · have k3 : tv_rk tv t = 3 := by omega
          rw [if_neg (show ¬ tv_rk (tv_st' tv (updN (tv_st tv) t 1)) t = 2 from k2)] at h
          have hsec : sp_sec tv t = jI (tv_hi tv t) := by
            unfold sp_sec
            rw [if_pos k3]
          rw [show jI (tv_rk tv t + 1) = 4 by rw [k3]; rfl, if_neg (by decide), if_pos (by rfl), hsec]
          exact m_scanned hA hG hV r2 r3 htk (fun A2 D2 G2 hA2 hG2 => h A2 D2 F G2 K' P1 _ V hA2 hG2 hT1 hK')
end PMN5
