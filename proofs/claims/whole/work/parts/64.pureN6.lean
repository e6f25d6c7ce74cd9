section PN6
variable {A : S_A} {G : S_G} {T : S_T} {K : S_K} {P : S_P} {D : S_D} {N : S_N} {v : VP} {g : VG} {tv : VT} {L : VK} {t : Nat}
/-- touches of n pages from p on -/
def sp_ts : Nat → Nat → VP × Nat → VP × Nat
  | 0, _, s => s
  | n + 1, p, s => sp_ts n (p + 1) (sp_tP s.1 p, sp_tF s.1 s.2 p)
def sp_sm (v : VP) (lo : Nat) : Nat → Int32
  | 0 => 0
  | n + 1 => sp_sm v lo n + pv_va v (lo + n)
def sp_carry (v : VP) (g : VG) (tv : VT) (la : Int32) (t : Nat) : Int32 × VP × VG × Int32 :=
  if tv_rk tv t = 0 then (b2i (pv_th v (tv_lo tv t)), sp_tP v (tv_lo tv t / 4), gv_f' g (sp_tF v (gv_f g) (tv_lo tv t / 4)), pv_va v (tv_lo tv t))
  else if tv_rk tv t = 1 then (if sp_room g tv then (0, sp_updP v g (tv_lo tv t) true (tv_nv tv t), sp_updG v g t (tv_lo tv t) true (tv_nv tv t), la) else (-5, v, g, la))
  else if tv_rk tv t = 2 then (if pv_th v (tv_lo tv t) then (if sp_room g tv then (1, sp_updP v g (tv_lo tv t) false 0, sp_updG v g t (tv_lo tv t) false 0, la) else (-5, v, g, la)) else (0, v, g, la))
  else (jI (bc (tv_hi tv t + 1 - tv_lo tv t) (fun i => pv_th v (tv_lo tv t + i))), (sp_ts (tv_hi tv t / 4 + 1 - tv_lo tv t / 4) (tv_lo tv t / 4) (v, gv_f g)).1, gv_f' g (sp_ts (tv_hi tv t / 4 + 1 - tv_lo tv t / 4) (tv_lo tv t / 4) (v, gv_f g)).2, sp_sm v (tv_lo tv t) (tv_hi tv t + 1 - tv_lo tv t))
theorem ts_inv : ∀ n p (s : VP × Nat), p + n ≤ 8 → iV s.1 (gv_f' g s.2) tv L → iV (sp_ts n p s).1 (gv_f' g (sp_ts n p s).2) tv L ∧ pv_th (sp_ts n p s).1 = pv_th s.1 ∧ pv_va (sp_ts n p s).1 = pv_va s.1 ∧ pv_tk (sp_ts n p s).1 = pv_tk s.1 + n := by
  intro n
  induction n with
  | zero =>
    intro p s _ h
    exact ⟨h, rfl, rfl, rfl⟩
  | succ n ih =>
    intro p s hp h
    have h2 := h.touch (show p < 8 by omega)
    obtain ⟨i1, i2, i3, i4⟩ := ih (p + 1) (sp_tP s.1 p, sp_tF s.1 s.2 p) (by omega) h2
    refine ⟨i1, ?_, ?_, ?_⟩
    · show pv_th (sp_ts n (p + 1) (sp_tP s.1 p, sp_tF s.1 s.2 p)).1 = _
      rw [i2]
      exact tP_th p
    · show pv_va (sp_ts n (p + 1) (sp_tP s.1 p, sp_tF s.1 s.2 p)).1 = _
      rw [i3]
      exact tP_va p
    · show pv_tk (sp_ts n (p + 1) (sp_tP s.1 p, sp_tF s.1 s.2 p)).1 = _
      rw [i4]
      have : pv_tk (sp_tP s.1 p) = pv_tk s.1 + 1 := tP_tk p
      dsimp only
      omega
theorem k_N_countAndSum {post : Int32 → S_A → S_G → S_N → Prop} {lo hi : Nat} (hA : RA A v) (hG : RG G g) (hV : iV v g tv L) (hlo : lo ≤ hi) (hhi : hi < 32)
    (h : ∀ A' G', RA A' (sp_ts (hi / 4 + 1 - lo / 4) (lo / 4) (v, gv_f g)).1 → RG G' (gv_f' g (sp_ts (hi / 4 + 1 - lo / 4) (lo / 4) (v, gv_f g)).2) → post (jI (bc (hi + 1 - lo) (fun i => pv_th v (lo + i)))) A' G' (sp_sm v lo (hi + 1 - lo))) : wp_N_countAndSum A G N (jI lo) (jI hi) post := by
  have hlob : lo < 2147483648 := by omega
  have hhib : hi < 2147483648 := by omega
  have hfin := ts_inv (g := g) (tv := tv) (L := L) (hi / 4 + 1 - lo / 4) (lo / 4) (v, gv_f g) (by omega) hV
  unfold wp_N_countAndSum
  rw [jI_div hlob]
  refine lpi (fun n (s : Int32 × S_A × S_G) => wp_N_countAndSum_L4 (jI lo) (jI hi) _ n s.1 s.2.1 s.2.2) (fun k s => s.1 = jI (lo / 4 + k) ∧ ∃ (v' : VP) (f' : Nat), RA s.2.1 v' ∧ RG s.2.2 (gv_f' g f') ∧ iV v' (gv_f' g f') tv L ∧ sp_ts (hi / 4 + 1 - lo / 4 - k) (lo / 4 + k) (v', f') = sp_ts (hi / 4 + 1 - lo / 4) (lo / 4) (v, gv_f g)) (hi / 4 + 1 - lo / 4) ?_ ?_ 0 (by omega) (jI (lo / 4), A, G) ⟨rfl, v, gv_f g, hA, hG, hV, rfl⟩
  · intro k hk s n hs hn
    obtain ⟨x, A, G⟩ := s
    obtain ⟨hx, v', f', hA', hG', hV', he⟩ := hs
    dsimp only at hx hA' hG' ⊢
    subst hx
    have hb := hV'.bnd
    rw [wp_N_countAndSum_L4, jI_div hhib, if_neg (by rw [jI_lt (by omega) (by omega)]; omega), jI_s]
    refine k_A_touch hA' hG' hV'.1.1 (by omega) hb.1 hb.2.1 (fun A2 G2 hA2 hG2 => hn (_, _, _) ⟨rfl, _, _, hA2, hG2, hV'.touch (by omega), ?_⟩)
    rw [← he, show hi / 4 + 1 - lo / 4 - k = (hi / 4 + 1 - lo / 4 - (k + 1)) + 1 by omega]
    rfl
  · intro s n hs
    obtain ⟨x, A, G⟩ := s
    obtain ⟨hx, v', f', hA', hG', hV', he⟩ := hs
    dsimp only at hx hA' hG' ⊢
    subst hx
    rw [wp_N_countAndSum_L4, jI_div hhib, if_pos (by rw [jI_lt (by omega) (by omega)]; omega)]
    rw [Nat.sub_self] at he
    have he : (v', f') = sp_ts (hi / 4 + 1 - lo / 4) (lo / 4) (v, gv_f g) := he
    rw [← he] at h hfin
    have e1 : pv_th v' = pv_th v := hfin.2.1
    have e2 : pv_va v' = pv_va v := hfin.2.2.1
    have h7 := hV.1.1.2.2.2.2.2.2.1
    refine lpi (fun n (s : Int32 × Int32 × Int32) => wp_N_countAndSum_L37 A (jI hi) (fun x5 x6 => post x5 A G (N_latestValue' N x6)) n s.1 s.2.1 s.2.2) (fun k s => s = (jI (bc k (fun i => pv_th v (lo + i))), sp_sm v lo k, jI (lo + k))) (hi + 1 - lo) ?_ ?_ 0 (by omega) (0, 0, jI lo) rfl
    · intro k hk s n hs hn
      subst hs
      have hkb : lo + k < 2147483648 := by omega
      have hki : vp_in (jI (lo + k)) 32 := jI_in hkb (by omega)
      have hbs : bc (k + 1) (fun i => pv_th v (lo + i)) = bc k (fun i => pv_th v (lo + i)) + (if pv_th v (lo + k) then 1 else 0) := rfl
      have hss : sp_sm v lo (k + 1) = sp_sm v lo k + pv_va v (lo + k) := rfl
      dsimp only
      rw [wp_N_countAndSum_L37, if_neg (by rw [jI_lt (by omega) hkb]; omega), jI_tn hkb, hA'.2.2.2.2.2.1 _ (by omega), hA'.2.2.2.2.2.2.1 _ (by omega), e1, e2, jI_s]
      refine ⟨hki, ?_⟩
      cases q : pv_th v (lo + k) with
      | false =>
        rw [if_pos (by rfl)]
        refine hn (_, _, _) ?_
        rw [hbs, hss, q, h7 _ (by omega) q, Int32.add_zero]
        rfl
      | true =>
        rw [if_neg (by decide), jI_s]
        refine ⟨hki, hn (_, _, _) ?_⟩
        rw [hbs, hss, q]
        rfl
    · intro s n hs
      subst hs
      dsimp only
      rw [wp_N_countAndSum_L37, if_pos (by rw [jI_lt (by omega) (by omega)]; omega)]
      exact h A G hA' hG'
theorem k_N_carryOut {post : Int32 → S_A → S_G → S_N → Prop} (hA : RA A v) (hG : RG G g) (hT : RT T tv) (hV : iV v g tv L) (ht : sp_liv tv t = true)
    (h : ∀ A' G', RA A' (sp_carry v g tv N t).2.1 → RG G' (sp_carry v g tv N t).2.2.1 → post (sp_carry v g tv N t).1 A' G' (sp_carry v g tv N t).2.2.2) : wp_N_carryOut A G N T (jI t) post := by
  have hv := hV.2.2.1
  have hc := hv.1
  have htc := liv_lt ht
  have htb : t < 2147483648 := by omega
  have hti : vp_in (jI t) 60 := jI_in htb (by omega)
  obtain ⟨r1, r2, r3⟩ := hv.2.2 t (by omega)
  have hlo : tv_lo tv t < 32 := by omega
  have hlob : tv_lo tv t < 2147483648 := by omega
  have hloi : vp_in (jI (tv_lo tv t)) 32 := jI_in hlob hlo
  have hb := hV.bnd
  have hby := hV.2.1.2.2.2.2.1
  have hn3 := hV.2.1.1
  unfold wp_N_carryOut
  rw [jI_tn htb, hT.2.2.2.2.2.2.2.1 t (by omega), hT.2.2.2.2.2.2.2.2.1 t (by omega), hT.2.2.2.2.2.2.2.2.2.1 t (by omega), hT.2.2.2.2.2.2.2.2.2.2 t (by omega), jI_tn hlob]
  refine ⟨hti, hti, ?_⟩
  unfold sp_carry at h
  by_cases k0 : tv_rk tv t = 0
  · rw [show jI (tv_rk tv t) = 0 by rw [k0]; rfl, if_pos (by rfl), jI_div hlob]
    rw [if_pos k0] at h
    refine k_A_touch hA hG hV.1.1 (by omega) hb.1 hb.2.1 (fun A2 G2 hA2 hG2 => ⟨hloi, hloi, ?_⟩)
    rw [hA2.2.2.2.2.2.1 _ hlo, hA2.2.2.2.2.2.2.1 _ hlo, tP_th, tP_va]
    have hh := h A2 G2 hA2 hG2
    dsimp only at hh
    unfold wp_N_asNumber
    cases q : pv_th v (tv_lo tv t) with
    | false =>
      rw [if_pos (by rfl)]
      rw [q] at hh
      exact hh
    | true =>
      rw [if_neg (by decide)]
      rw [q] at hh
      exact hh
  · rw [if_neg k0] at h
    by_cases k1 : tv_rk tv t = 1
    · rw [show jI (tv_rk tv t) = 1 by rw [k1]; rfl, if_neg (by decide), if_pos (by rfl)]
      rw [if_pos k1] at h
      refine k_N_hasRoomForOne hG hT hv hn3 hby ?_
      cases q : sp_room g tv with
      | false =>
        rw [if_pos (by rfl)]
        rw [q] at h
        exact h A G hA hG
      | true =>
        rw [if_neg (by decide)]
        rw [q] at h
        obtain ⟨-, u2⟩ := hV.upd (x := tv_nv tv t) (now := true) ht hlo (fun z => by cases z) q
        exact ⟨hti, k_N_update (now := true) hA hG hV.1.1 u2 hV.2.1.ou hlo hb.1 hb.2.1 (fun A2 G2 hA2 hG2 => h A2 G2 hA2 hG2)⟩
    · rw [if_neg k1] at h
      by_cases k2 : tv_rk tv t = 2
      · rw [show jI (tv_rk tv t) = 2 by rw [k2]; rfl, if_neg (by decide), if_neg (by decide), if_pos (by rfl), hA.2.2.2.2.2.1 _ hlo]
        rw [if_pos k2] at h
        refine ⟨hloi, ?_⟩
        cases hth : pv_th v (tv_lo tv t) with
        | false =>
          rw [if_pos (by rfl)]
          rw [hth] at h
          exact h A G hA hG
        | true =>
          rw [if_neg (by decide)]
          rw [hth] at h
          refine k_N_hasRoomForOne hG hT hv hn3 hby ?_
          cases q : sp_room g tv with
          | false =>
            rw [if_pos (by rfl)]
            rw [q] at h
            exact h A G hA hG
          | true =>
            rw [if_neg (by decide)]
            rw [q] at h
            obtain ⟨-, u2⟩ := hV.upd (x := 0) (now := false) ht hlo (fun _ => rfl) q
            exact k_N_update (now := false) hA hG hV.1.1 u2 hV.2.1.ou hlo hb.1 hb.2.1 (fun A2 G2 hA2 hG2 => h A2 G2 hA2 hG2)
      · have k3 : tv_rk tv t = 3 := by omega
        rw [show jI (tv_rk tv t) = 3 by rw [k3]; rfl, if_neg (by decide), if_neg (by decide), if_neg (by decide)]
        rw [if_neg k2] at h
        exact ⟨hti, k_N_countAndSum hA hG hV r2 r3 (fun A2 G2 hA2 hG2 => h A2 G2 hA2 hG2)⟩
/-- a request of t, as it stands with t -/
noncomputable def sp_request (v : VP) (g : VG) (tv : VT) (L : VK) (la : Int32) (t : Nat) : Int32 × VP × VG × VT × VK × Int32 :=
  if sp_fr L tv t (sp_pm v tv t) (sp_its v tv t) = (sp_its v tv t).length then
    ((sp_carry v g (tv_st' tv (updN (tv_st tv) t 1)) la t).1, (sp_carry v g (tv_st' tv (updN (tv_st tv) t 1)) la t).2.1, (sp_carry v g (tv_st' tv (updN (tv_st tv) t 1)) la t).2.2.1, tv_st' tv (updN (tv_st tv) t 1), sp_grs L t (sp_pm v tv t) (sp_its v tv t) (sp_fr L tv t (sp_pm v tv t) (sp_its v tv t)), (sp_carry v g (tv_st' tv (updN (tv_st tv) t 1)) la t).2.2.2)
  else
    (if sp_liv (sp_brk t 60 (v, g, tv_st' tv (updN (tv_st tv) t 2), sp_grs L t (sp_pm v tv t) (sp_its v tv t) (sp_fr L tv t (sp_pm v tv t) (sp_its v tv t)))).2.2.1 t then -2 else -3, (sp_brk t 60 (v, g, tv_st' tv (updN (tv_st tv) t 2), sp_grs L t (sp_pm v tv t) (sp_its v tv t) (sp_fr L tv t (sp_pm v tv t) (sp_its v tv t)))).1, (sp_brk t 60 (v, g, tv_st' tv (updN (tv_st tv) t 2), sp_grs L t (sp_pm v tv t) (sp_its v tv t) (sp_fr L tv t (sp_pm v tv t) (sp_its v tv t)))).2.1, (sp_brk t 60 (v, g, tv_st' tv (updN (tv_st tv) t 2), sp_grs L t (sp_pm v tv t) (sp_its v tv t) (sp_fr L tv t (sp_pm v tv t) (sp_its v tv t)))).2.2.1, (sp_brk t 60 (v, g, tv_st' tv (updN (tv_st tv) t 2), sp_grs L t (sp_pm v tv t) (sp_its v tv t) (sp_fr L tv t (sp_pm v tv t) (sp_its v tv t)))).2.2.2, la)
theorem k_N_request {post : Int32 → S_A → S_D → S_G → S_K → S_N → S_P → S_T → Prop} (hA : RA A v) (hG : RG G g) (hT : RT T tv) (hK : RK K L) (hV : iV v g tv L) (ht : sp_liv tv t = true)
    (h : ∀ A' D' G' K' P' T', RA A' (sp_request v g tv L N t).2.1 → RG G' (sp_request v g tv L N t).2.2.1 → RT T' (sp_request v g tv L N t).2.2.2.1 → RK K' (sp_request v g tv L N t).2.2.2.2.1 → post (sp_request v g tv L N t).1 A' D' G' K' (sp_request v g tv L N t).2.2.2.2.2 P' T') : wp_N_request A D G K N P T (jI t) post := by
  have hv := hV.2.2.1
  have hc := hv.1
  have htc := liv_lt ht
  have htb : t < 2147483648 := by omega
  have hti : vp_in (jI t) 60 := jI_in htb (by omega)
  have hm := (sp_pm_le v tv t).1
  unfold wp_N_request
  refine k_N_takeLocks hA hK hT hv hV.2.2.2.1 htc (fun K1 P1 hK1 hP1 => ?_)
  unfold sp_request at h
  obtain ⟨L1, hL1⟩ : ∃ L1, L1 = sp_grs L t (sp_pm v tv t) (sp_its v tv t) (sp_fr L tv t (sp_pm v tv t) (sp_its v tv t)) := ⟨_, rfl⟩
  have hg1 : iV v g (tv_st' tv (updN (tv_st tv) t 1)) L1 := by
    rw [hL1]
    exact hV.grs ht (Or.inl rfl) hm
  have hg2 : iV v g (tv_st' tv (updN (tv_st tv) t 2)) L1 := by
    rw [hL1]
    exact hV.grs ht (Or.inr rfl) hm
  rw [← hL1] at hK1 h
  rw [jI_tn htb]
  by_cases q : sp_fr L tv t (sp_pm v tv t) (sp_its v tv t) = (sp_its v tv t).length
  · rw [decide_eq_true q, if_neg (by decide)]
    rw [if_pos q] at h
    refine ⟨hti, k_N_carryOut hA hG (k_T_setState hT) hg1 (by rw [liv_12 ht (Or.inl rfl)]; exact ht) (fun A2 G2 hA2 hG2 => ?_)⟩
    exact h A2 D G2 K1 P1 _ hA2 hG2 (k_T_setState hT) hK1
  · rw [decide_eq_false q, if_pos (by rfl)]
    rw [if_neg q] at h
    obtain ⟨tv2, htv2⟩ : ∃ tv2, tv2 = tv_st' tv (updN (tv_st tv) t 2) := ⟨_, rfl⟩
    have hT2 : RT (T_state' T (upd (T_state T) t 2)) tv2 := by
      rw [htv2]
      exact k_T_setState hT
    have hc2 : tv_c tv2 = tv_c tv := by
      rw [htv2]
    rw [← htv2] at hg2 h
    refine ⟨hti, k_N_victimOfCircle hA hK1 hT2 hg2.2.2.1 hg2.2.2.2.1 (by rw [hc2]; exact htc) (fun D1 P2 => ?_)⟩
    refine lpi (fun n (s : Int32 × Int32 × S_A × S_D × S_G × S_K × S_P × S_T) => wp_N_request_L42 (jI t) _ n s.1 s.2.1 s.2.2.1 s.2.2.2.1 s.2.2.2.2.1 s.2.2.2.2.2.1 s.2.2.2.2.2.2.1 s.2.2.2.2.2.2.2) (fun k s => s.2.1 = jI k ∧ ∃ (v' : VP) (g' : VG) (tv' : VT) (L' : VK), s.1 = pI (sp_vict v' L' tv' t) ∧ RA s.2.2.1 v' ∧ RG s.2.2.2.2.1 g' ∧ RK s.2.2.2.2.2.1 L' ∧ RT s.2.2.2.2.2.2.2 tv' ∧ iV v' g' tv' L' ∧ tv_c tv' = tv_c tv ∧ sp_brk t (60 - k) (v', g', tv', L') = sp_brk t 60 (v, g, tv2, L1)) 60 ?_ ?_ 0 (by omega) (pI (sp_vict v L1 tv2 t), 0, A, D1, G, K1, P2, T_state' T (upd (T_state T) t 2)) ⟨rfl, v, g, tv2, L1, rfl, hA, hG, hK1, hT2, hg2, hc2, rfl⟩
    · intro k hk s n hs hn
      obtain ⟨x, i, A', D', G', K', P', T'⟩ := s
      obtain ⟨e0, v', g', tv', L', e1, hA', hG', hK', hT', hV', hcc, he⟩ := hs
      dsimp only at e0 e1 hA' hG' hK' hT' ⊢
      subst e0
      subst e1
      rw [wp_N_request_L42, if_neg (by rw [show (60 : Int32) = jI 60 from rfl, jI_le (by omega) (by omega)]; omega), jI_s]
      have step : sp_brk t (60 - k) (v', g', tv', L') = match sp_vict v' L' tv' t with
          | none => (v', g', tv', L')
          | some y => sp_brk t (60 - (k + 1)) ((sp_abort tv' L' v' g' y).2.1, (sp_abort tv' L' v' g' y).2.2.1, (sp_abort tv' L' v' g' y).2.2.2.1, (sp_abort tv' L' v' g' y).2.2.2.2) := by
        rw [show 60 - k = (60 - (k + 1)) + 1 by omega]
        rfl
      cases z : sp_vict v' L' tv' t with
      | none =>
        rw [if_pos (by rfl)]
        rw [z, he] at step
        rw [step] at h
        dsimp only at h
        refine k_T_isLive hT' hV'.2.2.1 htb ?_
        cases w : sp_liv tv' t with
        | true =>
          rw [if_neg (by decide)]
          rw [w] at h
          exact h A' D' G' K' P' T' hA' hG' hT' hK'
        | false =>
          rw [if_pos (by rfl)]
          rw [w] at h
          exact h A' D' G' K' P' T' hA' hG' hT' hK'
      | some y =>
        obtain ⟨y1, y2⟩ := vict_lt z
        have hyb : y < 2147483648 := by have := hV'.2.2.1.1; omega
        rw [show pI (some y) = jI y from rfl, if_neg (jI_m1 hyb)]
        rw [z, he] at step
        have hab := hV'.abort y1
        refine k_N_abort hA' hG' hT' hK' hV' y1 (fun A3 G3 K3 T3 hA3 hG3 hK3 hT3 => ?_)
        refine k_N_victimOfCircle hA3 hK3 hT3 hab.1.2.2.1 hab.1.2.2.2.1 (show t < tv_c tv' by omega) (fun D4 P4 => ?_)
        refine hn (_, _, _, _, _, _, _, _) ⟨rfl, _, _, _, _, rfl, hA3, hG3, hK3, hT3, hab.1, hcc, ?_⟩
        exact step.symm
    · intro s n hs
      obtain ⟨x, i, A', D', G', K', P', T'⟩ := s
      obtain ⟨e0, v', g', tv', L', e1, hA', hG', hK', hT', hV', hcc, he⟩ := hs
      dsimp only at e0 e1 hA' hG' hK' hT' ⊢
      subst e0
      rw [wp_N_request_L42, if_pos (by decide)]
      have he : (v', g', tv', L') = sp_brk t 60 (v, g, tv2, L1) := he
      rw [← he] at h
      dsimp only at h
      refine k_T_isLive hT' hV'.2.2.1 htb ?_
      cases w : sp_liv tv' t with
      | true =>
        rw [if_neg (by decide)]
        rw [w] at h
        exact h A' D' G' K' P' T' hA' hG' hT' hK'
      | false =>
        rw [if_pos (by rfl)]
        rw [w] at h
        exact h A' D' G' K' P' T' hA' hG' hT' hK'
end PN6
