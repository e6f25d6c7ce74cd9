section PT
variable {T : S_T} {v : VT} {t : Nat}
theorem k_T_exists {post : Int32 → Prop} (hT : RT T v) (hv : iT v) (ht : t < 2147483648) (h : post (b2i (decide (t < tv_c v)))) : wp_T_exists T (jI t) post := by
  have hc := hv.1
  unfold wp_T_exists
  rw [if_neg (jI_nn ht), hT.1, ite_iff' (jI_le (by omega) ht)]
  by_cases q : t < tv_c v
  · rw [if_neg (by omega)]
    rw [decide_eq_true q] at h
    exact h
  · rw [if_pos (by omega)]
    rw [decide_eq_false q] at h
    exact h
theorem k_T_exists_neg {post : Int32 → Prop} {a : Int32} (ha : a < 0) (h : post 0) : wp_T_exists T a post := by
  unfold wp_T_exists
  rw [if_pos ha]
  exact h
theorem k_T_isActive {post : Int32 → Prop} (hT : RT T v) (hv : iT v) (ht : t < 2147483648) (h : post (b2i (sp_act v t))) : wp_T_isActive T (jI t) post := by
  have hc := hv.1
  unfold wp_T_isActive
  refine k_T_exists hT hv ht ?_
  unfold sp_act at h
  by_cases q : t < tv_c v
  · rw [decide_eq_true q] at h ⊢
    rw [if_neg (by decide), jI_tn ht, hT.2.2.2.2.1 t q]
    refine ⟨jI_in ht (by omega), ?_⟩
    by_cases e : tv_st v t = 1
    · rw [if_pos e]
      rw [decide_eq_true e] at h
      exact h
    · rw [if_neg e]
      rw [decide_eq_false e] at h
      exact h
  · rw [decide_eq_false q] at h ⊢
    rw [if_pos (by rfl)]
    exact h
theorem k_T_isWaiting {post : Int32 → Prop} (hT : RT T v) (hv : iT v) (ht : t < 2147483648) (h : post (b2i (sp_wai v t))) : wp_T_isWaiting T (jI t) post := by
  have hc := hv.1
  unfold wp_T_isWaiting
  refine k_T_exists hT hv ht ?_
  unfold sp_wai at h
  by_cases q : t < tv_c v
  · rw [decide_eq_true q] at h ⊢
    rw [if_neg (by decide), jI_tn ht, hT.2.2.2.2.1 t q]
    refine ⟨jI_in ht (by omega), ?_⟩
    by_cases e : tv_st v t = 2
    · rw [if_pos e]
      rw [decide_eq_true e] at h
      exact h
    · rw [if_neg e]
      rw [decide_eq_false e] at h
      exact h
  · rw [decide_eq_false q] at h ⊢
    rw [if_pos (by rfl)]
    exact h
theorem k_T_isLive {post : Int32 → Prop} (hT : RT T v) (hv : iT v) (ht : t < 2147483648) (h : post (b2i (sp_liv v t))) : wp_T_isLive T (jI t) post := by
  have hc := hv.1
  unfold wp_T_isLive
  refine k_T_exists hT hv ht ?_
  unfold sp_liv at h
  by_cases q : t < tv_c v
  · rw [decide_eq_true q] at h ⊢
    have hi : vp_in (jI t) 60 := jI_in ht (by omega)
    rw [if_neg (by decide), jI_tn ht, hT.2.2.2.2.1 t q]
    refine ⟨hi, ?_⟩
    by_cases e : tv_st v t = 1
    · rw [if_pos e]
      rw [decide_eq_true e] at h
      exact h
    · rw [if_neg e]
      rw [decide_eq_false e] at h
      refine ⟨hi, ?_⟩
      by_cases e2 : tv_st v t = 2
      · rw [if_pos e2]
        rw [decide_eq_true e2] at h
        exact h
      · rw [if_neg e2]
        rw [decide_eq_false e2] at h
        exact h
  · rw [decide_eq_false q] at h ⊢
    rw [if_pos (by rfl)]
    exact h
theorem k_T_isTopLive {post : Int32 → Prop} (hT : RT T v) (hv : iT v) (ht : t < tv_c v) (h : post (b2i (sp_liv v (tv_top v t)))) : wp_T_isTopLive T (jI t) post := by
  have hc := hv.1
  have hb : t < 2147483648 := by omega
  have htt := hv.top_lt t ht
  have hb2 : tv_top v t < 2147483648 := by omega
  unfold wp_T_isTopLive
  rw [jI_tn hb, hT.2.2.1 t ht, jI_tn hb2, hT.2.2.2.2.1 _ (by omega)]
  refine ⟨jI_in hb (by omega), jI_in hb2 (by omega), ?_⟩
  unfold sp_liv at h
  rw [decide_eq_true (by omega : tv_top v t < tv_c v)] at h
  by_cases e : tv_st v (tv_top v t) = 1
  · rw [if_pos e]
    rw [decide_eq_true e] at h
    exact h
  · rw [if_neg e]
    rw [decide_eq_false e] at h
    by_cases e2 : tv_st v (tv_top v t) = 2
    · rw [if_pos e2]
      rw [decide_eq_true e2] at h
      exact h
    · rw [if_neg e2]
      rw [decide_eq_false e2] at h
      exact h
theorem k_T_isWithin {post : Int32 → Prop} {a : Nat} (hT : RT T v) (hv : iT v) (ht : t < tv_c v) (ha : a < 64) (h : post (b2i (tv_lin v t a))) : wp_T_isWithin T (jI t) (jI a) post := by
  have hc := hv.1
  have hb : t < 2147483648 := by omega
  unfold wp_T_isWithin
  rw [jI_tn hb]
  refine ⟨jI_in hb (by omega), ?_⟩
  have e := hT.2.2.2.2.2.2.1 t ht a
  by_cases q : tv_lin v t a = true
  · rw [if_neg (fun z => by rw [show (1 : Int64) <<< (Int32.toInt64 (jI a) &&& 63) = oneb a from rfl, cmp_bit ha, e, q] at z; cases z)]
    rw [q] at h
    exact h
  · have q : tv_lin v t a = false := by simpa using q
    rw [if_pos (by rw [show (1 : Int64) <<< (Int32.toInt64 (jI a) &&& 63) = oneb a from rfl, cmp_bit ha, e, q])]
    rw [q] at h
    exact h
theorem k_T_liveCount {post : Int32 → Prop} (hT : RT T v) (hv : iT v) (h : post (jI (sp_lives v))) : wp_T_liveCount T post := by
  have hc := hv.1
  unfold wp_T_liveCount
  refine lpi (fun n (s : Int32 × Int32) => wp_T_liveCount_L4 T (fun x2 => post x2) n s.1 s.2) (fun k s => s = (jI (bc k (sp_liv v)), jI k)) (tv_c v) ?_ ?_ 0 (by omega) (0, 0) rfl
  · intro k hk s n hs hn
    subst hs
    have hb : k < 2147483648 := by omega
    dsimp only
    rw [wp_T_liveCount_L4, hT.1, if_neg (by rw [jI_le (by omega) hb]; omega)]
    refine k_T_isLive hT hv hb ?_
    have hs : bc (k + 1) (sp_liv v) = bc k (sp_liv v) + (if sp_liv v k then 1 else 0) := rfl
    cases q : sp_liv v k with
    | true =>
      rw [if_neg (by decide), jI_s, jI_s]
      refine hn (_, _) ?_
      rw [hs, q]
      rfl
    | false =>
      rw [if_pos (by rfl), jI_s]
      refine hn (_, _) ?_
      rw [hs, q]
      rfl
  · intro s n hs
    subst hs
    dsimp only
    rw [wp_T_liveCount_L4, hT.1, if_pos (by rw [jI_le (by omega) (by omega)]; omega)]
    exact h
theorem k_T_liveChildren {post : Int64 → Prop} (hT : RT T v) (hv : iT v) (ht : t < tv_c v) (h : ∀ x, (∀ u, tb x u = sp_chl v t u) → post x) : wp_T_liveChildren T (jI t) post := by
  have hc := hv.1
  unfold wp_T_liveChildren
  rw [jI_s]
  have hin : ∀ u, sp_chl v t u = true → t < u ∧ u < tv_c v := by
    intro u hu
    unfold sp_chl sp_liv at hu
    simp at hu
    obtain ⟨⟨h1, -⟩, h2⟩ := hu
    exact ⟨((hv.2.1 u h1).2.2.2.2.2 t h2).1, h1⟩
  refine lpi (fun n (s : Int64 × Int32) => wp_T_liveChildren_L7 T (jI t) (fun x2 => post x2) n s.1 s.2) (fun k s => s.2 = jI (t + 1 + k) ∧ ∀ u, tb s.1 u = (decide (u < t + 1 + k) && sp_chl v t u)) (tv_c v - (t + 1)) ?_ ?_ 0 (by omega) (0, jI (t + 1)) ⟨rfl, fun u => ?_⟩
  · intro k hk s n hs hn
    obtain ⟨x, i⟩ := s
    obtain ⟨hi, hs⟩ := hs
    dsimp only at hi hs ⊢
    subst hi
    have hb : t + 1 + k < 2147483648 := by omega
    rw [wp_T_liveChildren_L7, hT.1, if_neg (by rw [jI_le (by omega) hb]; omega), jI_tn hb, hT.2.1 _ (by omega), jI_s]
    refine ⟨jI_in hb (by omega), ?_⟩
    have hpp : pI (tv_par v (t + 1 + k)) = jI t ↔ tv_par v (t + 1 + k) = some t := by
      cases hp : tv_par v (t + 1 + k) with
      | none =>
        constructor
        · intro q
          exact absurd q.symm (jI_m1 (by omega))
        · intro q
          cases q
      | some p =>
        have := (hv.2.1 _ (by omega : t + 1 + k < tv_c v)).2.2.2.2.2 p hp
        constructor
        · intro q
          rw [(jI_eq (by omega) (by omega)).mp q]
        · intro q
          cases q
          rfl
    by_cases hp : tv_par v (t + 1 + k) = some t
    · rw [if_pos (hpp.mpr hp)]
      refine k_T_isLive hT hv hb ?_
      cases hl : sp_liv v (t + 1 + k) with
      | false =>
        rw [if_pos (by rfl)]
        refine hn (_, _) ⟨rfl, fun u => ?_⟩
        dsimp only
        rw [hs u]
        by_cases hu : u = t + 1 + k
        · rw [hu]
          simp [sp_chl, hl]
        · congr 1
          rw [decide_eq_decide]
          omega
      | true =>
        rw [if_neg (by decide)]
        refine hn (_, _) ⟨rfl, fun u => ?_⟩
        dsimp only
        rw [tb_or, show (1 : Int64) <<< (Int32.toInt64 (jI (t + 1 + k)) &&& 63) = oneb (t + 1 + k) from rfl, tb_oneb (by omega), hs u]
        by_cases hu : u = t + 1 + k
        · rw [hu]
          simp [sp_chl, hl, hp]
        · have : ¬ t + 1 + k = u := fun q => hu q.symm
          simp only [this, decide_false, Bool.or_false]
          congr 1
          rw [decide_eq_decide]
          omega
    · rw [if_neg (fun q => hp (hpp.mp q))]
      refine hn (_, _) ⟨rfl, fun u => ?_⟩
      dsimp only
      rw [hs u]
      by_cases hu : u = t + 1 + k
      · rw [hu]
        simp [sp_chl, hp]
      · congr 1
        rw [decide_eq_decide]
        omega
  · intro s n hs
    obtain ⟨x, i⟩ := s
    obtain ⟨hi, hs⟩ := hs
    dsimp only at hi hs ⊢
    subst hi
    rw [wp_T_liveChildren_L7, hT.1, if_pos (by rw [jI_le (by omega) (by omega)]; omega)]
    refine h x (fun u => ?_)
    rw [hs u]
    cases q : sp_chl v t u with
    | false => simp
    | true =>
      have := hin u q
      simp
      omega
  · dsimp only
    rw [tb_0]
    cases q : sp_chl v t u with
    | false => simp
    | true =>
      have := hin u q
      simp
      omega
theorem k_T_isBusy {post : Int32 → Prop} (hT : RT T v) (hv : iT v) (ht : t < tv_c v) (h : post (b2i (sp_busy v t))) : wp_T_isBusy T (jI t) post := by
  have hc := hv.1
  unfold wp_T_isBusy
  refine k_T_liveChildren hT hv ht (fun x hx => ?_)
  cases q : sp_busy v t with
  | true =>
    obtain ⟨u, hu, hcu⟩ := bx_iff.mp q
    rw [if_neg (fun z => by have := cmp_z.mp z u (by omega); rw [hx u, hcu] at this; cases this)]
    rw [q] at h
    exact h
  | false =>
    rw [if_pos (cmp_z.mpr (fun u _ => by
      rw [hx u]
      cases hcu : sp_chl v t u with
      | false => rfl
      | true =>
        have hu : u < tv_c v := by
          unfold sp_chl sp_liv at hcu
          simp at hcu
          exact hcu.1.1
        have : sp_busy v t = true := bx_iff.mpr ⟨u, hu, hcu⟩
        rw [q] at this
        cases this))]
    rw [q] at h
    exact h
end PT
