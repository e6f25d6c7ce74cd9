section PT2
variable {T : S_T} {v : VT} {t : Nat}
theorem k_T_add {p : Option Nat} {l : Nat} {post : Int32 → S_T → Prop} (hT : RT T v) (hv : iT v) (hc : tv_c v < 60) (hp : ∀ q, p = some q → q < tv_c v) (h : ∀ T', RT T' (sp_addT v p l) → post (jI (tv_c v)) T') : wp_T_add T (pI p) (jI l) post := by
  have hb : tv_c v < 2147483648 := by omega
  have hi : vp_in (jI (tv_c v)) 60 := jI_in hb hc
  obtain ⟨h1, h2, h3, h4, h5, h6, h7, h8, h9, h10, h11⟩ := hT
  have hT : RT T v := ⟨h1, h2, h3, h4, h5, h6, h7, h8, h9, h10, h11⟩
  unfold wp_T_add
  cases p with
  | none =>
    refine k_T_exists_neg (by decide) ?_
    simp only [jn, i10, i00]
    rw [h1, jI_tn hb]
    refine ⟨hi, hi, hi, hi, hi, hi, h _ ⟨jI_s _, up_n pI h2 rfl, up_n jI h3 rfl, up_n jI h4 rfl, up_n (fun x => x) h5 rfl, up_n jI h6 rfl, ?_, h8, h9, h10, h11⟩⟩
    intro t ht u
    show tb (vp_updL (T_lineage T) (tv_c v) ((1 : Int64) <<< (Int32.toInt64 (jI (tv_c v)) &&& 63)) t) u = updN (tv_lin v) (tv_c v) (fun a => decide (tv_c v = a) || false) t u
    have ht : t < tv_c v + 1 := ht
    by_cases e : t = tv_c v
    · rw [e, updL_same, updN_same, show (1 : Int64) <<< (Int32.toInt64 (jI (tv_c v)) &&& 63) = oneb (tv_c v) from rfl, tb_oneb (by omega), Bool.or_false]
    · rw [updL_ne _ _ e, updN_ne _ _ e, h7 t (by omega)]
  | some q =>
    have hq := hp q rfl
    have hqb : q < 2147483648 := by omega
    have hqi : vp_in (jI q) 60 := jI_in hqb (by omega)
    refine k_T_exists hT hv hqb ?_
    rw [decide_eq_true hq]
    simp only [jn, b2i_t, i10, i00]
    rw [h1, jI_tn hb, show pI (some q) = jI q from rfl, jI_tn hqb, h3 q hq, h4 q hq, jI_s]
    refine ⟨hi, hqi, hi, hqi, hi, hqi, hi, hi, hi, h _ ⟨jI_s _, up_n pI h2 rfl, up_n jI h3 rfl, up_n jI h4 rfl, up_n (fun x => x) h5 rfl, up_n jI h6 rfl, ?_, h8, h9, h10, h11⟩⟩
    intro t ht u
    show tb (vp_updL (T_lineage T) (tv_c v) (T_lineage T q ||| (1 : Int64) <<< (Int32.toInt64 (jI (tv_c v)) &&& 63)) t) u = updN (tv_lin v) (tv_c v) (fun a => decide (tv_c v = a) || tv_lin v q a) t u
    have ht : t < tv_c v + 1 := ht
    by_cases e : t = tv_c v
    · rw [e, updL_same, updN_same, show (1 : Int64) <<< (Int32.toInt64 (jI (tv_c v)) &&& 63) = oneb (tv_c v) from rfl, tb_or, tb_oneb (by omega), h7 q hq, Bool.or_comm]
    · rw [updL_ne _ _ e, updN_ne _ _ e, h7 t (by omega)]
theorem k_T_setRequest {k lo hi : Nat} {x : Int32} {post : S_T → Prop} (hT : RT T v) (ht : t < 60) (h : ∀ T', RT T' (sp_req v t k lo hi x) → post T') : wp_T_setRequest T (jI t) (jI k) (jI lo) (jI hi) x post := by
  have hb : t < 2147483648 := by omega
  have hi' : vp_in (jI t) 60 := jI_in hb ht
  obtain ⟨h1, h2, h3, h4, h5, h6, h7, h8, h9, h10, h11⟩ := hT
  unfold wp_T_setRequest
  rw [jI_tn hb]
  exact ⟨hi', hi', hi', hi', h _ ⟨h1, h2, h3, h4, h5, h6, h7, up_k jI h8 rfl, up_k jI h9 rfl, up_k jI h10 rfl, up_k (fun x => x) h11 rfl⟩⟩
theorem k_T_setState {x : Int32} (hT : RT T v) : RT (T_state' T (upd (T_state T) t x)) (tv_st' v (updN (tv_st v) t x)) := by
  obtain ⟨h1, h2, h3, h4, h5, h6, h7, h8, h9, h10, h11⟩ := hT
  exact ⟨h1, h2, h3, h4, up_k (fun x => x) h5 rfl, h6, h7, h8, h9, h10, h11⟩
theorem k_T_abortUncommitted {post : S_T → Prop} (hT : RT T v) (hv : iT v) (h : ∀ T', RT T' (sp_abU v) → post T') : wp_T_abortUncommitted T post := by
  have hc := hv.1
  unfold wp_T_abortUncommitted
  refine lpi (fun n (s : Int32 × S_T) => wp_T_abortUncommitted_L2 (fun T1 => post T1) n s.1 s.2) (fun k s => s.1 = jI k ∧ RT s.2 (tv_st' v (fun t => if t < k ∧ ¬ tv_st v (tv_top v t) = 3 then 4 else tv_st v t))) (tv_c v) ?_ ?_ 0 (by omega) (0, T) ⟨rfl, ?_⟩
  · intro k hk s n hs hn
    obtain ⟨i, T⟩ := s
    obtain ⟨hi, h1, h2, h3, h4, h5, h6, h7, h8, h9, h10, h11⟩ := hs
    dsimp only at hi ⊢
    subst hi
    have h1 : T_count T = jI (tv_c v) := h1
    have h3 : ∀ t, t < tv_c v → T_top T t = jI (tv_top v t) := h3
    have h5 : ∀ t, t < tv_c v → T_state T t = if t < k ∧ ¬ tv_st v (tv_top v t) = 3 then 4 else tv_st v t := h5
    have hb : k < 2147483648 := by omega
    have htt := hv.top_lt k hk
    have hb2 : tv_top v k < 2147483648 := by omega
    have hii : vp_in (jI k) 60 := jI_in hb (by omega)
    rw [wp_T_abortUncommitted_L2, h1, if_neg (by rw [jI_le (by omega) hb]; omega), jI_tn hb, h3 k hk, jI_tn hb2, h5 _ (by omega : tv_top v k < tv_c v), jI_s]
    refine ⟨hii, jI_in hb2 (by omega), ?_⟩
    have key : (if tv_top v k < k ∧ ¬ tv_st v (tv_top v (tv_top v k)) = 3 then 4 else tv_st v (tv_top v k)) = 3 ↔ tv_st v (tv_top v k) = 3 := by
      rw [hv.top_top k hk]
      by_cases q : tv_top v k < k ∧ ¬ tv_st v (tv_top v k) = 3
      · rw [if_pos q]
        exact ⟨fun z => absurd z (by decide), fun z => absurd z q.2⟩
      · rw [if_neg q]
    by_cases q : tv_st v (tv_top v k) = 3
    · rw [if_pos (key.mpr q)]
      refine hn (_, _) ⟨rfl, h1, h2, h3, h4, fun t ht => ?_, h6, h7, h8, h9, h10, h11⟩
      show T_state T t = if t < k + 1 ∧ ¬ tv_st v (tv_top v t) = 3 then 4 else tv_st v t
      rw [h5 t ht]
      by_cases e : t = k
      · rw [e, if_neg (by omega), if_neg (fun z => z.2 q)]
      · by_cases z : t < k ∧ ¬ tv_st v (tv_top v t) = 3
        · rw [if_pos z, if_pos ⟨by omega, z.2⟩]
        · rw [if_neg z, if_neg (fun z2 => z ⟨by omega, z2.2⟩)]
    · rw [if_neg (fun z => q (key.mp z))]
      refine ⟨hii, hn (_, _) ⟨rfl, h1, h2, h3, h4, fun t ht => ?_, h6, h7, h8, h9, h10, h11⟩⟩
      show upd (T_state T) k 4 t = if t < k + 1 ∧ ¬ tv_st v (tv_top v t) = 3 then 4 else tv_st v t
      by_cases e : t = k
      · rw [e, upd_same, if_pos ⟨by omega, q⟩]
      · rw [upd_ne _ _ e, h5 t ht]
        by_cases z : t < k ∧ ¬ tv_st v (tv_top v t) = 3
        · rw [if_pos z, if_pos ⟨by omega, z.2⟩]
        · rw [if_neg z, if_neg (fun z2 => z ⟨by omega, z2.2⟩)]
  · intro s n hs
    obtain ⟨i, T⟩ := s
    obtain ⟨hi, hs⟩ := hs
    dsimp only at hi hs ⊢
    subst hi
    have h1 : T_count T = jI (tv_c v) := hs.1
    rw [wp_T_abortUncommitted_L2, h1, if_pos (by rw [jI_le (by omega) (by omega)]; omega)]
    exact h T hs
  · have e : (fun t => if t < 0 ∧ ¬ tv_st v (tv_top v t) = 3 then 4 else tv_st v t) = tv_st v := by
      funext t
      rw [if_neg (by omega)]
    dsimp only
    rw [e]
    exact hT
end PT2
section PK
variable {K : S_K} {L : VK} {t i : Nat}
theorem k_K_heldBy {post : Int32 → Prop} (hK : RK K L) (hL : L t i ≤ 2) (ht : t < 60) (hi : i < 33) (h : post (jI (L t i))) : wp_K_heldBy K (jI t) (jI i) post := by
  have hb : i < 2147483648 := by omega
  have hii := jI_in hb hi
  obtain ⟨h1, h2⟩ := hK i hi
  unfold wp_K_heldBy
  rw [jI_tn hb, show (1 : Int64) <<< (Int32.toInt64 (jI t) &&& 63) = oneb t from rfl]
  refine ⟨hii, ?_⟩
  rw [ite_iff' (cmp_bit (by omega : t < 64)), ite_iff' (cmp_bit (by omega : t < 64)), h1 t, h2 t]
  by_cases q2 : L t i = 2
  · rw [if_neg (by simp [q2])]
    rw [q2] at h
    exact h
  · rw [if_pos (by simp [q2])]
    refine ⟨hii, ?_⟩
    by_cases q1 : L t i = 1
    · rw [if_neg (by simp [q1])]
      rw [q1] at h
      exact h
    · rw [if_pos (by simp [q1])]
      have q0 : L t i = 0 := by omega
      rw [q0] at h
      exact h
theorem k_K_blockers {post : Int64 → Prop} {mode : Nat} {ln : Int64} {lin : Nat → Bool} (hK : RK K L) (hL : ∀ u, L u i ≤ 2) (hi : i < 33) (hm : mode < 2147483648) (hl : ∀ u, tb ln u = lin u) (h : ∀ x, (∀ u, u < 64 → tb x u = sp_bl L lin i mode u) → post x) : wp_K_blockers K (jI i) (jI mode) ln post := by
  have hb : i < 2147483648 := by omega
  have hii := jI_in hb hi
  obtain ⟨h1, h2⟩ := hK i hi
  unfold wp_K_blockers
  rw [jI_tn hb, show (2 : Int32) = jI 2 from rfl, ite_iff' (jI_eq hm (by omega))]
  by_cases q : mode = 2
  · rw [if_pos q]
    refine ⟨hii, hii, h _ (fun u hu => ?_)⟩
    rw [tb_and, tb_or, tb_not _ hu, h1 u, h2 u, hl u]
    unfold sp_bl
    have hLu := hL u
    congr 1
    simp only [q, decide_true, Bool.true_or, Bool.and_true]
    by_cases q1 : L u i = 1
    · simp [q1]
    · by_cases q2 : L u i = 2
      · simp [q2]
      · have : L u i = 0 := by omega
        simp [this]
  · rw [if_neg q]
    refine ⟨hii, h _ (fun u hu => ?_)⟩
    rw [tb_and, tb_not _ hu, h2 u, hl u]
    unfold sp_bl
    congr 1
    simp only [q, decide_false, Bool.false_or]
    by_cases q2 : L u i = 2
    · simp [q2]
    · simp [q2]
theorem k_K_grant {post : S_K → Prop} {m : Nat} (hK : RK K L) (hL : L t i ≤ 2) (ht : t < 60) (hi : i < 33) (hm : m ≤ 2) (h : ∀ K', RK K' (sp_gr L t i m) → post K') : wp_K_grant K (jI t) (jI i) (jI m) post := by
  have hb : i < 2147483648 := by omega
  have hii := jI_in hb hi
  obtain ⟨h1, h2⟩ := hK i hi
  unfold wp_K_grant
  refine k_K_heldBy hK hL ht hi ?_
  rw [ite_iff' (jI_lt (by omega) (by omega)), jI_tn hb, show (1 : Int64) <<< (Int32.toInt64 (jI t) &&& 63) = oneb t from rfl, show (2 : Int32) = jI 2 from rfl, ite_iff' (jI_eq (by omega) (by omega))]
  by_cases q : L t i < m
  · rw [if_pos q]
    by_cases q2 : m = 2
    · rw [if_pos q2]
      refine ⟨hii, hii, hii, hii, h _ (fun j hj => ?_)⟩
      obtain ⟨g1, g2⟩ := hK j hj
      by_cases e : j = i
      · rw [e]
        refine ⟨fun u => ?_, fun u => ?_⟩
        · show tb (vp_updL (K_shared K) i (K_shared K i &&& (oneb t ^^^ (-1))) i) u = decide (sp_gr L t i m u i = 1)
          rw [updL_same, tb_and, h1 u]
          unfold sp_gr
          by_cases eu : u = t
          · rw [eu, if_pos ⟨rfl, rfl⟩, if_neg (by omega), tb_not _ (by omega), tb_oneb (by omega)]
            simp [q2]
          · rw [if_neg (fun z => eu z.1)]
            by_cases hu : u < 64
            · rw [tb_not _ hu, tb_oneb (by omega)]
              simp [show ¬ t = u from fun z => eu z.symm]
            · have : tb (K_shared K i) u = false := tb_hi _ (by omega)
              rw [h1 u] at this
              rw [this]
              rfl
        · show tb (vp_updL (K_exclusive K) i (K_exclusive K i ||| oneb t) i) u = decide (sp_gr L t i m u i = 2)
          rw [updL_same, tb_or, h2 u, tb_oneb (by omega)]
          unfold sp_gr
          by_cases eu : u = t
          · rw [eu, if_pos ⟨rfl, rfl⟩, if_neg (by omega)]
            simp [q2]
          · rw [if_neg (fun z => eu z.1)]
            simp [show ¬ t = u from fun z => eu z.symm]
      · refine ⟨fun u => ?_, fun u => ?_⟩
        · show tb (vp_updL (K_shared K) i _ j) u = decide (sp_gr L t i m u j = 1)
          rw [updL_ne _ _ e, g1 u]
          unfold sp_gr
          rw [if_neg (fun z => e z.2)]
        · show tb (vp_updL (K_exclusive K) i _ j) u = decide (sp_gr L t i m u j = 2)
          rw [updL_ne _ _ e, g2 u]
          unfold sp_gr
          rw [if_neg (fun z => e z.2)]
    · rw [if_neg q2]
      have e1 : m = 1 := by omega
      have e0 : L t i = 0 := by omega
      refine ⟨hii, hii, h _ (fun j hj => ?_)⟩
      obtain ⟨g1, g2⟩ := hK j hj
      refine ⟨fun u => ?_, fun u => ?_⟩
      · show tb (vp_updL (K_shared K) i (K_shared K i ||| oneb t) j) u = decide (sp_gr L t i m u j = 1)
        unfold sp_gr
        by_cases e : j = i
        · rw [e, updL_same, tb_or, h1 u, tb_oneb (by omega)]
          by_cases eu : u = t
          · rw [eu, if_pos ⟨rfl, rfl⟩, if_neg (by omega)]
            simp [e1]
          · rw [if_neg (fun z => eu z.1)]
            simp [show ¬ t = u from fun z => eu z.symm]
        · rw [updL_ne _ _ e, g1 u, if_neg (fun z => e z.2)]
      · show tb (K_exclusive K j) u = decide (sp_gr L t i m u j = 2)
        rw [g2 u]
        unfold sp_gr
        by_cases e : u = t ∧ j = i
        · rw [if_pos e, if_neg (by omega), e.1, e.2, e0, e1]
          rfl
        · rw [if_neg e]
  · rw [if_neg q]
    refine h _ (fun j hj => ?_)
    obtain ⟨g1, g2⟩ := hK j hj
    have e : ∀ u, sp_gr L t i m u j = L u j := by
      intro u
      unfold sp_gr
      by_cases e : u = t ∧ j = i
      · rw [if_pos e, if_pos (by omega), e.1, e.2]
      · rw [if_neg e]
    exact ⟨fun u => by rw [e u]; exact g1 u, fun u => by rw [e u]; exact g2 u⟩
end PK
