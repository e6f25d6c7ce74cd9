theorem RG.fl {G : S_G} {g : VG} (h : RG G g) (f : Nat) : RG (G_flushed' G (jI f)) (gv_f' g f) := ⟨h.1, h.2.1, rfl, h.2.2.2⟩
theorem RG.same {G : S_G} {g : VG} (h : RG G g) {f : Nat} (hf : f = gv_f g) : RG G (gv_f' g f) := by
  subst hf
  exact h
theorem k_A_putOnDisk {A : S_A} {G : S_G} {v : VP} {g : VG} {p : Nat} {post : S_A → S_G → Prop} (hA : RA A v) (hG : RG G g) (hp : p < 8) (hb1 : pv_ls v p < 2147483648) (hb2 : gv_f g < 2147483648)
    (h : ∀ A' G', RA A' (sp_wrP v p) → RG G' (gv_f' g (sp_wrF v (gv_f g) p)) → post A' G') : wp_A_putOnDisk A G (jI p) post := by
  have hp' : p < 2147483648 := by omega
  have loop : ∀ (K : S_A → Prop) (A : S_A) (v : VP), RA A v → (∀ A', RA A' (pv_dva' (pv_dth' v (fun k => if k / 4 = p then pv_th v k else pv_dth v k)) (fun k => if k / 4 = p then pv_va v k else pv_dva v k)) → K A') → ∃ e, wp_A_putOnDisk_L42 (jI p) (jI p * 4) K e (jI p * 4) A := by
    intro K A v hA hK
    have h4 : jI p * 4 = jI (4 * p) := by rw [show (4 : Int32) = jI 4 from rfl, jI_m, Nat.mul_comm]
    rw [h4]
    refine lpi (fun n (s : Int32 × S_A) => wp_A_putOnDisk_L42 (jI p) (jI (4 * p)) K n s.1 s.2) (fun k s => s.1 = jI (4 * p + k) ∧ RA s.2 (pv_dva' (pv_dth' v (fun x => if 4 * p ≤ x ∧ x < 4 * p + k then pv_th v x else pv_dth v x)) (fun x => if 4 * p ≤ x ∧ x < 4 * p + k then pv_va v x else pv_dva v x))) 4 ?_ ?_ 0 (by omega) (jI (4 * p), A) ?_
    · intro k hk s n hs hn
      obtain ⟨x, A⟩ := s
      obtain ⟨hx, h1, h2, h3, h4, h5, h6, h7, h8, h9, h10⟩ := hs
      dsimp only at hx h1 h2 h3 h4 h5 h6 h7 h8 h9 h10 ⊢
      subst hx
      have h9 : ∀ x, x < 32 → A_diskThere A x = b2i (if 4 * p ≤ x ∧ x < 4 * p + k then pv_th v x else pv_dth v x) := h9
      have h10 : ∀ x, x < 32 → A_diskValue A x = if 4 * p ≤ x ∧ x < 4 * p + k then pv_va v x else pv_dva v x := h10
      have h6 : ∀ x, x < 32 → A_there A x = b2i (pv_th v x) := h6
      have h7 : ∀ x, x < 32 → A_value A x = pv_va v x := h7
      rw [wp_A_putOnDisk_L42]
      have hb : 4 * p + k < 2147483648 := by omega
      rw [if_neg (by rw [show (4 : Int32) = jI 4 from rfl, jI_a, jI_le (by omega) hb]; omega), jI_tn hb]
      refine ⟨jI_in hb (by omega), jI_in hb (by omega), jI_in hb (by omega), jI_in hb (by omega), hn (_, _) ⟨jI_s _, h1, h2, h3, h4, h5, h6, h7, h8, ?_, ?_⟩⟩
      · intro x hx
        show upd (A_diskThere A) (4 * p + k) (vp_nar .boolean (A_there A (4 * p + k))) x = b2i (if 4 * p ≤ x ∧ x < 4 * p + (k + 1) then pv_th v x else pv_dth v x)
        by_cases hxk : x = 4 * p + k
        · subst hxk
          rw [upd_same, h6 _ hx, nar_b, if_pos (by omega)]
        · rw [upd_ne _ _ hxk, h9 x hx]
          by_cases hc : 4 * p ≤ x ∧ x < 4 * p + k
          · rw [if_pos hc, if_pos (by omega)]
          · rw [if_neg hc, if_neg (by omega)]
      · intro x hx
        show upd (A_diskValue A) (4 * p + k) (A_value A (4 * p + k)) x = if 4 * p ≤ x ∧ x < 4 * p + (k + 1) then pv_va v x else pv_dva v x
        by_cases hxk : x = 4 * p + k
        · subst hxk
          rw [upd_same, h7 _ hx, if_pos (by omega)]
        · rw [upd_ne _ _ hxk, h10 x hx]
          by_cases hc : 4 * p ≤ x ∧ x < 4 * p + k
          · rw [if_pos hc, if_pos (by omega)]
          · rw [if_neg hc, if_neg (by omega)]
    · intro s n hs
      obtain ⟨x, A⟩ := s
      obtain ⟨hx, h1, h2, h3, h4, h5, h6, h7, h8, h9, h10⟩ := hs
      dsimp only at hx h1 h2 h3 h4 h5 h6 h7 h8 h9 h10 ⊢
      subst hx
      rw [wp_A_putOnDisk_L42, if_pos (by rw [show (4 : Int32) = jI 4 from rfl, jI_a, jI_le (by omega) (by omega)]; omega)]
      refine hK A ⟨h1, h2, h3, h4, h5, h6, h7, h8, ?_, ?_⟩
      · intro x hx
        have h9 : A_diskThere A x = b2i (if 4 * p ≤ x ∧ x < 4 * p + 4 then pv_th v x else pv_dth v x) := h9 x hx
        show A_diskThere A x = b2i (if x / 4 = p then pv_th v x else pv_dth v x)
        rw [h9]
        by_cases hc : x / 4 = p
        · rw [if_pos hc, if_pos (by omega)]
        · rw [if_neg hc, if_neg (by omega)]
      · intro x hx
        have h10 : A_diskValue A x = if 4 * p ≤ x ∧ x < 4 * p + 4 then pv_va v x else pv_dva v x := h10 x hx
        show A_diskValue A x = if x / 4 = p then pv_va v x else pv_dva v x
        rw [h10]
        by_cases hc : x / 4 = p
        · rw [if_pos hc, if_pos (by omega)]
        · rw [if_neg hc, if_neg (by omega)]
    · refine ⟨rfl, hA.1, hA.2.1, hA.2.2.1, hA.2.2.2.1, hA.2.2.2.2.1, hA.2.2.2.2.2.1, hA.2.2.2.2.2.2.1, hA.2.2.2.2.2.2.2.1, ?_, ?_⟩
      · intro x hx
        show A_diskThere A x = b2i (if 4 * p ≤ x ∧ x < 4 * p + 0 then pv_th v x else pv_dth v x)
        rw [if_neg (by omega)]
        exact hA.2.2.2.2.2.2.2.2.1 x hx
      · intro x hx
        show A_diskValue A x = if 4 * p ≤ x ∧ x < 4 * p + 0 then pv_va v x else pv_dva v x
        rw [if_neg (by omega)]
        exact hA.2.2.2.2.2.2.2.2.2 x hx
  obtain ⟨h1, h2, h3, h4, h5, h6, h7, h8, h9, h10⟩ := hA
  have fin : ∀ A' : S_A, RA A' (pv_dva' (pv_dth' (pv_dls' v (updN (pv_dls v) p (pv_ls v p))) (fun k => if k / 4 = p then pv_th v k else pv_dth v k)) (fun k => if k / 4 = p then pv_va v k else pv_dva v k)) → RA (A_dirty' A' (upd (A_dirty A') p (vp_nar .boolean 0))) (sp_wrP v p) := by
    intro A' q
    obtain ⟨q1, q2, q3, q4, q5, q6, q7, q8, q9, q10⟩ := q
    refine ⟨q1, q2, q3, ?_, q5, q6, q7, q8, q9, q10⟩
    intro x hx
    by_cases hxp : x = p
    · subst hxp
      show upd (A_dirty A') x (vp_nar .boolean 0) x = b2i (updN (pv_dy v) x false x)
      rw [upd_same, updN_same, nar_0]
    · show upd (A_dirty A') p (vp_nar .boolean 0) x = b2i (updN (pv_dy v) p false x)
      rw [upd_ne _ _ hxp, updN_ne _ _ hxp]
      exact q4 x hx
  have start : RA (A_diskLsn' A (upd (A_diskLsn A) p (A_lsn A p))) (pv_dls' v (updN (pv_dls v) p (pv_ls v p))) := by
    refine ⟨h1, h2, h3, h4, h5, h6, h7, ?_, h9, h10⟩
    intro x hx
    show upd (A_diskLsn A) p (A_lsn A p) x = jI (updN (pv_dls v) p (pv_ls v p) x)
    by_cases hxp : x = p
    · subst hxp
      rw [upd_same, updN_same, h5 x hx]
    · rw [upd_ne _ _ hxp, updN_ne _ _ hxp]
      exact h8 x hx
  unfold wp_A_putOnDisk
  rw [jI_tn hp']
  have hi := jI_in hp' hp
  refine ⟨hi, jn_in (fun jk => ∀ G', RG G' (gv_f' g (sp_wrF v (gv_f g) p)) → jk G') ?_ ?_⟩
  · intro G' hG'
    exact ⟨hi, hi, loop _ _ _ start (fun A' hA' => ⟨hi, h _ _ (fin A' hA') hG'⟩)⟩
  · intro jk hjk
    rw [h5 p hp, hG.2.2.1]
    by_cases hle : pv_ls v p ≤ gv_f g
    · rw [if_pos ((jI_le hb1 hb2).mpr hle)]
      refine hjk G (hG.same ?_)
      unfold sp_wrF
      rw [if_pos hle]
    · rw [if_neg (fun q => hle ((jI_le hb1 hb2).mp q))]
      refine ⟨hi, hjk _ ?_⟩
      have hf : sp_wrF v (gv_f g) p = pv_ls v p := by
        unfold sp_wrF
        rw [if_neg hle]
      rw [hf]
      exact hG.fl _
theorem k_A_nextItem {A : S_A} {v : VP} {k : Nat} {post : Int32 → Prop} (hA : RA A v) (hk : k < 32) (h : post (jI (sp_nx v k))) : wp_A_nextItem A (jI k) post := by
  unfold wp_A_nextItem
  rw [jI_s]
  obtain ⟨g1, g2, g3, g4⟩ := ff_spec (pv_th v) (31 - k) (k + 1)
  refine lpi (fun n (s : Int32) => wp_A_nextItem_L4 A post (post 32) n s) (fun d s => s = jI (k + 1 + d) ∧ ∀ x, k + 1 ≤ x → x < k + 1 + d → pv_th v x = false) (31 - k) ?_ ?_ 0 (by omega) (jI (k + 1)) ⟨rfl, fun x h1 h2 => by omega⟩
  · intro d hd s n hs hn
    obtain ⟨rfl, hs⟩ := hs
    rw [wp_A_nextItem_L4]
    have hb : k + 1 + d < 2147483648 := by omega
    rw [if_neg (by rw [show (32 : Int32) = jI 32 from rfl, jI_le (by omega) hb]; omega), jI_tn hb, hA.2.2.2.2.2.1 _ (by omega)]
    refine ⟨jI_in hb (by omega), ?_⟩
    cases ht : pv_th v (k + 1 + d) with
    | false =>
      rw [if_pos (by rfl)]
      refine hn _ ⟨jI_s _, fun x h1 h2 => ?_⟩
      by_cases hx : x = k + 1 + d
      · rw [hx, ht]
      · exact hs x h1 (by omega)
    | true =>
      rw [if_neg (by decide)]
      rw [← ff_eq (pv_th v) (31 - k) (k + 1) (k + 1 + d) (by omega) (by omega) hs (fun _ => ht)]
      exact h
  · intro s n hs
    obtain ⟨rfl, hs⟩ := hs
    have e : k + 1 + (31 - k) = 32 := by omega
    rw [e] at hs ⊢
    rw [wp_A_nextItem_L4, if_pos (by decide)]
    have := ff_eq (pv_th v) (31 - k) (k + 1) 32 (by omega) (by omega) hs (fun q => by omega)
    unfold sp_nx at h
    rw [this] at h
    exact h
theorem k_A_change {A : S_A} {v : VP} {k lsn : Nat} {now : Bool} {x : Int32} {post : S_A → Prop} (hA : RA A v) (hk : k < 32) (h : ∀ A', RA A' (sp_ch v k now x lsn) → post A') : wp_A_change A (jI k) (b2i now) x (jI lsn) post := by
  have hk' : k < 2147483648 := by omega
  have hq' : k / 4 < 2147483648 := by omega
  unfold wp_A_change
  rw [jI_div hk', jI_tn hk', jI_tn hq', nar_b, nar_1]
  refine ⟨jI_in hk' hk, jI_in hk' hk, jI_in hq' (by omega), jI_in hq' (by omega), h _ ?_⟩
  obtain ⟨h1, h2, h3, h4, h5, h6, h7, h8, h9, h10⟩ := hA
  refine ⟨h1, h2, h3, ?_, ?_, ?_, ?_, h8, h9, h10⟩
  · intro y hy
    show upd (A_dirty A) (k / 4) (b2i true) y = b2i (updN (pv_dy v) (k / 4) true y)
    by_cases hyk : y = k / 4
    · rw [hyk, upd_same, updN_same]
    · rw [upd_ne _ _ hyk, updN_ne _ _ hyk, h4 y hy]
  · intro y hy
    show upd (A_lsn A) (k / 4) (jI lsn) y = jI (updN (pv_ls v) (k / 4) lsn y)
    by_cases hyk : y = k / 4
    · rw [hyk, upd_same, updN_same]
    · rw [upd_ne _ _ hyk, updN_ne _ _ hyk, h5 y hy]
  · intro y hy
    show upd (A_there A) k (b2i now) y = b2i (updN (pv_th v) k now y)
    by_cases hyk : y = k
    · rw [hyk, upd_same, updN_same]
    · rw [upd_ne _ _ hyk, updN_ne _ _ hyk, h6 y hy]
  · intro y hy
    show upd (A_value A) k x y = updN (pv_va v) k x y
    by_cases hyk : y = k
    · rw [hyk, upd_same, updN_same]
    · rw [upd_ne _ _ hyk, updN_ne _ _ hyk, h7 y hy]
