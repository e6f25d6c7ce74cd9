section PMA
variable {A : S_MA} {D : S_MD} {G : S_MG} {v : VP} {g : VG}
theorem sp_in_iff {p : Nat} : sp_in v p = true ↔ ∃ i, i < pv_m v ∧ pv_bt v i = p := by
  unfold sp_in
  rw [bx_iff]
  simp
theorem sp_in_not {p : Nat} (h : sp_in v p = false) : ∀ i, i < pv_m v → pv_bt v i ≠ p := by
  intro i hi q
  have : sp_in v p = true := sp_in_iff.mpr ⟨i, hi, q⟩
  rw [h] at this
  cases this
theorem iP.out (hi : iP v) {p : Nat} (hp : p < 8) (h : sp_in v p = false) : pv_dy v p = false ∧ pv_ls v p = pv_dls v p ∧ ∀ k, k / 4 = p → pv_th v k = pv_dth v k ∧ pv_va v k = pv_dva v k := ⟨(hi.2.2.2.2.2.1 p hp).1 (sp_in_not h), (hi.2.2.2.2.2.1 p hp).2 ((hi.2.2.2.2.2.1 p hp).1 (sp_in_not h))⟩
theorem m_isThereNow {post : Int32 → Prop} {k : Nat} (hA : RMA A D v) (hi : iP v) (hk : k < 32) (h : post (b2i (pv_th v k))) : wp_M_isThereNow A D (jI k) post := by
  have hb : k < 2147483648 := by omega
  have hq : k / 4 < 2147483648 := by omega
  obtain ⟨h1, h2, h3, h4, h5, h6, h7, h8, h9, h10, h11⟩ := hA
  unfold wp_M_isThereNow
  rw [jI_div hb, jI_tn hb, jI_tn hq, h2 _ (by omega)]
  refine ⟨jI_in hq (by omega), ?_⟩
  cases q : sp_in v (k / 4) with
  | false =>
    rw [if_pos (by rfl), h9 k hk, ← ((hi.out (by omega) q).2.2 k rfl).1]
    exact ⟨jI_in hb hk, nar_b _, h⟩
  | true =>
    rw [if_neg (by decide), h5 k hk q]
    exact ⟨jI_in hb hk, nar_b _, h⟩
theorem m_valueNow {post : Int32 → Prop} {k : Nat} (hA : RMA A D v) (hi : iP v) (hk : k < 32) (h : post (pv_va v k)) : wp_M_valueNow A D (jI k) post := by
  have hb : k < 2147483648 := by omega
  have hq : k / 4 < 2147483648 := by omega
  obtain ⟨h1, h2, h3, h4, h5, h6, h7, h8, h9, h10, h11⟩ := hA
  unfold wp_M_valueNow
  rw [jI_div hb, jI_tn hb, jI_tn hq, h2 _ (by omega)]
  refine ⟨jI_in hq (by omega), ?_⟩
  cases q : sp_in v (k / 4) with
  | false =>
    rw [if_pos (by rfl), h10 k hk, ← ((hi.out (by omega) q).2.2 k rfl).2]
    exact ⟨jI_in hb hk, h⟩
  | true =>
    rw [if_neg (by decide), h6 k hk q]
    exact ⟨jI_in hb hk, h⟩
theorem m_lsnNow {post : Int32 → Prop} {p : Nat} (hA : RMA A D v) (hi : iP v) (hp : p < 8) (h : post (jI (pv_ls v p))) : wp_M_lsnNow A D (jI p) post := by
  have hb : p < 2147483648 := by omega
  obtain ⟨h1, h2, h3, h4, h5, h6, h7, h8, h9, h10, h11⟩ := hA
  unfold wp_M_lsnNow
  rw [jI_tn hb, h2 _ hp]
  refine ⟨jI_in hb hp, ?_⟩
  cases q : sp_in v p with
  | false =>
    rw [if_pos (by rfl), h11 p hp, ← (hi.out hp q).2.1]
    exact ⟨jI_in hb hp, h⟩
  | true =>
    rw [if_neg (by decide), h4 p hp q]
    exact ⟨jI_in hb hp, h⟩
theorem m_next {post : Int32 → Prop} {k : Nat} (hA : RMA A D v) (hi : iP v) (hk : k < 32) (h : post (jI (sp_nx v k))) : wp_M_next A D (jI k) post := by
  unfold wp_M_next
  rw [jI_s]
  refine lpi (fun n (s : Int32) => wp_M_next_L4 A D (fun x2 => post x2) n s) (fun d s => s = jI (k + 1 + d) ∧ ∀ x, k + 1 ≤ x → x < k + 1 + d → pv_th v x = false) (31 - k) ?_ ?_ 0 (by omega) (jI (k + 1)) ⟨rfl, fun x h1 h2 => by omega⟩
  · intro d hd s n hs hn
    obtain ⟨rfl, hs⟩ := hs
    have hb : k + 1 + d < 2147483648 := by omega
    rw [wp_M_next_L4, if_neg (by rw [show (32 : Int32) = jI 32 from rfl, jI_le (by omega) hb]; omega)]
    refine m_isThereNow hA hi (by omega) ?_
    cases ht : pv_th v (k + 1 + d) with
    | false =>
      rw [if_pos (by rfl)]
      refine hn _ ⟨jI_s _, fun x h1 h2 => ?_⟩
      by_cases hx : x = k + 1 + d
      · rw [hx, ht]
      · exact hs x h1 (by omega)
    | true =>
      rw [if_neg (by decide)]
      rw [← ff_eq (pv_th v) (31 - k) (k + 1) (k + 1 + d) (by omega) (by omega) hs (fun _ => ht)]
      exact h
  · intro s n hs
    obtain ⟨rfl, hs⟩ := hs
    have e : k + 1 + (31 - k) = 32 := by omega
    rw [e] at hs ⊢
    rw [wp_M_next_L4, if_pos (by decide)]
    have := ff_eq (pv_th v) (31 - k) (k + 1) 32 (by omega) (by omega) hs (fun q => by omega)
    unfold sp_nx at h
    rw [this] at h
    exact h
theorem RMG.fl (h : RMG G g) (f : Nat) : RMG (MG_flushed' G (jI f)) (gv_f' g f) := ⟨h.1, h.2.1, rfl, h.2.2.2⟩
theorem m_writes {post : S_MA → S_MD → S_MG → Prop} {p : Nat} (hA : RMA A D v) (hG : RMG G g) (hp : p < 8) (hin : sp_in v p = true) (hb1 : pv_ls v p < 2147483648) (hb2 : gv_f g < 2147483648)
    (h : ∀ A' D' G', RMA A' D' (sp_wrP v p) → RMG G' (gv_f' g (sp_wrF v (gv_f g) p)) → post A' D' G') : wp_M_writes A D G (jI p) post := by
  have hb : p < 2147483648 := by omega
  have hii : vp_in (jI p) 8 := jI_in hb hp
  obtain ⟨h1, h2, h3, h4, h5, h6, h7, h8, h9, h10, h11⟩ := hA
  unfold wp_M_writes
  rw [jI_tn hb, h4 p hp hin, hG.2.2.1]
  refine ⟨hii, jn_in (fun jk => jk (jI (sp_wrF v (gv_f g) p))) ?_ ?_⟩
  · have e4 : (4 : Int32) * jI p = jI (4 * p) := by rw [show (4 : Int32) = jI 4 from rfl, jI_m]
    rw [e4]
    refine lpi (fun n (s : Int32 × S_MD) => wp_M_writes_L34 A (jI p) _ n s.1 s.2) (fun k s => s.1 = jI (4 * p + k) ∧ (∀ x, x < 32 → MD_diskThere s.2 x = b2i (if 4 * p ≤ x ∧ x < 4 * p + k then pv_th v x else pv_dth v x)) ∧ (∀ x, x < 32 → MD_diskValue s.2 x = if 4 * p ≤ x ∧ x < 4 * p + k then pv_va v x else pv_dva v x) ∧ ∀ x, x < 8 → MD_diskLsn s.2 x = jI (pv_dls v x)) 4 ?_ ?_ 0 (by omega) (jI (4 * p), D) ⟨rfl, fun x hx => ?_, fun x hx => ?_, h11⟩
    · intro k hk s n hs hn
      obtain ⟨x, D⟩ := s
      obtain ⟨hx, g9, g10, g11⟩ := hs
      dsimp only at hx g9 g10 g11 ⊢
      subst hx
      have hb : 4 * p + k < 2147483648 := by omega
      have hii : vp_in (jI (4 * p + k)) 32 := jI_in hb (by omega)
      have e : (4 * p + k) / 4 = p := by omega
      rw [wp_M_writes_L34, e4, if_neg (by rw [show (4 : Int32) = jI 4 from rfl, jI_a, jI_le (by omega) hb]; omega), jI_tn hb, h5 _ (by omega) (by rw [e]; exact hin), h6 _ (by omega) (by rw [e]; exact hin), nar_b, jI_s]
      refine ⟨hii, hii, hii, hii, hn (_, _) ⟨rfl, fun x hx => ?_, fun x hx => ?_, g11⟩⟩
      · show upd (MD_diskThere D) (4 * p + k) (b2i (pv_th v (4 * p + k))) x = b2i (if 4 * p ≤ x ∧ x < 4 * p + (k + 1) then pv_th v x else pv_dth v x)
        by_cases hxk : x = 4 * p + k
        · rw [hxk, upd_same, if_pos (by omega)]
        · rw [upd_ne _ _ hxk, g9 x hx]
          by_cases hc : 4 * p ≤ x ∧ x < 4 * p + k
          · rw [if_pos hc, if_pos (by omega)]
          · rw [if_neg hc, if_neg (by omega)]
      · show upd (MD_diskValue D) (4 * p + k) (pv_va v (4 * p + k)) x = if 4 * p ≤ x ∧ x < 4 * p + (k + 1) then pv_va v x else pv_dva v x
        by_cases hxk : x = 4 * p + k
        · rw [hxk, upd_same, if_pos (by omega)]
        · rw [upd_ne _ _ hxk, g10 x hx]
          by_cases hc : 4 * p ≤ x ∧ x < 4 * p + k
          · rw [if_pos hc, if_pos (by omega)]
          · rw [if_neg hc, if_neg (by omega)]
    · intro s n hs
      obtain ⟨x, D⟩ := s
      obtain ⟨hx, g9, g10, g11⟩ := hs
      dsimp only at hx g9 g10 g11 ⊢
      subst hx
      rw [wp_M_writes_L34, e4, if_pos (by rw [show (4 : Int32) = jI 4 from rfl, jI_a, jI_le (by omega) (by omega)]; omega)]
      refine ⟨hii, hii, hii, h _ _ _ ⟨h1, h2, ?_, h4, h5, h6, h7, h8, ?_, ?_, ?_⟩ (hG.fl _)⟩
      · rw [nar_0]
        exact up_k b2i h3 rfl
      · intro x hx
        show MD_diskThere D x = b2i (if x / 4 = p then pv_th v x else pv_dth v x)
        rw [g9 x hx]
        by_cases hc : x / 4 = p
        · rw [if_pos hc, if_pos (by omega)]
        · rw [if_neg hc, if_neg (by omega)]
      · intro x hx
        show MD_diskValue D x = if x / 4 = p then pv_va v x else pv_dva v x
        rw [g10 x hx]
        by_cases hc : x / 4 = p
        · rw [if_pos hc, if_pos (by omega)]
        · rw [if_neg hc, if_neg (by omega)]
      · exact up_k jI g11 rfl
    · rw [if_neg (by omega)]
      exact h9 x hx
    · rw [if_neg (by omega)]
      exact h10 x hx
  · intro jk hjk
    unfold sp_wrF at hjk
    by_cases hle : pv_ls v p ≤ gv_f g
    · rw [if_pos ((jI_le hb1 hb2).mpr hle)]
      rw [if_pos hle] at hjk
      exact hjk
    · rw [if_neg (fun q => hle ((jI_le hb1 hb2).mp q))]
      rw [if_neg hle] at hjk
      exact ⟨hii, hjk⟩
theorem m_become {post : S_MA → Prop} {k lsn : Nat} {now : Bool} {x x' : Int32} (hA : RMA A D v) (hk : k < 32) (hx : now = false → x = 0) (hx' : now = true → x' = x) (h : ∀ A', RMA A' D (sp_ch v k now x lsn) → post A') : wp_M_become A (jI k) (b2i now) x' (jI lsn) post := by
  have hb : k < 2147483648 := by omega
  have hq : k / 4 < 2147483648 := by omega
  have hki : vp_in (jI k) 32 := jI_in hb hk
  have hqi : vp_in (jI (k / 4)) 8 := jI_in hq (by omega)
  obtain ⟨h1, h2, h3, h4, h5, h6, h7, h8, h9, h10, h11⟩ := hA
  unfold wp_M_become
  rw [jI_div hb, jI_tn hb, jI_tn hq, nar_b, nar_1]
  refine ⟨hki, jn_in (fun jk => jk x) ?_ ?_⟩
  · refine ⟨hki, hqi, hqi, h _ ⟨h1, h2, up_k b2i h3 rfl, ?_, ?_, ?_, h7, h8, h9, h10, h11⟩⟩
    · intro p hp hin
      have hin : sp_in v p = true := hin
      show upd (MA_lsn A) (k / 4) (jI lsn) p = jI (updN (pv_ls v) (k / 4) lsn p)
      by_cases e : p = k / 4
      · rw [e, upd_same, updN_same]
      · rw [upd_ne _ _ e, updN_ne _ _ e]
        exact h4 p hp hin
    · intro p hp hin
      have hin : sp_in v (p / 4) = true := hin
      show upd (MA_there A) k (b2i now) p = b2i (updN (pv_th v) k now p)
      by_cases e : p = k
      · rw [e, upd_same, updN_same]
      · rw [upd_ne _ _ e, updN_ne _ _ e]
        exact h5 p hp hin
    · intro p hp hin
      have hin : sp_in v (p / 4) = true := hin
      show upd (MA_value A) k x p = updN (pv_va v) k x p
      by_cases e : p = k
      · rw [e, upd_same, updN_same]
      · rw [upd_ne _ _ e, updN_ne _ _ e]
        exact h6 p hp hin
  · intro jk hjk
    cases now with
    | false =>
      rw [if_pos (by rfl)]
      rw [hx rfl] at hjk
      exact hjk
    | true =>
      rw [if_neg (by decide), hx' rfl]
      exact hjk
end PMA
