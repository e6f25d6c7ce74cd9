theorem k_A_touch86 {A0 : S_A} {x : Int32} {K : S_A → Prop} {pl : Nat} (hpl : pl < 8) (h : K (A_byTouch' A0 (fun i => if 0 < i ∧ i ≤ pl then A_byTouch A0 (i - 1) else A_byTouch A0 i))) : ∃ e, wp_A_touch_L86 x K e (jI pl) A0 := by
  refine lpd (fun n m (s : S_A) => wp_A_touch_L86 x K n (jI m) s) (fun m s => m ≤ pl ∧ s = A_byTouch' A0 (fun i => if m < i ∧ i ≤ pl then A_byTouch A0 (i - 1) else A_byTouch A0 i)) ?_ ?_ pl A0 ⟨Nat.le_refl _, ?_⟩
  · intro m s n hs hn
    obtain ⟨hm, rfl⟩ := hs
    have hb : m + 1 < 2147483648 := by omega
    have hb0 : m < 2147483648 := by omega
    rw [wp_A_touch_L86, if_neg (by rw [← jI_0, jI_le hb (by omega)]; omega), jI_d, jI_p, jI_tn hb0, jI_tn hb]
    refine ⟨jI_in hb0 (by omega), jI_in hb (by omega), hn _ ⟨by omega, ?_⟩⟩
    have e : upd (fun i => if m + 1 < i ∧ i ≤ pl then A_byTouch A0 (i - 1) else A_byTouch A0 i) (m + 1) (A_byTouch A0 m) = fun i => if m < i ∧ i ≤ pl then A_byTouch A0 (i - 1) else A_byTouch A0 i := by
      funext i
      by_cases hi : i = m + 1
      · rw [hi, upd_same, if_pos (by omega)]
        rfl
      · rw [upd_ne _ _ hi]
        by_cases hc : m < i ∧ i ≤ pl
        · rw [if_pos hc, if_pos (by omega)]
        · rw [if_neg hc, if_neg (by omega)]
    rw [← e]
    show A_byTouch' A0 (upd (fun i => if m + 1 < i ∧ i ≤ pl then A_byTouch A0 (i - 1) else A_byTouch A0 i) (m + 1) (if m + 1 < m ∧ m ≤ pl then A_byTouch A0 (m - 1) else A_byTouch A0 m)) = _
    rw [if_neg (by omega)]
  · intro s n hs
    obtain ⟨-, rfl⟩ := hs
    rw [wp_A_touch_L86, if_pos (by decide)]
    exact h
  · have e : (fun i => if pl < i ∧ i ≤ pl then A_byTouch A0 (i - 1) else A_byTouch A0 i) = A_byTouch A0 := by
      funext i
      rw [if_neg (by omega)]
    rw [e]
theorem k_A_touch2 {A : S_A} {v : VP} {p : Nat} {K : Int32 → Prop} (hA : RA A v) (hm : pv_m v ≤ 8) (hbt : ∀ i, i < pv_m v → pv_bt v i < 8) (hp : p < 8) (h : K (jI (sp_pl v p))) : ∃ e, wp_A_touch_L2 A (jI p) K e 0 := by
  refine lpi (fun n (s : Int32) => wp_A_touch_L2 A (jI p) K n s) (fun d s => s = jI d ∧ ∀ x, x < d → ¬ pv_bt v x = p) (pv_m v) ?_ ?_ 0 (by omega) 0 ⟨rfl, fun x hx => by omega⟩
  · intro d hd s n hs hn
    obtain ⟨rfl, hs⟩ := hs
    have hb : d < 2147483648 := by omega
    have hv := hbt d hd
    rw [wp_A_touch_L2, hA.2.1, if_neg (by rw [jI_le (by omega) hb]; omega), jI_tn hb, hA.2.2.1 d hd]
    refine ⟨jI_in hb (by omega), ?_⟩
    by_cases he : pv_bt v d = p
    · rw [if_pos (by rw [he])]
      have hpl : sp_pl v p = d := ff_eq _ _ _ _ (by omega) (by omega) (fun x _ h2 => by simpa using hs x h2) (fun _ => by simpa using he)
      rw [hpl] at h
      exact h
    · rw [if_neg (by rw [jI_eq (by omega) (by omega)]; exact he)]
      refine hn _ ⟨jI_s _, fun x hx => ?_⟩
      by_cases hxd : x = d
      · rw [hxd]
        exact he
      · exact hs x (by omega)
  · intro s n hs
    obtain ⟨rfl, hs⟩ := hs
    rw [wp_A_touch_L2, hA.2.1, if_pos (by rw [jI_le (by omega) (by omega)]; omega)]
    have hpl : sp_pl v p = pv_m v := ff_eq _ _ _ _ (by omega) (by omega) (fun x _ h2 => by simpa using hs x h2) (fun q => by omega)
    rw [hpl] at h
    exact h
/-- all of RA but the place q of the row of touches -/
def RAh (A : S_A) (v : VP) (q : Nat) : Prop := A_frames A = jI (pv_F v) ∧ A_framesInUse A = jI (pv_m v) ∧ (∀ i, i < pv_m v → i ≠ q → A_byTouch A i = jI (pv_bt v i)) ∧ (∀ p, p < 8 → A_dirty A p = b2i (pv_dy v p)) ∧ (∀ p, p < 8 → A_lsn A p = jI (pv_ls v p)) ∧ (∀ k, k < 32 → A_there A k = b2i (pv_th v k)) ∧ (∀ k, k < 32 → A_value A k = pv_va v k) ∧ (∀ p, p < 8 → A_diskLsn A p = jI (pv_dls v p)) ∧ (∀ k, k < 32 → A_diskThere A k = b2i (pv_dth v k)) ∧ ∀ k, k < 32 → A_diskValue A k = pv_dva v k
theorem RA.h {A : S_A} {v : VP} (h : RA A v) (q : Nat) : RAh A v q := ⟨h.1, h.2.1, fun i hi _ => h.2.2.1 i hi, h.2.2.2⟩
theorem k_A_touch {A : S_A} {G : S_G} {v : VP} {g : VG} {p : Nat} {post : S_A → S_G → Prop} (hA : RA A v) (hG : RG G g) (hi : iP v) (hp : p < 8) (hb : ∀ q, q < 8 → pv_ls v q < 2147483648) (hf : gv_f g < 2147483648)
    (h : ∀ A' G', RA A' (sp_tP v p) → RG G' (gv_f' g (sp_tF v (gv_f g) p)) → post A' G') : wp_A_touch A G (jI p) post := by
  obtain ⟨i1, i2, i3, i4, -⟩ := hi
  obtain ⟨-, g2, g3, g4⟩ := ff_spec (fun i => pv_bt v i == p) (pv_m v) 0
  have g2 : sp_pl v p ≤ pv_m v := by
    show ff (fun i => pv_bt v i == p) (pv_m v) 0 ≤ pv_m v
    omega
  unfold wp_A_touch
  refine k_A_touch2 hA (by omega) i4 hp ?_
  refine jn_in (fun jk => ∀ (q : Nat) (A' : S_A) (G' : S_G) (v' : VP), q < pv_m v' → pv_m v' ≤ 8 → RAh A' v' q → sp_tP v p = sp_fin v v' q p → RG G' (gv_f' g (sp_tF v (gv_f g) p)) → jk (jI q) A' G') ?_ ?_
  · intro q A' G' v' hq hm hR he hG'
    refine k_A_touch86 (by omega) ⟨jI_in (n := 0) (by omega) (by omega), h _ _ ?_ hG'⟩
    rw [he]
    obtain ⟨r1, r2, r3, r4⟩ := hR
    refine ⟨r1, r2, ?_, r4⟩
    intro i hi
    show upd (fun i => if 0 < i ∧ i ≤ q then A_byTouch A' (i - 1) else A_byTouch A' i) 0 (jI p) i = jI (sp_sh (pv_bt v') q p i)
    have hi : i < pv_m v' := hi
    unfold sp_sh
    by_cases h0 : i = 0
    · rw [h0, upd_same, if_pos (by rfl)]
    · rw [upd_ne _ _ h0, if_neg h0]
      by_cases hc : i ≤ q
      · rw [if_pos ⟨by omega, hc⟩, if_pos hc]
        exact r3 (i - 1) (by omega) (by omega)
      · rw [if_neg (by omega), if_neg hc]
        exact r3 i hi (by omega)
  · intro jk hjk
    have hpl : sp_pl v p < 2147483648 := by omega
    rw [hA.1, hA.2.1]
    by_cases hF : sp_pl v p = pv_F v
    · rw [if_pos (by rw [hF])]
      have hmF : pv_m v = pv_F v := by omega
      obtain ⟨F', hF'⟩ : ∃ F', pv_F v = F' + 1 := ⟨pv_F v - 1, by omega⟩
      have hFb : F' < 2147483648 := by omega
      have hbt := i4 F' (by omega)
      rw [hF, hF', jI_p, jI_tn hFb, hA.2.2.1 F' (by omega), jI_tn (by omega : pv_bt v F' < 2147483648), hA.2.2.2.1 _ hbt]
      refine ⟨jI_in hFb (by omega), jI_in (by omega) hbt, ?_⟩
      have e1 : pv_F v - 1 = F' := by omega
      cases hd : pv_dy v (pv_bt v F') with
      | false =>
        rw [if_pos (by rfl)]
        refine hjk F' A G v (by omega) (by omega) (hA.h _) ?_ (hG.same ?_)
        · unfold sp_tP
          rw [if_pos hF, e1, hd, if_neg (by decide)]
        · unfold sp_tF
          rw [e1, hd, if_neg (fun q => by cases q.2)]
      | true =>
        rw [if_neg (by decide)]
        refine ⟨jI_in hFb (by omega), k_A_putOnDisk hA hG hbt (hb _ hbt) hf (fun A' G' hA' hG' => ?_)⟩
        refine hjk F' A' G' (sp_wrP v (pv_bt v F')) (show F' < pv_m v by omega) (show pv_m v ≤ 8 by omega) (hA'.h _) ?_ ?_
        · unfold sp_tP
          rw [if_pos hF, e1, hd, if_pos (by rfl)]
        · unfold sp_tF
          rw [e1, if_pos ⟨hF, hd⟩]
          exact hG'
    · rw [if_neg (by rw [jI_eq hpl (by omega)]; exact hF)]
      have e2 : sp_tF v (gv_f g) p = gv_f g := by
        unfold sp_tF
        rw [if_neg (fun q => hF q.1)]
      by_cases hm : sp_pl v p = pv_m v
      · rw [if_pos (by rw [hm]), jI_s]
        refine hjk (sp_pl v p) _ G (pv_m' v (pv_m v + 1)) (show sp_pl v p < pv_m v + 1 by omega) (show pv_m v + 1 ≤ 8 by omega) ?_ ?_ (hG.same e2)
        · refine ⟨hA.1, rfl, fun i h1 h2 => hA.2.2.1 i ?_, hA.2.2.2⟩
          have h1 : i < pv_m v + 1 := h1
          omega
        · unfold sp_tP
          rw [if_neg hF, if_pos hm, hm]
      · rw [if_neg (by rw [jI_eq hpl (by omega)]; exact hm)]
        refine hjk (sp_pl v p) A G v (by omega) (by omega) (hA.h _) ?_ (hG.same e2)
        unfold sp_tP
        rw [if_neg hF, if_neg hm]
