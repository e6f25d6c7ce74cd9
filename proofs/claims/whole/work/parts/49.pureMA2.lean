section PMA2
variable {A : S_MA} {D : S_MD} {G : S_MG} {v : VP} {g : VG}
theorem bc_inj {bt : Nat → Nat} : ∀ m, (∀ i, i < m → bt i < 8) → (∀ i j, i < m → j < m → bt i = bt j → i = j) → bc 8 (fun p => bx m (fun i => bt i == p)) = m := by
  intro m
  induction m with
  | zero =>
    intro _ _
    exact bc_zero.mpr (fun k _ => rfl)
  | succ m ih =>
    intro h1 h2
    have e := ih (fun i hi => h1 i (by omega)) (fun i j hi hj => h2 i j (by omega) (by omega))
    rw [bc_one (x := bt m) (P := fun p => bx m (fun i => bt i == p)) (h1 m (by omega)) ?_ ?_ ?_, e]
    · cases z : bx m (fun i => bt i == bt m) with
      | false => rfl
      | true =>
        obtain ⟨i, hi, hz⟩ := bx_iff.mp z
        have := h2 i m (by omega) (by omega) (by simpa using hz)
        omega
    · show (bx m (fun i => bt i == bt m) || bt m == bt m) = true
      simp
    · intro k _ hk
      show bx m (fun i => bt i == k) = (bx m (fun i => bt i == k) || bt m == k)
      have : (bt m == k) = false := by
        rw [beq_eq_false_iff_ne]
        exact fun z => hk z.symm
      rw [this, Bool.or_false]
theorem sp_in_fin {w : VP} {q p x : Nat} (hq : q < pv_m w) : sp_in (sp_fin v w q p) x = true ↔ p = x ∨ ∃ i, i < pv_m w ∧ i ≠ q ∧ pv_bt w i = x := by
  rw [sp_in_iff]
  show (∃ i, i < pv_m w ∧ sp_sh (pv_bt w) q p i = x) ↔ _
  constructor
  · rintro ⟨i, hi, e⟩
    unfold sp_sh at e
    by_cases h0 : i = 0
    · rw [if_pos h0] at e
      exact Or.inl e
    · rw [if_neg h0] at e
      by_cases h1 : i ≤ q
      · rw [if_pos h1] at e
        exact Or.inr ⟨i - 1, by omega, by omega, e⟩
      · rw [if_neg h1] at e
        exact Or.inr ⟨i, hi, by omega, e⟩
  · rintro (e | ⟨i, hi, hne, e⟩)
    · refine ⟨0, by omega, ?_⟩
      unfold sp_sh
      rw [if_pos (by rfl)]
      exact e
    · by_cases h1 : i < q
      · refine ⟨i + 1, by omega, ?_⟩
        unfold sp_sh
        rw [if_neg (by omega), if_pos (by omega)]
        exact e
      · refine ⟨i, hi, ?_⟩
        unfold sp_sh
        rw [if_neg (by omega), if_neg (by omega)]
        exact e
theorem m_touch26 {x : Int32} {K : Int32 → Int32 → Prop} (hi : iP v) (h2 : ∀ p, p < 8 → MA_inFrame A p = b2i (sp_in v p)) (h8 : ∀ p, p < 8 → MA_touched A p = jI (pv_tt v p)) (htk : pv_tk v < 2147483648)
    (h : ∀ o : Int32, (0 < pv_m v → o = jI (pv_bt v (pv_m v - 1))) → K (jI (pv_m v)) o) : ∃ e, wp_M_touch_L26 A x K e 0 (-1) 0 := by
  obtain ⟨i1, i2, i3, i4, i5, i6, i7, i8, i9, i10⟩ := hi
  have hb : ∀ p, sp_in v p = true → pv_tt v p < 2147483648 := by
    intro p hp
    obtain ⟨i, h1, e⟩ := sp_in_iff.mp hp
    have := i10 i h1
    rw [e] at this
    omega
  have hlt : ∀ p, sp_in v p = true → p < 8 := by
    intro p hp
    obtain ⟨i, h1, e⟩ := sp_in_iff.mp hp
    rw [← e]
    exact i4 i h1
  refine lpi (fun n (s : Int32 × Int32 × Int32) => wp_M_touch_L26 A x K n s.1 s.2.1 s.2.2) (fun q s => s.1 = jI (bc q (sp_in v)) ∧ s.2.2 = jI q ∧ ((s.2.1 = -1 ∧ ∀ y, y < q → sp_in v y = false) ∨ ∃ o, s.2.1 = jI o ∧ sp_in v o = true ∧ ∀ y, y < q → sp_in v y = true → pv_tt v o ≤ pv_tt v y)) 8 ?_ ?_ 0 (by omega) (0, -1, 0) ⟨rfl, rfl, Or.inl ⟨rfl, fun y hy => by omega⟩⟩
  · intro q hq s n hs hn
    obtain ⟨u, o, z⟩ := s
    obtain ⟨e1, e2, hs⟩ := hs
    dsimp only at e1 e2 hs ⊢
    subst e1
    subst e2
    have hqb : q < 2147483648 := by omega
    have hii : vp_in (jI q) 8 := jI_in hqb hq
    have hbs : bc (q + 1) (sp_in v) = bc q (sp_in v) + (if sp_in v q then 1 else 0) := rfl
    rw [wp_M_touch_L26, if_neg (by rw [show (8 : Int32) = jI 8 from rfl, jI_le (by omega) hqb]; omega), jI_tn hqb, h2 q hq, h8 q hq]
    refine ⟨hii, jn_in (fun jk => jk (b2i (sp_in v q))) ?_ ?_⟩
    · refine ⟨hii, ?_⟩
      cases hin : sp_in v q with
      | false =>
        rw [if_pos (by rfl), jI_s, b2i_f, Int32.add_zero]
        refine hn (_, _, _) ⟨?_, rfl, ?_⟩
        · rw [hbs, hin]
          rfl
        · dsimp only
          rcases hs with ⟨ho, hs⟩ | ⟨o', ho, h1, hs⟩
          · refine Or.inl ⟨ho, fun y hy => ?_⟩
            by_cases e : y = q
            · rw [e, hin]
            · exact hs y (by omega)
          · refine Or.inr ⟨o', ho, h1, fun y hy hy2 => ?_⟩
            by_cases e : y = q
            · rw [e, hin] at hy2
              cases hy2
            · exact hs y (by omega) hy2
      | true =>
        have hu : jI (bc q (sp_in v)) + b2i true = jI (bc (q + 1) (sp_in v)) := by
          rw [hbs, hin, b2i_t, jI_s]
          rfl
        rw [if_neg (by decide), hu, jI_s]
        rcases hs with ⟨ho, hs⟩ | ⟨o', ho, h1, hs⟩
        · subst ho
          rw [if_pos (by decide)]
          refine hn (_, _, _) ⟨rfl, rfl, Or.inr ⟨q, rfl, hin, fun y hy hy2 => ?_⟩⟩
          by_cases e : y = q
          · rw [e]
            exact Nat.le_refl _
          · rw [hs y (by omega)] at hy2
            cases hy2
        · subst ho
          have ho8 := hlt o' h1
          have hob : o' < 2147483648 := by omega
          rw [if_neg (jI_nn hob), jI_tn hob, h8 o' ho8, ite_iff' (jI_le (hb _ h1) (hb _ hin))]
          refine ⟨hii, jI_in hob ho8, ?_⟩
          by_cases hle : pv_tt v o' ≤ pv_tt v q
          · rw [if_pos hle]
            refine hn (_, _, _) ⟨rfl, rfl, Or.inr ⟨o', rfl, h1, fun y hy hy2 => ?_⟩⟩
            by_cases e : y = q
            · rw [e]
              exact hle
            · exact hs y (by omega) hy2
          · rw [if_neg hle]
            refine hn (_, _, _) ⟨rfl, rfl, Or.inr ⟨q, rfl, hin, fun y hy hy2 => ?_⟩⟩
            by_cases e : y = q
            · rw [e]
              exact Nat.le_refl _
            · have := hs y (by omega) hy2
              omega
    · intro jk hjk
      cases hin : sp_in v q with
      | false =>
        rw [if_pos (by rfl)]
        rw [hin] at hjk
        exact hjk
      | true =>
        rw [if_neg (by decide)]
        rw [hin] at hjk
        exact hjk
  · intro s n hs
    obtain ⟨u, o, z⟩ := s
    obtain ⟨e1, e2, hs⟩ := hs
    dsimp only at e1 e2 hs ⊢
    subst e1
    subst e2
    have hm : bc 8 (sp_in v) = pv_m v := bc_inj (pv_m v) i4 i5
    rw [wp_M_touch_L26, if_pos (by decide), hm]
    refine h o (fun hpos => ?_)
    have hlast : sp_in v (pv_bt v (pv_m v - 1)) = true := sp_in_iff.mpr ⟨_, by omega, rfl⟩
    rcases hs with ⟨-, hs⟩ | ⟨o', ho, h1, hs⟩
    · rw [hs _ (hlt _ hlast)] at hlast
      cases hlast
    · rw [ho]
      obtain ⟨i, hi, e⟩ := sp_in_iff.mp h1
      by_cases hil : i = pv_m v - 1
      · rw [← e, hil]
      · have h9 := i9 i (pv_m v - 1) (by omega) (by omega)
        have h10 := hs _ (hlt _ hlast) hlast
        rw [e] at h9
        omega
theorem m_touch128 {K : S_MA → Prop} {p : Nat} (hp : p < 8) (h9 : ∀ k, k < 32 → MD_diskThere D k = b2i (pv_dth v k)) (h10 : ∀ k, k < 32 → MD_diskValue D k = pv_dva v k)
    (h : ∀ th va : Nat → Int32, (∀ x, x < 32 → th x = if x / 4 = p then b2i (pv_dth v x) else MA_there A x) → (∀ x, x < 32 → va x = if x / 4 = p then pv_dva v x else MA_value A x) → K (MA_value' (MA_there' A th) va)) : ∃ e, wp_M_touch_L128 D (jI p) K e (4 * jI p) A := by
  have e4 : (4 : Int32) * jI p = jI (4 * p) := by rw [show (4 : Int32) = jI 4 from rfl, jI_m]
  rw [e4]
  refine lpi (fun n (s : Int32 × S_MA) => wp_M_touch_L128 D (jI p) K n s.1 s.2) (fun k s => s.1 = jI (4 * p + k) ∧ ∃ th va : Nat → Int32, s.2 = MA_value' (MA_there' A th) va ∧ (∀ x, x < 32 → th x = if 4 * p ≤ x ∧ x < 4 * p + k then b2i (pv_dth v x) else MA_there A x) ∧ ∀ x, x < 32 → va x = if 4 * p ≤ x ∧ x < 4 * p + k then pv_dva v x else MA_value A x) 4 ?_ ?_ 0 (by omega) (jI (4 * p), A) ⟨rfl, MA_there A, MA_value A, rfl, fun x hx => ?_, fun x hx => ?_⟩
  · intro k hk s n hs hn
    obtain ⟨x, A'⟩ := s
    obtain ⟨hx, th, va, ha, g1, g2⟩ := hs
    dsimp only at hx ha ⊢
    subst hx
    subst ha
    have hb : 4 * p + k < 2147483648 := by omega
    have hii : vp_in (jI (4 * p + k)) 32 := jI_in hb (by omega)
    rw [wp_M_touch_L128, e4, if_neg (by rw [show (4 : Int32) = jI 4 from rfl, jI_a, jI_le (by omega) hb]; omega), jI_tn hb, h9 _ (by omega), h10 _ (by omega), nar_b, jI_s]
    refine ⟨hii, hii, hii, hii, hn (_, _) ⟨rfl, upd th (4 * p + k) (b2i (pv_dth v (4 * p + k))), upd va (4 * p + k) (pv_dva v (4 * p + k)), rfl, fun x hx => ?_, fun x hx => ?_⟩⟩
    · by_cases hxk : x = 4 * p + k
      · rw [hxk, upd_same, if_pos (by omega)]
      · rw [upd_ne _ _ hxk, g1 x hx]
        by_cases hc : 4 * p ≤ x ∧ x < 4 * p + k
        · rw [if_pos hc, if_pos (by omega)]
        · rw [if_neg hc, if_neg (by omega)]
    · by_cases hxk : x = 4 * p + k
      · rw [hxk, upd_same, if_pos (by omega)]
      · rw [upd_ne _ _ hxk, g2 x hx]
        by_cases hc : 4 * p ≤ x ∧ x < 4 * p + k
        · rw [if_pos hc, if_pos (by omega)]
        · rw [if_neg hc, if_neg (by omega)]
  · intro s n hs
    obtain ⟨x, A'⟩ := s
    obtain ⟨hx, th, va, ha, g1, g2⟩ := hs
    dsimp only at hx ha ⊢
    subst hx
    subst ha
    rw [wp_M_touch_L128, e4, if_pos (by rw [show (4 : Int32) = jI 4 from rfl, jI_a, jI_le (by omega) (by omega)]; omega)]
    refine h th va (fun x hx => ?_) (fun x hx => ?_)
    · rw [g1 x hx]
      by_cases hc : x / 4 = p
      · rw [if_pos hc, if_pos (by omega)]
      · rw [if_neg hc, if_neg (by omega)]
    · rw [g2 x hx]
      by_cases hc : x / 4 = p
      · rw [if_pos hc, if_pos (by omega)]
      · rw [if_neg hc, if_neg (by omega)]
  · rw [if_neg (by omega)]
  · rw [if_neg (by omega)]
theorem m_touch {post : S_MA → S_MD → S_MG → Prop} {p : Nat} (hA : RMA A D v) (hG : RMG G g) (hi : iP v) (hp : p < 8) (hls : ∀ q, q < 8 → pv_ls v q < 2147483648) (hf : gv_f g < 2147483648) (htk : pv_tk v + 1 < 2147483648)
    (h : ∀ A' D' G', RMA A' D' (sp_tP v p) → RMG G' (gv_f' g (sp_tF v (gv_f g) p)) → post A' D' G') : wp_M_touch A D G (jI p) post := by
  have hb : p < 2147483648 := by omega
  have hii : vp_in (jI p) 8 := jI_in hb hp
  have hi0 := hi
  obtain ⟨i1, i2, i3, i4, i5, i6, i7, i8, i9, i10⟩ := hi0
  have hA0 := hA
  obtain ⟨h1, h2, h3, h4, h5, h6, h7, h8, h9, h10, h11⟩ := hA0
  unfold wp_M_touch
  rw [jI_tn hb, h2 p hp, h7, jI_s]
  refine ⟨hii, ?_⟩
  cases hin : sp_in v p with
  | true =>
    rw [if_neg (by decide)]
    obtain ⟨i0, hi0, e0⟩ := sp_in_iff.mp hin
    have hpl : sp_pl v p = i0 := ff_eq _ _ _ _ (by omega) (by omega) (fun x _ hx => by
      rw [beq_eq_false_iff_ne]
      intro z
      have := i5 x i0 (by omega) hi0 (by rw [z, e0])
      omega) (fun _ => by simpa using e0)
    have hsp : sp_tP v p = sp_fin v v i0 p := by
      unfold sp_tP
      rw [hpl, if_neg (by omega), if_neg (by omega)]
    have hsf : sp_tF v (gv_f g) p = gv_f g := by
      unfold sp_tF
      rw [if_neg (fun z => by omega)]
    have hinn : ∀ x, sp_in (sp_fin v v i0 p) x = sp_in v x := by
      intro x
      rw [Bool.eq_iff_iff, sp_in_fin hi0, sp_in_iff]
      constructor
      · rintro (e | ⟨i, hi, _, e⟩)
        · exact ⟨i0, hi0, by rw [e0, e]⟩
        · exact ⟨i, hi, e⟩
      · rintro ⟨i, hi, e⟩
        by_cases z : i = i0
        · rw [z, e0] at e
          exact Or.inl e
        · exact Or.inr ⟨i, hi, z, e⟩
    refine ⟨hii, h _ _ _ ?_ ?_⟩
    · rw [hsp]
      refine ⟨h1, fun x hx => ?_, h3, fun x hx hx2 => h4 x hx ?_, fun x hx hx2 => h5 x hx ?_, fun x hx hx2 => h6 x hx ?_, rfl, up_k jI h8 rfl, h9, h10, h11⟩
      · rw [hinn x]
        exact h2 x hx
      · rw [hinn x] at hx2
        exact hx2
      · rw [hinn] at hx2
        exact hx2
      · rw [hinn] at hx2
        exact hx2
    · rw [hsf]
      exact hG
  | false =>
    rw [if_pos (by rfl)]
    have hout := hi.out hp hin
    have hpl : sp_pl v p = pv_m v := ff_eq _ _ _ _ (by omega) (by omega) (fun x _ hx => by
      rw [beq_eq_false_iff_ne]
      exact sp_in_not hin x hx) (fun z => by omega)
    refine m_touch26 hi h2 h8 (by omega) (fun o ho => ?_)
    refine jn_in (fun jk => ∀ (A' : S_MA) (D' : S_MD) (G' : S_MG) (w : VP) (q : Nat) (S : Nat → Bool), sp_tP v p = sp_fin v w q p → (∀ x, sp_in (sp_fin v w q p) x = (decide (x = p) || S x)) → S p = false → (∀ k, k / 4 = p → pv_th w k = pv_dth w k ∧ pv_va w k = pv_dva w k) → pv_dy w p = false → pv_ls w p = pv_dls w p →
      MA_frames A' = jI (pv_F w) → (∀ x, x < 8 → MA_inFrame A' x = b2i (S x)) → (∀ x, x < 8 → MA_dirty A' x = b2i (pv_dy w x)) → (∀ x, x < 8 → S x = true → MA_lsn A' x = jI (pv_ls w x)) → (∀ k, k < 32 → S (k / 4) = true → MA_there A' k = b2i (pv_th w k)) → (∀ k, k < 32 → S (k / 4) = true → MA_value A' k = pv_va w k) → MA_clock A' = jI (pv_tk v + 1) → (∀ x, x < 8 → MA_touched A' x = jI (pv_tt v x)) → (∀ k, k < 32 → MD_diskThere D' k = b2i (pv_dth w k)) → (∀ k, k < 32 → MD_diskValue D' k = pv_dva w k) → (∀ x, x < 8 → MD_diskLsn D' x = jI (pv_dls w x)) → RMG G' (gv_f' g (sp_tF v (gv_f g) p)) → jk A' D' G') ?_ ?_
    · intro A' D' G' w q S es hS hSp hth hdy hlsn g1 g2 g3 g4 g5 g6 g7 g8 g9 g10 g11 hG'
      refine m_touch128 (v := w) hp g9 g10 (fun th va hth' hva' => ⟨hii, hii, hii, hii, hii, h _ _ _ ?_ hG'⟩)
      rw [es]
      refine ⟨g1, fun x hx => ?_, fun x hx => ?_, fun x hx hx2 => ?_, fun x hx hx2 => ?_, fun x hx hx2 => ?_, g7, ?_, g9, g10, g11⟩
      · rw [hS x, nar_1]
        show upd (MA_inFrame A') p (b2i true) x = _
        by_cases e : x = p
        · rw [e, upd_same]
          simp
        · rw [upd_ne _ _ e, g2 x hx]
          simp [e]
      · rw [nar_0]
        show upd (MA_dirty A') p (b2i false) x = b2i (pv_dy w x)
        by_cases e : x = p
        · rw [e, upd_same, hdy]
        · rw [upd_ne _ _ e, g3 x hx]
      · rw [hS x] at hx2
        show upd (MA_lsn A') p (MD_diskLsn D' p) x = jI (pv_ls w x)
        by_cases e : x = p
        · rw [e, upd_same, g11 p hp, hlsn]
        · rw [upd_ne _ _ e]
          exact g4 x hx (by simpa [e] using hx2)
      · rw [hS] at hx2
        show th x = b2i (pv_th w x)
        rw [hth' x hx]
        by_cases e : x / 4 = p
        · rw [if_pos e, (hth x e).1]
        · rw [if_neg e]
          exact g5 x hx (by simpa [e] using hx2)
      · rw [hS] at hx2
        show va x = pv_va w x
        rw [hva' x hx]
        by_cases e : x / 4 = p
        · rw [if_pos e, (hth x e).2]
        · rw [if_neg e]
          exact g6 x hx (by simpa [e] using hx2)
      · show ∀ x, x < 8 → upd (MA_touched A') p (MA_clock A') x = jI (updN (pv_tt v) p (pv_tk v + 1) x)
        rw [g7]
        exact up_k jI g8 rfl
    · intro jk hjk
      rw [h1, ite_iff' (jI_eq (by omega) (by omega))]
      by_cases hF : pv_m v = pv_F v
      · rw [if_pos hF]
        obtain ⟨o', hob, hoe⟩ : ∃ o', o' < 8 ∧ o' = pv_bt v (pv_m v - 1) := ⟨_, i4 _ (by omega), rfl⟩
        have hoi : sp_in v o' = true := sp_in_iff.mpr ⟨_, by omega, hoe.symm⟩
        have hop : o' ≠ p := by
          intro z
          rw [z, hin] at hoi
          cases hoi
        rw [ho (by omega), ← hoe]
        have hobb : o' < 2147483648 := by omega
        have hoii : vp_in (jI o') 8 := jI_in hobb hob
        have hoe2 : pv_bt v (pv_F v - 1) = o' := by rw [← hF, hoe]
        rw [jI_tn hobb, h3 o' hob, nar_0]
        refine ⟨hoii, ?_⟩
        have hset : ∀ w : VP, pv_m w = pv_m v → pv_bt w = pv_bt v → ∀ x, sp_in (sp_fin v w (pv_F v - 1) p) x = (decide (x = p) || (sp_in v x && !decide (x = o'))) := by
          intro w hm hbt x
          rw [Bool.eq_iff_iff, sp_in_fin (by omega), hm, hbt]
          simp only [Bool.or_eq_true, decide_eq_true_eq, Bool.and_eq_true, Bool.not_eq_true', decide_eq_false_iff_not, sp_in_iff]
          constructor
          · rintro (e | ⟨i, hi, hne, e⟩)
            · exact Or.inl e.symm
            · refine Or.inr ⟨⟨i, hi, e⟩, fun z => hne ?_⟩
              exact i5 i (pv_F v - 1) hi (by omega) (by rw [e, z, hoe2])
          · rintro (e | ⟨⟨i, hi, e⟩, hne⟩)
            · exact Or.inl e.symm
            · refine Or.inr ⟨i, hi, fun z => hne ?_, e⟩
              rw [← e, z, hoe2]
        have hSp : (sp_in v p && !decide (p = o')) = false := by rw [hin]; rfl
        have hS1 : ∀ x, (sp_in v x && !decide (x = o')) = true → sp_in v x = true := fun x hx => by simp at hx; exact hx.1
        have hfr : ∀ x, x < 8 → upd (MA_inFrame A) o' (b2i false) x = b2i (sp_in v x && !decide (x = o')) := by
          intro x hx
          by_cases e : x = o'
          · rw [e, upd_same]
            simp
          · rw [upd_ne _ _ e, h2 x hx]
            simp [e]
        cases hd : pv_dy v o' with
        | false =>
          rw [if_pos (by rfl)]
          have es : sp_tP v p = sp_fin v v (pv_F v - 1) p := by
            unfold sp_tP
            rw [hpl, if_pos hF, hoe2, hd, if_neg (by decide)]
          have ef : sp_tF v (gv_f g) p = gv_f g := by
            unfold sp_tF
            rw [hoe2, hd, if_neg (fun z => by cases z.2)]
          refine ⟨hoii, hjk _ _ _ v (pv_F v - 1) _ es (hset v rfl rfl) hSp hout.2.2 hout.1 hout.2.1 h1 hfr h3 (fun x hx hx2 => h4 x hx (hS1 x hx2)) (fun x hx hx2 => h5 x hx (hS1 _ hx2)) (fun x hx hx2 => h6 x hx (hS1 _ hx2)) rfl h8 h9 h10 h11 ?_⟩
          rw [ef]
          exact hG
        | true =>
          rw [if_neg (by decide)]
          have hA1 : RMA (MA_clock' A (jI (pv_tk v + 1))) D (pv_tk' v (pv_tk v + 1)) := ⟨h1, h2, h3, h4, h5, h6, rfl, h8, h9, h10, h11⟩
          refine m_writes hA1 hG hob hoi (hls o' hob) hf (fun A2 D2 G2 hA2 hG2 => ?_)
          obtain ⟨k1, k2, k3, k4, k5, k6, k7, k8, k9, k10, k11⟩ := hA2
          have es : sp_tP v p = sp_fin v (sp_wrP v o') (pv_F v - 1) p := by
            unfold sp_tP
            rw [hpl, if_pos hF, hoe2, hd, if_pos (by rfl)]
          have ef : sp_tF v (gv_f g) p = sp_wrF v (gv_f g) o' := by
            unfold sp_tF
            rw [hoe2, hpl, if_pos ⟨hF, hd⟩]
          refine ⟨hoii, hjk _ _ _ (sp_wrP v o') (pv_F v - 1) _ es (hset _ rfl rfl) hSp (fun k hk => ?_) ?_ ?_ k1 (fun x hx => ?_) k3 (fun x hx hx2 => k4 x hx (hS1 x hx2)) (fun x hx hx2 => k5 x hx (hS1 _ hx2)) (fun x hx hx2 => k6 x hx (hS1 _ hx2)) k7 k8 k9 k10 k11 ?_⟩
          · show pv_th v k = (if k / 4 = o' then pv_th v k else pv_dth v k) ∧ pv_va v k = (if k / 4 = o' then pv_va v k else pv_dva v k)
            rw [if_neg (by omega), if_neg (by omega)]
            exact hout.2.2 k hk
          · show updN (pv_dy v) o' false p = false
            rw [updN_ne _ _ (fun z => hop z.symm)]
            exact hout.1
          · show pv_ls v p = updN (pv_dls v) o' (pv_ls v o') p
            rw [updN_ne _ _ (fun z => hop z.symm)]
            exact hout.2.1
          · show upd (MA_inFrame A2) o' (b2i false) x = b2i (sp_in v x && !decide (x = o'))
            by_cases e : x = o'
            · rw [e, upd_same]
              simp
            · rw [upd_ne _ _ e, k2 x hx]
              show b2i (sp_in v x) = _
              simp [e]
          · rw [ef]
            exact hG2
      · rw [if_neg hF]
        have es : sp_tP v p = sp_fin v (pv_m' v (pv_m v + 1)) (pv_m v) p := by
          unfold sp_tP
          rw [hpl, if_neg hF, if_pos (by rfl)]
        have ef : sp_tF v (gv_f g) p = gv_f g := by
          unfold sp_tF
          rw [hpl, if_neg (fun z => hF z.1)]
        refine hjk _ _ _ (pv_m' v (pv_m v + 1)) (pv_m v) (sp_in v) es (fun x => ?_) hin hout.2.2 hout.1 hout.2.1 h1 h2 h3 h4 h5 h6 rfl h8 h9 h10 h11 ?_
        · rw [Bool.eq_iff_iff, sp_in_fin (show pv_m v < pv_m v + 1 by omega)]
          simp only [Bool.or_eq_true, decide_eq_true_eq, sp_in_iff]
          show (p = x ∨ ∃ i, i < pv_m v + 1 ∧ i ≠ pv_m v ∧ pv_bt v i = x) ↔ _
          constructor
          · rintro (e | ⟨i, hi, hne, e⟩)
            · exact Or.inl e.symm
            · exact Or.inr ⟨i, by omega, e⟩
          · rintro (e | ⟨i, hi, e⟩)
            · exact Or.inl e.symm
            · exact Or.inr ⟨i, by omega, by omega, e⟩
        · rw [ef]
          exact hG
end PMA2
