/-- pages against the log's numbers -/
def iPG (v : VP) (b n f : Nat) : Prop := iP v ∧ (∀ p, p < 8 → pv_ls v p ≤ b + n) ∧ (∀ p, p < 8 → pv_dls v p ≤ f) ∧ b ≤ f ∧ f ≤ b + n
section INV1
variable {v w : VP} {b n f p q : Nat}
theorem sh_cases {bt : Nat → Nat} {m i : Nat} (hq : q < m) (hi : i < m) : (i = 0 ∧ sp_sh bt q p i = p) ∨ (0 < i ∧ ∃ j, j < m ∧ j ≠ q ∧ sp_sh bt q p i = bt j ∧ ((i ≤ q ∧ j + 1 = i) ∨ (q < i ∧ j = i))) := by
  unfold sp_sh
  by_cases h0 : i = 0
  · rw [if_pos h0]
    exact Or.inl ⟨h0, rfl⟩
  · rw [if_neg h0]
    by_cases h1 : i ≤ q
    · rw [if_pos h1]
      exact Or.inr ⟨by omega, i - 1, by omega, by omega, rfl, Or.inl ⟨h1, by omega⟩⟩
    · rw [if_neg h1]
      exact Or.inr ⟨by omega, i, hi, by omega, rfl, Or.inr ⟨by omega, rfl⟩⟩
theorem iP_fin (hF1 : 1 ≤ pv_F w) (hF2 : pv_F w ≤ 8) (hm : pv_m w ≤ pv_F w) (hq : q < pv_m w) (hp : p < 8) (h1 : ∀ i, i < pv_m w → i ≠ q → pv_bt w i < 8 ∧ pv_bt w i ≠ p) (h2 : ∀ i j, i < pv_m w → j < pv_m w → i ≠ q → j ≠ q → pv_bt w i = pv_bt w j → i = j)
    (h3 : ∀ x, x < 8 → (x ≠ p → (∀ i, i < pv_m w → i ≠ q → pv_bt w i ≠ x) → pv_dy w x = false) ∧ (pv_dy w x = false → pv_ls w x = pv_dls w x ∧ ∀ k, k / 4 = x → pv_th w k = pv_dth w k ∧ pv_va w k = pv_dva w k))
    (h4 : ∀ k, k < 32 → pv_th w k = false → pv_va w k = 0) (h5 : ∀ k, k < 32 → pv_dth w k = false → pv_dva w k = 0)
    (h6 : ∀ i j, i < j → j < pv_m w → i ≠ q → j ≠ q → pv_tt v (pv_bt w j) < pv_tt v (pv_bt w i)) (h7 : ∀ i, i < pv_m w → i ≠ q → pv_tt v (pv_bt w i) ≤ pv_tk v) : iP (sp_fin v w q p) := by
  refine ⟨hF1, hF2, hm, fun i hi => ?_, fun i j hi hj e => ?_, fun x hx => ⟨fun hout => ?_, (h3 x hx).2⟩, h4, h5, fun i j hij hj => ?_, fun i hi => ?_⟩
  · show sp_sh (pv_bt w) q p i < 8
    rcases sh_cases (p := p) (bt := pv_bt w) hq hi with ⟨-, e⟩ | ⟨-, j, j1, j2, e, -⟩
    · rw [e]
      exact hp
    · rw [e]
      exact (h1 j j1 j2).1
  · have e : sp_sh (pv_bt w) q p i = sp_sh (pv_bt w) q p j := e
    rcases sh_cases (p := p) (bt := pv_bt w) hq hi with ⟨i0, e1⟩ | ⟨i0, a, a1, a2, e1, a3⟩
    · rcases sh_cases (p := p) (bt := pv_bt w) hq hj with ⟨j0, e2⟩ | ⟨j0, c, c1, c2, e2, c3⟩
      · omega
      · rw [e1, e2] at e
        exact absurd e.symm (h1 c c1 c2).2
    · rcases sh_cases (p := p) (bt := pv_bt w) hq hj with ⟨j0, e2⟩ | ⟨j0, c, c1, c2, e2, c3⟩
      · rw [e1, e2] at e
        exact absurd e (h1 a a1 a2).2
      · rw [e1, e2] at e
        have := h2 a c a1 c1 a2 c2 e
        omega
  · have hxp : x ≠ p := by
      intro z
      refine hout 0 (show 0 < pv_m w by omega) ?_
      show sp_sh (pv_bt w) q p 0 = x
      unfold sp_sh
      rw [if_pos rfl, z]
    refine (h3 x hx).1 hxp (fun i hi hiq z => ?_)
    by_cases hlt : i < q
    · refine hout (i + 1) (show i + 1 < pv_m w by omega) ?_
      show sp_sh (pv_bt w) q p (i + 1) = x
      unfold sp_sh
      rw [if_neg (by omega), if_pos (by omega)]
      exact z
    · refine hout i hi ?_
      show sp_sh (pv_bt w) q p i = x
      unfold sp_sh
      rw [if_neg (by omega), if_neg (by omega)]
      exact z
  · show updN (pv_tt v) p (pv_tk v + 1) (sp_sh (pv_bt w) q p j) < updN (pv_tt v) p (pv_tk v + 1) (sp_sh (pv_bt w) q p i)
    have hj : j < pv_m w := hj
    rcases sh_cases (p := p) (bt := pv_bt w) hq hj with ⟨j0, e2⟩ | ⟨j0, c, c1, c2, e2, c3⟩
    · omega
    · rw [e2, updN_ne _ _ (h1 c c1 c2).2]
      rcases sh_cases (p := p) (bt := pv_bt w) hq (show i < pv_m w by omega) with ⟨i0, e1⟩ | ⟨i0, a, a1, a2, e1, a3⟩
      · rw [e1, updN_same]
        have := h7 c c1 c2
        omega
      · rw [e1, updN_ne _ _ (h1 a a1 a2).2]
        exact h6 a c (by omega) c1 a2 c2
  · show updN (pv_tt v) p (pv_tk v + 1) (sp_sh (pv_bt w) q p i) ≤ pv_tk v + 1
    rcases sh_cases (p := p) (bt := pv_bt w) hq hi with ⟨-, e⟩ | ⟨-, j, j1, j2, e, -⟩
    · rw [e, updN_same]
      omega
    · rw [e, updN_ne _ _ (h1 j j1 j2).2]
      have := h7 j j1 j2
      omega
theorem iP_wr (hi : iP v) {o : Nat} (ho : o < 8) (hin : sp_in v o = true) : iP (sp_wrP v o) := by
  obtain ⟨i1, i2, i3, i4, i5, i6, i7, i8, i9, i10⟩ := hi
  refine ⟨i1, i2, i3, i4, i5, fun x hx => ⟨fun hout => ?_, fun hd => ?_⟩, i7, fun k hk hd => ?_, i9, i10⟩
  · show updN (pv_dy v) o false x = false
    by_cases e : x = o
    · rw [e, updN_same]
    · rw [updN_ne _ _ e]
      exact (i6 x hx).1 hout
  · show pv_ls v x = updN (pv_dls v) o (pv_ls v o) x ∧ ∀ k, k / 4 = x → pv_th v k = (if k / 4 = o then pv_th v k else pv_dth v k) ∧ pv_va v k = (if k / 4 = o then pv_va v k else pv_dva v k)
    by_cases e : x = o
    · rw [e, updN_same]
      refine ⟨rfl, fun k hk => ?_⟩
      rw [if_pos hk, if_pos hk]
      exact ⟨rfl, rfl⟩
    · rw [updN_ne _ _ e]
      have hd : updN (pv_dy v) o false x = false := hd
      rw [updN_ne _ _ e] at hd
      obtain ⟨a1, a2⟩ := (i6 x hx).2 hd
      refine ⟨a1, fun k hk => ?_⟩
      rw [if_neg (by omega), if_neg (by omega)]
      exact a2 k hk
  · have hd : (if k / 4 = o then pv_th v k else pv_dth v k) = false := hd
    show (if k / 4 = o then pv_va v k else pv_dva v k) = 0
    by_cases z : k / 4 = o
    · rw [if_pos z] at hd ⊢
      exact i7 k hk hd
    · rw [if_neg z] at hd ⊢
      exact i8 k hk hd
theorem iPG.wr (h : iPG v b n f) {o : Nat} (ho : o < 8) (hin : sp_in v o = true) : iPG (sp_wrP v o) b n (sp_wrF v f o) ∧ f ≤ sp_wrF v f o := by
  obtain ⟨hi, h1, h2, h3, h4⟩ := h
  have l1 := h1 o ho
  have hf : f ≤ sp_wrF v f o ∧ pv_ls v o ≤ sp_wrF v f o ∧ sp_wrF v f o ≤ b + n := by
    unfold sp_wrF
    split <;> omega
  refine ⟨⟨iP_wr hi ho hin, h1, fun x hx => ?_, by omega, hf.2.2⟩, hf.1⟩
  show updN (pv_dls v) o (pv_ls v o) x ≤ _
  by_cases e : x = o
  · rw [e, updN_same]
    exact hf.2.1
  · rw [updN_ne _ _ e]
    have := h2 x hx
    omega
theorem pl_le : sp_pl v p ≤ pv_m v := by
  have := (ff_spec (fun i => pv_bt v i == p) (pv_m v) 0).2.1
  show ff (fun i => pv_bt v i == p) (pv_m v) 0 ≤ pv_m v
  omega
theorem pl_not {i : Nat} (h : i < sp_pl v p) : pv_bt v i ≠ p := by
  have := (ff_spec (fun i => pv_bt v i == p) (pv_m v) 0).2.2.1 i (by omega) h
  simpa using this
theorem pl_at (h : sp_pl v p < pv_m v) : pv_bt v (sp_pl v p) = p := by
  have := (ff_spec (fun i => pv_bt v i == p) (pv_m v) 0).2.2.2 (by have h : ff (fun i => pv_bt v i == p) (pv_m v) 0 < pv_m v := h; omega)
  show pv_bt v (ff (fun i => pv_bt v i == p) (pv_m v) 0) = p
  simpa using this
theorem iPG.touch (h : iPG v b n f) (hp : p < 8) : iPG (sp_tP v p) b n (sp_tF v f p) ∧ f ≤ sp_tF v f p := by
  have hi := h.1
  obtain ⟨i1, i2, i3, i4, i5, i6, i7, i8, i9, i10⟩ := h.1
  have hpl := pl_le (v := v) (p := p)
  unfold sp_tP sp_tF
  by_cases hF : sp_pl v p = pv_F v
  · rw [if_pos hF]
    have hmF : pv_m v = pv_F v := by omega
    have hall : ∀ i, i < pv_m v → pv_bt v i ≠ p := fun i hi => pl_not (by omega)
    obtain ⟨o, ho⟩ : ∃ o, o = pv_bt v (pv_F v - 1) := ⟨_, rfl⟩
    have ho8 : o < 8 := by
      rw [ho]
      exact i4 _ (by omega)
    have hoin : sp_in v o = true := sp_in_iff.mpr ⟨_, by omega, ho.symm⟩
    rw [← ho]
    have core : ∀ w : VP, iP w → pv_F w = pv_F v → pv_m w = pv_m v → pv_bt w = pv_bt v → pv_tt w = pv_tt v → pv_dy w o = false → iP (sp_fin v w (pv_F v - 1) p) := by
      intro w hw eF em eb et d1
      obtain ⟨w1, w2, w3, w4, w5, w6, w7, w8, w9, w10⟩ := hw
      refine iP_fin w1 w2 w3 (by omega) hp (fun i hi _ => ⟨w4 i hi, by rw [eb]; exact hall i (by omega)⟩) (fun i j hi hj _ _ e => w5 i j hi hj e) (fun x hx => ⟨fun hxp hout => ?_, (w6 x hx).2⟩) w7 w8 (fun i j hij hj _ _ => ?_) (fun i hi _ => ?_)
      · by_cases e : x = o
        · rw [e]
          exact d1
        · refine (w6 x hx).1 (fun i hi z => ?_)
          by_cases hiq : i = pv_F v - 1
          · rw [hiq, eb, ← ho] at z
            exact e z.symm
          · exact hout i hi hiq z
      · rw [eb]
        exact i9 i j hij (by omega)
      · rw [eb]
        exact i10 i (by omega)
    by_cases hd : pv_dy v o = true
    · have hw := h.wr ho8 hoin
      rw [if_pos hd, if_pos ⟨hF, hd⟩]
      refine ⟨⟨core _ hw.1.1 rfl rfl rfl rfl ?_, hw.1.2.1, hw.1.2.2⟩, hw.2⟩
      show updN (pv_dy v) o false o = false
      rw [updN_same]
    · rw [if_neg hd, if_neg (fun z => hd z.2)]
      exact ⟨⟨core v hi rfl rfl rfl rfl (by simpa using hd), h.2⟩, Nat.le_refl _⟩
  · rw [if_neg hF, if_neg (fun z : sp_pl v p = pv_F v ∧ pv_dy v (pv_bt v (pv_F v - 1)) = true => hF z.1)]
    by_cases hm : sp_pl v p = pv_m v
    · rw [if_pos hm]
      have hall : ∀ i, i < pv_m v → pv_bt v i ≠ p := fun i hi => pl_not (by omega)
      refine ⟨⟨iP_fin i1 i2 (show pv_m v + 1 ≤ pv_F v by omega) (show pv_m v < pv_m v + 1 by omega) hp (fun i hi hiq => ?_) (fun i j hi hj hi2 hj2 e => ?_) (fun x hx => ⟨fun hxp hout => ?_, (i6 x hx).2⟩) i7 i8 (fun i j hij hj _ hj2 => ?_) (fun i hi hi2 => ?_), h.2.1, h.2.2⟩, Nat.le_refl _⟩
      · have hi : i < pv_m v + 1 := hi
        exact ⟨i4 i (by omega), hall i (by omega)⟩
      · have hi : i < pv_m v + 1 := hi
        have hj : j < pv_m v + 1 := hj
        exact i5 i j (by omega) (by omega) e
      · refine (i6 x hx).1 (fun i hi z => ?_)
        exact hout i (show i < pv_m v + 1 by omega) (by omega) z
      · have hj : j < pv_m v + 1 := hj
        exact i9 i j hij (by omega)
      · have hi : i < pv_m v + 1 := hi
        exact i10 i (by omega)
    · rw [if_neg hm]
      have hlt : sp_pl v p < pv_m v := by omega
      have hat := pl_at hlt
      refine ⟨⟨iP_fin i1 i2 i3 hlt hp (fun i hi hiq => ⟨i4 i hi, fun z => hiq (i5 i _ hi hlt (by rw [z, hat]))⟩) (fun i j hi hj _ _ e => i5 i j hi hj e) (fun x hx => ⟨fun hxp hout => ?_, (i6 x hx).2⟩) i7 i8 (fun i j hij hj _ _ => i9 i j hij hj) (fun i hi _ => i10 i hi), h.2.1, h.2.2⟩, Nat.le_refl _⟩
      refine (i6 x hx).1 (fun i hi z => ?_)
      by_cases hiq : i = sp_pl v p
      · rw [hiq, hat] at z
        exact hxp z.symm
      · exact hout i hi hiq z
theorem iPG.up (h : iPG v b n f) {n' : Nat} (hn : n ≤ n') : iPG v b n' f := by
  obtain ⟨h1, h2, h3, h4, h5⟩ := h
  exact ⟨h1, fun p hp => Nat.le_trans (h2 p hp) (by omega), h3, h4, by omega⟩
theorem iPG.fl (h : iPG v b n f) {f' : Nat} (h1 : f ≤ f') (h2 : f' ≤ b + n) : iPG v b n f' := by
  obtain ⟨g1, g2, g3, g4, g5⟩ := h
  exact ⟨g1, g2, fun p hp => Nat.le_trans (g3 p hp) h1, by omega, h2⟩
theorem iPG.ch (h : iPG v b n f) {k l : Nat} {now : Bool} {x : Int32} (hk : k < 32) (hl : l ≤ b + n) (hin : sp_in v (k / 4) = true) (hx : now = false → x = 0) : iPG (sp_ch v k now x l) b n f := by
  obtain ⟨⟨i1, i2, i3, i4, i5, i6, i7, i8, i9, i10⟩, h2, h3, h4, h5⟩ := h
  refine ⟨⟨i1, i2, i3, i4, i5, fun y hy => ⟨fun hout => ?_, fun hd => ?_⟩, fun y hy hd => ?_, i8, i9, i10⟩, fun y hy => ?_, h3, h4, h5⟩
  · show updN (pv_dy v) (k / 4) true y = false
    by_cases e : y = k / 4
    · obtain ⟨i, hi, z⟩ := sp_in_iff.mp hin
      exact absurd (z.trans e.symm) (hout i hi)
    · rw [updN_ne _ _ e]
      exact (i6 y hy).1 hout
  · have hd : updN (pv_dy v) (k / 4) true y = false := hd
    by_cases e : y = k / 4
    · rw [e, updN_same] at hd
      cases hd
    · rw [updN_ne _ _ e] at hd
      obtain ⟨a1, a2⟩ := (i6 y hy).2 hd
      refine ⟨?_, fun z hz => ?_⟩
      · show updN (pv_ls v) (k / 4) l y = pv_dls v y
        rw [updN_ne _ _ e]
        exact a1
      · show updN (pv_th v) k now z = pv_dth v z ∧ updN (pv_va v) k x z = pv_dva v z
        have hzk : z ≠ k := by
          intro q
          rw [q] at hz
          exact e hz.symm
        rw [updN_ne _ _ hzk, updN_ne _ _ hzk]
        exact a2 z hz
  · have hd : updN (pv_th v) k now y = false := hd
    show updN (pv_va v) k x y = 0
    by_cases e : y = k
    · rw [e, updN_same] at hd ⊢
      exact hx hd
    · rw [updN_ne _ _ e] at hd ⊢
      exact i7 y hy hd
  · show updN (pv_ls v) (k / 4) l y ≤ b + n
    by_cases e : y = k / 4
    · rw [e, updN_same]
      exact hl
    · rw [updN_ne _ _ e]
      exact h2 y hy
theorem iPG.lose (h : iPG v b n f) {n' f' : Nat} (hf : f ≤ f') (h1 : b ≤ f') (h2 : f' ≤ b + n') : iPG (sp_lose v) b n' f' := by
  obtain ⟨⟨i1, i2, i3, i4, i5, i6, i7, i8, i9, i10⟩, g2, g3, g4, g5⟩ := h
  refine ⟨⟨i1, i2, Nat.zero_le _, fun i hi => absurd hi (Nat.not_lt_zero _), fun i j hi => absurd hi (Nat.not_lt_zero _), fun x hx => ⟨fun _ => rfl, fun _ => ⟨rfl, fun k _ => ⟨rfl, rfl⟩⟩⟩, i8, i8, fun i j _ hj => absurd hj (Nat.not_lt_zero _), fun i hi => absurd hi (Nat.not_lt_zero _)⟩, fun p hp => ?_, fun p hp => Nat.le_trans (g3 p hp) hf, h1, h2⟩
  show pv_dls v p ≤ b + n'
  have := g3 p hp
  omega
end INV1
