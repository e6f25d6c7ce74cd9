/-- all that holds between calls: pages, log, transactions, locks -/
def iX (g : VG) (tv : VT) : Prop :=
  (∀ r, r < gv_n g → gv_kd g r = 2 → ∀ a, tv_lin tv (gv_by g r) a = true → tv_bg tv a < gv_b g + r + 1) ∧
  (∀ t, sp_liv tv t = true → tv_bg tv t ≤ gv_b g + gv_n g) ∧
  (∀ t a, sp_liv tv t = true → tv_lin tv t a = true → sp_liv tv a = true) ∧
  (∀ r, r < gv_n g → gv_kd g r = 2 → tv_st tv (tv_top tv (gv_by g r)) = 3 → ∃ x, x < gv_n g ∧ gv_kd g x = 4 ∧ gv_by g x = tv_top tv (gv_by g r) ∧ gv_b g + x + 1 ≤ gv_f g) ∧
  (∀ r, r < gv_n g → gv_kd g r = 4 → tv_par tv (gv_by g r) = none → tv_st tv (gv_by g r) = 3) ∧
  (∀ r, r < gv_n g → gv_kd g r = 2 → tv_st tv (tv_top tv (gv_by g r)) = 4 → sp_ud g r = true)
def iRm (g : VG) (tv : VT) : Prop := gv_n g + sp_opens g tv + sp_lives tv ≤ 300
def iV (v : VP) (g : VG) (tv : VT) (L : VK) : Prop := iPG v (gv_b g) (gv_n g) (gv_f g) ∧ iG g (tv_c tv) ∧ iT tv ∧ iK tv L ∧ iX g tv ∧ iRm g tv
section INV2
variable {v : VP} {g : VG} {tv : VT} {L : VK} {c : Nat}
theorem iG.ou (h : iG g c) : ∀ x, x < gv_n g → gv_kd g x = 3 → gv_ou g x < x := fun x hx hk => (h.2.2.2.2.2.2.1 x hx hk).1
theorem iG.key (h : iG g c) {u : Nat} (hu : u < gv_n g) (hk : gv_kd g u = 2 ∨ gv_kd g u = 3) : sp_key g u < 32 ∧ gv_ab g u = jI (sp_key g u) := by
  obtain ⟨k, h1, h2⟩ := h.2.2.2.2.2.1 u hu hk
  unfold sp_key
  rw [h2, jI_tn (by omega)]
  exact ⟨h1, rfl⟩
theorem opn_kd {r : Nat} (h : sp_opn g tv r = true) : gv_kd g r = 2 ∧ sp_ud g r = false ∧ sp_liv tv (tv_top tv (gv_by g r)) = true := by
  unfold sp_opn at h
  simp at h
  exact ⟨h.1.1, h.1.2, h.2⟩
theorem liv_lt {t : Nat} (h : sp_liv tv t = true) : t < tv_c tv := by
  unfold sp_liv at h
  simp at h
  exact h.1
theorem liv_st {t : Nat} (h : sp_liv tv t = true) : tv_st tv t = 1 ∨ tv_st tv t = 2 := by
  unfold sp_liv at h
  simp at h
  exact h.2
theorem liv_of {t : Nat} (ht : t < tv_c tv) (h : tv_st tv t = 1 ∨ tv_st tv t = 2) : sp_liv tv t = true := by
  unfold sp_liv
  simp [ht, h]
theorem act_liv {t : Nat} (h : sp_act tv t = true) : sp_liv tv t = true := by
  unfold sp_act at h
  simp at h
  exact liv_of h.1 (Or.inl h.2)
theorem wai_liv {t : Nat} (h : sp_wai tv t = true) : sp_liv tv t = true := by
  unfold sp_wai at h
  simp at h
  exact liv_of h.1 (Or.inr h.2)
theorem iT.lin_top (h : iT tv) : ∀ t, t < tv_c tv → tv_lin tv t (tv_top tv t) = true := by
  intro t
  induction t using Nat.strongRecOn with
  | ind t ih =>
    intro ht
    obtain ⟨-, -, -, -, h1, h2⟩ := h.2.1 t ht
    cases hp : tv_par tv t with
    | none =>
      rw [(h1 hp).1, (h1 hp).2.2]
      simp
    | some p =>
      obtain ⟨g1, g2, -, g4⟩ := h2 p hp
      rw [g2, g4, ih p g1 (by omega), Bool.or_true]
theorem iT.par_lt (h : iT tv) {t p : Nat} (ht : t < tv_c tv) (hp : tv_par tv t = some p) : p < t := ((h.2.1 t ht).2.2.2.2.2 p hp).1
/-- the lineage of one in a lineage -/
theorem iT.lin_tr (h : iT tv) : ∀ t, t < tv_c tv → ∀ a, tv_lin tv t a = true → ∀ x, tv_lin tv a x = true → tv_lin tv t x = true := by
  intro t
  induction t using Nat.strongRecOn with
  | ind t ih =>
    intro ht a ha x hx
    obtain ⟨-, -, -, -, h1, h2⟩ := h.2.1 t ht
    cases hp : tv_par tv t with
    | none =>
      rw [(h1 hp).2.2 a] at ha
      have : t = a := by simpa using ha
      rw [this]
      exact hx
    | some p =>
      obtain ⟨g1, -, -, g4⟩ := h2 p hp
      rw [g4 a] at ha
      simp at ha
      rcases ha with ha | ha
      · rw [ha]
        exact hx
      · rw [g4 x, ih p g1 (by omega) a ha x hx, Bool.or_true]
theorem iT.top_lin (h : iT tv) : ∀ t, t < tv_c tv → ∀ a, tv_lin tv t a = true → tv_top tv a = tv_top tv t := by
  intro t
  induction t using Nat.strongRecOn with
  | ind t ih =>
    intro ht a ha
    obtain ⟨-, -, -, -, h1, h2⟩ := h.2.1 t ht
    cases hp : tv_par tv t with
    | none =>
      rw [(h1 hp).2.2 a] at ha
      have : t = a := by simpa using ha
      rw [this]
    | some p =>
      obtain ⟨g1, g2, -, g4⟩ := h2 p hp
      rw [g4 a] at ha
      simp at ha
      rcases ha with ha | ha
      · rw [ha]
      · rw [g2]
        exact ih p g1 (by omega) a ha
/-- the rows of an appended log -/
theorem app_kd {k : Int32} {t : Nat} {a : Int32} {r : Nat} (h : r < gv_n g) : gv_kd (sp_app g k t a) r = gv_kd g r := updN_ne _ _ (by omega)
theorem app_by {k : Int32} {t : Nat} {a : Int32} {r : Nat} (h : r < gv_n g) : gv_by (sp_app g k t a) r = gv_by g r := updN_ne _ _ (by omega)
theorem app_ou {k : Int32} {t : Nat} {a : Int32} {r : Nat} (h : r < gv_n g) : gv_ou (sp_app g k t a) r = gv_ou g r := updN_ne _ _ (by omega)
/-- a record of kind 1, 2, 4 or 5 -/
theorem iG.app (h : iG g c) {k : Int32} {t : Nat} {a : Int32} (hn : gv_n g < 300) (ht : t < c) (hk : ¬ k = 3) (ha : k = 2 → ∃ x, x < 32 ∧ a = jI x) : iG (sp_app g k t a) c := by
  obtain ⟨i1, i2, i3, i4, i5, i6, i7, i8, i9, i10⟩ := h
  have ne : ∀ {r : Nat}, r < gv_n g + 1 → ¬ r = gv_n g → r < gv_n g := fun h1 h2 => by omega
  refine ⟨show gv_n g + 1 ≤ 300 by omega, i2, show gv_f g ≤ gv_b g + (gv_n g + 1) by omega, i4, fun r hr => ?_, fun r hr hkr => ?_, fun r hr hkr => ?_, fun x y hx hy hkx hky e => ?_, fun r hr hw => ?_, fun r hr hw => ?_⟩
  · show updN (gv_by g) (gv_n g) t r < c
    by_cases e : r = gv_n g
    · rw [e, updN_same]
      exact ht
    · rw [updN_ne _ _ e]
      exact i5 r (ne hr e)
  · have hkr : updN (gv_kd g) (gv_n g) k r = 2 ∨ updN (gv_kd g) (gv_n g) k r = 3 := hkr
    show ∃ x, x < 32 ∧ updN (gv_ab g) (gv_n g) a r = jI x
    by_cases e : r = gv_n g
    · rw [e, updN_same] at hkr
      rw [e, updN_same]
      rcases hkr with z | z
      · exact ha z
      · exact absurd z hk
    · rw [updN_ne _ _ e] at hkr ⊢
      exact i6 r (ne hr e) hkr
  · have hkr : updN (gv_kd g) (gv_n g) k r = 3 := hkr
    by_cases e : r = gv_n g
    · rw [e, updN_same] at hkr
      exact absurd hkr hk
    · rw [updN_ne _ _ e] at hkr
      obtain ⟨o1, o2, o3⟩ := i7 r (ne hr e) hkr
      show updN (gv_ou g) (gv_n g) (gv_n g + 1) r < r ∧ updN (gv_kd g) (gv_n g) k (updN (gv_ou g) (gv_n g) (gv_n g + 1) r) = 2 ∧ updN (gv_of g) (gv_n g) 0 r = jI (gv_b g + updN (gv_ou g) (gv_n g) (gv_n g + 1) r + 1)
      have hr : r < gv_n g + 1 := hr
      rw [updN_ne _ _ e, updN_ne _ _ (show gv_ou g r ≠ gv_n g by omega), updN_ne _ _ e]
      exact ⟨o1, o2, o3⟩
  · have hkx : updN (gv_kd g) (gv_n g) k x = 3 := hkx
    have hky : updN (gv_kd g) (gv_n g) k y = 3 := hky
    have e : updN (gv_ou g) (gv_n g) (gv_n g + 1) x = updN (gv_ou g) (gv_n g) (gv_n g + 1) y := e
    by_cases ex : x = gv_n g
    · rw [ex, updN_same] at hkx
      exact absurd hkx hk
    · by_cases ey : y = gv_n g
      · rw [ey, updN_same] at hky
        exact absurd hky hk
      · rw [updN_ne _ _ ex] at hkx e
        rw [updN_ne _ _ ey] at hky e
        exact i8 x y (ne hx ex) (ne hy ey) hkx hky e
  · have hw : updN (gv_wt g) (gv_n g) false r = false := hw
    show updN (gv_wv g) (gv_n g) 0 r = 0
    by_cases e : r = gv_n g
    · rw [e, updN_same]
    · rw [updN_ne _ _ e] at hw ⊢
      exact i9 r (ne hr e) hw
  · have hw : updN (gv_it g) (gv_n g) false r = false := hw
    show updN (gv_iv g) (gv_n g) 0 r = 0
    by_cases e : r = gv_n g
    · rw [e, updN_same]
    · rw [updN_ne _ _ e] at hw ⊢
      exact i10 r (ne hr e) hw
theorem iG.bef (h : iG g c) {r : Nat} {b : Bool} {x : Int32} (hx : b = false → x = 0) : iG (sp_bef g r b x) c := by
  obtain ⟨i1, i2, i3, i4, i5, i6, i7, i8, i9, i10⟩ := h
  refine ⟨i1, i2, i3, i4, i5, i6, i7, i8, fun y hy hw => ?_, i10⟩
  have hw : updN (gv_wt g) r b y = false := hw
  show updN (gv_wv g) r x y = 0
  by_cases e : y = r
  · rw [e, updN_same] at hw ⊢
    exact hx hw
  · rw [updN_ne _ _ e] at hw ⊢
    exact i9 y hy hw
theorem iG.aft (h : iG g c) {r : Nat} {b : Bool} {x : Int32} (hx : b = false → x = 0) : iG (sp_aft g r b x) c := by
  obtain ⟨i1, i2, i3, i4, i5, i6, i7, i8, i9, i10⟩ := h
  refine ⟨i1, i2, i3, i4, i5, i6, i7, i8, i9, fun y hy hw => ?_⟩
  have hw : updN (gv_it g) r b y = false := hw
  show updN (gv_iv g) r x y = 0
  by_cases e : y = r
  · rw [e, updN_same] at hw ⊢
    exact hx hw
  · rw [updN_ne _ _ e] at hw ⊢
    exact i10 y hy hw
theorem iG.fl (h : iG g c) {f : Nat} (h1 : gv_b g ≤ f) (h2 : f ≤ gv_b g + gv_n g) : iG (gv_f' g f) c := by
  obtain ⟨i1, i2, i3, i4, i5⟩ := h
  exact ⟨i1, h1, h2, i4, i5⟩
/-- an undo's record -/
theorem iG.und (h : iG g c) {u t f : Nat} (hn : gv_n g < 300) (ht : t < c) (hu : u < gv_n g) (hk : gv_kd g u = 2) (hud : sp_ud g u = false) (h1 : gv_b g ≤ f) (h2 : f ≤ gv_b g + gv_n g + 1) : iG (gv_f' (sp_mark (sp_aft (sp_app g 3 t (gv_ab g u)) (gv_n g) (gv_wt g u) (gv_wv g u)) (gv_n g) u) f) c := by
  obtain ⟨i1, i2, i3, i4, i5, i6, i7, i8, i9, i10⟩ := h
  have ne : ∀ {r : Nat}, r < gv_n g + 1 → ¬ r = gv_n g → r < gv_n g := fun h1 h2 => by omega
  refine ⟨show gv_n g + 1 ≤ 300 by omega, h1, show f ≤ gv_b g + (gv_n g + 1) by omega, i4, fun r hr => ?_, fun r hr hkr => ?_, fun r hr hkr => ?_, fun x y hx hy hkx hky e => ?_, fun r hr hw => ?_, fun r hr hw => ?_⟩
  · show updN (gv_by g) (gv_n g) t r < c
    by_cases e : r = gv_n g
    · rw [e, updN_same]
      exact ht
    · rw [updN_ne _ _ e]
      exact i5 r (ne hr e)
  · have hkr : updN (gv_kd g) (gv_n g) 3 r = 2 ∨ updN (gv_kd g) (gv_n g) 3 r = 3 := hkr
    show ∃ x, x < 32 ∧ updN (gv_ab g) (gv_n g) (gv_ab g u) r = jI x
    by_cases e : r = gv_n g
    · rw [e, updN_same]
      exact i6 u hu (Or.inl hk)
    · rw [updN_ne _ _ e] at hkr ⊢
      exact i6 r (ne hr e) hkr
  · have hkr : updN (gv_kd g) (gv_n g) 3 r = 3 := hkr
    show updN (updN (gv_ou g) (gv_n g) (gv_n g + 1)) (gv_n g) u r < r ∧ updN (gv_kd g) (gv_n g) 3 (updN (updN (gv_ou g) (gv_n g) (gv_n g + 1)) (gv_n g) u r) = 2 ∧ updN (updN (gv_of g) (gv_n g) 0) (gv_n g) (jI (gv_b g + u + 1)) r = jI (gv_b g + updN (updN (gv_ou g) (gv_n g) (gv_n g + 1)) (gv_n g) u r + 1)
    by_cases e : r = gv_n g
    · rw [e, updN_same, updN_ne _ _ (show u ≠ gv_n g by omega), updN_same]
      exact ⟨hu, hk, rfl⟩
    · rw [updN_ne _ _ e] at hkr
      obtain ⟨o1, o2, o3⟩ := i7 r (ne hr e) hkr
      have hr : r < gv_n g + 1 := hr
      rw [updN_ne _ _ e, updN_ne _ _ e, updN_ne _ _ (show gv_ou g r ≠ gv_n g by omega), updN_ne _ _ e, updN_ne _ _ e]
      exact ⟨o1, o2, o3⟩
  · have hkx : updN (gv_kd g) (gv_n g) 3 x = 3 := hkx
    have hky : updN (gv_kd g) (gv_n g) 3 y = 3 := hky
    have e : updN (updN (gv_ou g) (gv_n g) (gv_n g + 1)) (gv_n g) u x = updN (updN (gv_ou g) (gv_n g) (gv_n g + 1)) (gv_n g) u y := e
    have no : ∀ z, z < gv_n g → gv_kd g z = 3 → ¬ gv_ou g z = u := by
      intro z hz hkz q
      have : sp_ud g u = true := bx_iff.mpr ⟨z, hz, by simp [hkz, q]⟩
      rw [hud] at this
      cases this
    by_cases ex : x = gv_n g
    · by_cases ey : y = gv_n g
      · omega
      · rw [ex, updN_same, updN_ne _ _ ey, updN_ne _ _ ey] at e
        rw [updN_ne _ _ ey] at hky
        exact absurd e.symm (no y (ne hy ey) hky)
    · by_cases ey : y = gv_n g
      · rw [ey, updN_same, updN_ne _ _ ex, updN_ne _ _ ex] at e
        rw [updN_ne _ _ ex] at hkx
        exact absurd e (no x (ne hx ex) hkx)
      · rw [updN_ne _ _ ex, updN_ne _ _ ex, updN_ne _ _ ey, updN_ne _ _ ey] at e
        rw [updN_ne _ _ ex] at hkx
        rw [updN_ne _ _ ey] at hky
        exact i8 x y (ne hx ex) (ne hy ey) hkx hky e
  · have hw : updN (gv_wt g) (gv_n g) false r = false := hw
    show updN (gv_wv g) (gv_n g) 0 r = 0
    by_cases e : r = gv_n g
    · rw [e, updN_same]
    · rw [updN_ne _ _ e] at hw ⊢
      exact i9 r (ne hr e) hw
  · have hw : updN (updN (gv_it g) (gv_n g) false) (gv_n g) (gv_wt g u) r = false := hw
    show updN (updN (gv_iv g) (gv_n g) 0) (gv_n g) (gv_wv g u) r = 0
    by_cases e : r = gv_n g
    · rw [e, updN_same] at hw ⊢
      exact i9 u hu hw
    · rw [updN_ne _ _ e, updN_ne _ _ e] at hw ⊢
      exact i10 r (ne hr e) hw
end INV2
