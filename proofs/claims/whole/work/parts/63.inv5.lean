section INV5
variable {v : VP} {g : VG} {tv : VT} {L : VK} {t : Nat}
theorem opn_fl {f r : Nat} : sp_opn (gv_f' g f) tv r = sp_opn g tv r := rfl
theorem iX.fl (h : iX g tv) {f : Nat} (hf : gv_f g ≤ f) : iX (gv_f' g f) tv := h.ext ⟨rfl, Nat.le_refl _, hf, fun r _ => ⟨rfl, rfl⟩, fun r _ z => z, fun r h1 h2 => absurd h2 (Nat.not_lt.mpr h1)⟩
/-- pages and FLUSHED alone -/
theorem iV.pg (h : iV v g tv L) {v' : VP} {f : Nat} (hf : gv_f g ≤ f) (hP : iPG v' (gv_b g) (gv_n g) f) : iV v' (gv_f' g f) tv L := by
  obtain ⟨h1, h2, h3, h4, h5, h6⟩ := h
  exact ⟨hP, h2.fl (by have := h2.2.1; omega) hP.2.2.2.2, h3, h4, h5.fl hf, h6⟩
theorem iV.touch (h : iV v g tv L) {p : Nat} (hp : p < 8) : iV (sp_tP v p) (gv_f' g (sp_tF v (gv_f g) p)) tv L := by
  have := h.1.touch hp
  exact h.pg this.2 this.1
theorem iV.write (h : iV v g tv L) {p : Nat} (hp : p < 8) (hin : sp_in v p = true) : iV (sp_wrP v p) (gv_f' g (sp_wrF v (gv_f g) p)) tv L := by
  have := h.1.wr hp hin
  exact h.pg this.2 this.1
theorem bc_ext {n : Nat} {P Q : Nat → Bool} (h : ∀ k, k < n → P k = Q k) (hq : Q n = false) : bc (n + 1) Q = bc n P := by
  rw [bc, hq, bc_congr (fun k hk => (h k hk).symm)]
  rfl
theorem iV.upd {k : Nat} {now : Bool} {x : Int32} (h : iV v g tv L) (ht : sp_liv tv t = true) (hk : k < 32) (hx : now = false → x = 0) (hr : sp_room g tv = true) : iV (sp_updP v g k now x) (sp_updG v g t k now x) tv L ∧ gv_n g < 300 := by
  obtain ⟨hP, hG, hT, hK, hX, hR⟩ := h
  have hroom : gv_n g + sp_opens g tv + sp_lives tv + 2 ≤ 300 := by
    unfold sp_room at hr
    simpa using hr
  have hn : gv_n g < 300 := by omega
  have htc := liv_lt ht
  have ht1 := hP.touch (show k / 4 < 8 by omega)
  have htf := tF_le hP (show k / 4 < 8 by omega)
  obtain ⟨x1, x2, x3, x4, x5, x6⟩ := hX
  have ud : ∀ r, r < gv_n g → sp_ud (sp_updG v g t k now x) r = sp_ud g r := by
    intro r hr
    have : sp_ud (sp_app g 2 t (jI k)) r = sp_ud g r := by
      rw [sp_ud_app hG.ou (by omega), if_pos hr]
    exact this
  have kd : ∀ r, r < gv_n g → gv_kd (sp_updG v g t k now x) r = gv_kd g r := fun r hr => updN_ne _ _ (by omega)
  have by' : ∀ r, r < gv_n g → gv_by (sp_updG v g t k now x) r = gv_by g r := fun r hr => updN_ne _ _ (by omega)
  have kdn : gv_kd (sp_updG v g t k now x) (gv_n g) = 2 := updN_same _ _ _
  have byn : gv_by (sp_updG v g t k now x) (gv_n g) = t := updN_same _ _ _
  have htop : sp_liv tv (tv_top tv t) = true := x3 t _ ht (hT.lin_top t htc)
  have lt : ∀ {r : Nat}, r < gv_n g + 1 → ¬ r = gv_n g → r < gv_n g := fun h1 h2 => by omega
  refine ⟨⟨?_, ?_, hT, hK, ⟨fun r hr hkr a ha => ?_, fun u hu => ?_, x3, fun r hr hkr hs => ?_, fun r hr hkr hp => ?_, fun r hr hkr hs => ?_⟩, ?_⟩, hn⟩
  · have h2 := ht1.1.up (n' := gv_n g + 1) (by omega)
    exact h2.ch hk (by omega) (tP_in hP.1) hx
  · have hv7 := hP.1.2.2.2.2.2.2.1
    have a1 := hG.app (k := 2) (t := t) (a := jI k) hn htc (by decide) (fun _ => ⟨k, hk, rfl⟩)
    have a2 := (a1.bef (r := gv_n g) (b := pv_th v k) (x := pv_va v k) (hv7 k hk)).aft (r := gv_n g) (b := now) (x := x) hx
    exact a2.fl (show gv_b g ≤ _ by have := hG.2.1; omega) (show _ ≤ gv_b g + (gv_n g + 1) by omega)
  · by_cases e : r = gv_n g
    · rw [e, byn] at ha
      have := x2 a (x3 t a ht ha)
      show tv_bg tv a < gv_b g + r + 1
      omega
    · rw [kd r (lt hr e)] at hkr
      rw [by' r (lt hr e)] at ha
      exact x1 r (lt hr e) hkr a ha
  · have := x2 u hu
    show tv_bg tv u ≤ gv_b g + (gv_n g + 1)
    omega
  · by_cases e : r = gv_n g
    · rw [e, byn] at hs
      have := liv_st htop
      rw [hs] at this
      exact absurd this (by decide)
    · rw [kd r (lt hr e)] at hkr
      rw [by' r (lt hr e)] at hs
      obtain ⟨y, y1, y2, y3, y4⟩ := x4 r (lt hr e) hkr hs
      refine ⟨y, show y < gv_n g + 1 by omega, ?_, ?_, show gv_b g + y + 1 ≤ sp_tF v (gv_f g) (k / 4) by omega⟩
      · rw [kd y y1]
        exact y2
      · rw [by' y y1, by' r (lt hr e)]
        exact y3
  · by_cases e : r = gv_n g
    · rw [e, kdn] at hkr
      exact absurd hkr (by decide)
    · rw [kd r (lt hr e)] at hkr
      rw [by' r (lt hr e)] at hp ⊢
      exact x5 r (lt hr e) hkr hp
  · by_cases e : r = gv_n g
    · rw [e, byn] at hs
      have := liv_st htop
      rw [hs] at this
      exact absurd this (by decide)
    · rw [kd r (lt hr e)] at hkr
      rw [by' r (lt hr e)] at hs
      rw [ud r (lt hr e)]
      exact x6 r (lt hr e) hkr hs
  · have hop : sp_opens (sp_updG v g t k now x) tv ≤ sp_opens g tv + 1 := by
      show bc (gv_n g + 1) (sp_opn (sp_updG v g t k now x) tv) ≤ bc (gv_n g) (sp_opn g tv) + 1
      rw [bc, bc_congr (Q := sp_opn g tv) (fun r hr => by
        unfold sp_opn
        rw [kd r hr, by' r hr, ud r hr])]
      split <;> omega
    show gv_n g + 1 + sp_opens (sp_updG v g t k now x) tv + sp_lives tv ≤ 300
    omega
/-- t stays live: 1 or 2 -/
theorem liv_12 (ht : sp_liv tv t = true) {x : Int32} (hx : x = 1 ∨ x = 2) (u : Nat) : sp_liv (tv_st' tv (updN (tv_st tv) t x)) u = sp_liv tv u := by
  by_cases e : u = t
  · rw [e, ht]
    refine liv_of (show t < tv_c tv from liv_lt ht) ?_
    show updN (tv_st tv) t x t = 1 ∨ updN (tv_st tv) t x t = 2
    rw [updN_same]
    exact hx
  · unfold sp_liv
    show (decide (u < tv_c tv) && (decide (updN (tv_st tv) t x u = 1) || decide (updN (tv_st tv) t x u = 2))) = _
    rw [updN_ne _ _ e]
theorem iV.st12 (h : iV v g tv L) (ht : sp_liv tv t = true) {x : Int32} (hx : x = 1 ∨ x = 2) {L' : VK} (hL : ∀ u i, i < 33 → L' u i ≤ 2 ∧ (¬ u = t → L' u i = L u i)) : iV v g (tv_st' tv (updN (tv_st tv) t x)) L' := by
  obtain ⟨hP, hG, hT, hK, ⟨x1, x2, x3, x4, x5, x6⟩, hR⟩ := h
  have hl := liv_12 ht hx
  have hlf : sp_liv (tv_st' tv (updN (tv_st tv) t x)) = sp_liv tv := funext hl
  have st34 : ∀ u (y : Int32), y = 3 ∨ y = 4 → updN (tv_st tv) t x u = y → tv_st tv u = y := by
    intro u y hy hu
    by_cases e : u = t
    · rw [e, updN_same] at hu
      rw [hu] at hx
      rcases hx with z | z <;> rcases hy with w | w <;> rw [w] at z <;> exact absurd z (by decide)
    · rw [updN_ne _ _ e] at hu
      exact hu
  have hop : sp_opens g (tv_st' tv (updN (tv_st tv) t x)) = sp_opens g tv := by
    unfold sp_opens
    refine bc_congr (fun r _ => ?_)
    unfold sp_opn
    rw [hl]
  have hlv : sp_lives (tv_st' tv (updN (tv_st tv) t x)) = sp_lives tv := by
    unfold sp_lives
    rw [hlf]
  refine ⟨hP, hG, hT.stf (fun u hu => ?_), fun u i hi => ⟨(hL u i hi).1, fun hd => ?_⟩, ⟨x1, fun u hu => ?_, fun u a hu ha => ?_, fun r hr hk hs => ?_, fun r hr hk hp => ?_, fun r hr hk hs => ?_⟩, ?_⟩
  · by_cases e : u = t
    · rw [e, updN_same]
      rcases hx with z | z
      · exact Or.inl z
      · exact Or.inr (Or.inl z)
    · rw [updN_ne _ _ e]
      exact (hT.2.1 u hu).1
  · rw [hl] at hd
    rw [(hL u i hi).2 (fun e => by rw [e, ht] at hd; cases hd)]
    exact (hK u i hi).2 hd
  · rw [hl] at hu
    exact x2 u hu
  · rw [hl] at hu ⊢
    exact x3 u a hu ha
  · exact x4 r hr hk (st34 _ 3 (Or.inl rfl) hs)
  · have h3 := x5 r hr hk hp
    show updN (tv_st tv) t x (gv_by g r) = 3
    rw [updN_ne _ _ (fun e => by
      have := liv_st ht
      rw [← e, h3] at this
      revert this
      decide)]
    exact h3
  · exact x6 r hr hk (st34 _ 4 (Or.inr rfl) hs)
  · unfold iRm
    rw [hop, hlv]
    exact hR
theorem grs_other {m : Nat} {its : List Nat} : ∀ n u i, ¬ u = t → sp_grs L t m its n u i = L u i := by
  intro n
  induction n with
  | zero => exact fun u i _ => rfl
  | succ n ih =>
    intro u i hu
    show sp_gr (sp_grs L t m its n) t (its.getD n 0) m u i = L u i
    unfold sp_gr
    rw [if_neg (fun z => hu z.1)]
    exact ih u i hu
theorem iV.grs (h : iV v g tv L) (ht : sp_liv tv t = true) {x : Int32} (hx : x = 1 ∨ x = 2) {m n : Nat} {its : List Nat} (hm : m ≤ 2) : iV v g (tv_st' tv (updN (tv_st tv) t x)) (sp_grs L t m its n) := h.st12 ht hx (fun u i hi => ⟨sp_grs_le hm (fun u j hj => (h.2.2.2.1 u j hj).1) n u i hi, fun e => grs_other n u i e⟩)
theorem gl_lt : ∀ (n : Nat) (P : Nat → Bool) (x : Nat), gl n P = some x → x < n := by
  intro n
  induction n with
  | zero =>
    intro P x h
    cases h
  | succ n ih =>
    intro P x h
    unfold gl at h
    split at h
    · cases h
      omega
    · have := ih P x h
      omega
theorem vict_lt {x : Nat} (h : sp_vict v L tv t = some x) : x < tv_c tv ∧ sp_liv tv t = true := by
  unfold sp_vict at h
  split at h
  · rename_i q
    unfold sp_vic at h
    split at h
    · exact ⟨gl_lt _ _ _ h, q⟩
    · cases h
  · cases h
/-- the breaking of circles -/
noncomputable def sp_brk (t : Nat) : Nat → VP × VG × VT × VK → VP × VG × VT × VK
  | 0, s => s
  | k + 1, s => match sp_vict s.1 s.2.2.2 s.2.2.1 t with
    | none => s
    | some x => sp_brk t k ((sp_abort s.2.2.1 s.2.2.2 s.1 s.2.1 x).2.1, (sp_abort s.2.2.1 s.2.2.2 s.1 s.2.1 x).2.2.1, (sp_abort s.2.2.1 s.2.2.2 s.1 s.2.1 x).2.2.2.1, (sp_abort s.2.2.1 s.2.2.2 s.1 s.2.1 x).2.2.2.2)
theorem abort_tk {x : Nat} (h : iV v g tv L) (hx : x < tv_c tv) : pv_tk (sp_abort tv L v g x).2.1 + gv_n g ≤ pv_tk v + gv_n (sp_abort tv L v g x).2.2.1 := by
  obtain ⟨u1, u2, u3, u4⟩ := uo_inv (L := L) (pt := 0) hx (gv_n g) (0, v, g) (Nat.le_refl _) h
  have hab := h.abort hx
  have hF : ∀ u, sp_fall tv x u = true → u < tv_c tv := by
    intro u hu
    unfold sp_fall at hu
    simp only [Bool.and_eq_true] at hu
    exact liv_lt hu.1
  have := (abG_facts hF (tv_c tv) _ hab.2 u1.2.1).2.2.1
  unfold sp_abort
  dsimp only at u4 ⊢
  omega
end INV5
