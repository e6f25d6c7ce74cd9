section INV4
variable {v : VP} {g : VG} {tv : VT} {L : VK} {c : Nat} {F : Nat → Bool}
def sp_fall (tv : VT) (t u : Nat) : Bool := sp_liv tv u && tv_lin tv u t
def sp_abG (F : Nat → Bool) : Nat → VG → VG
  | 0, g => g
  | m + 1, g => sp_abG F m (if F m then sp_app g 5 m 0 else g)
def sp_abT (tv : VT) (F : Nat → Bool) (m : Nat) : VT := tv_st' tv (fun u => if m ≤ u ∧ F u = true then 4 else tv_st tv u)
def sp_abL (L : VK) (F : Nat → Bool) (m : Nat) : VK := fun u i => if m ≤ u ∧ F u = true then 0 else L u i
theorem app5_ext {t : Nat} {k a : Int32} (h : iG g c) (hk : ¬ k = 2 ∧ ¬ k = 4) : gExt g (sp_app g k t a) := by
  refine ⟨rfl, show gv_n g ≤ gv_n g + 1 by omega, Nat.le_refl _, fun r hr => ⟨app_kd hr, app_by hr⟩, fun r hr hud => ?_, fun r h1 h2 => ?_⟩
  · rw [sp_ud_app h.ou (by omega), if_pos hr]
    exact hud
  · have h2 : r < gv_n g + 1 := h2
    have e : r = gv_n g := by omega
    show ¬ updN (gv_kd g) (gv_n g) k r = 2 ∧ ¬ updN (gv_kd g) (gv_n g) k r = 4
    rw [e, updN_same]
    exact hk
theorem abG_facts (hF : ∀ u, F u = true → u < c) : ∀ m (g : VG), gv_n g + bc m F ≤ 300 → iG g c → iG (sp_abG F m g) c ∧ gExt g (sp_abG F m g) ∧ gv_n (sp_abG F m g) = gv_n g + bc m F ∧ gv_f (sp_abG F m g) = gv_f g ∧ (∀ r, r < gv_n g → sp_ud (sp_abG F m g) r = sp_ud g r) ∧ ∀ r, gv_n g ≤ r → r < gv_n g + bc m F → gv_kd (sp_abG F m g) r = 5 := by
  intro m
  induction m with
  | zero =>
    intro g hn h
    exact ⟨h, gExt.rf, rfl, rfl, fun r _ => rfl, fun r h1 h2 => absurd h2 (by show ¬ r < gv_n g + 0; omega)⟩
  | succ m ih =>
    intro g hn h
    have hb : bc (m + 1) F = bc m F + (if F m then 1 else 0) := rfl
    unfold sp_abG
    cases q : F m with
    | false =>
      rw [q] at hb
      rw [if_neg (by decide)]
      have hb : bc (m + 1) F = bc m F := hb
      rw [hb] at hn ⊢
      exact ih g hn h
    | true =>
      rw [q] at hb
      rw [if_pos rfl]
      have hb : bc (m + 1) F = bc m F + 1 := hb
      have hG := h.app (k := 5) (t := m) (a := 0) (by omega) (hF m q) (by decide) (fun z => absurd z (by decide))
      obtain ⟨j1, j2, j3, j4, j5, j6⟩ := ih (sp_app g 5 m 0) (show gv_n g + 1 + bc m F ≤ 300 by omega) hG
      have j3 : gv_n (sp_abG F m (sp_app g 5 m 0)) = gv_n g + 1 + bc m F := j3
      refine ⟨j1, (app5_ext h ⟨by decide, by decide⟩).tr j2, by omega, j4, fun r hr => ?_, fun r h1 h2 => ?_⟩
      · rw [j5 r (show r < gv_n g + 1 by omega), sp_ud_app h.ou (by omega), if_pos hr]
      · by_cases e : r = gv_n g
        · rw [(j2.2.2.2.1 r (show r < gv_n g + 1 by omega)).1, e]
          exact updN_same _ _ _
        · exact j6 r (show gv_n g + 1 ≤ r by omega) (show r < gv_n g + 1 + bc m F by omega)
theorem iT.stf (h : iT tv) {f : Nat → Int32} (hf : ∀ t, t < tv_c tv → f t = 1 ∨ f t = 2 ∨ f t = 3 ∨ f t = 4) : iT (tv_st' tv f) := ⟨h.1, fun t ht => ⟨hf t ht, (h.2.1 t ht).2⟩, h.2.2⟩
theorem iT.ab (h : iT tv) (m : Nat) : iT (sp_abT tv F m) := by
  refine h.stf (fun t ht => ?_)
  split
  · exact Or.inr (Or.inr (Or.inr rfl))
  · exact (h.2.1 t ht).1
theorem liv_ab {u : Nat} : sp_liv (sp_abT tv F 0) u = (sp_liv tv u && !F u) := by
  unfold sp_liv
  show (decide (u < tv_c tv) && (decide ((if 0 ≤ u ∧ F u = true then 4 else tv_st tv u) = 1) || decide ((if 0 ≤ u ∧ F u = true then 4 else tv_st tv u) = 2))) = _
  cases q : F u with
  | false =>
    rw [if_neg (fun z => by cases z.2)]
    simp
  | true =>
    rw [if_pos ⟨Nat.zero_le _, rfl⟩]
    simp
theorem lives_ab (hF : ∀ u, F u = true → sp_liv tv u = true) : ∀ n, bc n (sp_liv (sp_abT tv F 0)) + bc n F = bc n (sp_liv tv) := by
  intro n
  induction n with
  | zero => rfl
  | succ n ih =>
    unfold bc
    rw [liv_ab]
    have := hF n
    cases q1 : F n with
    | false =>
      rw [Bool.not_false, Bool.and_true]
      simp
      omega
    | true =>
      rw [this q1]
      simp
      omega
theorem iT.top_self (h : iT tv) {x t : Nat} (hx : x < tv_c tv) (hp : tv_top tv x = x) (hl : tv_lin tv x t = true) : x = t := by
  obtain ⟨-, -, -, -, h1, h2⟩ := h.2.1 x hx
  cases hpp : tv_par tv x with
  | none =>
    rw [(h1 hpp).2.2 t] at hl
    simpa using hl
  | some p =>
    obtain ⟨g1, g2, -, -⟩ := h2 p hpp
    have := h.top_lt p (by omega)
    omega
/-- an abort keeps all -/
theorem iV.abort {t : Nat} (h : iV v g tv L) (ht : t < tv_c tv) : iV (sp_uo tv t 0 (gv_n g) (0, v, g)).2.1 (sp_abG (sp_fall tv t) (tv_c tv) (sp_uo tv t 0 (gv_n g) (0, v, g)).2.2) (sp_abT tv (sp_fall tv t) 0) (sp_abL L (sp_fall tv t) 0) ∧ gv_n (sp_uo tv t 0 (gv_n g) (0, v, g)).2.2 + bc (tv_c tv) (sp_fall tv t) ≤ 300 := by
  have hn := uo_none (L := L) (pt := 0) ht (gv_n g) (0, v, g) (Nat.le_refl _) h
  obtain ⟨u1, u2, u3, u4⟩ := uo_inv (L := L) (pt := 0) ht (gv_n g) (0, v, g) (Nat.le_refl _) h
  obtain ⟨s1, hs1⟩ : ∃ s1, s1 = sp_uo tv t 0 (gv_n g) (0, v, g) := ⟨_, rfl⟩
  rw [← hs1] at hn u1 u2 u3 u4 ⊢
  obtain ⟨n1, v1, g1⟩ := s1
  dsimp only at hn u1 u2 u3 u4 ⊢
  obtain ⟨hP, hG, hT, hK, hX, hR⟩ := u1
  have hF : ∀ u, sp_fall tv t u = true → sp_liv tv u = true := by
    intro u hu
    unfold sp_fall at hu
    simp at hu
    exact hu.1
  have hFl : ∀ u, sp_fall tv t u = true → tv_lin tv u t = true := by
    intro u hu
    unfold sp_fall at hu
    simp at hu
    exact hu.2
  have hlv := lives_ab hF (tv_c tv)
  have hle : bc (tv_c tv) (sp_fall tv t) ≤ sp_lives tv := bc_up (fun k _ hk => hF k hk)
  have hn2 : gv_n g1 + bc (tv_c tv) (sp_fall tv t) ≤ 300 := by
    unfold iRm at hR
    omega
  obtain ⟨a1, a2, a3, a4, a5, a6⟩ := abG_facts (fun u hu => liv_lt (hF u hu)) (tv_c tv) g1 hn2 hG
  have hX2 := hX.ext a2
  obtain ⟨x1, x2, x3, x4, x5, x6⟩ := hX2
  refine ⟨⟨?_, a1, hT.ab 0, fun u i hi => ?_, ⟨x1, fun u hu => ?_, fun u a hu ha => ?_, fun r hr hk hs => ?_, fun r hr hk hp => ?_, fun r hr hk hs => ?_⟩, ?_⟩, hn2⟩
  · rw [a2.1, a3, a4]
    exact hP.up (by omega)
  · show sp_abL L (sp_fall tv t) 0 u i ≤ 2 ∧ (sp_liv (sp_abT tv (sp_fall tv t) 0) u = false → sp_abL L (sp_fall tv t) 0 u i = 0)
    unfold sp_abL
    rw [liv_ab]
    cases q : sp_fall tv t u with
    | true =>
      rw [if_pos ⟨Nat.zero_le _, rfl⟩]
      exact ⟨by omega, fun _ => rfl⟩
    | false =>
      rw [if_neg (fun z => by cases z.2), Bool.not_false, Bool.and_true]
      exact hK u i hi
  · rw [liv_ab] at hu
    simp at hu
    exact x2 u hu.1
  · rw [liv_ab] at hu ⊢
    simp only [Bool.and_eq_true, Bool.not_eq_true'] at hu ⊢
    have ha' : tv_lin tv u a = true := ha
    refine ⟨x3 u a hu.1 ha', ?_⟩
    cases q : sp_fall tv t a with
    | false => rfl
    | true =>
      have : sp_fall tv t u = true := by
        unfold sp_fall
        rw [hu.1, hT.lin_tr u (liv_lt hu.1) a ha' t (hFl a q)]
        rfl
      rw [hu.2] at this
      cases this
  · have hs : (if 0 ≤ tv_top tv (gv_by (sp_abG (sp_fall tv t) (tv_c tv) g1) r) ∧ sp_fall tv t (tv_top tv (gv_by (sp_abG (sp_fall tv t) (tv_c tv) g1) r)) = true then 4 else tv_st tv (tv_top tv (gv_by (sp_abG (sp_fall tv t) (tv_c tv) g1) r))) = 3 := hs
    split at hs
    · exact absurd hs (by decide)
    · exact x4 r hr hk hs
  · have hp : tv_par tv (gv_by (sp_abG (sp_fall tv t) (tv_c tv) g1) r) = none := hp
    have h3 := x5 r hr hk hp
    show (if 0 ≤ gv_by (sp_abG (sp_fall tv t) (tv_c tv) g1) r ∧ sp_fall tv t (gv_by (sp_abG (sp_fall tv t) (tv_c tv) g1) r) = true then 4 else tv_st tv (gv_by (sp_abG (sp_fall tv t) (tv_c tv) g1) r)) = 3
    rw [if_neg (fun z => by
      have := liv_st (hF _ z.2)
      rw [h3] at this
      revert this
      decide)]
    exact h3
  · have hs : (if 0 ≤ tv_top tv (gv_by (sp_abG (sp_fall tv t) (tv_c tv) g1) r) ∧ sp_fall tv t (tv_top tv (gv_by (sp_abG (sp_fall tv t) (tv_c tv) g1) r)) = true then 4 else tv_st tv (tv_top tv (gv_by (sp_abG (sp_fall tv t) (tv_c tv) g1) r))) = 4 := hs
    split at hs
    · rename_i z
      have hby := a1.2.2.2.2.1 r hr
      obtain ⟨w, hw⟩ : ∃ w, w = gv_by (sp_abG (sp_fall tv t) (tv_c tv) g1) r := ⟨_, rfl⟩
      rw [← hw] at z hby
      have htt := hT.top_top w hby
      have htl := hT.top_lt w hby
      have e := hT.top_self (show tv_top tv w < tv_c tv by omega) htt (hFl _ z.2)
      have hlin := hT.lin_top w hby
      rw [e] at hlin
      have hrn : r < gv_n g1 := by
        by_cases q : r < gv_n g1
        · exact q
        · have hr : r < gv_n (sp_abG (sp_fall tv t) (tv_c tv) g1) := hr
          have := a6 r (by omega) (by omega)
          rw [this] at hk
          exact absurd hk (by decide)
      have hw2 : w = gv_by g1 r := by
        rw [hw]
        exact (a2.2.2.2.1 r hrn).2
      have hk1 : gv_kd g1 r = 2 := by
        rw [← (a2.2.2.2.1 r hrn).1]
        exact hk
      have hr0 : r < gv_n g := by
        by_cases q : r < gv_n g
        · exact q
        · exact absurd hk1 (u2.2.2.2.2.2 r (by omega) hrn).1
      have hno := hn r hr0 (by omega) (by rw [← (u2.2.2.2.1 r hr0).2, ← hw2]; exact hlin)
      rw [a5 r hrn]
      unfold sp_opn at hno
      rw [decide_eq_true hk1, ← hw2, e, Bool.true_and] at hno
      have hlt : sp_liv tv t = true := by
        have := hF _ z.2
        rw [e] at this
        exact this
      rw [hlt, Bool.and_true] at hno
      simpa using hno
    · exact x6 r hr hk hs
  · show gv_n (sp_abG (sp_fall tv t) (tv_c tv) g1) + sp_opens (sp_abG (sp_fall tv t) (tv_c tv) g1) (sp_abT tv (sp_fall tv t) 0) + sp_lives (sp_abT tv (sp_fall tv t) 0) ≤ 300
    have hop : sp_opens (sp_abG (sp_fall tv t) (tv_c tv) g1) (sp_abT tv (sp_fall tv t) 0) ≤ sp_opens g1 tv := by
      have hstep : ∀ n, bc (gv_n g1 + n) (fun r => decide (r < gv_n g1) && sp_opn g1 tv r) = bc (gv_n g1) (sp_opn g1 tv) := by
        intro n
        induction n with
        | zero =>
          refine bc_congr (fun k hk => ?_)
          rw [decide_eq_true (show k < gv_n g1 from hk)]
          rfl
        | succ n ih =>
          rw [← Nat.add_assoc, bc, ih, decide_eq_false (by omega)]
          rfl
      have e : sp_opens g1 tv = bc (gv_n g1 + bc (tv_c tv) (sp_fall tv t)) (fun r => decide (r < gv_n g1) && sp_opn g1 tv r) := (hstep _).symm
      rw [e]
      unfold sp_opens
      rw [a3]
      refine bc_up (fun k hk ho => ?_)
      obtain ⟨o1, o2, o3⟩ := opn_kd ho
      have hkn : k < gv_n g1 := by
        by_cases q : k < gv_n g1
        · exact q
        · have := a6 k (by omega) hk
          rw [this] at o1
          exact absurd o1 (by decide)
      rw [decide_eq_true hkn, Bool.true_and]
      rw [liv_ab] at o3
      rw [(a2.2.2.2.1 k hkn).1] at o1
      rw [a5 k hkn] at o2
      simp only [Bool.and_eq_true] at o3
      have o4 := o3.1
      rw [show gv_by (sp_abG (sp_fall tv t) (tv_c tv) g1) k = gv_by g1 k from (a2.2.2.2.1 k hkn).2] at o4
      have o4 : sp_liv tv (tv_top tv (gv_by g1 k)) = true := o4
      unfold sp_opn
      rw [decide_eq_true o1, o2, o4]
      rfl
    have hlv : sp_lives (sp_abT tv (sp_fall tv t) 0) + bc (tv_c tv) (sp_fall tv t) = sp_lives tv := hlv
    unfold iRm at hR
    omega
end INV4
