section PMN4
variable {A : S_MA} {D : S_MD} {T : S_MT} {K : S_ML} {P : S_MP} {V : S_MV} {v : VP} {tv : VT} {L : VK} {t : Nat}
def RVs (V : S_MV) (v : VP) (L : VK) (tv : VT) (a b : Nat → Bool) : Prop := (∀ x, x < tv_c tv → MV_ahead V x = b2i (a x)) ∧ (∀ x, x < tv_c tv → MV_back V x = b2i (b x)) ∧ RMV V v L tv (tv_c tv)
def vGd (ld : Nat → Nat → Bool) (t : Nat) (a0 b0 a b : Nat → Bool) (mo : Bool) (Q : Nat → Nat → Prop) : Prop := (∀ x, a0 x = true → a x = true) ∧ (∀ x, b0 x = true → b x = true) ∧ (∀ x, a x = true → tg ld t x) ∧ (∀ x, b x = true → tg ld x t) ∧ (∀ u w, Q u w → ld u w = true → ((u = t ∨ a0 u = true) → a w = true) ∧ ((w = t ∨ b0 w = true) → b u = true)) ∧ (mo = false → (∀ x, a x = a0 x) ∧ ∀ x, b x = b0 x)
theorem vGd.step {ld : Nat → Nat → Bool} {a0 b0 a b : Nat → Bool} {mo : Bool} {Q : Nat → Nat → Prop} {u k : Nat} (h : vGd ld t a0 b0 a b mo Q) :
    vGd ld t a0 b0 (updN a k (a k || ((decide (u = t) || a u) && !a k && ld u k))) (updN b u (b u || ((decide (k = t) || b k) && !b u && ld u k))) (mo || ((decide (u = t) || a u) && !a k && ld u k) || ((decide (k = t) || b k) && !b u && ld u k)) (fun x y => Q x y ∨ (x = u ∧ y = k)) := by
  obtain ⟨h1, h2, h3, h4, h5, h6⟩ := h
  have upA : ∀ x, a x = true → updN a k (a k || ((decide (u = t) || a u) && !a k && ld u k)) x = true := by
    intro x hx
    by_cases e : x = k
    · rw [e] at hx
      rw [e, updN_same, hx]
      rfl
    · rw [updN_ne _ _ e]
      exact hx
  have upB : ∀ x, b x = true → updN b u (b u || ((decide (k = t) || b k) && !b u && ld u k)) x = true := by
    intro x hx
    by_cases e : x = u
    · rw [e] at hx
      rw [e, updN_same, hx]
      rfl
    · rw [updN_ne _ _ e]
      exact hx
  refine ⟨fun x hx => upA x (h1 x hx), fun x hx => upB x (h2 x hx), fun x hx => ?_, fun x hx => ?_, fun x y hq hxy => ?_, fun hm => ?_⟩
  · by_cases e : x = k
    · rw [e, updN_same] at hx
      rw [e]
      simp only [Bool.or_eq_true, Bool.and_eq_true, decide_eq_true_eq] at hx
      rcases hx with z | ⟨⟨z1, -⟩, z3⟩
      · exact h3 k z
      · rcases z1 with z | z
        · rw [z] at z3
          exact Relation.TransGen.single z3
        · exact Relation.TransGen.tail (h3 u z) z3
    · rw [updN_ne _ _ e] at hx
      exact h3 x hx
  · by_cases e : x = u
    · rw [e, updN_same] at hx
      rw [e]
      simp only [Bool.or_eq_true, Bool.and_eq_true, decide_eq_true_eq] at hx
      rcases hx with z | ⟨⟨z1, -⟩, z3⟩
      · exact h4 u z
      · rcases z1 with z | z
        · rw [z] at z3
          exact Relation.TransGen.single z3
        · exact tg_head z3 (h4 k z)
    · rw [updN_ne _ _ e] at hx
      exact h4 x hx
  · rcases hq with hq | ⟨e1, e2⟩
    · exact ⟨fun z => upA y ((h5 x y hq hxy).1 z), fun z => upB x ((h5 x y hq hxy).2 z)⟩
    · subst e1
      subst e2
      constructor
      · intro z
        rw [updN_same, hxy]
        have : (decide (x = t) || a x) = true := by
          rcases z with z | z
          · simp [z]
          · rw [h1 x z, Bool.or_true]
        rw [this]
        cases a y <;> rfl
      · intro z
        rw [updN_same, hxy]
        have : (decide (y = t) || b y) = true := by
          rcases z with z | z
          · simp [z]
          · rw [h2 y z, Bool.or_true]
        rw [this]
        cases b x <;> rfl
  · simp only [Bool.or_eq_false_iff] at hm
    obtain ⟨⟨m1, m2⟩, m3⟩ := hm
    obtain ⟨n1, n2⟩ := h6 m1
    refine ⟨fun x => ?_, fun x => ?_⟩
    · rw [m2, Bool.or_false]
      by_cases e : x = k
      · rw [e, updN_same]
        exact n1 k
      · rw [updN_ne _ _ e]
        exact n1 x
    · rw [m3, Bool.or_false]
      by_cases e : x = u
      · rw [e, updN_same]
        exact n2 u
      · rw [updN_ne _ _ e]
        exact n2 x
theorem vGd.sub {ld : Nat → Nat → Bool} {a0 b0 a b : Nat → Bool} {mo : Bool} {Q Q' : Nat → Nat → Prop} (h : vGd ld t a0 b0 a b mo Q) (e : ∀ x y, Q' x y → Q x y) : vGd ld t a0 b0 a b mo Q' := by
  obtain ⟨h1, h2, h3, h4, h5, h6⟩ := h
  exact ⟨h1, h2, h3, h4, fun u w hq => h5 u w (e u w hq), h6⟩
theorem m_vic65 {Kx : Int32 → S_MV → Prop} {x3 : Int32} {a0 b0 a b : Nat → Bool} {mo : Bool} {u : Nat} {Q : Nat → Nat → Prop} (hK : RML K L) (hT : RMT T tv) (hv : iT tv) (hL : iK tv L) (ht : t < tv_c tv) (hu : u < tv_c tv) (hV : RVs V v L tv a b) (hg : vGd (sp_ld v L tv) t a0 b0 a b mo Q)
    (h : ∀ (mo' : Bool) (a' b' : Nat → Bool) (V' : S_MV), RVs V' v L tv a' b' → vGd (sp_ld v L tv) t a0 b0 a' b' mo' (fun x y => Q x y ∨ (x = u ∧ y < tv_c tv)) → Kx (b2i mo') V') : ∃ e, wp_M_victim_L65 K T (jI t) x3 (jI u) Kx e (b2i mo) 0 V := by
  have hc := hv.1
  have htb : t < 2147483648 := by omega
  have hub : u < 2147483648 := by omega
  have hui : vp_in (jI u) 60 := jI_in hub (by omega)
  refine lpi (fun n (s : Int32 × Int32 × S_MV) => wp_M_victim_L65 K T (jI t) x3 (jI u) Kx n s.1 s.2.1 s.2.2) (fun k s => ∃ (mo : Bool) (a b : Nat → Bool), s.1 = b2i mo ∧ s.2.1 = jI k ∧ RVs s.2.2 v L tv a b ∧ vGd (sp_ld v L tv) t a0 b0 a b mo (fun x y => Q x y ∨ (x = u ∧ y < k))) (tv_c tv) ?_ ?_ 0 (by omega) (b2i mo, 0, V) ⟨mo, a, b, rfl, rfl, hV, hg.sub (fun x y z => by rcases z with z | ⟨-, z⟩; exact z; omega)⟩
  · intro k hk s n hs hn
    obtain ⟨s1, s2, V⟩ := s
    obtain ⟨mo, a, b, e1, e2, hV, hg⟩ := hs
    dsimp only at e1 e2 hV ⊢
    subst e1
    subst e2
    obtain ⟨hVa, hVb, hVm⟩ := hV
    have hkb : k < 2147483648 := by omega
    have hki : vp_in (jI k) 60 := jI_in hkb (by omega)
    obtain ⟨on, hon⟩ : ∃ on, on = ((decide (u = t) || a u) && !a k && sp_ld v L tv u k) := ⟨_, rfl⟩
    obtain ⟨to, hto⟩ : ∃ to, to = ((decide (k = t) || b k) && !b u && sp_ld v L tv u k) := ⟨_, rfl⟩
    have hgs := hg.step (u := u) (k := k)
    rw [← hon, ← hto] at hgs
    rw [wp_M_victim_L65, hT.1, if_neg (by rw [jI_le (by omega) hkb]; omega), jI_tn hub, jI_tn hkb, hVa k hk, hVa u hu, hVb k hk, hVb u hu, jI_s]
    refine jn_in (fun jk => jk (b2i on)) ?_ ?_
    · refine jn_in (fun jk => jk (b2i to)) ?_ ?_
      · refine ⟨hki, jn_in (fun jk => jk (b2i (a k || on))) ?_ ?_⟩
        · refine ⟨hki, hui, jn_in (fun jk => jk (b2i (b u || to))) ?_ ?_⟩
          · refine ⟨hui, ?_⟩
            rw [nar_b, nar_b]
            have hV2 : RVs (MV_back' (MV_ahead' V (upd (MV_ahead V) k (b2i (a k || on)))) (upd (MV_back V) u (b2i (b u || to)))) v L tv (updN a k (a k || on)) (updN b u (b u || to)) := ⟨up_k b2i hVa rfl, up_k b2i hVb rfl, hVm⟩
            have fin : ∀ m2 : Bool, m2 = (mo || on || to) → wp_M_victim_L65 K T (jI t) x3 (jI u) Kx n (b2i m2) (jI (k + 1)) (MV_back' (MV_ahead' V (upd (MV_ahead V) k (b2i (a k || on)))) (upd (MV_back V) u (b2i (b u || to)))) := by
              intro m2 hm2
              subst hm2
              refine hn (_, _, _) ⟨_, _, _, rfl, rfl, hV2, hgs.sub (fun x y z => ?_)⟩
              rcases z with z | ⟨z1, z2⟩
              · exact Or.inl (Or.inl z)
              · by_cases e : y = k
                · exact Or.inr ⟨z1, e⟩
                · exact Or.inl (Or.inr ⟨z1, by omega⟩)
            cases mo with
            | true =>
              rw [if_neg (by decide)]
              exact fin true (by simp)
            | false =>
              rw [if_pos (by rfl)]
              cases on with
              | true =>
                rw [if_neg (by decide)]
                exact fin true (by simp)
              | false =>
                rw [if_pos (by rfl)]
                cases to with
                | true =>
                  rw [if_neg (by decide)]
                  exact fin true (by simp)
                | false =>
                  rw [if_pos (by rfl)]
                  exact fin false (by simp)
          · intro jk hjk
            cases z : b u with
            | true =>
              rw [if_neg (by decide)]
              rw [z] at hjk
              exact hjk
            | false =>
              rw [if_pos (by rfl)]
              rw [z] at hjk
              cases to with
              | true =>
                rw [if_neg (by decide)]
                exact hjk
              | false =>
                rw [if_pos (by rfl)]
                exact hjk
        · intro jk hjk
          cases z : a k with
          | true =>
            rw [if_neg (by decide)]
            rw [z] at hjk
            exact hjk
          | false =>
            rw [if_pos (by rfl)]
            rw [z] at hjk
            cases on with
            | true =>
              rw [if_neg (by decide)]
              exact hjk
            | false =>
              rw [if_pos (by rfl)]
              exact hjk
      · intro jk hjk
        have lead : b u = false → (k = t ∨ b k = true) → wp_M_leads K T V (jI u) (jI k) (fun r => if r = 0 then jk 0 else jk 1) := by
          intro z1 z2
          have e : to = sp_ld v L tv u k := by
            rw [hto, z1]
            rcases z2 with z | z
            · simp [z]
            · simp [z]
          refine m_leads hK hT hv hL hVm hu hk ?_
          cases z : sp_ld v L tv u k with
          | true =>
            rw [if_neg (by decide)]
            rw [e, z] at hjk
            exact hjk
          | false =>
            rw [if_pos (by rfl)]
            rw [e, z] at hjk
            exact hjk
        rw [ite_iff' (jI_eq hkb htb)]
        by_cases q : k = t
        · rw [if_pos q]
          refine ⟨hui, ?_⟩
          cases z : b u with
          | true =>
            rw [if_neg (by decide)]
            rw [hto, z] at hjk
            simp at hjk
            exact hjk
          | false =>
            rw [if_pos (by rfl)]
            exact lead z (Or.inl q)
        · rw [if_neg q]
          refine ⟨hki, ?_⟩
          cases z2 : b k with
          | false =>
            rw [if_pos (by rfl)]
            rw [hto, z2, decide_eq_false q] at hjk
            exact hjk
          | true =>
            rw [if_neg (by decide)]
            refine ⟨hui, ?_⟩
            cases z : b u with
            | true =>
              rw [if_neg (by decide)]
              rw [hto, z] at hjk
              simp at hjk
              exact hjk
            | false =>
              rw [if_pos (by rfl)]
              exact lead z (Or.inr z2)
    · intro jk hjk
      have lead : a k = false → (u = t ∨ a u = true) → wp_M_leads K T V (jI u) (jI k) (fun r => if r = 0 then jk 0 else jk 1) := by
        intro z1 z2
        have e : on = sp_ld v L tv u k := by
          rw [hon, z1]
          rcases z2 with z | z
          · simp [z]
          · simp [z]
        refine m_leads hK hT hv hL hVm hu hk ?_
        cases z : sp_ld v L tv u k with
        | true =>
          rw [if_neg (by decide)]
          rw [e, z] at hjk
          exact hjk
        | false =>
          rw [if_pos (by rfl)]
          rw [e, z] at hjk
          exact hjk
      rw [ite_iff' (jI_eq hub htb)]
      by_cases q : u = t
      · rw [if_pos q]
        refine ⟨hki, ?_⟩
        cases z : a k with
        | true =>
          rw [if_neg (by decide)]
          rw [hon, z] at hjk
          simp at hjk
          exact hjk
        | false =>
          rw [if_pos (by rfl)]
          exact lead z (Or.inl q)
      · rw [if_neg q]
        refine ⟨hui, ?_⟩
        cases z2 : a u with
        | false =>
          rw [if_pos (by rfl)]
          rw [hon, z2, decide_eq_false q] at hjk
          exact hjk
        | true =>
          rw [if_neg (by decide)]
          refine ⟨hki, ?_⟩
          cases z : a k with
          | true =>
            rw [if_neg (by decide)]
            rw [hon, z] at hjk
            simp at hjk
            exact hjk
          | false =>
            rw [if_pos (by rfl)]
            exact lead z (Or.inr z2)
  · intro s n hs
    obtain ⟨s1, s2, V⟩ := s
    obtain ⟨mo, a, b, e1, e2, hV, hg⟩ := hs
    dsimp only at e1 e2 hV ⊢
    subst e1
    subst e2
    rw [wp_M_victim_L65, hT.1, if_pos (by rw [jI_le (by omega) (by omega)]; omega)]
    exact h mo a b V hV hg
theorem m_vic53 {Kx : Int32 → S_MV → Prop} {x3 : Int32} {a0 b0 : Nat → Bool} (hK : RML K L) (hT : RMT T tv) (hv : iT tv) (hL : iK tv L) (ht : t < tv_c tv) (hV : RVs V v L tv a0 b0) (hs1 : ∀ x, a0 x = true → tg (sp_ld v L tv) t x) (hs2 : ∀ x, b0 x = true → tg (sp_ld v L tv) x t)
    (h : ∀ (mo' : Bool) (a' b' : Nat → Bool) (V' : S_MV), RVs V' v L tv a' b' → vGd (sp_ld v L tv) t a0 b0 a' b' mo' (fun x y => x < tv_c tv ∧ y < tv_c tv) → Kx (b2i mo') V') : ∃ e, wp_M_victim_L53 K T (jI t) x3 Kx e 0 0 V := by
  have hc := hv.1
  refine lpi (fun n (s : Int32 × Int32 × S_MV) => wp_M_victim_L53 K T (jI t) x3 Kx n s.1 s.2.1 s.2.2) (fun k s => ∃ (mo : Bool) (a b : Nat → Bool), s.1 = b2i mo ∧ s.2.1 = jI k ∧ RVs s.2.2 v L tv a b ∧ vGd (sp_ld v L tv) t a0 b0 a b mo (fun x y => x < k ∧ y < tv_c tv)) (tv_c tv) ?_ ?_ 0 (by omega) (0, 0, V) ⟨false, a0, b0, rfl, rfl, hV, fun x h => h, fun x h => h, hs1, hs2, fun u w hq => by omega, fun _ => ⟨fun x => rfl, fun x => rfl⟩⟩
  · intro k hk s n hs hn
    obtain ⟨s1, s2, V⟩ := s
    obtain ⟨mo, a, b, e1, e2, hV, hg⟩ := hs
    dsimp only at e1 e2 hV ⊢
    subst e1
    subst e2
    rw [wp_M_victim_L53, hT.1, if_neg (by rw [jI_le (by omega) (by omega)]; omega), jI_s]
    refine m_vic65 hK hT hv hL ht hk hV hg (fun mo' a' b' V' hV' hg' => hn (_, _, _) ⟨mo', a', b', rfl, rfl, hV', hg'.sub (fun x y z => ?_)⟩)
    by_cases e : x = k
    · exact Or.inr ⟨e, z.2⟩
    · exact Or.inl ⟨by omega, z.2⟩
  · intro s n hs
    obtain ⟨s1, s2, V⟩ := s
    obtain ⟨mo, a, b, e1, e2, hV, hg⟩ := hs
    dsimp only at e1 e2 hV ⊢
    subst e1
    subst e2
    rw [wp_M_victim_L53, hT.1, if_pos (by rw [jI_le (by omega) (by omega)]; omega)]
    exact h mo a b V hV hg
theorem m_vic38 {Kx : S_MV → Prop} {a0 b0 : Nat → Bool} (hK : RML K L) (hT : RMT T tv) (hv : iT tv) (hL : iK tv L) (ht : t < tv_c tv) (hV : RVs V v L tv a0 b0) (hs1 : ∀ x, a0 x = true → tg (sp_ld v L tv) t x) (hs2 : ∀ x, b0 x = true → tg (sp_ld v L tv) x t)
    (h : ∀ (a b : Nat → Bool) (V' : S_MV), RVs V' v L tv a b → (∀ x, a x = true ↔ tg (sp_ld v L tv) t x) → (∀ x, b x = true ↔ tg (sp_ld v L tv) x t) → Kx V') : ∃ e, wp_M_victim_L38 K T (jI t) Kx e 1 0 V := by
  have hc := hv.1
  have hld : ∀ u x, sp_ld v L tv u x = true → u < tv_c tv ∧ x < tv_c tv := fun u x hux => sp_ld_in hv hL hux
  have fin : ∀ (a b : Nat → Bool) (V' : S_MV), RVs V' v L tv a b → (∀ x, a x = true → tg (sp_ld v L tv) t x) → (∀ x, b x = true → tg (sp_ld v L tv) x t) → (∀ u w, (u = t ∨ a u = true) → sp_ld v L tv u w = true → a w = true) → (∀ u w, (w = t ∨ b w = true) → sp_ld v L tv u w = true → b u = true) → Kx V' := by
    intro a b V' hV' h1 h2 h3 h4
    refine h a b V' hV' (fun x => ⟨h1 x, ?_⟩) (fun x => ⟨h2 x, ?_⟩)
    · exact tg_closed (S := fun x => a x = true) (fun w hw => h3 t w (Or.inl rfl) hw) (fun u w hu huw => h3 u w (Or.inr hu) huw) x
    · exact tg_back (S := fun x => b x = true) (fun u hu => h4 u t (Or.inl rfl) hu) (fun u w hw huw => h4 u w (Or.inr hw) huw) x
  refine lpi (fun n (s : Int32 × Int32 × S_MV) => wp_M_victim_L38 K T (jI t) Kx n s.1 s.2.1 s.2.2) (fun r s => ∃ (mo : Bool) (a b : Nat → Bool), s.1 = b2i mo ∧ s.2.1 = jI r ∧ RVs s.2.2 v L tv a b ∧ (∀ x, a x = true → tg (sp_ld v L tv) t x) ∧ (∀ x, b x = true → tg (sp_ld v L tv) x t) ∧ (mo = false → (∀ u w, (u = t ∨ a u = true) → sp_ld v L tv u w = true → a w = true) ∧ ∀ u w, (w = t ∨ b w = true) → sp_ld v L tv u w = true → b u = true) ∧ ((∀ u w, (u = t ∨ a u = true) → sp_ld v L tv u w = true → a w = true) ∨ r ≤ bc (tv_c tv) a) ∧ ((∀ u w, (w = t ∨ b w = true) → sp_ld v L tv u w = true → b u = true) ∨ r ≤ bc (tv_c tv) b)) 61 ?_ ?_ 0 (by omega) (1, 0, V) ⟨true, a0, b0, rfl, rfl, hV, hs1, hs2, fun z => (by cases z), Or.inr (Nat.zero_le _), Or.inr (Nat.zero_le _)⟩
  · intro r hr s n hs hn
    obtain ⟨s1, s2, V⟩ := s
    obtain ⟨mo, a, b, e1, e2, hV, h1, h2, h3, h4, h5⟩ := hs
    dsimp only at e1 e2 hV ⊢
    subst e1
    subst e2
    rw [wp_M_victim_L38, if_neg (by rw [show (61 : Int32) = jI 61 from rfl, jI_le (by omega) (by omega)]; omega), jI_s]
    cases mo with
    | false =>
      rw [if_pos (by rfl)]
      exact fin a b V hV h1 h2 (h3 rfl).1 (h3 rfl).2
    | true =>
      rw [if_neg (by decide)]
      refine m_vic53 hK hT hv hL ht hV h1 h2 (fun mo' a' b' V' hV' hg => hn (_, _, _) ⟨mo', a', b', rfl, rfl, hV', hg.2.2.1, hg.2.2.2.1, fun z => ?_, ?_, ?_⟩)
      · obtain ⟨g1, g2, g3, g4, g5, g6⟩ := hg
        obtain ⟨n1, n2⟩ := g6 z
        refine ⟨fun u w hu huw => ?_, fun u w hw huw => ?_⟩
        · rw [n1 u] at hu
          exact (g5 u w (hld u w huw) huw).1 hu
        · rw [n2 w] at hw
          exact (g5 u w (hld u w huw) huw).2 hw
      · obtain ⟨g1, g2, g3, g4, g5, g6⟩ := hg
        by_cases z : ∀ u w, (u = t ∨ a u = true) → sp_ld v L tv u w = true → a w = true
        · refine Or.inl (fun u w hu huw => ?_)
          have hsub : ∀ x, a' x = true → a x = true := fun x hx => tg_closed (S := fun x => a x = true) (fun w hw => z t w (Or.inl rfl) hw) (fun u w hu huw => z u w (Or.inr hu) huw) x (g3 x hx)
          refine g1 w (z u w ?_ huw)
          rcases hu with q | q
          · exact Or.inl q
          · exact Or.inr (hsub u q)
        · refine Or.inr ?_
          have hle : r ≤ bc (tv_c tv) a := by
            rcases h4 with q | q
            · exact absurd q z
            · exact q
          obtain ⟨u, w, q1, q2, q3⟩ : ∃ u w, (u = t ∨ a u = true) ∧ sp_ld v L tv u w = true ∧ a w = false := by
            refine Classical.byContradiction (fun y => z (fun u w hu huw => ?_))
            cases q : a w with
            | true => rfl
            | false => exact absurd ⟨u, w, hu, huw, q⟩ y
          have := bc_lt (n := tv_c tv) (fun k _ => g1 k) (hld u w q2).2 q3 ((g5 u w (hld u w q2) q2).1 q1)
          omega
      · obtain ⟨g1, g2, g3, g4, g5, g6⟩ := hg
        by_cases z : ∀ u w, (w = t ∨ b w = true) → sp_ld v L tv u w = true → b u = true
        · refine Or.inl (fun u w hw huw => ?_)
          have hsub : ∀ x, b' x = true → b x = true := fun x hx => tg_back (S := fun x => b x = true) (fun u hu => z u t (Or.inl rfl) hu) (fun u w hw huw => z u w (Or.inr hw) huw) x (g4 x hx)
          refine g2 u (z u w ?_ huw)
          rcases hw with q | q
          · exact Or.inl q
          · exact Or.inr (hsub w q)
        · refine Or.inr ?_
          have hle : r ≤ bc (tv_c tv) b := by
            rcases h5 with q | q
            · exact absurd q z
            · exact q
          obtain ⟨u, w, q1, q2, q3⟩ : ∃ u w, (w = t ∨ b w = true) ∧ sp_ld v L tv u w = true ∧ b u = false := by
            refine Classical.byContradiction (fun y => z (fun u w hw huw => ?_))
            cases q : b u with
            | true => rfl
            | false => exact absurd ⟨u, w, hw, huw, q⟩ y
          have := bc_lt (n := tv_c tv) (fun k _ => g2 k) (hld u w q2).1 q3 ((g5 u w (hld u w q2) q2).2 q1)
          omega
  · intro s n hs
    obtain ⟨s1, s2, V⟩ := s
    obtain ⟨mo, a, b, e1, e2, hV, h1, h2, h3, h4, h5⟩ := hs
    dsimp only at e1 e2 hV ⊢
    subst e1
    subst e2
    rw [wp_M_victim_L38, if_pos (by decide)]
    have l1 := bc_le (tv_c tv) a
    have l2 := bc_le (tv_c tv) b
    refine fin a b V hV h1 h2 ?_ ?_
    · rcases h4 with q | q
      · exact q
      · omega
    · rcases h5 with q | q
      · exact q
      · omega
theorem m_victim {post : Int32 → S_MP → S_MV → Prop} (hA : RMA A D v) (hi : iP v) (hK : RML K L) (hT : RMT T tv) (hv : iT tv) (hL : iK tv L) (ht : sp_liv tv t = true)
    (h : ∀ P' V', post (pI (sp_vict v L tv t)) P' V') : wp_M_victim A D K P T V (jI t) post := by
  have hc := hv.1
  have htc := liv_lt ht
  have htb : t < 2147483648 := by omega
  have hti : vp_in (jI t) 60 := jI_in htb (by omega)
  unfold sp_vict at h
  rw [ht, if_pos rfl] at h
  unfold wp_M_victim
  refine m_look hA hi hK hT hv hL (fun P1 V1 hV1 => ?_)
  refine lpi (fun n (s : Int32 × S_MV) => wp_M_victim_L6 T (jI t) _ n s.1 s.2) (fun k s => s.1 = jI k ∧ (∀ x, x < k → MV_ahead s.2 x = b2i false) ∧ (∀ x, x < k → MV_back s.2 x = b2i false) ∧ RMV s.2 v L tv (tv_c tv)) (tv_c tv) ?_ ?_ 0 (by omega) (0, V1) ⟨rfl, fun x hx => by omega, fun x hx => by omega, hV1⟩
  · intro k hk s n hs hn
    obtain ⟨x, V⟩ := s
    obtain ⟨hx, h1, h2, h3⟩ := hs
    dsimp only at hx h1 h2 h3 ⊢
    subst hx
    have hkb : k < 2147483648 := by omega
    have hki : vp_in (jI k) 60 := jI_in hkb (by omega)
    rw [wp_M_victim_L6, hT.1, if_neg (by rw [jI_le (by omega) hkb]; omega), jI_tn hkb, jI_s, nar_0]
    refine ⟨hki, hki, hn (_, _) ⟨rfl, fun x hx => ?_, fun x hx => ?_, h3⟩⟩
    · show upd (MV_ahead V) k (b2i false) x = b2i false
      by_cases e : x = k
      · rw [e, upd_same]
      · rw [upd_ne _ _ e]
        exact h1 x (by omega)
    · show upd (MV_back V) k (b2i false) x = b2i false
      by_cases e : x = k
      · rw [e, upd_same]
      · rw [upd_ne _ _ e]
        exact h2 x (by omega)
  · intro s n hs
    obtain ⟨x, V⟩ := s
    obtain ⟨hx, h1, h2, h3⟩ := hs
    dsimp only at hx h1 h2 h3 ⊢
    subst hx
    rw [wp_M_victim_L6, hT.1, if_pos (by rw [jI_le (by omega) (by omega)]; omega)]
    refine m_vic38 (a0 := fun _ => false) (b0 := fun _ => false) hK hT hv hL htc ⟨h1, h2, h3⟩ (fun x hx => by cases hx) (fun x hx => by cases hx) (fun a b V' hV' ha hb => ?_)
    refine lpi (fun n (s : Int32 × Int32) => wp_M_victim_L259 T V' (jI t) (fun x17 => post x17 P1 V') n s.1 s.2) (fun k s => s.2 = jI k ∧ s.1 = pI (if dP (tg (sp_ld v L tv) t t) then gl k (fun u => dP (tg (sp_ld v L tv) t u ∧ tg (sp_ld v L tv) u t)) else none)) (tv_c tv) ?_ ?_ 0 (by omega) (-1, 0) ⟨rfl, ?_⟩
    · intro k hk s n hs hn
      obtain ⟨s1, s2⟩ := s
      obtain ⟨e2, e1⟩ := hs
      dsimp only at e1 e2 ⊢
      subst e2
      have hkb : k < 2147483648 := by omega
      have hki : vp_in (jI k) 60 := jI_in hkb (by omega)
      rw [wp_M_victim_L259, hT.1, if_neg (by rw [jI_le (by omega) hkb]; omega), jI_tn htb, jI_tn hkb, hV'.1 t htc, hV'.1 k hk, hV'.2.1 k hk, jI_s]
      refine ⟨hti, ?_⟩
      cases z : a t with
      | false =>
        rw [if_pos (by rfl)]
        have hn : ¬ tg (sp_ld v L tv) t t := fun q => by
          rw [← ha t, z] at q
          cases q
        rw [e1, dP_not hn, if_neg (by decide)]
        unfold sp_vic at h
        rw [dP_not hn, if_neg (by decide)] at h
        exact h _ _
      | true =>
        rw [if_neg (by decide)]
        have hy := (ha t).mp z
        rw [dP_iff.mpr hy, if_pos (rfl : true = true)] at e1
        have step : gl (k + 1) (fun u => dP (tg (sp_ld v L tv) t u ∧ tg (sp_ld v L tv) u t)) = if dP (tg (sp_ld v L tv) t k ∧ tg (sp_ld v L tv) k t) then some k else gl k (fun u => dP (tg (sp_ld v L tv) t u ∧ tg (sp_ld v L tv) u t)) := rfl
        refine ⟨hki, ?_⟩
        cases z1 : a k with
        | false =>
          rw [if_pos (by rfl)]
          refine hn (_, _) ⟨rfl, ?_⟩
          have hno : ¬ (tg (sp_ld v L tv) t k ∧ tg (sp_ld v L tv) k t) := fun q => by
            have := (ha k).mpr q.1
            rw [z1] at this
            cases this
          rw [dP_iff.mpr hy, if_pos (rfl : true = true), step, dP_not hno, if_neg (by decide)]
          exact e1
        | true =>
          rw [if_neg (by decide)]
          refine ⟨hki, ?_⟩
          cases z2 : b k with
          | false =>
            rw [if_pos (by rfl)]
            refine hn (_, _) ⟨rfl, ?_⟩
            have hno : ¬ (tg (sp_ld v L tv) t k ∧ tg (sp_ld v L tv) k t) := fun q => by
              have := (hb k).mpr q.2
              rw [z2] at this
              cases this
            rw [dP_iff.mpr hy, if_pos (rfl : true = true), step, dP_not hno, if_neg (by decide)]
            exact e1
          | true =>
            rw [if_neg (by decide)]
            refine hn (_, _) ⟨rfl, ?_⟩
            rw [dP_iff.mpr hy, if_pos (rfl : true = true), step, dP_iff.mpr ⟨(ha k).mp z1, (hb k).mp z2⟩, if_pos (rfl : true = true)]
            rfl
    · intro s n hs
      obtain ⟨s1, s2⟩ := s
      obtain ⟨e2, e1⟩ := hs
      dsimp only at e1 e2 ⊢
      subst e2
      rw [wp_M_victim_L259, hT.1, if_pos (by rw [jI_le (by omega) (by omega)]; omega), e1]
      unfold sp_vic at h
      exact h _ _
    · split <;> rfl
end PMN4
