section PN4
variable {D : S_D} {ld : Nat → Nat → Bool} {c t : Nat}
theorem k_D_sweep {K : Int64 → Prop} {R0 : Int64} {x5 : Int32} {x6 : Int64} (hc : c ≤ 60) (hD : ∀ u, u < c → ∀ x, x < 64 → tb (D_from D u) x = ld u x) (hld : ∀ u x, ld u x = true → u < c ∧ x < c) (hs0 : ∀ u, tb R0 u = true → tg ld t u)
    (h : ∀ R1, (∀ u, tb R0 u = true → tb R1 u = true) → (∀ u, tb R1 u = true → tg ld t u) → (∀ u, u < c → tb R0 u = true → ∀ x, ld u x = true → tb R1 x = true) → K R1) : ∃ e, wp_D_reachedFrom_L22 D (jI c) x5 x6 K e R0 0 := by
  refine lpi (fun n (s : Int64 × Int32) => wp_D_reachedFrom_L22 D (jI c) x5 x6 K n s.1 s.2) (fun k s => s.2 = jI k ∧ (∀ u, tb R0 u = true → tb s.1 u = true) ∧ (∀ u, tb s.1 u = true → tg ld t u) ∧ ∀ u, u < k → tb R0 u = true → ∀ x, ld u x = true → tb s.1 x = true) c ?_ ?_ 0 (by omega) (R0, 0) ⟨rfl, fun u hu => hu, hs0, fun u hu => by omega⟩
  · intro k hk s n hs hn
    obtain ⟨R, i⟩ := s
    obtain ⟨hi, h1, h2, h3⟩ := hs
    dsimp only at hi h1 h2 h3 ⊢
    subst hi
    have hb : k < 2147483648 := by omega
    rw [wp_D_reachedFrom_L22, if_neg (by rw [jI_le (by omega) hb]; omega), show (1 : Int64) <<< (Int32.toInt64 (jI k) &&& 63) = oneb k from rfl, jI_s]
    by_cases q : tb R k = true
    · rw [if_neg (fun z => by rw [cmp_bit (by omega), q] at z; cases z), jI_tn hb]
      have hor : ∀ x, tb (R ||| D_from D k) x = true ↔ tb R x = true ∨ ld k x = true := by
        intro x
        rw [tb_or, Bool.or_eq_true]
        by_cases hx : x < 64
        · rw [hD k hk x hx]
        · constructor
          · rintro (z | z)
            · exact Or.inl z
            · rw [tb_hi _ (by omega)] at z
              cases z
          · rintro (z | z)
            · exact Or.inl z
            · have := hld k x z
              omega
      refine ⟨jI_in hb (by omega), hn (_, _) ⟨rfl, fun u hu => (hor u).mpr (Or.inl (h1 u hu)), fun u hu => ?_, fun u hu hu2 x hx => ?_⟩⟩
      · rcases (hor u).mp hu with z | z
        · exact h2 u z
        · exact Relation.TransGen.tail (h2 k q) z
      · dsimp only
        rw [hor x]
        by_cases e : u = k
        · rw [e] at hx
          exact Or.inr hx
        · exact Or.inl (h3 u (by omega) hu2 x hx)
    · have q : tb R k = false := by simpa using q
      rw [if_pos ((cmp_bit (by omega)).mpr q)]
      refine hn (_, _) ⟨rfl, h1, h2, fun u hu hu2 x hx => ?_⟩
      by_cases e : u = k
      · rw [e] at hu2
        rw [h1 k hu2] at q
        cases q
      · exact h3 u (by omega) hu2 x hx
  · intro s n hs
    obtain ⟨R, i⟩ := s
    obtain ⟨hi, h1, h2, h3⟩ := hs
    dsimp only at hi h1 h2 h3 ⊢
    subst hi
    rw [wp_D_reachedFrom_L22, if_pos (by rw [jI_le (by omega) (by omega)]; omega)]
    exact h R h1 h2 h3
theorem tg_in (hld : ∀ u x, ld u x = true → u < c ∧ x < c) {a b : Nat} (h : tg ld a b) : a < c ∧ b < c := by
  induction h with
  | single h => exact hld _ _ h
  | tail _ h ih => exact ⟨ih.1, (hld _ _ h).2⟩
theorem k_D_reachedFrom {post : Int64 → Prop} (hc : c ≤ 60) (ht : t < c) (hD : ∀ u, u < c → ∀ x, x < 64 → tb (D_from D u) x = ld u x) (hld : ∀ u x, ld u x = true → u < c ∧ x < c)
    (h : ∀ R, (∀ u, tb R u = true ↔ tg ld t u) → post R) : wp_D_reachedFrom D (jI t) (jI c) post := by
  have htb : t < 2147483648 := by omega
  unfold wp_D_reachedFrom
  rw [jI_tn htb]
  refine ⟨jI_in htb (by omega), ?_⟩
  have hbit : ∀ u, u < c → ∀ x, tb (D_from D u) x = true ↔ ld u x = true := by
    intro u hu x
    by_cases hx : x < 64
    · rw [hD u hu x hx]
    · constructor
      · intro z
        rw [tb_hi _ (by omega)] at z
        cases z
      · intro z
        have := hld u x z
        omega
  have fin : ∀ R, (∀ x, ld t x = true → tb R x = true) → (∀ u, tb R u = true → tg ld t u) → (∀ u, u < c → tb R u = true → ∀ x, ld u x = true → tb R x = true) → ∀ u, tb R u = true ↔ tg ld t u := by
    intro R h1 h2 h3 u
    refine ⟨h2 u, tg_closed (S := fun u => tb R u = true) h1 (fun a b ha hab => h3 a (hld a b hab).1 ha b hab) u⟩
  refine lpi (fun n (s : Int64 × Int32) => wp_D_reachedFrom_L10 D (jI c) (fun x2 => post x2) n s.1 s.2) (fun k s => s.2 = jI k ∧ (∀ x, ld t x = true → tb s.1 x = true) ∧ (∀ u, tb s.1 u = true → tg ld t u) ∧ k ≤ bc c (tb s.1)) c ?_ ?_ 0 (by omega) (D_from D t, 0) ⟨rfl, fun x hx => (hbit t ht x).mpr hx, fun u hu => Relation.TransGen.single ((hbit t ht u).mp hu), Nat.zero_le _⟩
  · intro k hk s n hs hn
    obtain ⟨R, i⟩ := s
    obtain ⟨hi, h1, h2, h3⟩ := hs
    dsimp only at hi h1 h2 h3 ⊢
    subst hi
    rw [wp_D_reachedFrom_L10, if_neg (by rw [jI_le (by omega) (by omega)]; omega), jI_s]
    refine k_D_sweep hc hD hld h2 (fun R1 g1 g2 g3 => ?_)
    by_cases e : R1 = R
    · rw [if_pos (cmp_0.mpr e)]
      subst e
      exact h R1 (fin R1 h1 h2 g3)
    · rw [if_neg (fun z => e (cmp_0.mp z))]
      refine hn (_, _) ⟨rfl, fun x hx => g1 x (h1 x hx), g2, ?_⟩
      obtain ⟨u, hu1, hu2⟩ : ∃ u, tb R u = false ∧ tb R1 u = true := by
        refine Classical.byContradiction (fun z => e (tb_ext (fun u _ => ?_)))
        cases z1 : tb R u with
        | true => exact g1 u z1
        | false =>
          cases z2 : tb R1 u with
          | false => rfl
          | true => exact absurd ⟨u, z1, z2⟩ z
      have := bc_lt (n := c) (P := tb R) (Q := tb R1) (fun k _ => g1 k) (tg_in hld (g2 u hu2)).2 hu1 hu2
      dsimp only
      omega
  · intro s n hs
    obtain ⟨R, i⟩ := s
    obtain ⟨hi, h1, h2, h3⟩ := hs
    dsimp only at hi h1 h2 h3 ⊢
    subst hi
    rw [wp_D_reachedFrom_L10, if_pos (by rw [jI_le (by omega) (by omega)]; omega)]
    have hall := bc_full h3
    exact h R (fin R h1 h2 (fun u _ _ x hx => hall x (hld u x hx).2))
theorem k_D_sweepB {K : Int64 → Prop} {R0 : Int64} {x5 : Int32} {x6 : Int64} (hc : c ≤ 60) (hD : ∀ u, u < c → ∀ x, x < 64 → tb (D_from D u) x = ld u x) (hld : ∀ u x, ld u x = true → u < c ∧ x < c) (hs0 : ∀ u, tb R0 u = true → u = t ∨ tg ld u t)
    (h : ∀ R1, (∀ u, tb R0 u = true → tb R1 u = true) → (∀ u, tb R1 u = true → u = t ∨ tg ld u t) → (∀ u x, tb R0 x = true → ld u x = true → tb R1 u = true) → K R1) : ∃ e, wp_D_leadingTo_L19 D (jI c) x5 x6 K e R0 0 := by
  refine lpi (fun n (s : Int64 × Int32) => wp_D_leadingTo_L19 D (jI c) x5 x6 K n s.1 s.2) (fun k s => s.2 = jI k ∧ (∀ u, tb R0 u = true → tb s.1 u = true) ∧ (∀ u, tb s.1 u = true → u = t ∨ tg ld u t) ∧ ∀ u, u < k → ∀ x, tb R0 x = true → ld u x = true → tb s.1 u = true) c ?_ ?_ 0 (by omega) (R0, 0) ⟨rfl, fun u hu => hu, hs0, fun u hu => by omega⟩
  · intro k hk s n hs hn
    obtain ⟨R, i⟩ := s
    obtain ⟨hi, h1, h2, h3⟩ := hs
    dsimp only at hi h1 h2 h3 ⊢
    subst hi
    have hb : k < 2147483648 := by omega
    rw [wp_D_leadingTo_L19, if_neg (by rw [jI_le (by omega) hb]; omega), show (1 : Int64) <<< (Int32.toInt64 (jI k) &&& 63) = oneb k from rfl, jI_s, jI_tn hb]
    refine ⟨jI_in hb (by omega), ?_⟩
    by_cases q : lg_cmp (R &&& D_from D k) 0 = 0
    · rw [if_pos q]
      rw [cmp_z] at q
      refine hn (_, _) ⟨rfl, h1, h2, fun u hu x hx hux => ?_⟩
      by_cases e : u = k
      · rw [e] at hux
        have hx64 : x < 64 := by
          have := hld k x hux
          omega
        have := q x hx64
        rw [tb_and, h1 x hx, hD k hk x hx64, hux] at this
        cases this
      · exact h3 u (by omega) x hx hux
    · rw [if_neg q]
      have hor : ∀ x, tb (R ||| oneb k) x = true ↔ tb R x = true ∨ k = x := by
        intro x
        rw [tb_or, Bool.or_eq_true, tb_oneb (by omega), decide_eq_true_eq]
      obtain ⟨x, hx64, hx1, hx2⟩ : ∃ x, x < 64 ∧ tb R x = true ∧ ld k x = true := by
        refine Classical.byContradiction (fun z => q (cmp_z.mpr (fun u hu => ?_)))
        rw [tb_and, hD k hk u hu]
        cases z1 : tb R u with
        | false => rfl
        | true =>
          cases z2 : ld k u with
          | false => rfl
          | true => exact absurd ⟨u, hu, z1, z2⟩ z
      refine hn (_, _) ⟨rfl, fun u hu => (hor u).mpr (Or.inl (h1 u hu)), fun u hu => ?_, fun u hu y hy huy => (hor u).mpr ?_⟩
      · rcases (hor u).mp hu with z | z
        · exact h2 u z
        · subst z
          rcases h2 x hx1 with w | w
          · subst w
            exact Or.inr (Relation.TransGen.single hx2)
          · exact Or.inr (tg_head hx2 w)
      · by_cases e : u = k
        · exact Or.inr e.symm
        · exact Or.inl (h3 u (by omega) y hy huy)
  · intro s n hs
    obtain ⟨R, i⟩ := s
    obtain ⟨hi, h1, h2, h3⟩ := hs
    dsimp only at hi h1 h2 h3 ⊢
    subst hi
    rw [wp_D_leadingTo_L19, if_pos (by rw [jI_le (by omega) (by omega)]; omega)]
    exact h R h1 h2 (fun u x hx hux => h3 u (hld u x hux).1 x hx hux)
theorem k_D_leadingTo {post : Int64 → Prop} (hc : c ≤ 60) (ht : t < c) (hD : ∀ u, u < c → ∀ x, x < 64 → tb (D_from D u) x = ld u x) (hld : ∀ u x, ld u x = true → u < c ∧ x < c)
    (h : ∀ R, (∀ u, tb R u = true ↔ u = t ∨ tg ld u t) → post R) : wp_D_leadingTo D (jI t) (jI c) post := by
  unfold wp_D_leadingTo
  rw [show (1 : Int64) <<< (Int32.toInt64 (jI t) &&& 63) = oneb t from rfl]
  have fin : ∀ R, tb R t = true → (∀ u, tb R u = true → u = t ∨ tg ld u t) → (∀ u x, tb R x = true → ld u x = true → tb R u = true) → ∀ u, tb R u = true ↔ u = t ∨ tg ld u t := by
    intro R h1 h2 h3 u
    refine ⟨h2 u, fun q => ?_⟩
    rcases q with q | q
    · rw [q]
      exact h1
    · exact tg_back (S := fun u => tb R u = true) (fun a ha => h3 a t h1 ha) (fun a b hb hab => h3 a b hb hab) u q
  have h1t : ∀ u, tb (oneb t) u = true ↔ t = u := by
    intro u
    rw [tb_oneb (by omega), decide_eq_true_eq]
  refine lpi (fun n (s : Int64 × Int32) => wp_D_leadingTo_L7 D (jI c) (fun x2 => post x2) n s.1 s.2) (fun k s => s.2 = jI k ∧ tb s.1 t = true ∧ (∀ u, tb s.1 u = true → u = t ∨ tg ld u t) ∧ k ≤ bc c (tb s.1)) c ?_ ?_ 0 (by omega) (oneb t, 0) ⟨rfl, (h1t t).mpr rfl, fun u hu => Or.inl ((h1t u).mp hu).symm, Nat.zero_le _⟩
  · intro k hk s n hs hn
    obtain ⟨R, i⟩ := s
    obtain ⟨hi, h1, h2, h3⟩ := hs
    dsimp only at hi h1 h2 h3 ⊢
    subst hi
    rw [wp_D_leadingTo_L7, if_neg (by rw [jI_le (by omega) (by omega)]; omega), jI_s]
    refine k_D_sweepB hc hD hld h2 (fun R1 g1 g2 g3 => ?_)
    by_cases e : R1 = R
    · rw [if_pos (cmp_0.mpr e)]
      subst e
      exact h R1 (fin R1 h1 h2 g3)
    · rw [if_neg (fun z => e (cmp_0.mp z))]
      refine hn (_, _) ⟨rfl, g1 t h1, g2, ?_⟩
      obtain ⟨u, hu1, hu2⟩ : ∃ u, tb R u = false ∧ tb R1 u = true := by
        refine Classical.byContradiction (fun z => e (tb_ext (fun u _ => ?_)))
        cases z1 : tb R u with
        | true => exact g1 u z1
        | false =>
          cases z2 : tb R1 u with
          | false => rfl
          | true => exact absurd ⟨u, z1, z2⟩ z
      have huc : u < c := by
        rcases g2 u hu2 with w | w
        · omega
        · exact (tg_in hld w).1
      have := bc_lt (n := c) (P := tb R) (Q := tb R1) (fun k _ => g1 k) huc hu1 hu2
      dsimp only
      omega
  · intro s n hs
    obtain ⟨R, i⟩ := s
    obtain ⟨hi, h1, h2, h3⟩ := hs
    dsimp only at hi h1 h2 h3 ⊢
    subst hi
    rw [wp_D_leadingTo_L7, if_pos (by rw [jI_le (by omega) (by omega)]; omega)]
    have hall := bc_full h3
    exact h R (fin R h1 h2 (fun u x _ hx => hall u (hld u x hx).1))
theorem k_D_greatest {post : Int32 → Prop} (hc : c ≤ 60) (ht : t < c) (hD : ∀ u, u < c → ∀ x, x < 64 → tb (D_from D u) x = ld u x) (hld : ∀ u x, ld u x = true → u < c ∧ x < c)
    (h : post (pI (sp_vic ld c t))) : wp_D_greatestInCircle D (jI t) (jI c) post := by
  unfold wp_D_greatestInCircle
  unfold sp_vic at h
  refine k_D_reachedFrom hc ht hD hld (fun R hR => ?_)
  rw [show (1 : Int64) <<< (Int32.toInt64 (jI t) &&& 63) = oneb t from rfl]
  by_cases q : tg ld t t
  · rw [if_neg (fun z => by rw [cmp_bit (by omega), (hR t).mpr q] at z; cases z)]
    rw [dP_iff.mpr q, if_pos (by rfl)] at h
    refine k_D_leadingTo hc ht hD hld (fun B hB => ?_)
    rw [jI_dm]
    refine lpd (fun n m (_ : Unit) => wp_D_greatestInCircle_L34 (jI t) (R &&& B) post (post (jI t)) n (jI m + (-1))) (fun m _ => t < m ∧ m ≤ c ∧ ∀ y, m ≤ y → y < c → dP (tg ld t y ∧ tg ld y t) = false) ?_ ?_ c () ⟨ht, Nat.le_refl _, fun y h1 h2 => by omega⟩
    · intro m _ n hs hn
      obtain ⟨h1, h2, h3⟩ := hs
      rw [wp_D_greatestInCircle_L34, jI_p, ite_iff' (jI_le (by omega) (by omega)), show (1 : Int64) <<< (Int32.toInt64 (jI m) &&& 63) = oneb m from rfl]
      by_cases e : m ≤ t
      · rw [if_pos e]
        have : t = m := by omega
        subst this
        rw [gl_eq (x := t) ht (dP_iff.mpr ⟨q, q⟩) (fun y hy1 hy2 => h3 y (by omega) hy2)] at h
        exact h
      · rw [if_neg e]
        by_cases z : tg ld t m ∧ tg ld m t
        · rw [if_neg (fun w => by
            rw [cmp_bit (by omega), tb_and, (hR m).mpr z.1, (hB m).mpr (Or.inr z.2)] at w
            cases w)]
          rw [gl_eq (x := m) (by omega) (dP_iff.mpr z) (fun y hy1 hy2 => h3 y (by omega) hy2)] at h
          exact h
        · rw [if_pos ((cmp_bit (by omega)).mpr (by
            rw [tb_and]
            cases z1 : tb R m with
            | false => rfl
            | true =>
              cases z2 : tb B m with
              | false => rfl
              | true =>
                rcases (hB m).mp z2 with w | w
                · omega
                · exact absurd ⟨(hR m).mp z1, w⟩ z))]
          refine hn () ⟨by omega, by omega, fun y hy1 hy2 => ?_⟩
          by_cases ey : y = m
          · rw [ey]
            exact dP_not z
          · exact h3 y (by omega) hy2
    · intro _ n hs
      omega
  · rw [if_pos ((cmp_bit (by omega)).mpr (by
      cases z1 : tb R t with
      | false => rfl
      | true => exact absurd ((hR t).mp z1) q))]
    rw [dP_not q, if_neg (by decide)] at h
    exact h
variable {A : S_A} {T : S_T} {K : S_K} {P : S_P} {v : VP} {tv : VT} {L : VK}
theorem k_N_victimOfCircle {post : Int32 → S_D → S_P → Prop} (hA : RA A v) (hK : RK K L) (hT : RT T tv) (hv : iT tv) (hL : iK tv L) (ht : t < tv_c tv)
    (h : ∀ D' P', post (pI (sp_vict v L tv t)) D' P') : wp_N_victimOfCircle A D K P T (jI t) post := by
  have hc := hv.1
  have htb : t < 2147483648 := by omega
  unfold wp_N_victimOfCircle
  refine k_T_isLive hT hv htb ?_
  unfold sp_vict at h
  cases hl : sp_liv tv t with
  | false =>
    rw [if_pos (by rfl)]
    rw [hl] at h
    exact h _ _
  | true =>
    rw [if_neg (by decide)]
    rw [hl] at h
    rw [hT.1]
    refine lpi (fun n (s : Int32 × S_D × S_P) => wp_N_victimOfCircle_L15 A K T (jI t) _ n s.1 s.2.1 s.2.2) (fun k s => s.1 = jI k ∧ ∀ u, u < k → ∀ x, x < 64 → tb (D_from s.2.1 u) x = sp_ld v L tv u x) (tv_c tv) ?_ ?_ 0 (by omega) (0, D, P) ⟨rfl, fun u hu => by omega⟩
    · intro k hk s n hs hn
      obtain ⟨i, D, P⟩ := s
      obtain ⟨hi, hs⟩ := hs
      dsimp only at hi hs ⊢
      subst hi
      have hb : k < 2147483648 := by omega
      rw [wp_N_victimOfCircle_L15, hT.1, if_neg (by rw [jI_le (by omega) hb]; omega), jI_s, jI_tn hb]
      refine k_N_leadsOf hA hK hT hv hL hk (fun x P' hx => ⟨jI_in hb (by omega), hn (_, _, _) ⟨rfl, fun u hu y hy => ?_⟩⟩)
      show tb (vp_updL (D_from D) k x u) y = sp_ld v L tv u y
      by_cases e : u = k
      · rw [e, updL_same]
        exact hx y hy
      · rw [updL_ne _ _ e]
        exact hs u (by omega) y hy
    · intro s n hs
      obtain ⟨i, D, P⟩ := s
      obtain ⟨hi, hs⟩ := hs
      dsimp only at hi hs ⊢
      subst hi
      rw [wp_N_victimOfCircle_L15, hT.1, if_pos (by rw [jI_le (by omega) (by omega)]; omega)]
      exact k_D_greatest hc ht hs (fun u x hux => sp_ld_in hv hL hux) (h _ _)
end PN4
