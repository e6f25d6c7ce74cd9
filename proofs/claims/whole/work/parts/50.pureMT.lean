section PMT
variable {T : S_MT} {tv : VT} {G : S_MG} {g : VG} {t : Nat}
theorem pI_neg {o : Option Nat} {c : Nat} (hc : c < 2147483648) (h : ∀ x, o = some x → x < c) : pI o < 0 ↔ o = none := by
  cases o with
  | none => exact ⟨fun _ => rfl, fun _ => by decide⟩
  | some x => exact ⟨fun q => absurd q (jI_nn (Nat.lt_trans (h x rfl) hc)), fun q => by cases q⟩
theorem m_is {post : Int32 → Prop} (hT : RMT T tv) (hv : iT tv) (ht : t < 2147483648) (h : post (b2i (decide (t < tv_c tv)))) : wp_M_is T (jI t) post := by
  have hc := hv.1
  unfold wp_M_is
  rw [if_neg (jI_nn ht), hT.1, ite_iff' (jI_le (by omega) ht)]
  by_cases q : t < tv_c tv
  · rw [if_neg (by omega)]
    rw [decide_eq_true q] at h
    exact h
  · rw [if_pos (by omega)]
    rw [decide_eq_false q] at h
    exact h
theorem m_is_neg {post : Int32 → Prop} {a : Int32} (ha : a < 0) (h : post 0) : wp_M_is T a post := by
  unfold wp_M_is
  rw [if_pos ha]
  exact h
theorem m_active {post : Int32 → Prop} (hT : RMT T tv) (hv : iT tv) (ht : t < 2147483648) (h : post (b2i (sp_act tv t))) : wp_M_active T (jI t) post := by
  have hc := hv.1
  unfold wp_M_active
  refine m_is hT hv ht ?_
  unfold sp_act at h
  by_cases q : t < tv_c tv
  · rw [decide_eq_true q] at h ⊢
    rw [if_neg (by decide), jI_tn ht, hT.2.1 t q]
    refine ⟨jI_in ht (by omega), ?_⟩
    by_cases e : tv_st tv t = 1
    · rw [if_pos e]
      rw [decide_eq_true e] at h
      exact h
    · rw [if_neg e]
      rw [decide_eq_false e] at h
      exact h
  · rw [decide_eq_false q] at h ⊢
    rw [if_pos (by rfl)]
    exact h
theorem m_live {post : Int32 → Prop} (hT : RMT T tv) (hv : iT tv) (ht : t < tv_c tv) (h : post (b2i (sp_liv tv t))) : wp_M_live T (jI t) post := by
  have hc := hv.1
  have hb : t < 2147483648 := by omega
  have hii : vp_in (jI t) 60 := jI_in hb (by omega)
  unfold wp_M_live
  unfold sp_liv at h
  rw [decide_eq_true ht] at h
  rw [jI_tn hb, hT.2.1 t ht]
  refine ⟨hii, ?_⟩
  by_cases e : tv_st tv t = 1
  · rw [if_pos e]
    rw [decide_eq_true e] at h
    exact h
  · rw [if_neg e]
    rw [decide_eq_false e] at h
    refine ⟨hii, ?_⟩
    by_cases e2 : tv_st tv t = 2
    · rw [if_pos e2]
      rw [decide_eq_true e2] at h
      exact h
    · rw [if_neg e2]
      rw [decide_eq_false e2] at h
      exact h
theorem m_lives {post : Int32 → Prop} (hT : RMT T tv) (hv : iT tv) (h : post (jI (sp_lives tv))) : wp_M_lives T post := by
  have hc := hv.1
  unfold wp_M_lives
  refine lpi (fun n (s : Int32 × Int32) => wp_M_lives_L4 T (fun x2 => post x2) n s.1 s.2) (fun k s => s = (jI (bc k (sp_liv tv)), jI k)) (tv_c tv) ?_ ?_ 0 (by omega) (0, 0) rfl
  · intro k hk s n hs hn
    subst hs
    have hb : k < 2147483648 := by omega
    dsimp only
    rw [wp_M_lives_L4, hT.1, if_neg (by rw [jI_le (by omega) hb]; omega)]
    refine m_live hT hv hk ?_
    have hs : bc (k + 1) (sp_liv tv) = bc k (sp_liv tv) + (if sp_liv tv k then 1 else 0) := rfl
    cases q : sp_liv tv k with
    | true =>
      rw [if_neg (by decide), jI_s, jI_s]
      refine hn (_, _) ?_
      rw [hs, q]
      rfl
    | false =>
      rw [if_pos (by rfl), jI_s, Int32.add_zero]
      refine hn (_, _) ?_
      rw [hs, q]
      rfl
  · intro s n hs
    subst hs
    dsimp only
    rw [wp_M_lives_L4, hT.1, if_pos (by rw [jI_le (by omega) (by omega)]; omega)]
    exact h
theorem m_busy {post : Int32 → Prop} (hT : RMT T tv) (hv : iT tv) (ht : t < tv_c tv) (h : post (b2i (sp_busy tv t))) : wp_M_busy T (jI t) post := by
  have hc := hv.1
  unfold wp_M_busy
  refine lpi (fun n (s : Int32 × Int32) => wp_M_busy_L4 T (jI t) (fun x2 => vp_nar .boolean x2 = x2 ∧ post x2) n s.1 s.2) (fun k s => s = (b2i (bx k (sp_chl tv t)), jI k)) (tv_c tv) ?_ ?_ 0 (by omega) (0, 0) rfl
  · intro k hk s n hs hn
    subst hs
    have hb : k < 2147483648 := by omega
    dsimp only
    rw [wp_M_busy_L4, hT.1, if_neg (by rw [jI_le (by omega) hb]; omega), jI_s]
    have hs : bx (k + 1) (sp_chl tv t) = (bx k (sp_chl tv t) || sp_chl tv t k) := rfl
    cases q : bx k (sp_chl tv t) with
    | true =>
      rw [if_neg (by decide)]
      refine hn (_, _) ?_
      rw [hs, q]
      rfl
    | false =>
      rw [if_pos (by rfl)]
      refine m_live hT hv hk ?_
      cases ql : sp_liv tv k with
      | false =>
        rw [if_pos (by rfl)]
        refine hn (_, _) ?_
        rw [hs, q]
        unfold sp_chl
        rw [ql]
        rfl
      | true =>
        rw [if_neg (by decide), jI_tn hb, hT.2.2.1 k hk]
        refine ⟨jI_in hb (by omega), ?_⟩
        have hpp : pI (tv_par tv k) = jI t ↔ tv_par tv k = some t := by
          cases hp : tv_par tv k with
          | none =>
            constructor
            · intro z
              exact absurd z.symm (jI_m1 (by omega))
            · intro z
              cases z
          | some p =>
            have := (hv.2.1 _ hk).2.2.2.2.2 p hp
            constructor
            · intro z
              rw [(jI_eq (by omega) (by omega)).mp z]
            · intro z
              cases z
              rfl
        by_cases hp : tv_par tv k = some t
        · rw [if_pos (hpp.mpr hp)]
          refine hn (_, _) ?_
          rw [hs, q]
          unfold sp_chl
          rw [ql, decide_eq_true hp]
          rfl
        · rw [if_neg (fun z => hp (hpp.mp z))]
          refine hn (_, _) ?_
          rw [hs, q]
          unfold sp_chl
          rw [ql, decide_eq_false hp]
          rfl
  · intro s n hs
    subst hs
    dsimp only
    rw [wp_M_busy_L4, hT.1, if_pos (by rw [jI_le (by omega) (by omega)]; omega)]
    exact ⟨nar_b _, h⟩
theorem m_top {post : Int32 → Prop} (hT : RMT T tv) (hv : iT tv) (ht : t < tv_c tv) (h : post (jI (tv_top tv t))) : wp_M_top T (jI t) post := by
  have hc := hv.1
  unfold wp_M_top
  refine lpi (fun n (s : Int32 × Int32) => wp_M_top_L4 T (fun x1 => post x1) n s.1 s.2) (fun k s => s.2 = jI k ∧ ∃ x, s.1 = jI x ∧ x < tv_c tv ∧ tv_top tv x = tv_top tv t ∧ tv_dep tv x + k ≤ 4) 4 ?_ ?_ 0 (by omega) (jI t, 0) ⟨rfl, t, rfl, ht, rfl, (hv.2.1 t ht).2.2.1⟩
  · intro k hk s n hs hn
    obtain ⟨a, b⟩ := s
    obtain ⟨e1, x, e2, hx, htop, hd⟩ := hs
    dsimp only at e1 e2 ⊢
    subst e1
    subst e2
    have hb : x < 2147483648 := by omega
    have hii : vp_in (jI x) 60 := jI_in hb (by omega)
    obtain ⟨-, d1, d2, -, p1, p2⟩ := hv.2.1 x hx
    rw [wp_M_top_L4, if_neg (by rw [show (4 : Int32) = jI 4 from rfl, jI_le (by omega) (by omega)]; omega), jI_tn hb, hT.2.2.1 x hx, jI_s]
    refine ⟨hii, ?_⟩
    cases hp : tv_par tv x with
    | none =>
      rw [if_pos (by decide)]
      rw [← htop, (p1 hp).1] at h
      exact h
    | some p =>
      obtain ⟨q1, q2, q3, -⟩ := p2 p hp
      rw [show pI (some p) = jI p from rfl, if_neg (jI_nn (by omega))]
      exact ⟨hii, hn (_, _) ⟨rfl, p, rfl, by omega, by rw [← htop, q2], by omega⟩⟩
  · intro s n hs
    obtain ⟨a, b⟩ := s
    obtain ⟨e1, x, e2, hx, htop, hd⟩ := hs
    have := (hv.2.1 x hx).2.1
    omega
theorem m_above {post : Int32 → Prop} {a : Nat} (hT : RMT T tv) (hv : iT tv) (ht : t < tv_c tv) (ha : a < 2147483648) (h : post (b2i (sp_abv tv a t))) : wp_M_above T (jI a) (jI t) post := by
  have hc := hv.1
  have hb : t < 2147483648 := by omega
  unfold wp_M_above
  rw [jI_tn hb, hT.2.2.1 t ht]
  refine ⟨jI_in hb (by omega), ?_⟩
  refine lpi (fun n (s : Int32 × Int32 × Int32) => wp_M_above_L13 T (jI a) (fun x2 => vp_nar .boolean x2 = x2 ∧ post x2) n s.1 s.2.1 s.2.2) (fun k s => s.2.2 = jI k ∧ ∃ (y : Bool) (o : Option Nat), s.1 = b2i y ∧ s.2.1 = pI o ∧ (y || sp_linO tv o a) = sp_abv tv a t ∧ ∀ x, o = some x → x < tv_c tv ∧ tv_dep tv x + k + 1 ≤ 4) 4 ?_ ?_ 0 (by omega) (0, pI (tv_par tv t), 0) ⟨rfl, false, tv_par tv t, rfl, rfl, rfl, fun x hx => ?_⟩
  · intro k hk s n hs hn
    obtain ⟨s1, s2, s3⟩ := s
    obtain ⟨e1, y, o, e2, e3, he, ho⟩ := hs
    dsimp only at e1 e2 e3 ⊢
    subst e1
    subst e2
    subst e3
    rw [wp_M_above_L13, if_neg (by rw [show (4 : Int32) = jI 4 from rfl, jI_le (by omega) (by omega)]; omega)]
    cases o with
    | none =>
      rw [if_pos (by decide)]
      rw [← he] at h
      simp only [sp_linO, Bool.or_false] at h
      exact ⟨nar_b _, h⟩
    | some x =>
      obtain ⟨hx, hd⟩ := ho x rfl
      have hxb : x < 2147483648 := by omega
      obtain ⟨-, d1, d2, -, p1, p2⟩ := hv.2.1 x hx
      rw [show pI (some x) = jI x from rfl, if_neg (jI_nn hxb)]
      refine jn_in (fun jk => jk (b2i (y || decide (x = a)))) ?_ ?_
      · rw [jI_tn hxb, hT.2.2.1 x hx]
        refine ⟨jI_in hxb (by omega), hn (_, _, _) ⟨jI_s k, y || decide (x = a), tv_par tv x, rfl, rfl, ?_, fun z hz => ?_⟩⟩
        · rw [← he, Bool.or_assoc]
          congr 1
          exact (hv.lin_abv hx a).symm
        · obtain ⟨q1, q2, q3, -⟩ := p2 z hz
          omega
      · intro jk hjk
        cases y with
        | true =>
          rw [if_neg (by decide)]
          exact hjk
        | false =>
          rw [if_pos (by rfl), ite_iff' (jI_eq hxb ha)]
          by_cases z : x = a
          · rw [if_pos z]
            rw [decide_eq_true z] at hjk
            exact hjk
          · rw [if_neg z]
            rw [decide_eq_false z] at hjk
            exact hjk
  · intro s n hs
    obtain ⟨s1, s2, s3⟩ := s
    obtain ⟨e1, y, o, e2, e3, he, ho⟩ := hs
    dsimp only at e1 e2 e3 ⊢
    subst e1
    subst e2
    subst e3
    rw [wp_M_above_L13, if_pos (by decide)]
    cases o with
    | none =>
      rw [← he] at h
      simp only [sp_linO, Bool.or_false] at h
      exact ⟨nar_b _, h⟩
    | some x =>
      have := ho x rfl
      omega
  · obtain ⟨-, d1, d2, -, p1, p2⟩ := hv.2.1 t ht
    obtain ⟨q1, q2, q3, -⟩ := p2 x hx
    omega
theorem m_depth {post : Int32 → Prop} (hT : RMT T tv) (hv : iT tv) (ht : t < tv_c tv) (h : post (jI (tv_dep tv t))) : wp_M_depth T (jI t) post := by
  have hc := hv.1
  have hb : t < 2147483648 := by omega
  unfold wp_M_depth
  rw [jI_tn hb, hT.2.2.1 t ht]
  refine ⟨jI_in hb (by omega), ?_⟩
  obtain ⟨-, d1, d2, -, p1, p2⟩ := hv.2.1 t ht
  refine lpi (fun n (s : Int32 × Int32 × Int32) => wp_M_depth_L12 T (fun x1 => post x1) n s.1 s.2.1 s.2.2) (fun k s => s.2.2 = jI k ∧ s.1 = jI (k + 1) ∧ ∃ o : Option Nat, s.2.1 = pI o ∧ (o = none → tv_dep tv t = k + 1) ∧ ∀ x, o = some x → x < tv_c tv ∧ tv_dep tv x + k + 1 = tv_dep tv t) 4 ?_ ?_ 0 (by omega) (1, pI (tv_par tv t), 0) ⟨rfl, rfl, tv_par tv t, rfl, fun z => (p1 z).2.1, fun x hx => ?_⟩
  · intro k hk s n hs hn
    obtain ⟨s1, s2, s3⟩ := s
    obtain ⟨e1, e2, o, e3, ho1, ho2⟩ := hs
    dsimp only at e1 e2 e3 ⊢
    subst e1
    subst e2
    subst e3
    rw [wp_M_depth_L12, if_neg (by rw [show (4 : Int32) = jI 4 from rfl, jI_le (by omega) (by omega)]; omega)]
    cases o with
    | none =>
      rw [if_pos (by decide)]
      rw [ho1 rfl] at h
      exact h
    | some x =>
      obtain ⟨hx, hd⟩ := ho2 x rfl
      have hxb : x < 2147483648 := by omega
      obtain ⟨-, -, -, -, q1, q2⟩ := hv.2.1 x hx
      rw [show pI (some x) = jI x from rfl, if_neg (jI_nn hxb), jI_tn hxb, hT.2.2.1 x hx, jI_s, jI_s]
      refine ⟨jI_in hxb (by omega), hn (_, _, _) ⟨rfl, rfl, tv_par tv x, rfl, fun z => ?_, fun z hz => ?_⟩⟩
      · have := (q1 z).2.1
        omega
      · have := q2 z hz
        omega
  · intro s n hs
    obtain ⟨s1, s2, s3⟩ := s
    obtain ⟨e1, e2, o, e3, ho1, ho2⟩ := hs
    cases o with
    | none =>
      have := ho1 rfl
      omega
    | some x =>
      have := ho2 x rfl
      omega
  · have := p2 x hx
    omega
theorem m_undone {post : Int32 → Prop} {u c : Nat} (hG : RMG G g) (hI : iG g c) (hu : u < gv_n g) (h : post (b2i (sp_ud g u))) : wp_M_undone G (jI u) post := by
  obtain ⟨i1, i2, i3, i4, i5, i6, i7, i8, -⟩ := hI
  unfold wp_M_undone
  rw [jI_s]
  have start : bx (u + 1) (fun x => decide (gv_kd g x = 3) && gv_ou g x == u) = false := by
    cases z : bx (u + 1) (fun x => decide (gv_kd g x = 3) && gv_ou g x == u) with
    | false => rfl
    | true =>
      obtain ⟨x, hx, hz⟩ := bx_iff.mp z
      simp at hz
      have := (i7 x (by omega) hz.1).1
      omega
  refine lpi (fun n (s : Int32 × Int32) => wp_M_undone_L6 G (jI u) (fun x1 => vp_nar .boolean x1 = x1 ∧ post x1) n s.1 s.2) (fun d s => s = (b2i (bx (u + 1 + d) (fun x => decide (gv_kd g x = 3) && gv_ou g x == u)), jI (u + 1 + d))) (gv_n g - (u + 1)) ?_ ?_ 0 (by omega) (0, jI (u + 1)) (by show _ = (b2i (bx (u + 1) _), _); rw [start]; rfl)
  · intro d hd s n hs hn
    subst hs
    have hb : u + 1 + d < 2147483648 := by omega
    have hlt : u + 1 + d < gv_n g := by omega
    have hii : vp_in (jI (u + 1 + d)) 301 := jI_in hb (by omega)
    have hs : bx (u + 1 + (d + 1)) (fun x => decide (gv_kd g x = 3) && gv_ou g x == u) = (bx (u + 1 + d) (fun x => decide (gv_kd g x = 3) && gv_ou g x == u) || (decide (gv_kd g (u + 1 + d) = 3) && gv_ou g (u + 1 + d) == u)) := rfl
    dsimp only
    rw [wp_M_undone_L6, hG.2.1, if_neg (by rw [jI_le (by omega) hb]; omega), jI_tn hb, hG.2.2.2.1 _ hlt, hG.2.2.2.2.2.2.1 _ hlt, hG.1, jI_a, jI_s, jI_s]
    cases q : bx (u + 1 + d) (fun x => decide (gv_kd g x = 3) && gv_ou g x == u) with
    | true =>
      rw [if_neg (by decide)]
      refine hn (_, _) ?_
      rw [hs, q]
      rfl
    | false =>
      rw [if_pos (by rfl)]
      refine ⟨hii, ?_⟩
      by_cases hk : gv_kd g (u + 1 + d) = 3
      · obtain ⟨o1, o2, o3⟩ := i7 _ hlt hk
        rw [if_pos hk, o3, ite_iff' (jI_eq (by omega) (by omega))]
        refine ⟨hii, ?_⟩
        by_cases he : gv_ou g (u + 1 + d) = u
        · rw [if_pos (by omega)]
          refine hn (_, _) ?_
          have hbq : (gv_ou g (u + 1 + d) == u) = true := by simpa using he
          rw [hs, q, decide_eq_true hk, hbq]
          rfl
        · rw [if_neg (by omega)]
          refine hn (_, _) ?_
          have : (gv_ou g (u + 1 + d) == u) = false := by
            rw [beq_eq_false_iff_ne]
            exact he
          rw [hs, q, this, Bool.and_false]
          rfl
      · rw [if_neg hk]
        refine hn (_, _) ?_
        rw [hs, q, decide_eq_false hk]
        rfl
  · intro s n hs
    subst hs
    dsimp only
    rw [show u + 1 + (gv_n g - (u + 1)) = gv_n g by omega, wp_M_undone_L6, hG.2.1, if_pos (by rw [jI_le (by omega) (by omega)]; omega)]
    exact ⟨nar_b _, h⟩
theorem m_open {post : Int32 → Prop} {r : Nat} (hG : RMG G g) (hT : RMT T tv) (hv : iT tv) (hI : iG g (tv_c tv)) (hr : r < gv_n g) (h : post (b2i (sp_opn g tv r))) : wp_M_open G T (jI r) post := by
  have hc := hv.1
  have hn := hI.1
  have hby := hI.2.2.2.2.1 r hr
  have hb : r < 2147483648 := by omega
  have hii : vp_in (jI r) 301 := jI_in hb (by omega)
  have htl := hv.top_lt _ hby
  have htb : tv_top tv (gv_by g r) < 2147483648 := by omega
  have htc : tv_top tv (gv_by g r) < tv_c tv := by omega
  have hti : vp_in (jI (tv_top tv (gv_by g r))) 60 := jI_in htb (by omega)
  unfold wp_M_open
  unfold sp_opn at h
  rw [jI_tn hb, hG.2.2.2.1 r hr, hG.2.2.2.2.1 r hr]
  refine ⟨hii, ?_⟩
  by_cases hk : gv_kd g r = 2
  · rw [if_pos hk]
    rw [decide_eq_true hk, Bool.true_and] at h
    refine ⟨hii, m_top hT hv hby ⟨hti, ?_⟩⟩
    rw [jI_tn htb, hT.2.1 _ htc]
    unfold sp_liv at h
    rw [decide_eq_true htc, Bool.true_and] at h
    by_cases s3 : tv_st tv (tv_top tv (gv_by g r)) = 3
    · rw [if_pos s3]
      rw [s3] at h
      simp at h
      exact h
    · rw [if_neg s3]
      refine ⟨hii, m_top hT hv hby ⟨hti, ?_⟩⟩
      rw [jI_tn htb, hT.2.1 _ htc]
      by_cases s4 : tv_st tv (tv_top tv (gv_by g r)) = 4
      · rw [if_pos s4]
        rw [s4] at h
        simp at h
        exact h
      · rw [if_neg s4]
        have hl : (decide (tv_st tv (tv_top tv (gv_by g r)) = 1) || decide (tv_st tv (tv_top tv (gv_by g r)) = 2)) = true := by
          have := (hv.2.1 _ htc).1
          simp
          rcases this with z | z | z | z
          · exact Or.inl z
          · exact Or.inr z
          · exact absurd z s3
          · exact absurd z s4
        rw [hl, Bool.and_true] at h
        refine m_undone hG hI hr ?_
        cases hu : sp_ud g r with
        | true =>
          rw [if_neg (by decide)]
          rw [hu] at h
          exact h
        | false =>
          rw [if_pos (by rfl)]
          rw [hu] at h
          exact h
  · rw [if_neg hk]
    rw [decide_eq_false hk] at h
    exact h
theorem m_opens {post : Int32 → Prop} (hG : RMG G g) (hT : RMT T tv) (hv : iT tv) (hI : iG g (tv_c tv)) (h : post (jI (sp_opens g tv))) : wp_M_opens G T post := by
  have hn0 := hI.1
  unfold wp_M_opens
  refine lpi (fun n (s : Int32 × Int32) => wp_M_opens_L4 G T (fun x2 => post x2) n s.1 s.2) (fun k s => s = (jI (bc k (sp_opn g tv)), jI k)) (gv_n g) ?_ ?_ 0 (by omega) (0, 0) rfl
  · intro k hk s n hs hn
    subst hs
    have hb : k < 2147483648 := by omega
    dsimp only
    rw [wp_M_opens_L4, hG.2.1, if_neg (by rw [jI_le (by omega) hb]; omega)]
    refine m_open hG hT hv hI hk ?_
    have hs : bc (k + 1) (sp_opn g tv) = bc k (sp_opn g tv) + (if sp_opn g tv k then 1 else 0) := rfl
    cases q : sp_opn g tv k with
    | true =>
      rw [if_neg (by decide), jI_s, jI_s]
      refine hn (_, _) ?_
      rw [hs, q]
      rfl
    | false =>
      rw [if_pos (by rfl), jI_s, Int32.add_zero]
      refine hn (_, _) ?_
      rw [hs, q]
      rfl
  · intro s n hs
    subst hs
    dsimp only
    rw [wp_M_opens_L4, hG.2.1, if_pos (by rw [jI_le (by omega) (by omega)]; omega)]
    exact h
theorem m_full {post : Int32 → Prop} (hG : RMG G g) (hT : RMT T tv) (hv : iT tv) (hI : iG g (tv_c tv)) (h : post (b2i (!sp_room g tv))) : wp_M_full G T post := by
  have hc := hv.1
  have hn0 := hI.1
  unfold wp_M_full
  refine m_opens hG hT hv hI (m_lives hT hv ?_)
  have hl : sp_lives tv ≤ tv_c tv := bc_le _ _
  have ho : sp_opens g tv ≤ gv_n g := bc_le _ _
  rw [hG.2.1, jI_a, jI_a, show (2 : Int32) = jI 2 from rfl, jI_a, show (300 : Int32) = jI 300 from rfl, ite_iff' (jI_le (by omega) (by omega))]
  unfold sp_room at h
  by_cases q : gv_n g + sp_opens g tv + sp_lives tv + 2 ≤ 300
  · rw [if_pos q]
    rw [decide_eq_true q] at h
    exact h
  · rw [if_neg q]
    rw [decide_eq_false q] at h
    exact h
end PMT
