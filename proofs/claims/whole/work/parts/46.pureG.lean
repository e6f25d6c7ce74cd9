section PG
variable {G : S_G} {g : VG}
theorem k_G_last {post : Int32 → Prop} (hG : RG G g) (h : post (jI (gv_b g + gv_n g))) : wp_G_last G post := by
  unfold wp_G_last
  rw [hG.1, hG.2.1, jI_a]
  exact h
theorem k_G_lsnOf {post : Int32 → Prop} {r : Nat} (hG : RG G g) (h : post (jI (gv_b g + r + 1))) : wp_G_lsnOf G (jI r) post := by
  unfold wp_G_lsnOf
  rw [hG.1, jI_s, jI_a, show gv_b g + 1 + r = gv_b g + r + 1 by omega]
  exact h
theorem k_G_rowOf {post : Int32 → Prop} {r : Nat} (hG : RG G g) (h : post (jI r)) : wp_G_rowOf G (jI (gv_b g + r + 1)) post := by
  unfold wp_G_rowOf
  rw [hG.1, jI_sub (by omega), show gv_b g + r + 1 - gv_b g = r + 1 by omega, jI_d]
  exact h
theorem k_G_setBefore {post : S_G → Prop} {r : Nat} {b : Bool} {x : Int32} (hG : RG G g) (hn : gv_n g ≤ 300) (hr : r < gv_n g) (h : ∀ G', RG G' (sp_bef g r b x) → post G') : wp_G_setBefore G (jI r) (b2i b) x post := by
  have hb : r < 2147483648 := by omega
  have hii : vp_in (jI r) 300 := jI_in hb (by omega)
  obtain ⟨h1, h2, h3, h4, h5, h6, h7, h8, h9, h10, h11, h12⟩ := hG
  unfold wp_G_setBefore
  rw [jI_tn hb, nar_b]
  exact ⟨hii, hii, h _ ⟨h1, h2, h3, h4, h5, h6, up_k b2i h7 rfl, up_k (fun x => x) h8 rfl, h9, h10, h11, h12⟩⟩
theorem k_G_setAfter {post : S_G → Prop} {r : Nat} {b : Bool} {x : Int32} (hG : RG G g) (hn : gv_n g ≤ 300) (hr : r < gv_n g) (h : ∀ G', RG G' (sp_aft g r b x) → post G') : wp_G_setAfter G (jI r) (b2i b) x post := by
  have hb : r < 2147483648 := by omega
  have hii : vp_in (jI r) 300 := jI_in hb (by omega)
  obtain ⟨h1, h2, h3, h4, h5, h6, h7, h8, h9, h10, h11, h12⟩ := hG
  unfold wp_G_setAfter
  rw [jI_tn hb, nar_b]
  exact ⟨hii, hii, h _ ⟨h1, h2, h3, h4, h5, h6, h7, h8, up_k b2i h9 rfl, up_k (fun x => x) h10 rfl, h11, h12⟩⟩
theorem sp_ud_app {k : Int32} {t : Nat} {a : Int32} (hou : ∀ x, x < gv_n g → gv_kd g x = 3 → gv_ou g x < x) {r : Nat} (hr : r ≤ gv_n g) : sp_ud (sp_app g k t a) r = if r < gv_n g then sp_ud g r else false := by
  have e : sp_ud (sp_app g k t a) r = sp_ud g r := by
    show bx (gv_n g + 1) (fun x => decide (updN (gv_kd g) (gv_n g) k x = 3) && updN (gv_ou g) (gv_n g) (gv_n g + 1) x == r) = bx (gv_n g) (fun x => decide (gv_kd g x = 3) && gv_ou g x == r)
    rw [bx, updN_same, updN_same, bx_congr (Q := fun x => decide (gv_kd g x = 3) && gv_ou g x == r) (fun x hx => by rw [updN_ne _ _ (by omega), updN_ne _ _ (by omega)])]
    have : (gv_n g + 1 == r) = false := by
      rw [beq_eq_false_iff_ne]
      omega
    rw [this, Bool.and_false, Bool.or_false]
  rw [e]
  by_cases q : r < gv_n g
  · rw [if_pos q]
  · rw [if_neg q]
    cases z : sp_ud g r with
    | false => rfl
    | true =>
      obtain ⟨x, hx, hz⟩ := bx_iff.mp z
      simp at hz
      have := hou x hx hz.1
      omega
theorem k_G_append {post : Int32 → S_G → Prop} {k : Int32} {t : Nat} {a : Int32} (hG : RG G g) (hn : gv_n g < 300) (hou : ∀ x, x < gv_n g → gv_kd g x = 3 → gv_ou g x < x) (h : ∀ G', RG G' (sp_app g k t a) → post (jI (gv_n g)) G') : wp_G_append G k (jI t) a post := by
  have hb : gv_n g < 2147483648 := by omega
  have hii : vp_in (jI (gv_n g)) 300 := jI_in hb hn
  obtain ⟨h1, h2, h3, h4, h5, h6, h7, h8, h9, h10, h11, h12⟩ := hG
  unfold wp_G_append
  simp only [jn]
  rw [h2, if_neg (by rw [show (300 : Int32) = jI 300 from rfl, jI_le (by omega) hb]; omega), jI_s, jI_d, jI_tn hb]
  refine ⟨hii, hii, hii, ?_⟩
  unfold wp_G_setBefore wp_G_setAfter
  rw [jI_tn hb, nar_0]
  refine ⟨hii, hii, hii, hii, hii, hii, h _ ⟨h1, rfl, h3, up_n (fun x => x) h4 rfl, up_n jI h5 rfl, up_n (fun x => x) h6 rfl, up_n b2i h7 rfl, up_n (fun x => x) h8 rfl, up_n b2i h9 rfl, up_n (fun x => x) h10 rfl, up_n (fun x => x) h11 rfl, ?_⟩⟩
  intro r hr
  have hr : r < gv_n g + 1 := hr
  rw [sp_ud_app hou (by omega)]
  show upd (G_undone G) (gv_n g) (b2i false) r = _
  by_cases e : r = gv_n g
  · rw [e, upd_same, if_neg (by omega)]
  · rw [upd_ne _ _ e, if_pos (by omega)]
    exact h12 r (by omega)
theorem k_G_empty {post : S_G → Prop} (hG : RG G g) (h : ∀ G', RG G' (sp_emp g) → post G') : wp_G_empty G post := by
  unfold wp_G_empty
  refine k_G_last hG (h _ ⟨rfl, rfl, rfl, ?_, ?_, ?_, ?_, ?_, ?_, ?_, ?_, ?_⟩) <;> exact fun r hr => absurd hr (Nat.not_lt_zero r)
theorem k_G_loseUnflushed {post : S_G → Prop} {c : Nat} (hG : RG G g) (hI : iG g c) (h : ∀ G', RG G' (gv_n' g (gv_f g - gv_b g)) → post G') : wp_G_loseUnflushed G post := by
  obtain ⟨i1, i2, i3, i4, i5, i6, i7, i8, -⟩ := hI
  unfold wp_G_loseUnflushed
  rw [hG.1, hG.2.2.1, jI_sub i2]
  obtain ⟨q, hq⟩ : ∃ q, q = gv_f g - gv_b g := ⟨_, rfl⟩
  rw [← hq] at h ⊢
  have hqn : q ≤ gv_n g := by omega
  refine lpi (fun n (s : Int32 × S_G) => wp_G_loseUnflushed_L12 (jI q) (fun G2 => post (G_size' G2 (jI q))) n s.1 s.2) (fun d s => s.1 = jI (q + d) ∧ G_base s.2 = jI (gv_b g) ∧ G_size s.2 = jI (gv_n g) ∧ G_flushed s.2 = jI (gv_f g) ∧ (∀ r, r < gv_n g → G_kind s.2 r = gv_kd g r) ∧ (∀ r, r < gv_n g → G_transaction s.2 r = jI (gv_by g r)) ∧ (∀ r, r < gv_n g → G_subject s.2 r = gv_ab g r) ∧ (∀ r, r < gv_n g → G_wasThere s.2 r = b2i (gv_wt g r)) ∧ (∀ r, r < gv_n g → G_oldValue s.2 r = gv_wv g r) ∧ (∀ r, r < gv_n g → G_isThere s.2 r = b2i (gv_it g r)) ∧ (∀ r, r < gv_n g → G_newValue s.2 r = gv_iv g r) ∧ (∀ r, r < gv_n g → G_undoes s.2 r = gv_of g r) ∧ ∀ r, r < gv_n g → G_undone s.2 r = b2i (bx (gv_n g) (fun x => decide (gv_kd g x = 3) && gv_ou g x == r && (decide (x < q) || decide (q + d ≤ x))))) (gv_n g - q) ?_ ?_ 0 (by omega) (jI q, G) ?_
  · intro d hd s n hs hn
    obtain ⟨x, G⟩ := s
    obtain ⟨hx, h1, h2, h3, h4, h5, h6, h7, h8, h9, h10, h11, h12⟩ := hs
    dsimp only at hx h1 h2 h3 h4 h5 h6 h7 h8 h9 h10 h11 h12 ⊢
    subst hx
    have hb : q + d < 2147483648 := by omega
    have hlt : q + d < gv_n g := by omega
    have hii : vp_in (jI (q + d)) 300 := jI_in hb (by omega)
    rw [wp_G_loseUnflushed_L12, h2, if_neg (by rw [jI_le (by omega) hb]; omega), jI_tn hb, h4 _ hlt, h11 _ hlt, jI_s]
    refine ⟨hii, ?_⟩
    by_cases hk : gv_kd g (q + d) = 3
    · obtain ⟨o1, o2, o3⟩ := i7 _ hlt hk
      rw [if_pos hk, o3]
      have hob : gv_ou g (q + d) < 2147483648 := by omega
      refine ⟨hii, ?_⟩
      unfold wp_G_rowOf
      rw [h1, jI_sub (by omega), show gv_b g + gv_ou g (q + d) + 1 - gv_b g = gv_ou g (q + d) + 1 by omega, jI_d]
      dsimp only
      rw [jI_tn hob, nar_0]
      refine ⟨jI_in hob (by omega), hn (_, _) ⟨rfl, h1, h2, h3, h4, h5, h6, h7, h8, h9, h10, h11, fun r hr => ?_⟩⟩
      show upd (G_undone G) (gv_ou g (q + d)) (b2i false) r = b2i (bx (gv_n g) (fun x => decide (gv_kd g x = 3) && gv_ou g x == r && (decide (x < q) || decide (q + (d + 1) ≤ x))))
      by_cases e : r = gv_ou g (q + d)
      · rw [e, upd_same]
        congr 1
        symm
        cases z : bx (gv_n g) (fun x => decide (gv_kd g x = 3) && gv_ou g x == gv_ou g (q + d) && (decide (x < q) || decide (q + (d + 1) ≤ x))) with
        | false => rfl
        | true =>
          obtain ⟨x, hx, hz⟩ := bx_iff.mp z
          simp at hz
          have := i8 x (q + d) hx hlt hz.1.1 hk hz.1.2
          omega
      · rw [upd_ne _ _ e, h12 r hr]
        congr 1
        refine bx_congr (fun x hx => ?_)
        by_cases ex : x = q + d
        · have : (gv_ou g x == r) = false := by
            rw [beq_eq_false_iff_ne, ex]
            exact fun z => e z.symm
          rw [this]
          simp
        · congr 2
          rw [decide_eq_decide]
          omega
    · rw [if_neg hk]
      refine hn (_, _) ⟨rfl, h1, h2, h3, h4, h5, h6, h7, h8, h9, h10, h11, fun r hr => ?_⟩
      dsimp only
      rw [h12 r hr]
      congr 1
      refine bx_congr (fun x hx => ?_)
      by_cases ex : x = q + d
      · rw [ex]
        simp [hk]
      · congr 2
        rw [decide_eq_decide]
        omega
  · intro s n hs
    obtain ⟨x, G⟩ := s
    obtain ⟨hx, h1, h2, h3, h4, h5, h6, h7, h8, h9, h10, h11, h12⟩ := hs
    dsimp only at hx h1 h2 h3 h4 h5 h6 h7 h8 h9 h10 h11 h12 ⊢
    subst hx
    rw [show q + (gv_n g - q) = gv_n g by omega] at h12 ⊢
    rw [wp_G_loseUnflushed_L12, h2, if_pos (by rw [jI_le (by omega) (by omega)]; omega)]
    have lt : ∀ {r : Nat}, r < q → r < gv_n g := fun hr => by omega
    refine h _ ⟨h1, rfl, h3, fun r hr => h4 r (lt hr), fun r hr => h5 r (lt hr), fun r hr => h6 r (lt hr), fun r hr => h7 r (lt hr), fun r hr => h8 r (lt hr), fun r hr => h9 r (lt hr), fun r hr => h10 r (lt hr), fun r hr => h11 r (lt hr), fun r hr => ?_⟩
    have hr : r < q := hr
    show G_undone G r = b2i (bx q (fun x => decide (gv_kd g x = 3) && gv_ou g x == r))
    rw [h12 r (by omega)]
    congr 1
    cases z : bx q (fun x => decide (gv_kd g x = 3) && gv_ou g x == r) with
    | true =>
      obtain ⟨x, hx, hz⟩ := bx_iff.mp z
      refine bx_iff.mpr ⟨x, by omega, ?_⟩
      rw [hz]
      simp [hx]
    | false =>
      cases z2 : bx (gv_n g) (fun x => decide (gv_kd g x = 3) && gv_ou g x == r && (decide (x < q) || decide (gv_n g ≤ x))) with
      | false => rfl
      | true =>
        obtain ⟨x, hx, hz⟩ := bx_iff.mp z2
        simp at hz
        have : bx q (fun x => decide (gv_kd g x = 3) && gv_ou g x == r) = true := bx_iff.mpr ⟨x, by omega, by simp [hz.1.1, hz.1.2]⟩
        rw [z] at this
        cases this
  · obtain ⟨h1, h2, h3, h4, h5, h6, h7, h8, h9, h10, h11, h12⟩ := hG
    refine ⟨rfl, h1, h2, h3, h4, h5, h6, h7, h8, h9, h10, h11, fun r hr => ?_⟩
    dsimp only
    rw [h12 r hr]
    congr 1
    refine bx_congr (fun x hx => ?_)
    have : (decide (x < q) || decide (q + 0 ≤ x)) = true := by
      simp
      omega
    rw [this, Bool.and_true]
end PG
