section OPS6
variable {A : S_A} {D : S_D} {G : S_G} {K : S_K} {N : S_N} {P : S_P} {T : S_T} {MA : S_MA} {MD : S_MD} {MF : S_MF} {MG : S_MG} {ML : S_ML} {MN : S_MN} {MP : S_MP} {MT : S_MT} {MV : S_MV} {k : Nat} {v : VP} {g : VG} {tv : VT} {L : VK} {t : Nat}
def sp_ar (v : VP) (f : Nat) : Nat → Nat × VP × Nat
  | 0 => (0, v, f)
  | p + 1 => if pv_dy (sp_ar v f p).2.1 p then ((sp_ar v f p).1 + 1, sp_wrP (sp_ar v f p).2.1 p, sp_wrF (sp_ar v f p).2.1 (sp_ar v f p).2.2 p) else sp_ar v f p
theorem dy_in (h : iP v) {p : Nat} (hp : p < 8) (hd : pv_dy v p = true) : sp_in v p = true := by
  cases w : sp_in v p with
  | true => rfl
  | false =>
    rw [(h.out hp w).1] at hd
    cases hd
theorem ar_inv {b n : Nat} (f : Nat) (h : iPG v b n f) : ∀ p, p ≤ 8 → iPG (sp_ar v f p).2.1 b n (sp_ar v f p).2.2 ∧ pv_tk (sp_ar v f p).2.1 = pv_tk v := by
  intro p
  induction p with
  | zero => exact fun _ => ⟨h, rfl⟩
  | succ p ih =>
    intro hp
    obtain ⟨i1, i2⟩ := ih (by omega)
    unfold sp_ar
    by_cases q : pv_dy (sp_ar v f p).2.1 p = true
    · rw [if_pos q]
      exact ⟨(i1.wr (by omega) (dy_in i1.1 (by omega) q)).1, i2⟩
    · rw [if_neg q]
      exact ⟨i1, i2⟩
theorem o_archive (hk : k < 512) (h : Rel k A G K N T MA MD MG ML MN MT) : wp_N_archive A G T (fun r A' G' => wp_M_archive MA MD MG MT (fun r' A2 D2 G2 => r = r' ∧ Rel (k + 1) A' G' K N T A2 D2 G2 ML MN MT)) := by
  have hup := h.up
  obtain ⟨v, g, tv, L, ⟨hA, hG, hT, hK⟩, ⟨mA, mG, mT, mK⟩, hV, hN, hb, htk⟩ := h
  have hv := hV.2.2.1
  have hc := hv.1
  have hbn := hV.bnd
  have hn3 := hV.2.1.1
  have hlv : sp_lives tv ≤ tv_c tv := bc_le _ _
  unfold wp_N_archive
  refine k_T_liveCount hT hv ?_
  rw [← jI_0, ite_iff' (jI_le (by omega) (by omega))]
  by_cases q : sp_lives tv ≤ 0
  · rw [if_pos q]
    have bound : ∀ p, p ≤ 8 → (∀ x, x < 8 → pv_ls (sp_ar v (gv_f g) p).2.1 x < 2147483648) ∧ (sp_ar v (gv_f g) p).2.2 < 2147483648 := by
      intro p hp
      obtain ⟨⟨-, h2, -, -, h5⟩, -⟩ := ar_inv (gv_f g) hV.1 p hp
      exact ⟨fun x hx => by have := h2 x hx; omega, by omega⟩
    refine lpi (fun n (s : Int32 × Int32 × S_A × S_G) => wp_N_archive_L16 _ n s.1 s.2.1 s.2.2.1 s.2.2.2) (fun p s => s.1 = jI (sp_ar v (gv_f g) p).1 ∧ s.2.1 = jI p ∧ RA s.2.2.1 (sp_ar v (gv_f g) p).2.1 ∧ RG s.2.2.2 (gv_f' g (sp_ar v (gv_f g) p).2.2)) 8 ?_ ?_ 0 (by omega) (jI 0, jI 0, A, G) ⟨rfl, rfl, hA, hG⟩
    · intro p hp s n hs hn
      obtain ⟨x, i, A', G'⟩ := s
      obtain ⟨e1, e2, hA', hG'⟩ := hs
      dsimp only at e1 e2 hA' hG' ⊢
      subst e1
      subst e2
      have hpb : p < 2147483648 := by omega
      obtain ⟨b1, b2⟩ := bound p (by omega)
      have hst : sp_ar v (gv_f g) (p + 1) = if pv_dy (sp_ar v (gv_f g) p).2.1 p then ((sp_ar v (gv_f g) p).1 + 1, sp_wrP (sp_ar v (gv_f g) p).2.1 p, sp_wrF (sp_ar v (gv_f g) p).2.1 (sp_ar v (gv_f g) p).2.2 p) else sp_ar v (gv_f g) p := rfl
      rw [wp_N_archive_L16, if_neg (by rw [show (8 : Int32) = jI 8 from rfl, jI_le (by omega) hpb]; omega), jI_tn hpb, hA'.2.2.2.1 p hp, jI_s]
      refine ⟨jI_in hpb hp, ?_⟩
      cases z : pv_dy (sp_ar v (gv_f g) p).2.1 p with
      | false =>
        rw [if_pos (by rfl)]
        rw [z, if_neg (by decide)] at hst
        refine hn (_, _, _, _) ⟨?_, rfl, ?_, ?_⟩
        · rw [hst]
          rfl
        · rw [hst]
          exact hA'
        · rw [hst]
          exact hG'
      | true =>
        rw [if_neg (by decide), jI_s]
        rw [z, if_pos rfl] at hst
        refine k_A_putOnDisk hA' hG' hp (b1 p hp) b2 (fun A2 G2 hA2 hG2 => hn (_, _, _, _) ⟨?_, rfl, ?_, ?_⟩)
        · rw [hst]
          rfl
        · rw [hst]
          exact hA2
        · rw [hst]
          exact hG2
    · intro s n hs
      obtain ⟨x, i, A', G'⟩ := s
      obtain ⟨e1, e2, hA', hG'⟩ := hs
      dsimp only at e1 e2 hA' hG' ⊢
      subst e1
      subst e2
      rw [wp_N_archive_L16, if_pos (by decide)]
      refine k_G_empty hG' (fun G2 hG2 => ?_)
      -- the reference
      unfold wp_M_archive
      refine m_lives mT hv ?_
      rw [← jI_0, ite_iff' (jI_le (by omega) (by omega)), if_pos q]
      refine lpi (fun n (s : Int32 × Int32 × S_MA × S_MD × S_MG) => wp_M_archive_L13 _ n s.1 s.2.1 s.2.2.1 s.2.2.2.1 s.2.2.2.2) (fun p s => s.1 = jI (sp_ar v (gv_f g) p).1 ∧ s.2.1 = jI p ∧ RMA s.2.2.1 s.2.2.2.1 (sp_ar v (gv_f g) p).2.1 ∧ RMG s.2.2.2.2 (gv_f' g (sp_ar v (gv_f g) p).2.2)) 8 ?_ ?_ 0 (by omega) (jI 0, jI 0, MA, MD, MG) ⟨rfl, rfl, mA, mG⟩
      · intro p hp s n hs hn
        obtain ⟨x, i, A3, D3, G3⟩ := s
        obtain ⟨e1, e2, hA3, hG3⟩ := hs
        dsimp only at e1 e2 hA3 hG3 ⊢
        subst e1
        subst e2
        have hpb : p < 2147483648 := by omega
        have hpi : vp_in (jI p) 8 := jI_in hpb hp
        obtain ⟨b1, b2⟩ := bound p (by omega)
        obtain ⟨i1, -⟩ := ar_inv (gv_f g) hV.1 p (by omega)
        have hst : sp_ar v (gv_f g) (p + 1) = if pv_dy (sp_ar v (gv_f g) p).2.1 p then ((sp_ar v (gv_f g) p).1 + 1, sp_wrP (sp_ar v (gv_f g) p).2.1 p, sp_wrF (sp_ar v (gv_f g) p).2.1 (sp_ar v (gv_f g) p).2.2 p) else sp_ar v (gv_f g) p := rfl
        rw [wp_M_archive_L13, if_neg (by rw [show (8 : Int32) = jI 8 from rfl, jI_le (by omega) hpb]; omega), jI_s, jI_s]
        unfold wp_M_write
        refine m_isPage hpb ?_
        rw [decide_eq_true hp, if_neg (by decide), jI_tn hpb, hA3.2.1 p hp, hA3.2.2.1 p hp]
        refine ⟨hpi, ?_⟩
        cases z : pv_dy (sp_ar v (gv_f g) p).2.1 p with
        | false =>
          rw [z, if_neg (by decide)] at hst
          have nx := hn (jI (sp_ar v (gv_f g) p).1 + 0, jI (p + 1), A3, D3, G3) ⟨by rw [hst, Int32.add_zero], rfl, by rw [hst]; exact hA3, by rw [hst]; exact hG3⟩
          cases w : sp_in (sp_ar v (gv_f g) p).2.1 p with
          | false =>
            rw [if_pos (by rfl)]
            dsimp only
            rw [if_pos (by rfl)]
            exact nx
          | true =>
            rw [if_neg (by decide)]
            refine ⟨hpi, ?_⟩
            rw [if_pos (by rfl)]
            dsimp only
            rw [if_pos (by rfl)]
            exact nx
        | true =>
          have hin := dy_in i1.1 hp z
          rw [z, if_pos rfl] at hst
          rw [hin, if_neg (by decide)]
          refine ⟨hpi, ?_⟩
          rw [if_neg (by decide)]
          refine m_writes hA3 hG3 hp hin (b1 p hp) b2 (fun A4 D4 G4 hA4 hG4 => ?_)
          dsimp only
          rw [if_neg (by decide)]
          exact hn (_, _, _, _, _) ⟨by rw [hst]; rfl, rfl, by rw [hst]; exact hA4, by rw [hst]; exact hG4⟩
      · intro s n hs
        obtain ⟨x, i, A3, D3, G3⟩ := s
        obtain ⟨e1, e2, hA3, hG3⟩ := hs
        dsimp only at e1 e2 hA3 hG3 ⊢
        subst e1
        subst e2
        rw [wp_M_archive_L13, if_pos (by decide)]
        refine m_last hG3 ⟨rfl, ?_⟩
        obtain ⟨⟨i1, i2, i3, i4, i5⟩, itk⟩ := ar_inv (gv_f g) hV.1 8 (by omega)
        have dead : ∀ u, sp_liv tv u = false := by
          intro u
          cases w : sp_liv tv u with
          | false => rfl
          | true =>
            have e0 : sp_lives tv = 0 := by omega
            have := bc_zero.mp (show bc (tv_c tv) (sp_liv tv) = 0 from e0) u (liv_lt w)
            rw [w] at this
            cases this
        have hb3 : gv_b g + gv_n g ≤ 300 * (k + 1) := by omega
        refine ⟨(sp_ar v (gv_f g) 8).2.1, sp_emp g, tv, L, ⟨hA', hG2, hT, hK⟩, ⟨hA3, ⟨rfl, rfl, rfl, ?_, ?_, ?_, ?_, ?_, ?_, ?_, ?_⟩, mT, mK⟩, ⟨⟨i1, ?_, ?_, ?_, ?_⟩, ⟨?_, ?_, ?_, ?_, ?_, ?_, ?_, ?_, ?_, ?_⟩, hv, hV.2.2.2.1, ⟨?_, ?_, ?_, ?_, ?_, ?_⟩, ?_⟩, hN, hb3, by rw [itk]; omega⟩
        all_goals first
          | exact fun r hr => absurd hr (Nat.not_lt_zero r)
          | exact fun x y hx => absurd hx (Nat.not_lt_zero x)
          | exact fun u hu => by rw [dead u] at hu; cases hu
          | exact fun u a hu => by rw [dead u] at hu; cases hu
          | exact Nat.le_refl _
          | exact fun p hp => i2 p hp
          | exact fun p hp => Nat.le_trans (i3 p hp) i5
          | (show (0 : Nat) ≤ 300; omega)
          | (show gv_b g + gv_n g ≤ 300000; omega)
          | (show 0 + sp_opens (sp_emp g) tv + sp_lives tv ≤ 300; have : sp_opens (sp_emp g) tv = 0 := rfl; omega)
  · rw [if_neg q]
    unfold wp_M_archive
    refine m_lives mT hv ?_
    rw [← jI_0, ite_iff' (jI_le (by omega) (by omega)), if_neg q]
    exact ⟨rfl, hup⟩
theorem later_eq (h : iP v) {j : Nat} (hj : j < pv_m v) : bc 8 (fun q => sp_in v q && decide (pv_tt v (pv_bt v j) < pv_tt v q)) = j := by
  obtain ⟨i1, i2, i3, i4, i5, i6, i7, i8, i9, i10⟩ := h
  rw [← bc_inj (bt := pv_bt v) j (fun i hi => i4 i (by omega)) (fun i x hi hx => i5 i x (by omega) (by omega))]
  refine bc_congr (fun q hq => ?_)
  rw [bc_inj (bt := pv_bt v) j (fun i hi => i4 i (by omega)) (fun i x hi hx => i5 i x (by omega) (by omega))]
  rw [Bool.eq_iff_iff, Bool.and_eq_true, decide_eq_true_eq, sp_in_iff, bx_iff]
  constructor
  · rintro ⟨⟨i, hi, e⟩, hlt⟩
    refine ⟨i, ?_, by simpa using e⟩
    rw [← e] at hlt
    rcases Nat.lt_trichotomy i j with z | z | z
    · exact z
    · rw [z] at hlt
      omega
    · have := i9 j i z hi
      omega
  · rintro ⟨i, hi, e⟩
    have e : pv_bt v i = q := by simpa using e
    exact ⟨⟨i, by omega, e⟩, by rw [← e]; exact i9 i j hi hj⟩
theorem o_frame (hk : k < 512) (a : Int32) (h : Rel k A G K N T MA MD MG ML MN MT) : wp_N_frame A a (fun r => wp_M_frame MA a (fun r' => r = r')) := by
  obtain ⟨v, g, tv, L, ⟨hA, -⟩, ⟨mA, -⟩, hV, hN, hb, htk⟩ := h
  have hi := hV.1.1
  obtain ⟨i1, i2, i3, i4, i5, i6, i7, i8, i9, i10⟩ := hV.1.1
  unfold wp_N_frame
  rcases jI_ex a with ha | ⟨x, hxb, rfl⟩
  · rw [if_pos ha]
    unfold wp_M_frame
    refine lpi (fun n (s : Int32) => wp_M_frame_L2 MA a (fun r' => (-1 : Int32) = r') ((-1 : Int32) = -1) n s) (fun d s => s = jI d) 0 ?_ ?_ 0 (by omega) 0 rfl
    · intro d hd
      omega
    · intro s n hs
      subst hs
      rw [wp_M_frame_L2, if_neg (by decide), if_pos ha]
  · rw [if_neg (jI_nn hxb), hA.2.1, ite_iff' (jI_lt hxb (by omega))]
    have ttb : ∀ q, sp_in v q = true → pv_tt v q < 2147483648 := by
      intro q hq
      obtain ⟨i, hi2, e⟩ := sp_in_iff.mp hq
      have := i10 i hi2
      rw [e] at this
      omega
    -- the reference's walk: no page of an earlier number is the one
    have ref : ∀ {post : Int32 → Prop}, (x < pv_m v → post (jI (2 * pv_bt v x) + b2i (pv_dy v (pv_bt v x)))) → (¬ x < pv_m v → post (-1)) → wp_M_frame MA (jI x) post := by
      intro post h1 h2
      unfold wp_M_frame
      refine lpi (fun n (s : Int32) => wp_M_frame_L2 MA (jI x) post (post (-1)) n s) (fun d s => s = jI d ∧ (x < pv_m v → d ≤ pv_bt v x)) 8 ?_ ?_ 0 (by omega) 0 ⟨rfl, fun _ => Nat.zero_le _⟩
      · intro d hd s n hs hn
        obtain ⟨rfl, hs⟩ := hs
        have hdb : d < 2147483648 := by omega
        have hdi : vp_in (jI d) 8 := jI_in hdb hd
        rw [wp_M_frame_L2, if_neg (by rw [show (8 : Int32) = jI 8 from rfl, jI_le (by omega) hdb]; omega), if_neg (jI_nn hxb), jI_s]
        have inner : ∀ {Kx : Int32 → Prop}, (∀ y, (sp_in v d = true → y = jI (bc 8 (fun q => sp_in v q && decide (pv_tt v d < pv_tt v q)))) → Kx y) → ∃ e, wp_M_frame_L17 MA (jI x) (jI d) Kx e 0 0 := by
          intro Kx hK
          refine lpi (fun n (s : Int32 × Int32) => wp_M_frame_L17 MA (jI x) (jI d) Kx n s.1 s.2) (fun q s => s.2 = jI q ∧ (sp_in v d = true → s.1 = jI (bc q (fun q => sp_in v q && decide (pv_tt v d < pv_tt v q))))) 8 ?_ ?_ 0 (by omega) (0, 0) ⟨rfl, fun _ => rfl⟩
          · intro q hq s n hs hn
            obtain ⟨s1, s2⟩ := s
            obtain ⟨e2, e1⟩ := hs
            dsimp only at e1 e2 ⊢
            subst e2
            have hqb : q < 2147483648 := by omega
            have hqi : vp_in (jI q) 8 := jI_in hqb hq
            have hbs : bc (q + 1) (fun q => sp_in v q && decide (pv_tt v d < pv_tt v q)) = bc q (fun q => sp_in v q && decide (pv_tt v d < pv_tt v q)) + (if (sp_in v q && decide (pv_tt v d < pv_tt v q)) then 1 else 0) := rfl
            rw [wp_M_frame_L17, if_neg (by rw [show (8 : Int32) = jI 8 from rfl, jI_le (by omega) hqb]; omega), jI_tn hqb, jI_tn hdb, mA.2.1 q hq, mA.2.2.2.2.2.2.2.1 q hq, mA.2.2.2.2.2.2.2.1 d hd, jI_s]
            refine ⟨hqi, ?_⟩
            cases z : sp_in v q with
            | false =>
              rw [if_pos (by rfl)]
              refine hn (_, _) ⟨rfl, fun w => ?_⟩
              dsimp only
              rw [e1 w, hbs, z, Int32.add_zero]
              rfl
            | true =>
              rw [if_neg (by decide)]
              refine ⟨hqi, hdi, ?_⟩
              cases w : sp_in v d with
              | false =>
                split
                · exact hn (_, _) ⟨rfl, fun w2 => by rw [w] at w2; cases w2⟩
                · exact hn (_, _) ⟨rfl, fun w2 => by rw [w] at w2; cases w2⟩
              | true =>
                rw [ite_iff' (jI_le (ttb q z) (ttb d w)), e1 w]
                by_cases y : pv_tt v q ≤ pv_tt v d
                · rw [if_pos y, Int32.add_zero]
                  refine hn (_, _) ⟨rfl, fun _ => ?_⟩
                  rw [hbs, z, decide_eq_false (by omega)]
                  rfl
                · rw [if_neg y, jI_s]
                  refine hn (_, _) ⟨rfl, fun _ => ?_⟩
                  rw [hbs, z, decide_eq_true (by omega)]
                  rfl
          · intro s n hs
            obtain ⟨s1, s2⟩ := s
            obtain ⟨e2, e1⟩ := hs
            dsimp only at e1 e2 ⊢
            subst e2
            rw [wp_M_frame_L17, if_pos (by decide)]
            exact hK s1 e1
        refine inner (fun y hy => ⟨hdi, ?_⟩)
        rw [jI_tn hdb, mA.2.1 d hd, mA.2.2.1 d hd]
        cases z : sp_in v d with
        | false =>
          rw [if_pos (by rfl)]
          refine hn _ ⟨rfl, fun hx => ?_⟩
          have := hs hx
          have hne : ¬ pv_bt v x = d := fun e => by
            have : sp_in v d = true := sp_in_iff.mpr ⟨x, hx, e⟩
            rw [z] at this
            cases this
          omega
        | true =>
          obtain ⟨j, hj, ej⟩ := sp_in_iff.mp z
          have hy2 : y = jI j := by
            rw [hy z, ← ej, later_eq hi hj]
          rw [if_neg (by decide), hy2, ite_iff' (jI_eq (by omega) hxb)]
          by_cases e : j = x
          · subst e
            rw [if_pos rfl]
            refine ⟨hdi, ?_⟩
            have h1 := h1 hj
            rw [ej] at h1
            have e2 : (2 : Int32) * jI d = jI (2 * d) := by rw [show (2 : Int32) = jI 2 from rfl, jI_m]
            rw [e2]
            cases w : pv_dy v d with
            | false =>
              rw [if_pos (by rfl)]
              rw [w] at h1
              exact h1
            | true =>
              rw [if_neg (by decide)]
              rw [w] at h1
              exact h1
          · rw [if_neg e]
            refine hn _ ⟨rfl, fun hx => ?_⟩
            have := hs hx
            have hne : ¬ pv_bt v x = d := fun e2 => e (i5 j x hj hx (by rw [ej, e2]))
            omega
      · intro s n hs
        obtain ⟨rfl, hs⟩ := hs
        rw [wp_M_frame_L2, if_pos (by decide)]
        refine h2 (fun hx => ?_)
        have a1 := hs hx
        have a2 := i4 x hx
        omega
    by_cases q : x < pv_m v
    · have hbx := i4 x q
      have hbb : pv_bt v x < 2147483648 := by omega
      rw [if_pos q, jI_tn hxb, hA.2.2.1 x q, jI_tn hbb, hA.2.2.2.1 _ hbx]
      refine ⟨jI_in hxb (by omega), jI_in hbb hbx, asNum _ ?_⟩
      rw [show jI (pv_bt v x) * 2 = jI (2 * pv_bt v x) by rw [show (2 : Int32) = jI 2 from rfl, jI_m, Nat.mul_comm]]
      exact ref (fun _ => rfl) (fun z => absurd q z)
    · rw [if_neg q]
      exact ref (fun z => absurd z q) (fun _ => rfl)
end OPS6
