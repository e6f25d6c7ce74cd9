section PK2
variable {K : S_K} {L : VK} {t i : Nat}
theorem RK.ext {L' : VK} (h : RK K L) (e : ∀ u j, j < 33 → L' u j = L u j) : RK K L' := by
  intro j hj
  exact ⟨fun u => by rw [e u j hj]; exact (h j hj).1 u, fun u => by rw [e u j hj]; exact (h j hj).2 u⟩
theorem k_K_release {post : S_K → Prop} (hK : RK K L) (ht : t < 60) (h : ∀ K', RK K' (sp_rel L t) → post K') : wp_K_release K (jI t) post := by
  unfold wp_K_release
  refine lpi (fun n (s : Int32 × S_K) => wp_K_release_L2 (jI t) (fun K1 => post K1) n s.1 s.2) (fun k s => s.1 = jI k ∧ RK s.2 (fun u j => if j < k ∧ u = t then 0 else L u j)) 33 ?_ ?_ 0 (by omega) (0, K) ⟨rfl, hK.ext (fun u j _ => if_neg (by omega))⟩
  · intro k hk s n hs hn
    obtain ⟨x, K⟩ := s
    obtain ⟨hx, hs⟩ := hs
    dsimp only at hx hs ⊢
    subst hx
    have hb : k < 2147483648 := by omega
    have hii : vp_in (jI k) 33 := jI_in hb hk
    rw [wp_K_release_L2, if_neg (by rw [show (33 : Int32) = jI 33 from rfl, jI_le (by omega) hb]; omega), jI_tn hb, jI_s, show (1 : Int64) <<< (Int32.toInt64 (jI t) &&& 63) = oneb t from rfl]
    refine ⟨hii, hii, hii, hii, hn (_, _) ⟨rfl, fun j hj => ?_⟩⟩
    obtain ⟨g1, g2⟩ := hs j hj
    have bit : ∀ (x : Int64) (m : Nat), m ≠ 0 → (∀ u, tb x u = decide ((if j < k ∧ u = t then 0 else L u j) = m)) → j = k → ∀ u, tb (x &&& (oneb t ^^^ (-1))) u = decide ((if j < k + 1 ∧ u = t then 0 else L u j) = m) := by
      intro x m hm hx e u
      rw [tb_and, hx u, if_neg (by omega)]
      by_cases hu : u < 64
      · rw [tb_not _ hu, tb_oneb (by omega)]
        by_cases eu : u = t
        · rw [if_pos ⟨by omega, eu⟩]
          simp [eu, show ¬ 0 = m from fun z => hm z.symm]
        · rw [if_neg (fun z => eu z.2)]
          simp [show ¬ t = u from fun z => eu z.symm]
      · have z : tb x u = false := tb_hi _ (by omega)
        rw [hx u, if_neg (by omega)] at z
        rw [if_neg (by omega), z]
        rfl
    by_cases e : j = k
    · refine ⟨fun u => ?_, fun u => ?_⟩
      · show tb (vp_updL (K_shared K) k (K_shared K k &&& (oneb t ^^^ (-1))) j) u = decide ((if j < k + 1 ∧ u = t then 0 else L u j) = 1)
        rw [← e, updL_same]
        have := bit (K_shared K j) 1 (by omega) g1 e u
        rw [← e] at this
        exact this
      · show tb (vp_updL (K_exclusive K) k (K_exclusive K k &&& (oneb t ^^^ (-1))) j) u = decide ((if j < k + 1 ∧ u = t then 0 else L u j) = 2)
        rw [← e, updL_same]
        have := bit (K_exclusive K j) 2 (by omega) g2 e u
        rw [← e] at this
        exact this
    · have e2 : ∀ u, (if j < k + 1 ∧ u = t then 0 else L u j) = if j < k ∧ u = t then 0 else L u j := by
        intro u
        by_cases z : j < k ∧ u = t
        · rw [if_pos z, if_pos ⟨by omega, z.2⟩]
        · rw [if_neg z, if_neg (fun z2 => z ⟨by omega, z2.2⟩)]
      refine ⟨fun u => ?_, fun u => ?_⟩
      · show tb (vp_updL (K_shared K) k _ j) u = decide ((if j < k + 1 ∧ u = t then 0 else L u j) = 1)
        rw [updL_ne _ _ e, e2 u]
        exact g1 u
      · show tb (vp_updL (K_exclusive K) k _ j) u = decide ((if j < k + 1 ∧ u = t then 0 else L u j) = 2)
        rw [updL_ne _ _ e, e2 u]
        exact g2 u
  · intro s n hs
    obtain ⟨x, K⟩ := s
    obtain ⟨hx, hs⟩ := hs
    dsimp only at hx hs ⊢
    subst hx
    rw [wp_K_release_L2, if_pos (by decide)]
    refine h K (hs.ext (fun u j hj => ?_))
    unfold sp_rel
    by_cases z : u = t
    · rw [if_pos z, if_pos ⟨hj, z⟩]
    · rw [if_neg z, if_neg (fun z2 => z z2.2)]
theorem k_K_releaseAll {post : S_K → Prop} (hK : RK K L) (h : ∀ K', RK K' (fun _ _ => 0) → post K') : wp_K_releaseAll K post := by
  unfold wp_K_releaseAll
  refine lpi (fun n (s : Int32 × S_K) => wp_K_releaseAll_L2 (fun K1 => post K1) n s.1 s.2) (fun k s => s.1 = jI k ∧ RK s.2 (fun u j => if j < k then 0 else L u j)) 33 ?_ ?_ 0 (by omega) (0, K) ⟨rfl, hK.ext (fun u j _ => if_neg (by omega))⟩
  · intro k hk s n hs hn
    obtain ⟨x, K⟩ := s
    obtain ⟨hx, hs⟩ := hs
    dsimp only at hx hs ⊢
    subst hx
    have hb : k < 2147483648 := by omega
    have hii : vp_in (jI k) 33 := jI_in hb hk
    rw [wp_K_releaseAll_L2, if_neg (by rw [show (33 : Int32) = jI 33 from rfl, jI_le (by omega) hb]; omega), jI_tn hb, jI_s]
    refine ⟨hii, hii, hn (_, _) ⟨rfl, fun j hj => ?_⟩⟩
    obtain ⟨g1, g2⟩ := hs j hj
    by_cases e : j = k
    · refine ⟨fun u => ?_, fun u => ?_⟩
      · show tb (vp_updL (K_shared K) k 0 j) u = decide ((if j < k + 1 then 0 else L u j) = 1)
        rw [e, updL_same, tb_0, if_pos (by omega)]
        rfl
      · show tb (vp_updL (K_exclusive K) k 0 j) u = decide ((if j < k + 1 then 0 else L u j) = 2)
        rw [e, updL_same, tb_0, if_pos (by omega)]
        rfl
    · have e2 : ∀ u, (if j < k + 1 then 0 else L u j) = if j < k then 0 else L u j := by
        intro u
        by_cases z : j < k
        · rw [if_pos z, if_pos (by omega)]
        · rw [if_neg z, if_neg (by omega)]
      refine ⟨fun u => ?_, fun u => ?_⟩
      · show tb (vp_updL (K_shared K) k _ j) u = decide ((if j < k + 1 then 0 else L u j) = 1)
        rw [updL_ne _ _ e, e2 u]
        exact g1 u
      · show tb (vp_updL (K_exclusive K) k _ j) u = decide ((if j < k + 1 then 0 else L u j) = 2)
        rw [updL_ne _ _ e, e2 u]
        exact g2 u
  · intro s n hs
    obtain ⟨x, K⟩ := s
    obtain ⟨hx, hs⟩ := hs
    dsimp only at hx hs ⊢
    subst hx
    rw [wp_K_releaseAll_L2, if_pos (by decide)]
    exact h K (hs.ext (fun u j hj => (if_pos hj).symm))
theorem k_K_passOn {post : S_K → Prop} {p : Nat} (hK : RK K L) (hL : ∀ u j, j < 33 → L u j ≤ 2) (ht : t < 60) (hp : p < 60) (hne : p ≠ t) (h : ∀ K', RK K' (sp_pass L t p) → post K') : wp_K_passOn K (jI t) (jI p) post := by
  unfold wp_K_passOn
  refine lpi (fun n (s : Int32 × S_K) => wp_K_passOn_L2 (jI t) (jI p) (fun K1 => post K1) n s.1 s.2) (fun k s => s.1 = jI k ∧ RK s.2 (fun u j => if j < k then sp_pass L t p u j else L u j)) 33 ?_ ?_ 0 (by omega) (0, K) ⟨rfl, hK.ext (fun u j _ => if_neg (by omega))⟩
  · intro k hk s n hs hn
    obtain ⟨x, K⟩ := s
    obtain ⟨hx, hs⟩ := hs
    dsimp only at hx hs ⊢
    subst hx
    have hb : k < 2147483648 := by omega
    have e1 : ∀ u, (if k < k then sp_pass L t p u k else L u k) = L u k := fun u => if_neg (by omega)
    rw [wp_K_passOn_L2, if_neg (by rw [show (33 : Int32) = jI 33 from rfl, jI_le (by omega) hb]; omega), jI_s]
    refine k_K_heldBy hs (by rw [e1]; exact hL t k hk) ht hk ?_
    rw [e1]
    refine k_K_grant hs (by rw [e1]; exact hL p k hk) hp hk (hL t k hk) (fun K' hK' => hn (_, _) ⟨rfl, hK'.ext (fun u j hj => ?_)⟩)
    unfold sp_gr
    show (if j < k + 1 then sp_pass L t p u j else L u j) = if u = p ∧ j = k then (if L t k ≤ (if k < k then sp_pass L t p p k else L p k) then (if k < k then sp_pass L t p p k else L p k) else L t k) else (if j < k then sp_pass L t p u j else L u j)
    rw [e1]
    by_cases e : j = k
    · rw [e, if_pos (by omega)]
      by_cases eu : u = p
      · rw [if_pos ⟨eu, rfl⟩, eu]
        unfold sp_pass
        rw [if_pos (by rfl)]
      · rw [if_neg (fun z => eu z.1), e1]
        unfold sp_pass
        rw [if_neg eu]
    · rw [if_neg (fun z : u = p ∧ j = k => e z.2)]
      by_cases z : j < k
      · rw [if_pos z, if_pos (by omega)]
      · rw [if_neg z, if_neg (by omega)]
  · intro s n hs
    obtain ⟨x, K⟩ := s
    obtain ⟨hx, hs⟩ := hs
    dsimp only at hx hs ⊢
    subst hx
    rw [wp_K_passOn_L2, if_pos (by decide)]
    exact h K (hs.ext (fun u j hj => (if_pos hj).symm))
end PK2
