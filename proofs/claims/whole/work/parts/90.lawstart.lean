theorem nest_moved {u U : State} (h : u.vm = U.vm) (hN : nestOK u) : nestOK U := by
  obtain ⟨h1, h2, h3, h4, h5⟩ := hN
  exact ⟨h1.same rfl h, h2.same rfl h, h3.same rfl h, h4.same rfl h, h5.same rfl h⟩
theorem nest_warm {s U : State} (hW : s.WarmedH U.vm) (hN : nestOK s) : nestOK U := by
  obtain ⟨h1, h2, h3, h4, h5⟩ := hN
  exact ⟨h1.warmM hW, h2.warmM hW, h3.warmM hW, h4.warmM hW, h5.warmM hW⟩
set_option maxHeartbeats 2000000 in
set_option maxRecDepth 100000 in
theorem whole_start {p : Program} {e : Env} {s : State} {m : MethodId} {below : List Frame} {meth : Method} {c : Code} (l : Launch) {b L : Nat} {xs : Nat → Int32} (hL : L ≤ 2049) (C0 : lw_At p s m meth c b L xs) : W p l e room_1 s m #[Value.ref b] below meth c s.heap [] 0 0 (lw_Z below #[Value.ref b] s) (entryFrame m ([Value.ref b] : List Value).toArray 4) := by
  obtain ⟨hx, hb, hr, hml, hown, htsT, hX, hbl, hlocks, -⟩ := C0
  have htA : ∀ w ∈ wA, w.before #[Value.ref b] s = true := fun w h => htsT w (List.mem_filter.mp h).1
  have hts : ∀ w ∈ (Cond.initialized R_N :: wA), w.before #[Value.ref b] s = true := by
    intro w h
    rcases List.mem_cons.mp h with rfl | h
    · exact htA _ kx_n_N
    · exact htA w h
  have hN0 : nestOK s := ⟨va_Nw.of rfl (htsT _ kq_T), va_Nw.of rfl (htsT _ kq_K), va_Nw.of rfl (htsT _ kq_P), va_Nw.of rfl (htsT _ kq_D), va_Nw.of rfl (htsT _ kq_G)⟩
  obtain ⟨cI, aI1, aI2⟩ := arr_known (.inl rfl) (htA _ ka_int)
  obtain ⟨cL, aL1, aL2⟩ := arr_known (.inr (.inl rfl)) (htA _ ka_long)
  obtain ⟨cZ, aZ1, aZ2⟩ := arr_known (.inr (.inr rfl)) (htA _ ka_boolean)
  obtain ⟨c0, i0, k0⟩ := u_known htA in_N (htA _ kx_a_N)
  obtain ⟨c1, i1, k1⟩ := u_known htA in_T (htA _ kx_a_T)
  obtain ⟨c2, i2, k2⟩ := u_known htA in_K (htA _ kx_a_K)
  obtain ⟨c3, i3, k3⟩ := u_known htA in_P (htA _ kx_a_P)
  obtain ⟨c4, i4, k4⟩ := u_known htA in_D (htA _ kx_a_D)
  obtain ⟨c5, i5, k5⟩ := u_known htA in_G (htA _ kx_a_G)
  obtain ⟨c6, i6, k6⟩ := u_known htA in_A (htA _ kx_a_A)
  obtain ⟨c7, i7, k7⟩ := u_known htA in_M (htA _ kx_a_M)
  obtain ⟨dC, hdC⟩ : ∃ dC : Nat → ClassId, dC = fun k => [c0, c1, c2, c3, c4, c5, c6, c7].getD k c0 := ⟨_, rfl⟩
  obtain ⟨dI, hdI⟩ : ∃ dI : Nat → Nat → Nat, dI = fun k => [i0, i1, i2, i3, i4, i5, i6, i7].getD k i0 := ⟨_, rfl⟩
  have hK : va_K (dC, dI) clZ (tyZ cI cL cZ) s := by
    rw [hdC, hdI]
    refine ⟨fun c q h => ?_, fun k q h => ?_⟩
    · match c, h with
      | 0, h => cases h; exact k0
      | 1, h => cases h; exact k1
      | 2, h => cases h; exact k2
      | 3, h => cases h; exact k3
      | 4, h => cases h; exact k4
      | 5, h => cases h; exact k5
      | 6, h => cases h; exact k6
      | 7, h => cases h; exact k7
      | _ + 8, h => cases h
    · match k, h with
      | 0, h => cases h; exact ⟨aI1, aI2⟩
      | 1, h => cases h; exact ⟨aL1, aL2⟩
      | 2, h => cases h; exact ⟨aZ1, aZ2⟩
      | _ + 3, h => cases h
  clear hdC hdI
  have hA : ∀ q : Nat, s.heap.size ≤ q → s.heap.size ≤ q := fun q h => h
  have hS : va_S (fun q => s.heap.size ≤ q) s.heap s.heap [] := va_S.rf
  have hP : va_P (dC, dI) clZ [] s.heap := fun k q h => by cases h
  have hD : va_D (fun q => s.heap.size ≤ q) [] := ⟨fun i j p q h => by (cases h), fun k q h => by (cases h)⟩
  have hl := lv_entry ([.ref b]) (n := 4) (Nat.le_of_ble_eq_true rfl)
  rw [lg_entry_eq]
  generalize (lg_sl ([.ref b]) ++ List.replicate (4 - (lg_sl ([.ref b])).length) Slot.unset).toArray = ls at hl ⊢
  have hl : lv_has ls 4 [(0, .ref b)] := hl
  -- the class
  refine va_new (A := fun q => s.heap.size ≤ q) (ci := 0) (fs := z_N) (C := R_N) (T := F_N) (N := 7) hx hb hts (fun w h => List.mem_cons_of_mem _ (in_N w h)) ty_N ty_N_ok hown (htA _ kx_l_N) (htA _ kx_a_N) (htA _ kx_n_N) hK hP hD hS hA rfl dz_N (Nat.le_of_ble_eq_true rfl) (Nat.le_of_ble_eq_true rfl) d_L_0 (fun qn H1 hP hD hS => ?_)
  have hP : va_P (dC, dI) clZ [(qn, .inr (0, z_N))] H1 := hP
  have hD : va_D (fun q => s.heap.size ≤ q) [(qn, .inr (0, z_N))] := hD
  have hqn : s.heap.size ≤ qn := hD.2 0 _ rfl
  refine lv_dup hx hb d_L_3 rfl ?_
  refine lv_aload_n hx hb d_L_4 rfl (lv_at hl 0 rfl) ?_
  refine lv_iconst (v := 0) hx hb d_L_5 (by decide) ?_
  have hXk : ∀ {H : Heap} {locs : List Loc}, va_S (fun q => s.heap.size ≤ q) s.heap H locs → va_X b L xs s H ∧ b < H.size := fun hS => ⟨hX.kept (hS.2.1 b hbl (Nat.not_le.mpr hbl)), Nat.lt_of_lt_of_le hbl hS.1⟩
  refine va_calli (va_runS (As := [.ref b, .int 0]) (rest := [.ref qn, .ref qn]) ⟨hx, hb, hml, hown, hts⟩ (c_L_cell (l := l) (b := b) (xs := xs) hL) (cwS 2 hts g_L_cell rfl rfl rfl hd_L_cell ⟨Nat.le_of_ble_eq_true rfl, Nat.le_of_ble_eq_true rfl⟩) ⟨fun a U g mk q => by obtain ⟨q0, q1, q2⟩ := q; exact ⟨q0, va_X.moved (u := U) (U := U.calling g mk a) (Vm.Alike.refl U.vm) q1, q2⟩, fun U hU hW => ⟨rfl, by rw [hU]; exact (hXk hS).1.moved hW.alike, by rw [hU]; exact (hXk hS).2⟩⟩ rfl rfl hl.1 rfl (lv_room (Nat.le_of_ble_eq_true rfl)) d_L_6 ⟨Nat.le_of_ble_eq_true rfl, Nat.le_of_ble_eq_true rfl⟩) hS (fun _ _ h => h.elim) (fun _ h => h.elim) (fun r u t H2 locs2 ht hvm hr0 _ hz hk hS => ?_)
  have hP : va_P (dC, dI) clZ [(qn, .inr (0, z_N))] H2 := hP.kept (fun k x hx => hk x.1 ((hP k x hx).lt) (fun z => z))
  have hDc : va_D (fun _ => True) [(qn, .inr (0, z_N))] := hD.weaken (fun _ _ _ _ => trivial)
  have hf : ∀ q, va_A [(qn, .inr (0, z_N))] H2.size q → s.heap.size ≤ q := va_free (wc := [(qn, .inr (0, z_N))]) hD hS hA [0] rfl
  refine va_callv (va_runI (As := [.int r]) (rest := [.ref qn]) ⟨hx, hb, hml, hown, hts⟩ (c_N_init (l := l) (dC := dC) (dI := dI) (cI := cI) (cL := cL) (cZ := cZ) qn H2.size r) (cwI 1 hts (gw_I kx_c_N) rfl rfl rfl (htA _ kx_n_N) (htA _ kx_m_N) (htA _ kx_i_N) rfl (by decide +kernel) ⟨Nat.le_of_ble_eq_true rfl, Nat.le_of_ble_eq_true rfl⟩) ⟨fun a U g mk q => by obtain ⟨q0, q1, qP, qK, qD, qN⟩ := q; exact ⟨q0, q1, qP, va_K.moved (u := U) (U := U.calling g mk a) (Vm.Alike.refl U.vm) qK, qD, nest_moved (u := U) (U := U.calling g mk a) rfl qN⟩, fun U hU hW => ⟨rfl, by rw [hU], by rw [hU]; exact hP, va_K.moved hW.alike hK, hDc, nest_warm hW hN0⟩⟩ rfl rfl hl.1 rfl (lv_room (Nat.le_of_ble_eq_true rfl)) d_L_9 ⟨Nat.le_of_ble_eq_true rfl, Nat.le_of_ble_eq_true rfl⟩) hS (fun q _ h => hf q h) hf (fun qN t2 H3 locs3 ht2 hvm2 hq0 hB hz2 hk2 hS => ?_)
  obtain ⟨hPN, hDN⟩ := hB
  rw [ht2] at hPN
  have hqN := iN_of hDN
  have hDN2 : va_D (fun q => s.heap.size ≤ q) _ := hDN.weaken (fun _ x _ h => hf x.1 h)
  have hNs : ∀ k, k < nN → s.heap.size ≤ qN k := fun k hk => by
    obtain ⟨e1, h1⟩ := wN_get (cI := cI) (cL := cL) (cZ := cZ) (q := qN) (A := n0_A (clampN r)) (D := n0_D) (G := n0_G) (K := n0_K) (N := n0_N) (P := n0_P) (T := n0_T) hk
    exact hDN2.2 k _ h1
  subst hq0
  refine lv_astore_n (lv' := [(1, .ref (qN 0)), (0, .ref b)]) hx hb d_L_12 rfl hl (by decide) rfl (fun ls hl => ?_)
  -- the reference
  refine va_new (A := fun q => s.heap.size ≤ q) (ci := 7) (fs := z_M) (C := R_M) (T := F_M) (N := 39) hx hb hts (fun w h => List.mem_cons_of_mem _ (in_M w h)) ty_M ty_M_ok hown (htA _ kx_l_M) (htA _ kx_a_M) (htA _ kx_n_M) hK hPN hDN2 hS hA rfl dz_M (Nat.le_of_ble_eq_true rfl) (Nat.le_of_ble_eq_true rfl) d_L_13 (fun qm H4 hP4 hD4 hS => ?_)
  have hPN : va_P (dC, dI) clZ (wN cI cL cZ qN (n0_A (clampN r)) n0_D n0_G n0_K n0_N n0_P n0_T) H4 := fun k x h => hP4 k x (by rw [List.getElem?_append_left (List.getElem?_eq_some_iff.mp h).1]; exact h)
  have hP : va_P (dC, dI) clZ [(qm, .inr (7, z_M))] H4 := hP4.sub [38] rfl
  have hD : va_D (fun q => s.heap.size ≤ q) [(qm, .inr (7, z_M))] := hD4.sub [38] (by decide) rfl
  have hqm : ∀ k, k < nN → qN k ≠ qm := fun k hk e => by
    obtain ⟨e1, h1⟩ := wN_get (cI := cI) (cL := cL) (cZ := cZ) (q := qN) (A := n0_A (clampN r)) (D := n0_D) (G := n0_G) (K := n0_K) (N := n0_N) (P := n0_P) (T := n0_T) hk
    have h2 := hD4.1 k 38 (qN k, e1) (qm, .inr (7, z_M)) (by rw [List.getElem?_append_left (List.getElem?_eq_some_iff.mp h1).1]; exact h1) rfl e
    have hk : k < 38 := hk
    omega
  refine lv_dup hx hb d_L_16 rfl ?_
  refine lv_aload_n hx hb d_L_17 rfl (lv_at hl 1 rfl) ?_
  refine lv_iconst (v := 0) hx hb d_L_18 (by decide) ?_
  refine va_calli (va_runS (As := [.ref b, .int 0]) (rest := [.ref qm, .ref qm]) ⟨hx, hb, hml, hown, hts⟩ (c_L_cell (l := l) (b := b) (xs := xs) hL) (cwS 2 hts g_L_cell rfl rfl rfl hd_L_cell ⟨Nat.le_of_ble_eq_true rfl, Nat.le_of_ble_eq_true rfl⟩) ⟨fun a U g mk q => by obtain ⟨q0, q1, q2⟩ := q; exact ⟨q0, va_X.moved (u := U) (U := U.calling g mk a) (Vm.Alike.refl U.vm) q1, q2⟩, fun U hU hW => ⟨rfl, by rw [hU]; exact (hXk hS).1.moved hW.alike, by rw [hU]; exact (hXk hS).2⟩⟩ rfl rfl hl.1 rfl (lv_room (Nat.le_of_ble_eq_true rfl)) d_L_19 ⟨Nat.le_of_ble_eq_true rfl, Nat.le_of_ble_eq_true rfl⟩) hS (fun _ _ h => h.elim) (fun _ h => h.elim) (fun r2 u2 t4 H5 locs5 ht4 hvm4 hr2 _ hz4 hk4 hS => ?_)
  have hrr : r2 = r := hr2.trans hr0.symm
  subst hrr
  have hPN : va_P (dC, dI) clZ (wN cI cL cZ qN (n0_A (clampN r2)) n0_D n0_G n0_K n0_N n0_P n0_T) H5 := hPN.kept (fun k x hx => hk4 x.1 ((hPN k x hx).lt) (fun z => z))
  have hP : va_P (dC, dI) clZ [(qm, .inr (7, z_M))] H5 := hP.kept (fun k x hx => hk4 x.1 ((hP k x hx).lt) (fun z => z))
  have hDc : va_D (fun _ => True) [(qm, .inr (7, z_M))] := hD.weaken (fun _ _ _ _ => trivial)
  have hf : ∀ q, va_A [(qm, .inr (7, z_M))] H5.size q → s.heap.size ≤ q := va_free (wc := [(qm, .inr (7, z_M))]) hD hS hA [0] rfl
  have hltN : ∀ k, k < nN → ¬ va_A [(qm, .inr (7, z_M))] H5.size (qN k) := fun k hk z => by
    obtain ⟨e1, h1⟩ := wN_get (cI := cI) (cL := cL) (cZ := cZ) (q := qN) (A := n0_A (clampN r2)) (D := n0_D) (G := n0_G) (K := n0_K) (N := n0_N) (P := n0_P) (T := n0_T) hk
    have hlt : qN k < H5.size := (hPN k _ h1).lt
    rcases z with ⟨j, e2, z⟩ | z
    · match j, z with
      | 0, z =>
        have z : qm = qN k := congrArg Prod.fst (Option.some.inj z)
        exact hqm k hk z.symm
      | _ + 1, z => cases z
    · omega
  refine va_callv (va_runI (As := [.int r2]) (rest := [.ref qm]) ⟨hx, hb, hml, hown, hts⟩ (c_M_init (l := l) (dC := dC) (dI := dI) (cI := cI) (cL := cL) (cZ := cZ) qm H5.size r2) (cwI 1 hts (gw_I kx_c_M) rfl rfl rfl (htA _ kx_n_M) (htA _ kx_m_M) (htA _ kx_i_M) rfl (by decide +kernel) ⟨Nat.le_of_ble_eq_true rfl, Nat.le_of_ble_eq_true rfl⟩) ⟨fun a U g mk q => by obtain ⟨q0, q1, qP, qK, qD⟩ := q; exact ⟨q0, q1, qP, va_K.moved (u := U) (U := U.calling g mk a) (Vm.Alike.refl U.vm) qK, qD⟩, fun U hU hW => ⟨rfl, by rw [hU], by rw [hU]; exact hP, va_K.moved hW.alike hK, hDc⟩⟩ rfl rfl hl.1 rfl (lv_room (Nat.le_of_ble_eq_true rfl)) d_L_22 ⟨Nat.le_of_ble_eq_true rfl, Nat.le_of_ble_eq_true rfl⟩) hS (fun q _ h => hf q h) hf (fun uM t6 H6 locs6 ht6 hvm6 _ hB hz6 hk6 hS => ?_)
  obtain ⟨hPM, hDM⟩ := hB
  rw [ht6, i_M_w] at hPM
  rw [i_M_w] at hDM
  have hPN : va_P (dC, dI) clZ (wN cI cL cZ qN (n0_A (clampN r2)) n0_D n0_G n0_K n0_N n0_P n0_T) H6 := hPN.kept (fun k x hx => by
    obtain ⟨h1, h2⟩ := wN_at hx
    exact hk6 x.1 ((hPN k x hx).lt) (by rw [h2]; exact hltN k h1))
  obtain ⟨hqM, hMa⟩ := iM_of hDM
  have hMs : ∀ k, k < nM → s.heap.size ≤ (fun k => match k with | 0 => qm | k + 1 => uM k : Nat → Nat) k := fun k hk => hf _ (hMa k hk)
  have hdis : ∀ i j, i < nN → j < nM → qN i ≠ (fun k => match k with | 0 => qm | k + 1 => uM k : Nat → Nat) j := fun i j hi hj e => hltN i hi (by rw [e]; exact hMa j hj)
  refine lv_astore_n (lv' := [(2, .ref qm), (1, .ref (qN 0)), (0, .ref b)]) hx hb d_L_25 rfl hl (by decide) rfl (fun ls hl => ?_)
  refine lv_iconst (v := 1) hx hb d_L_26 (by decide) ?_
  refine lv_istore_n (lv' := [(3, .int 1), (2, .ref qm), (1, .ref (qN 0)), (0, .ref b)]) hx hb d_L_27 rfl hl (by decide) rfl (fun ls hl => ?_)
  refine W.widen (k := 69) (n := 8953) (Nat.le_of_ble_eq_true rfl) (Nat.le_of_ble_eq_true rfl) ?_
  exact L_loop hx hb hr hlocks hml hown hts hK hX hbl hqN hqM hNs hMs hdis hL L 0 ls _ _ _ _ _ _ _ _ _ _ _ _ _ _ _ _ H6 locs6 (by omega) (by omega) hl (Rel0 r2) hPN hPM hS
