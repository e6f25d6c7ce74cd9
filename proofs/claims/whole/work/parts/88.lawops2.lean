set_option maxHeartbeats 1000000 in
theorem L_archive {p : Program} {l : Launch} {e : Env} {s : State} {m : MethodId} {below : List Frame} {meth : Method} {c : Code} {b L : Nat} {xs : Nat → Int32} {dC : Nat → ClassId} {dI : Nat → Nat → Nat} {cI cL cZ : ClassId} {qN qM : Nat → Nat} {ls : Array Slot} {i k : Nat} {H : Heap} {locs : List Loc} {cells slots : Nat} {Q : State → Prop} {A : S_A} {D : S_D} {G : S_G} {K : S_K} {N : S_N} {P : S_P} {T : S_T} {MA : S_MA} {MD : S_MD} {MF : S_MF} {MG : S_MG} {ML : S_ML} {MN : S_MN} {MP : S_MP} {MT : S_MT} {MV : S_MV} (hx : p.tables.exec = Jvm.exec) (hb : c.code = code) (hml : c.maxLocals = 4) (hown : s.vm.findClass R_law = some m.cls) (hts : ∀ w ∈ (Cond.initialized R_N :: wA), w.before #[Value.ref b] s = true) (hK : va_K (dC, dI) clZ (tyZ cI cL cZ) s) (hX : va_X b L xs s s.heap) (hbl : b < s.heap.size) (hqN : iN qN) (hqM : iM qM) (hN : ∀ k, k < nN → s.heap.size ≤ qN k) (hM : ∀ k, k < nM → s.heap.size ≤ qM k) (hdis : ∀ i j, i < nN → j < nM → qN i ≠ qM j) (hl : lv_has ls 4 [(3, .int (jI i)), (2, .ref (qM 0)), (1, .ref (qN 0)), (0, .ref b)]) (hi : i + 3 < L) (hL : L ≤ 2049) (hk : k < 512) (hR : Rel k A G K N T MA MD MG ML MN MT) (hc : cells ≤ room_1.cells) (hs : slots ≤ room_1.slots) (hPN : va_P (dC, dI) clZ (wN cI cL cZ qN A D G K N P T) H) (hPM : va_P (dC, dI) clZ (wM cI cL cZ qM MA MD MF MG ML MN MP MT MV) H) (hS : va_S (fun q => s.heap.size ≤ q) s.heap H locs) (go : ∀ (A : S_A) (D : S_D) (G : S_G) (K : S_K) (N : S_N) (P : S_P) (T : S_T) (MA : S_MA) (MD : S_MD) (MF : S_MF) (MG : S_MG) (ML : S_ML) (MN : S_MN) (MP : S_MP) (MT : S_MT) (MV : S_MV) (H : Heap) (locs : List Loc), Rel (k + 1) A G K N T MA MD MG ML MN MT → va_P (dC, dI) clZ (wN cI cL cZ qN A D G K N P T) H → va_P (dC, dI) clZ (wM cI cL cZ qM MA MD MF MG ML MN MP MT MV) H → va_S (fun q => s.heap.size ≤ q) s.heap H locs → W p l e room_1 s m #[Value.ref b] below meth c H locs cells slots Q (F0 m 767 ls [])) : W p l e room_1 s m #[Value.ref b] below meth c H locs cells slots Q (F0 m 484 ls []) := by
  have hb1 : ∀ j, j ≤ 3 → vp_in (jI i + jI j) L := fun j hj => by rw [jI_a]; exact jI_in (by omega) (by omega)
  have hbA : ¬ s.heap.size ≤ b := by omega
  have hnm : ∀ (k : Nat) (x : Nat × va_E), (wM cI cL cZ qM MA MD MF MG ML MN MP MT MV)[k]? = some x → ¬ aN qN x.1 := fun k x hx => by rintro ⟨i, hi, e⟩; obtain ⟨h1, h2⟩ := wM_at hx; exact hdis i k hi h1 (by rw [← e, h2])
  refine lv_aload_n hx hb d_L_484 rfl (lv_at hl 2 rfl) ?_
  refine ncl_i (As := []) (c_N_archive hqN A D G K N P T  _ (o_archive hk  hR)) (cwV 0 hts gl_N_archive rfl rfl rfl hl_N_archive ⟨Nat.le_of_ble_eq_true rfl, Nat.le_of_ble_eq_true rfl⟩) hx hb hml hown hts hK hPN hPM hnm (fun q h => by obtain ⟨k, hk, rfl⟩ := h; exact hN k hk) hS hl.1 d_L_485 (va_recv (q := (R_N, F_N, 7)) hK hPN (ci := 0) (q0 := 0) rfl rfl) rfl (lv_room (Nat.le_of_ble_eq_true rfl)) hc hs rfl (fun r u H1 locs1 hw hPN hPM hS => ?_)
  refine lv_aload_n hx hb d_L_488 rfl (lv_at hl 1 rfl) ?_
  refine ncl_i (As := []) (c_M_archive hqM MA MD MF MG ML MN MP MT MV  _ hw) (cwV 0 hts gl_M_archive rfl rfl rfl hl_M_archive ⟨Nat.le_of_ble_eq_true rfl, Nat.le_of_ble_eq_true rfl⟩) hx hb hml hown hts hK hPM hPN (fun k x hx => by rintro ⟨j, hj, e⟩; obtain ⟨h1, h2⟩ := wN_at hx; exact hdis k j h1 hj (by rw [← e, h2])) (fun q h => by obtain ⟨k, hk, rfl⟩ := h; exact hM k hk) hS hl.1 d_L_489 (va_recv (q := (R_M, F_M, 39)) hK hPM (ci := 7) (q0 := 0) rfl rfl) rfl (lv_room (Nat.le_of_ble_eq_true rfl)) hc hs rfl (fun r2 u2 H2 locs2 hw2 hPM hPN hS => ?_)
  obtain ⟨he, hR2⟩ := hw2
  refine lv_icmp_eq (tgt := 767) hx hb d_L_492 (by decide) (fun _ => ?_) (fun z => absurd he z)
  exact go _ _ _ _ _ _ _ _ _ _ _ _ _ _ _ _ H2 locs2 hR2 hPN hPM hS
set_option maxHeartbeats 1000000 in
theorem L_crash {p : Program} {l : Launch} {e : Env} {s : State} {m : MethodId} {below : List Frame} {meth : Method} {c : Code} {b L : Nat} {xs : Nat → Int32} {dC : Nat → ClassId} {dI : Nat → Nat → Nat} {cI cL cZ : ClassId} {qN qM : Nat → Nat} {ls : Array Slot} {i k : Nat} {H : Heap} {locs : List Loc} {cells slots : Nat} {Q : State → Prop} {A : S_A} {D : S_D} {G : S_G} {K : S_K} {N : S_N} {P : S_P} {T : S_T} {MA : S_MA} {MD : S_MD} {MF : S_MF} {MG : S_MG} {ML : S_ML} {MN : S_MN} {MP : S_MP} {MT : S_MT} {MV : S_MV} (hx : p.tables.exec = Jvm.exec) (hb : c.code = code) (hml : c.maxLocals = 4) (hown : s.vm.findClass R_law = some m.cls) (hts : ∀ w ∈ (Cond.initialized R_N :: wA), w.before #[Value.ref b] s = true) (hK : va_K (dC, dI) clZ (tyZ cI cL cZ) s) (hX : va_X b L xs s s.heap) (hbl : b < s.heap.size) (hqN : iN qN) (hqM : iM qM) (hN : ∀ k, k < nN → s.heap.size ≤ qN k) (hM : ∀ k, k < nM → s.heap.size ≤ qM k) (hdis : ∀ i j, i < nN → j < nM → qN i ≠ qM j) (hl : lv_has ls 4 [(3, .int (jI i)), (2, .ref (qM 0)), (1, .ref (qN 0)), (0, .ref b)]) (hi : i + 3 < L) (hL : L ≤ 2049) (hk : k < 512) (hR : Rel k A G K N T MA MD MG ML MN MT) (hc : cells ≤ room_1.cells) (hs : slots ≤ room_1.slots) (hPN : va_P (dC, dI) clZ (wN cI cL cZ qN A D G K N P T) H) (hPM : va_P (dC, dI) clZ (wM cI cL cZ qM MA MD MF MG ML MN MP MT MV) H) (hS : va_S (fun q => s.heap.size ≤ q) s.heap H locs) (go : ∀ (A : S_A) (D : S_D) (G : S_G) (K : S_K) (N : S_N) (P : S_P) (T : S_T) (MA : S_MA) (MD : S_MD) (MF : S_MF) (MG : S_MG) (ML : S_ML) (MN : S_MN) (MP : S_MP) (MT : S_MT) (MV : S_MV) (H : Heap) (locs : List Loc), Rel (k + 1) A G K N T MA MD MG ML MN MT → va_P (dC, dI) clZ (wN cI cL cZ qN A D G K N P T) H → va_P (dC, dI) clZ (wM cI cL cZ qM MA MD MF MG ML MN MP MT MV) H → va_S (fun q => s.heap.size ≤ q) s.heap H locs → W p l e room_1 s m #[Value.ref b] below meth c H locs cells slots Q (F0 m 767 ls [])) : W p l e room_1 s m #[Value.ref b] below meth c H locs cells slots Q (F0 m 497 ls []) := by
  have hb1 : ∀ j, j ≤ 3 → vp_in (jI i + jI j) L := fun j hj => by rw [jI_a]; exact jI_in (by omega) (by omega)
  have hbA : ¬ s.heap.size ≤ b := by omega
  have hnm : ∀ (k : Nat) (x : Nat × va_E), (wM cI cL cZ qM MA MD MF MG ML MN MP MT MV)[k]? = some x → ¬ aN qN x.1 := fun k x hx => by rintro ⟨i, hi, e⟩; obtain ⟨h1, h2⟩ := wM_at hx; exact hdis i k hi h1 (by rw [← e, h2])
  refine lv_aload_n hx hb d_L_497 rfl (lv_at hl 2 rfl) ?_
  refine lv_aload_n hx hb d_L_498 rfl (lv_at hl 3 rfl) ?_
  refine lv_iload_n hx hb d_L_499 rfl (lv_at hl 0 rfl) ?_
  refine lv_iconst (v := 1) hx hb d_L_500 (by decide) ?_
  refine lv_iadd hx hb d_L_501 ?_
  refine va_sld (A := fun q => s.heap.size ≤ q) hx hb hX hbl hbA hS (hb1 1 (by decide)) d_L_502 ?_
  refine ncl_i (As := [.int (xs (Int32.toNatClampNeg (jI i + 1)))]) (c_N_crash hqN A D G K N P T (xs (Int32.toNatClampNeg (jI i + 1))) _ (o_crash hk (xs (Int32.toNatClampNeg (jI i + 1))) hR)) (cwV 1 hts gl_N_crash rfl rfl rfl hl_N_crash ⟨Nat.le_of_ble_eq_true rfl, Nat.le_of_ble_eq_true rfl⟩) hx hb hml hown hts hK hPN hPM hnm (fun q h => by obtain ⟨k, hk, rfl⟩ := h; exact hN k hk) hS hl.1 d_L_503 (va_recv (q := (R_N, F_N, 7)) hK hPN (ci := 0) (q0 := 0) rfl rfl) rfl (lv_room (Nat.le_of_ble_eq_true rfl)) hc hs rfl (fun r u H1 locs1 hw hPN hPM hS => ?_)
  refine lv_aload_n hx hb d_L_506 rfl (lv_at hl 1 rfl) ?_
  refine lv_aload_n hx hb d_L_507 rfl (lv_at hl 3 rfl) ?_
  refine lv_iload_n hx hb d_L_508 rfl (lv_at hl 0 rfl) ?_
  refine lv_iconst (v := 1) hx hb d_L_509 (by decide) ?_
  refine lv_iadd hx hb d_L_510 ?_
  refine va_sld (A := fun q => s.heap.size ≤ q) hx hb hX hbl hbA hS (hb1 1 (by decide)) d_L_511 ?_
  refine ncl_i (As := [.int (xs (Int32.toNatClampNeg (jI i + 1)))]) (c_M_crash hqM MA MD MF MG ML MN MP MT MV (xs (Int32.toNatClampNeg (jI i + 1))) _ hw) (cwV 1 hts gl_M_crash rfl rfl rfl hl_M_crash ⟨Nat.le_of_ble_eq_true rfl, Nat.le_of_ble_eq_true rfl⟩) hx hb hml hown hts hK hPM hPN (fun k x hx => by rintro ⟨j, hj, e⟩; obtain ⟨h1, h2⟩ := wN_at hx; exact hdis k j h1 hj (by rw [← e, h2])) (fun q h => by obtain ⟨k, hk, rfl⟩ := h; exact hM k hk) hS hl.1 d_L_512 (va_recv (q := (R_M, F_M, 39)) hK hPM (ci := 7) (q0 := 0) rfl rfl) rfl (lv_room (Nat.le_of_ble_eq_true rfl)) hc hs rfl (fun r2 u2 H2 locs2 hw2 hPM hPN hS => ?_)
  obtain ⟨he, hR2⟩ := hw2
  refine lv_icmp_eq (tgt := 767) hx hb d_L_515 (by decide) (fun _ => ?_) (fun z => absurd he z)
  exact go _ _ _ _ _ _ _ _ _ _ _ _ _ _ _ _ H2 locs2 hR2 hPN hPM hS
set_option maxHeartbeats 1000000 in
theorem L_state {p : Program} {l : Launch} {e : Env} {s : State} {m : MethodId} {below : List Frame} {meth : Method} {c : Code} {b L : Nat} {xs : Nat → Int32} {dC : Nat → ClassId} {dI : Nat → Nat → Nat} {cI cL cZ : ClassId} {qN qM : Nat → Nat} {ls : Array Slot} {i k : Nat} {H : Heap} {locs : List Loc} {cells slots : Nat} {Q : State → Prop} {A : S_A} {D : S_D} {G : S_G} {K : S_K} {N : S_N} {P : S_P} {T : S_T} {MA : S_MA} {MD : S_MD} {MF : S_MF} {MG : S_MG} {ML : S_ML} {MN : S_MN} {MP : S_MP} {MT : S_MT} {MV : S_MV} (hx : p.tables.exec = Jvm.exec) (hb : c.code = code) (hml : c.maxLocals = 4) (hown : s.vm.findClass R_law = some m.cls) (hts : ∀ w ∈ (Cond.initialized R_N :: wA), w.before #[Value.ref b] s = true) (hK : va_K (dC, dI) clZ (tyZ cI cL cZ) s) (hX : va_X b L xs s s.heap) (hbl : b < s.heap.size) (hqN : iN qN) (hqM : iM qM) (hN : ∀ k, k < nN → s.heap.size ≤ qN k) (hM : ∀ k, k < nM → s.heap.size ≤ qM k) (hdis : ∀ i j, i < nN → j < nM → qN i ≠ qM j) (hl : lv_has ls 4 [(3, .int (jI i)), (2, .ref (qM 0)), (1, .ref (qN 0)), (0, .ref b)]) (hi : i + 3 < L) (hL : L ≤ 2049) (hk : k < 512) (hR : Rel k A G K N T MA MD MG ML MN MT) (hc : cells ≤ room_1.cells) (hs : slots ≤ room_1.slots) (hPN : va_P (dC, dI) clZ (wN cI cL cZ qN A D G K N P T) H) (hPM : va_P (dC, dI) clZ (wM cI cL cZ qM MA MD MF MG ML MN MP MT MV) H) (hS : va_S (fun q => s.heap.size ≤ q) s.heap H locs) (go : ∀ (A : S_A) (D : S_D) (G : S_G) (K : S_K) (N : S_N) (P : S_P) (T : S_T) (MA : S_MA) (MD : S_MD) (MF : S_MF) (MG : S_MG) (ML : S_ML) (MN : S_MN) (MP : S_MP) (MT : S_MT) (MV : S_MV) (H : Heap) (locs : List Loc), Rel (k + 1) A G K N T MA MD MG ML MN MT → va_P (dC, dI) clZ (wN cI cL cZ qN A D G K N P T) H → va_P (dC, dI) clZ (wM cI cL cZ qM MA MD MF MG ML MN MP MT MV) H → va_S (fun q => s.heap.size ≤ q) s.heap H locs → W p l e room_1 s m #[Value.ref b] below meth c H locs cells slots Q (F0 m 767 ls [])) : W p l e room_1 s m #[Value.ref b] below meth c H locs cells slots Q (F0 m 520 ls []) := by
  have hb1 : ∀ j, j ≤ 3 → vp_in (jI i + jI j) L := fun j hj => by rw [jI_a]; exact jI_in (by omega) (by omega)
  have hbA : ¬ s.heap.size ≤ b := by omega
  have hnm : ∀ (k : Nat) (x : Nat × va_E), (wM cI cL cZ qM MA MD MF MG ML MN MP MT MV)[k]? = some x → ¬ aN qN x.1 := fun k x hx => by rintro ⟨i, hi, e⟩; obtain ⟨h1, h2⟩ := wM_at hx; exact hdis i k hi h1 (by rw [← e, h2])
  refine lv_aload_n hx hb d_L_520 rfl (lv_at hl 2 rfl) ?_
  refine lv_aload_n hx hb d_L_521 rfl (lv_at hl 3 rfl) ?_
  refine lv_iload_n hx hb d_L_522 rfl (lv_at hl 0 rfl) ?_
  refine lv_iconst (v := 1) hx hb d_L_523 (by decide) ?_
  refine lv_iadd hx hb d_L_524 ?_
  refine va_sld (A := fun q => s.heap.size ≤ q) hx hb hX hbl hbA hS (hb1 1 (by decide)) d_L_525 ?_
  refine ncl_i (As := [.int (xs (Int32.toNatClampNeg (jI i + 1)))]) (c_N_state hqN A D G K N P T (xs (Int32.toNatClampNeg (jI i + 1))) _ (o_state (xs (Int32.toNatClampNeg (jI i + 1))) hR)) (cwV 1 hts gl_N_state rfl rfl rfl hl_N_state ⟨Nat.le_of_ble_eq_true rfl, Nat.le_of_ble_eq_true rfl⟩) hx hb hml hown hts hK hPN hPM hnm (fun q h => by obtain ⟨k, hk, rfl⟩ := h; exact hN k hk) hS hl.1 d_L_526 (va_recv (q := (R_N, F_N, 7)) hK hPN (ci := 0) (q0 := 0) rfl rfl) rfl (lv_room (Nat.le_of_ble_eq_true rfl)) hc hs rfl (fun r u H1 locs1 hw hPN hPM hS => ?_)
  refine lv_aload_n hx hb d_L_529 rfl (lv_at hl 1 rfl) ?_
  refine lv_aload_n hx hb d_L_530 rfl (lv_at hl 3 rfl) ?_
  refine lv_iload_n hx hb d_L_531 rfl (lv_at hl 0 rfl) ?_
  refine lv_iconst (v := 1) hx hb d_L_532 (by decide) ?_
  refine lv_iadd hx hb d_L_533 ?_
  refine va_sld (A := fun q => s.heap.size ≤ q) hx hb hX hbl hbA hS (hb1 1 (by decide)) d_L_534 ?_
  refine ncl_i (As := [.int (xs (Int32.toNatClampNeg (jI i + 1)))]) (c_M_state hqM MA MD MF MG ML MN MP MT MV (xs (Int32.toNatClampNeg (jI i + 1))) _ hw) (cwV 1 hts gl_M_state rfl rfl rfl hl_M_state ⟨Nat.le_of_ble_eq_true rfl, Nat.le_of_ble_eq_true rfl⟩) hx hb hml hown hts hK hPM hPN (fun k x hx => by rintro ⟨j, hj, e⟩; obtain ⟨h1, h2⟩ := wN_at hx; exact hdis k j h1 hj (by rw [← e, h2])) (fun q h => by obtain ⟨k, hk, rfl⟩ := h; exact hM k hk) hS hl.1 d_L_535 (va_recv (q := (R_M, F_M, 39)) hK hPM (ci := 7) (q0 := 0) rfl rfl) rfl (lv_room (Nat.le_of_ble_eq_true rfl)) hc hs rfl (fun r2 u2 H2 locs2 hw2 hPM hPN hS => ?_)
  have hw2 : r = r2 := hw2
  refine lv_icmp_eq (tgt := 767) hx hb d_L_538 (by decide) (fun _ => ?_) (fun z => absurd hw2 z)
  exact go _ _ _ _ _ _ _ _ _ _ _ _ _ _ _ _ H2 locs2 hR.up hPN hPM hS
set_option maxHeartbeats 1000000 in
theorem L_parent {p : Program} {l : Launch} {e : Env} {s : State} {m : MethodId} {below : List Frame} {meth : Method} {c : Code} {b L : Nat} {xs : Nat → Int32} {dC : Nat → ClassId} {dI : Nat → Nat → Nat} {cI cL cZ : ClassId} {qN qM : Nat → Nat} {ls : Array Slot} {i k : Nat} {H : Heap} {locs : List Loc} {cells slots : Nat} {Q : State → Prop} {A : S_A} {D : S_D} {G : S_G} {K : S_K} {N : S_N} {P : S_P} {T : S_T} {MA : S_MA} {MD : S_MD} {MF : S_MF} {MG : S_MG} {ML : S_ML} {MN : S_MN} {MP : S_MP} {MT : S_MT} {MV : S_MV} (hx : p.tables.exec = Jvm.exec) (hb : c.code = code) (hml : c.maxLocals = 4) (hown : s.vm.findClass R_law = some m.cls) (hts : ∀ w ∈ (Cond.initialized R_N :: wA), w.before #[Value.ref b] s = true) (hK : va_K (dC, dI) clZ (tyZ cI cL cZ) s) (hX : va_X b L xs s s.heap) (hbl : b < s.heap.size) (hqN : iN qN) (hqM : iM qM) (hN : ∀ k, k < nN → s.heap.size ≤ qN k) (hM : ∀ k, k < nM → s.heap.size ≤ qM k) (hdis : ∀ i j, i < nN → j < nM → qN i ≠ qM j) (hl : lv_has ls 4 [(3, .int (jI i)), (2, .ref (qM 0)), (1, .ref (qN 0)), (0, .ref b)]) (hi : i + 3 < L) (hL : L ≤ 2049) (hk : k < 512) (hR : Rel k A G K N T MA MD MG ML MN MT) (hc : cells ≤ room_1.cells) (hs : slots ≤ room_1.slots) (hPN : va_P (dC, dI) clZ (wN cI cL cZ qN A D G K N P T) H) (hPM : va_P (dC, dI) clZ (wM cI cL cZ qM MA MD MF MG ML MN MP MT MV) H) (hS : va_S (fun q => s.heap.size ≤ q) s.heap H locs) (go : ∀ (A : S_A) (D : S_D) (G : S_G) (K : S_K) (N : S_N) (P : S_P) (T : S_T) (MA : S_MA) (MD : S_MD) (MF : S_MF) (MG : S_MG) (ML : S_ML) (MN : S_MN) (MP : S_MP) (MT : S_MT) (MV : S_MV) (H : Heap) (locs : List Loc), Rel (k + 1) A G K N T MA MD MG ML MN MT → va_P (dC, dI) clZ (wN cI cL cZ qN A D G K N P T) H → va_P (dC, dI) clZ (wM cI cL cZ qM MA MD MF MG ML MN MP MT MV) H → va_S (fun q => s.heap.size ≤ q) s.heap H locs → W p l e room_1 s m #[Value.ref b] below meth c H locs cells slots Q (F0 m 767 ls [])) : W p l e room_1 s m #[Value.ref b] below meth c H locs cells slots Q (F0 m 543 ls []) := by
  have hb1 : ∀ j, j ≤ 3 → vp_in (jI i + jI j) L := fun j hj => by rw [jI_a]; exact jI_in (by omega) (by omega)
  have hbA : ¬ s.heap.size ≤ b := by omega
  have hnm : ∀ (k : Nat) (x : Nat × va_E), (wM cI cL cZ qM MA MD MF MG ML MN MP MT MV)[k]? = some x → ¬ aN qN x.1 := fun k x hx => by rintro ⟨i, hi, e⟩; obtain ⟨h1, h2⟩ := wM_at hx; exact hdis i k hi h1 (by rw [← e, h2])
  refine lv_aload_n hx hb d_L_543 rfl (lv_at hl 2 rfl) ?_
  refine lv_aload_n hx hb d_L_544 rfl (lv_at hl 3 rfl) ?_
  refine lv_iload_n hx hb d_L_545 rfl (lv_at hl 0 rfl) ?_
  refine lv_iconst (v := 1) hx hb d_L_546 (by decide) ?_
  refine lv_iadd hx hb d_L_547 ?_
  refine va_sld (A := fun q => s.heap.size ≤ q) hx hb hX hbl hbA hS (hb1 1 (by decide)) d_L_548 ?_
  refine ncl_i (As := [.int (xs (Int32.toNatClampNeg (jI i + 1)))]) (c_N_parent hqN A D G K N P T (xs (Int32.toNatClampNeg (jI i + 1))) _ (o_parent (xs (Int32.toNatClampNeg (jI i + 1))) hR)) (cwV 1 hts gl_N_parent rfl rfl rfl hl_N_parent ⟨Nat.le_of_ble_eq_true rfl, Nat.le_of_ble_eq_true rfl⟩) hx hb hml hown hts hK hPN hPM hnm (fun q h => by obtain ⟨k, hk, rfl⟩ := h; exact hN k hk) hS hl.1 d_L_549 (va_recv (q := (R_N, F_N, 7)) hK hPN (ci := 0) (q0 := 0) rfl rfl) rfl (lv_room (Nat.le_of_ble_eq_true rfl)) hc hs rfl (fun r u H1 locs1 hw hPN hPM hS => ?_)
  refine lv_aload_n hx hb d_L_552 rfl (lv_at hl 1 rfl) ?_
  refine lv_aload_n hx hb d_L_553 rfl (lv_at hl 3 rfl) ?_
  refine lv_iload_n hx hb d_L_554 rfl (lv_at hl 0 rfl) ?_
  refine lv_iconst (v := 1) hx hb d_L_555 (by decide) ?_
  refine lv_iadd hx hb d_L_556 ?_
  refine va_sld (A := fun q => s.heap.size ≤ q) hx hb hX hbl hbA hS (hb1 1 (by decide)) d_L_557 ?_
  refine ncl_i (As := [.int (xs (Int32.toNatClampNeg (jI i + 1)))]) (c_M_parent hqM MA MD MF MG ML MN MP MT MV (xs (Int32.toNatClampNeg (jI i + 1))) _ hw) (cwV 1 hts gl_M_parent rfl rfl rfl hl_M_parent ⟨Nat.le_of_ble_eq_true rfl, Nat.le_of_ble_eq_true rfl⟩) hx hb hml hown hts hK hPM hPN (fun k x hx => by rintro ⟨j, hj, e⟩; obtain ⟨h1, h2⟩ := wN_at hx; exact hdis k j h1 hj (by rw [← e, h2])) (fun q h => by obtain ⟨k, hk, rfl⟩ := h; exact hM k hk) hS hl.1 d_L_558 (va_recv (q := (R_M, F_M, 39)) hK hPM (ci := 7) (q0 := 0) rfl rfl) rfl (lv_room (Nat.le_of_ble_eq_true rfl)) hc hs rfl (fun r2 u2 H2 locs2 hw2 hPM hPN hS => ?_)
  have hw2 : r = r2 := hw2
  refine lv_icmp_eq (tgt := 767) hx hb d_L_561 (by decide) (fun _ => ?_) (fun z => absurd hw2 z)
  exact go _ _ _ _ _ _ _ _ _ _ _ _ _ _ _ _ H2 locs2 hR.up hPN hPM hS
set_option maxHeartbeats 1000000 in
theorem L_lock {p : Program} {l : Launch} {e : Env} {s : State} {m : MethodId} {below : List Frame} {meth : Method} {c : Code} {b L : Nat} {xs : Nat → Int32} {dC : Nat → ClassId} {dI : Nat → Nat → Nat} {cI cL cZ : ClassId} {qN qM : Nat → Nat} {ls : Array Slot} {i k : Nat} {H : Heap} {locs : List Loc} {cells slots : Nat} {Q : State → Prop} {A : S_A} {D : S_D} {G : S_G} {K : S_K} {N : S_N} {P : S_P} {T : S_T} {MA : S_MA} {MD : S_MD} {MF : S_MF} {MG : S_MG} {ML : S_ML} {MN : S_MN} {MP : S_MP} {MT : S_MT} {MV : S_MV} (hx : p.tables.exec = Jvm.exec) (hb : c.code = code) (hml : c.maxLocals = 4) (hown : s.vm.findClass R_law = some m.cls) (hts : ∀ w ∈ (Cond.initialized R_N :: wA), w.before #[Value.ref b] s = true) (hK : va_K (dC, dI) clZ (tyZ cI cL cZ) s) (hX : va_X b L xs s s.heap) (hbl : b < s.heap.size) (hqN : iN qN) (hqM : iM qM) (hN : ∀ k, k < nN → s.heap.size ≤ qN k) (hM : ∀ k, k < nM → s.heap.size ≤ qM k) (hdis : ∀ i j, i < nN → j < nM → qN i ≠ qM j) (hl : lv_has ls 4 [(3, .int (jI i)), (2, .ref (qM 0)), (1, .ref (qN 0)), (0, .ref b)]) (hi : i + 3 < L) (hL : L ≤ 2049) (hk : k < 512) (hR : Rel k A G K N T MA MD MG ML MN MT) (hc : cells ≤ room_1.cells) (hs : slots ≤ room_1.slots) (hPN : va_P (dC, dI) clZ (wN cI cL cZ qN A D G K N P T) H) (hPM : va_P (dC, dI) clZ (wM cI cL cZ qM MA MD MF MG ML MN MP MT MV) H) (hS : va_S (fun q => s.heap.size ≤ q) s.heap H locs) (go : ∀ (A : S_A) (D : S_D) (G : S_G) (K : S_K) (N : S_N) (P : S_P) (T : S_T) (MA : S_MA) (MD : S_MD) (MF : S_MF) (MG : S_MG) (ML : S_ML) (MN : S_MN) (MP : S_MP) (MT : S_MT) (MV : S_MV) (H : Heap) (locs : List Loc), Rel (k + 1) A G K N T MA MD MG ML MN MT → va_P (dC, dI) clZ (wN cI cL cZ qN A D G K N P T) H → va_P (dC, dI) clZ (wM cI cL cZ qM MA MD MF MG ML MN MP MT MV) H → va_S (fun q => s.heap.size ≤ q) s.heap H locs → W p l e room_1 s m #[Value.ref b] below meth c H locs cells slots Q (F0 m 767 ls [])) : W p l e room_1 s m #[Value.ref b] below meth c H locs cells slots Q (F0 m 566 ls []) := by
  have hb1 : ∀ j, j ≤ 3 → vp_in (jI i + jI j) L := fun j hj => by rw [jI_a]; exact jI_in (by omega) (by omega)
  have hbA : ¬ s.heap.size ≤ b := by omega
  have hnm : ∀ (k : Nat) (x : Nat × va_E), (wM cI cL cZ qM MA MD MF MG ML MN MP MT MV)[k]? = some x → ¬ aN qN x.1 := fun k x hx => by rintro ⟨i, hi, e⟩; obtain ⟨h1, h2⟩ := wM_at hx; exact hdis i k hi h1 (by rw [← e, h2])
  refine lv_aload_n hx hb d_L_566 rfl (lv_at hl 2 rfl) ?_
  refine lv_aload_n hx hb d_L_567 rfl (lv_at hl 3 rfl) ?_
  refine lv_iload_n hx hb d_L_568 rfl (lv_at hl 0 rfl) ?_
  refine lv_iconst (v := 1) hx hb d_L_569 (by decide) ?_
  refine lv_iadd hx hb d_L_570 ?_
  refine va_sld (A := fun q => s.heap.size ≤ q) hx hb hX hbl hbA hS (hb1 1 (by decide)) d_L_571 ?_
  refine lv_aload_n hx hb d_L_572 rfl (lv_at hl 3 rfl) ?_
  refine lv_iload_n hx hb d_L_573 rfl (lv_at hl 0 rfl) ?_
  refine lv_iconst (v := 2) hx hb d_L_574 (by decide) ?_
  refine lv_iadd hx hb d_L_575 ?_
  refine va_sld (A := fun q => s.heap.size ≤ q) hx hb hX hbl hbA hS (hb1 2 (by decide)) d_L_576 ?_
  refine ncl_i (As := [.int (xs (Int32.toNatClampNeg (jI i + 1))), .int (xs (Int32.toNatClampNeg (jI i + 2)))]) (c_N_lock hqN A D G K N P T (xs (Int32.toNatClampNeg (jI i + 1))) (xs (Int32.toNatClampNeg (jI i + 2))) _ (o_lock (xs (Int32.toNatClampNeg (jI i + 1))) (xs (Int32.toNatClampNeg (jI i + 2))) hR)) (cwV 2 hts gl_N_lock rfl rfl rfl hl_N_lock ⟨Nat.le_of_ble_eq_true rfl, Nat.le_of_ble_eq_true rfl⟩) hx hb hml hown hts hK hPN hPM hnm (fun q h => by obtain ⟨k, hk, rfl⟩ := h; exact hN k hk) hS hl.1 d_L_577 (va_recv (q := (R_N, F_N, 7)) hK hPN (ci := 0) (q0 := 0) rfl rfl) rfl (lv_room (Nat.le_of_ble_eq_true rfl)) hc hs rfl (fun r u H1 locs1 hw hPN hPM hS => ?_)
  refine lv_aload_n hx hb d_L_580 rfl (lv_at hl 1 rfl) ?_
  refine lv_aload_n hx hb d_L_581 rfl (lv_at hl 3 rfl) ?_
  refine lv_iload_n hx hb d_L_582 rfl (lv_at hl 0 rfl) ?_
  refine lv_iconst (v := 1) hx hb d_L_583 (by decide) ?_
  refine lv_iadd hx hb d_L_584 ?_
  refine va_sld (A := fun q => s.heap.size ≤ q) hx hb hX hbl hbA hS (hb1 1 (by decide)) d_L_585 ?_
  refine lv_aload_n hx hb d_L_586 rfl (lv_at hl 3 rfl) ?_
  refine lv_iload_n hx hb d_L_587 rfl (lv_at hl 0 rfl) ?_
  refine lv_iconst (v := 2) hx hb d_L_588 (by decide) ?_
  refine lv_iadd hx hb d_L_589 ?_
  refine va_sld (A := fun q => s.heap.size ≤ q) hx hb hX hbl hbA hS (hb1 2 (by decide)) d_L_590 ?_
  refine ncl_i (As := [.int (xs (Int32.toNatClampNeg (jI i + 1))), .int (xs (Int32.toNatClampNeg (jI i + 2)))]) (c_M_lock hqM MA MD MF MG ML MN MP MT MV (xs (Int32.toNatClampNeg (jI i + 1))) (xs (Int32.toNatClampNeg (jI i + 2))) _ hw) (cwV 2 hts gl_M_lock rfl rfl rfl hl_M_lock ⟨Nat.le_of_ble_eq_true rfl, Nat.le_of_ble_eq_true rfl⟩) hx hb hml hown hts hK hPM hPN (fun k x hx => by rintro ⟨j, hj, e⟩; obtain ⟨h1, h2⟩ := wN_at hx; exact hdis k j h1 hj (by rw [← e, h2])) (fun q h => by obtain ⟨k, hk, rfl⟩ := h; exact hM k hk) hS hl.1 d_L_591 (va_recv (q := (R_M, F_M, 39)) hK hPM (ci := 7) (q0 := 0) rfl rfl) rfl (lv_room (Nat.le_of_ble_eq_true rfl)) hc hs rfl (fun r2 u2 H2 locs2 hw2 hPM hPN hS => ?_)
  have hw2 : r = r2 := hw2
  refine lv_icmp_eq (tgt := 767) hx hb d_L_594 (by decide) (fun _ => ?_) (fun z => absurd hw2 z)
  exact go _ _ _ _ _ _ _ _ _ _ _ _ _ _ _ _ H2 locs2 hR.up hPN hPM hS
set_option maxHeartbeats 1000000 in
theorem L_waits {p : Program} {l : Launch} {e : Env} {s : State} {m : MethodId} {below : List Frame} {meth : Method} {c : Code} {b L : Nat} {xs : Nat → Int32} {dC : Nat → ClassId} {dI : Nat → Nat → Nat} {cI cL cZ : ClassId} {qN qM : Nat → Nat} {ls : Array Slot} {i k : Nat} {H : Heap} {locs : List Loc} {cells slots : Nat} {Q : State → Prop} {A : S_A} {D : S_D} {G : S_G} {K : S_K} {N : S_N} {P : S_P} {T : S_T} {MA : S_MA} {MD : S_MD} {MF : S_MF} {MG : S_MG} {ML : S_ML} {MN : S_MN} {MP : S_MP} {MT : S_MT} {MV : S_MV} (hx : p.tables.exec = Jvm.exec) (hb : c.code = code) (hml : c.maxLocals = 4) (hown : s.vm.findClass R_law = some m.cls) (hts : ∀ w ∈ (Cond.initialized R_N :: wA), w.before #[Value.ref b] s = true) (hK : va_K (dC, dI) clZ (tyZ cI cL cZ) s) (hX : va_X b L xs s s.heap) (hbl : b < s.heap.size) (hqN : iN qN) (hqM : iM qM) (hN : ∀ k, k < nN → s.heap.size ≤ qN k) (hM : ∀ k, k < nM → s.heap.size ≤ qM k) (hdis : ∀ i j, i < nN → j < nM → qN i ≠ qM j) (hl : lv_has ls 4 [(3, .int (jI i)), (2, .ref (qM 0)), (1, .ref (qN 0)), (0, .ref b)]) (hi : i + 3 < L) (hL : L ≤ 2049) (hk : k < 512) (hR : Rel k A G K N T MA MD MG ML MN MT) (hc : cells ≤ room_1.cells) (hs : slots ≤ room_1.slots) (hPN : va_P (dC, dI) clZ (wN cI cL cZ qN A D G K N P T) H) (hPM : va_P (dC, dI) clZ (wM cI cL cZ qM MA MD MF MG ML MN MP MT MV) H) (hS : va_S (fun q => s.heap.size ≤ q) s.heap H locs) (go : ∀ (A : S_A) (D : S_D) (G : S_G) (K : S_K) (N : S_N) (P : S_P) (T : S_T) (MA : S_MA) (MD : S_MD) (MF : S_MF) (MG : S_MG) (ML : S_ML) (MN : S_MN) (MP : S_MP) (MT : S_MT) (MV : S_MV) (H : Heap) (locs : List Loc), Rel (k + 1) A G K N T MA MD MG ML MN MT → va_P (dC, dI) clZ (wN cI cL cZ qN A D G K N P T) H → va_P (dC, dI) clZ (wM cI cL cZ qM MA MD MF MG ML MN MP MT MV) H → va_S (fun q => s.heap.size ≤ q) s.heap H locs → W p l e room_1 s m #[Value.ref b] below meth c H locs cells slots Q (F0 m 767 ls [])) : W p l e room_1 s m #[Value.ref b] below meth c H locs cells slots Q (F0 m 599 ls []) := by
  have hb1 : ∀ j, j ≤ 3 → vp_in (jI i + jI j) L := fun j hj => by rw [jI_a]; exact jI_in (by omega) (by omega)
  have hbA : ¬ s.heap.size ≤ b := by omega
  have hnm : ∀ (k : Nat) (x : Nat × va_E), (wM cI cL cZ qM MA MD MF MG ML MN MP MT MV)[k]? = some x → ¬ aN qN x.1 := fun k x hx => by rintro ⟨i, hi, e⟩; obtain ⟨h1, h2⟩ := wM_at hx; exact hdis i k hi h1 (by rw [← e, h2])
  refine lv_aload_n hx hb d_L_599 rfl (lv_at hl 2 rfl) ?_
  refine lv_aload_n hx hb d_L_600 rfl (lv_at hl 3 rfl) ?_
  refine lv_iload_n hx hb d_L_601 rfl (lv_at hl 0 rfl) ?_
  refine lv_iconst (v := 1) hx hb d_L_602 (by decide) ?_
  refine lv_iadd hx hb d_L_603 ?_
  refine va_sld (A := fun q => s.heap.size ≤ q) hx hb hX hbl hbA hS (hb1 1 (by decide)) d_L_604 ?_
  refine lv_aload_n hx hb d_L_605 rfl (lv_at hl 3 rfl) ?_
  refine lv_iload_n hx hb d_L_606 rfl (lv_at hl 0 rfl) ?_
  refine lv_iconst (v := 2) hx hb d_L_607 (by decide) ?_
  refine lv_iadd hx hb d_L_608 ?_
  refine va_sld (A := fun q => s.heap.size ≤ q) hx hb hX hbl hbA hS (hb1 2 (by decide)) d_L_609 ?_
  refine ncl_i (As := [.int (xs (Int32.toNatClampNeg (jI i + 1))), .int (xs (Int32.toNatClampNeg (jI i + 2)))]) (c_N_waits hqN A D G K N P T (xs (Int32.toNatClampNeg (jI i + 1))) (xs (Int32.toNatClampNeg (jI i + 2))) _ (o_waits (MP := MP) (MV := MV) (xs (Int32.toNatClampNeg (jI i + 1))) (xs (Int32.toNatClampNeg (jI i + 2))) hR)) (cwV 2 hts gl_N_waits rfl rfl rfl hl_N_waits ⟨Nat.le_of_ble_eq_true rfl, Nat.le_of_ble_eq_true rfl⟩) hx hb hml hown hts hK hPN hPM hnm (fun q h => by obtain ⟨k, hk, rfl⟩ := h; exact hN k hk) hS hl.1 d_L_610 (va_recv (q := (R_N, F_N, 7)) hK hPN (ci := 0) (q0 := 0) rfl rfl) rfl (lv_room (Nat.le_of_ble_eq_true rfl)) hc hs rfl (fun r u H1 locs1 hw hPN hPM hS => ?_)
  refine lv_aload_n hx hb d_L_613 rfl (lv_at hl 1 rfl) ?_
  refine lv_aload_n hx hb d_L_614 rfl (lv_at hl 3 rfl) ?_
  refine lv_iload_n hx hb d_L_615 rfl (lv_at hl 0 rfl) ?_
  refine lv_iconst (v := 1) hx hb d_L_616 (by decide) ?_
  refine lv_iadd hx hb d_L_617 ?_
  refine va_sld (A := fun q => s.heap.size ≤ q) hx hb hX hbl hbA hS (hb1 1 (by decide)) d_L_618 ?_
  refine lv_aload_n hx hb d_L_619 rfl (lv_at hl 3 rfl) ?_
  refine lv_iload_n hx hb d_L_620 rfl (lv_at hl 0 rfl) ?_
  refine lv_iconst (v := 2) hx hb d_L_621 (by decide) ?_
  refine lv_iadd hx hb d_L_622 ?_
  refine va_sld (A := fun q => s.heap.size ≤ q) hx hb hX hbl hbA hS (hb1 2 (by decide)) d_L_623 ?_
  refine ncl_i (As := [.int (xs (Int32.toNatClampNeg (jI i + 1))), .int (xs (Int32.toNatClampNeg (jI i + 2)))]) (c_M_waits hqM MA MD MF MG ML MN MP MT MV (xs (Int32.toNatClampNeg (jI i + 1))) (xs (Int32.toNatClampNeg (jI i + 2))) _ hw) (cwV 2 hts gl_M_waits rfl rfl rfl hl_M_waits ⟨Nat.le_of_ble_eq_true rfl, Nat.le_of_ble_eq_true rfl⟩) hx hb hml hown hts hK hPM hPN (fun k x hx => by rintro ⟨j, hj, e⟩; obtain ⟨h1, h2⟩ := wN_at hx; exact hdis k j h1 hj (by rw [← e, h2])) (fun q h => by obtain ⟨k, hk, rfl⟩ := h; exact hM k hk) hS hl.1 d_L_624 (va_recv (q := (R_M, F_M, 39)) hK hPM (ci := 7) (q0 := 0) rfl rfl) rfl (lv_room (Nat.le_of_ble_eq_true rfl)) hc hs rfl (fun r2 u2 H2 locs2 hw2 hPM hPN hS => ?_)
  have hw2 : r = r2 := hw2
  refine lv_icmp_eq (tgt := 767) hx hb d_L_627 (by decide) (fun _ => ?_) (fun z => absurd hw2 z)
  exact go _ _ _ _ _ _ _ _ _ _ _ _ _ _ _ _ H2 locs2 hR.up hPN hPM hS
set_option maxHeartbeats 1000000 in
theorem L_entry {p : Program} {l : Launch} {e : Env} {s : State} {m : MethodId} {below : List Frame} {meth : Method} {c : Code} {b L : Nat} {xs : Nat → Int32} {dC : Nat → ClassId} {dI : Nat → Nat → Nat} {cI cL cZ : ClassId} {qN qM : Nat → Nat} {ls : Array Slot} {i k : Nat} {H : Heap} {locs : List Loc} {cells slots : Nat} {Q : State → Prop} {A : S_A} {D : S_D} {G : S_G} {K : S_K} {N : S_N} {P : S_P} {T : S_T} {MA : S_MA} {MD : S_MD} {MF : S_MF} {MG : S_MG} {ML : S_ML} {MN : S_MN} {MP : S_MP} {MT : S_MT} {MV : S_MV} (hx : p.tables.exec = Jvm.exec) (hb : c.code = code) (hml : c.maxLocals = 4) (hown : s.vm.findClass R_law = some m.cls) (hts : ∀ w ∈ (Cond.initialized R_N :: wA), w.before #[Value.ref b] s = true) (hK : va_K (dC, dI) clZ (tyZ cI cL cZ) s) (hX : va_X b L xs s s.heap) (hbl : b < s.heap.size) (hqN : iN qN) (hqM : iM qM) (hN : ∀ k, k < nN → s.heap.size ≤ qN k) (hM : ∀ k, k < nM → s.heap.size ≤ qM k) (hdis : ∀ i j, i < nN → j < nM → qN i ≠ qM j) (hl : lv_has ls 4 [(3, .int (jI i)), (2, .ref (qM 0)), (1, .ref (qN 0)), (0, .ref b)]) (hi : i + 3 < L) (hL : L ≤ 2049) (hk : k < 512) (hR : Rel k A G K N T MA MD MG ML MN MT) (hc : cells ≤ room_1.cells) (hs : slots ≤ room_1.slots) (hPN : va_P (dC, dI) clZ (wN cI cL cZ qN A D G K N P T) H) (hPM : va_P (dC, dI) clZ (wM cI cL cZ qM MA MD MF MG ML MN MP MT MV) H) (hS : va_S (fun q => s.heap.size ≤ q) s.heap H locs) (go : ∀ (A : S_A) (D : S_D) (G : S_G) (K : S_K) (N : S_N) (P : S_P) (T : S_T) (MA : S_MA) (MD : S_MD) (MF : S_MF) (MG : S_MG) (ML : S_ML) (MN : S_MN) (MP : S_MP) (MT : S_MT) (MV : S_MV) (H : Heap) (locs : List Loc), Rel (k + 1) A G K N T MA MD MG ML MN MT → va_P (dC, dI) clZ (wN cI cL cZ qN A D G K N P T) H → va_P (dC, dI) clZ (wM cI cL cZ qM MA MD MF MG ML MN MP MT MV) H → va_S (fun q => s.heap.size ≤ q) s.heap H locs → W p l e room_1 s m #[Value.ref b] below meth c H locs cells slots Q (F0 m 767 ls [])) : W p l e room_1 s m #[Value.ref b] below meth c H locs cells slots Q (F0 m 632 ls []) := by
  have hb1 : ∀ j, j ≤ 3 → vp_in (jI i + jI j) L := fun j hj => by rw [jI_a]; exact jI_in (by omega) (by omega)
  have hbA : ¬ s.heap.size ≤ b := by omega
  have hnm : ∀ (k : Nat) (x : Nat × va_E), (wM cI cL cZ qM MA MD MF MG ML MN MP MT MV)[k]? = some x → ¬ aN qN x.1 := fun k x hx => by rintro ⟨i, hi, e⟩; obtain ⟨h1, h2⟩ := wM_at hx; exact hdis i k hi h1 (by rw [← e, h2])
  refine lv_aload_n hx hb d_L_632 rfl (lv_at hl 2 rfl) ?_
  refine lv_aload_n hx hb d_L_633 rfl (lv_at hl 3 rfl) ?_
  refine lv_iload_n hx hb d_L_634 rfl (lv_at hl 0 rfl) ?_
  refine lv_iconst (v := 1) hx hb d_L_635 (by decide) ?_
  refine lv_iadd hx hb d_L_636 ?_
  refine va_sld (A := fun q => s.heap.size ≤ q) hx hb hX hbl hbA hS (hb1 1 (by decide)) d_L_637 ?_
  refine lv_aload_n hx hb d_L_638 rfl (lv_at hl 3 rfl) ?_
  refine lv_iload_n hx hb d_L_639 rfl (lv_at hl 0 rfl) ?_
  refine lv_iconst (v := 2) hx hb d_L_640 (by decide) ?_
  refine lv_iadd hx hb d_L_641 ?_
  refine va_sld (A := fun q => s.heap.size ≤ q) hx hb hX hbl hbA hS (hb1 2 (by decide)) d_L_642 ?_
  refine ncl_i (As := [.int (xs (Int32.toNatClampNeg (jI i + 1))), .int (xs (Int32.toNatClampNeg (jI i + 2)))]) (c_N_entry hqN A D G K N P T (xs (Int32.toNatClampNeg (jI i + 1))) (xs (Int32.toNatClampNeg (jI i + 2))) _ (o_entry (xs (Int32.toNatClampNeg (jI i + 1))) (xs (Int32.toNatClampNeg (jI i + 2))) hR)) (cwV 2 hts gl_N_entry rfl rfl rfl hl_N_entry ⟨Nat.le_of_ble_eq_true rfl, Nat.le_of_ble_eq_true rfl⟩) hx hb hml hown hts hK hPN hPM hnm (fun q h => by obtain ⟨k, hk, rfl⟩ := h; exact hN k hk) hS hl.1 d_L_643 (va_recv (q := (R_N, F_N, 7)) hK hPN (ci := 0) (q0 := 0) rfl rfl) rfl (lv_room (Nat.le_of_ble_eq_true rfl)) hc hs rfl (fun r u H1 locs1 hw hPN hPM hS => ?_)
  refine lv_aload_n hx hb d_L_646 rfl (lv_at hl 1 rfl) ?_
  refine lv_aload_n hx hb d_L_647 rfl (lv_at hl 3 rfl) ?_
  refine lv_iload_n hx hb d_L_648 rfl (lv_at hl 0 rfl) ?_
  refine lv_iconst (v := 1) hx hb d_L_649 (by decide) ?_
  refine lv_iadd hx hb d_L_650 ?_
  refine va_sld (A := fun q => s.heap.size ≤ q) hx hb hX hbl hbA hS (hb1 1 (by decide)) d_L_651 ?_
  refine lv_aload_n hx hb d_L_652 rfl (lv_at hl 3 rfl) ?_
  refine lv_iload_n hx hb d_L_653 rfl (lv_at hl 0 rfl) ?_
  refine lv_iconst (v := 2) hx hb d_L_654 (by decide) ?_
  refine lv_iadd hx hb d_L_655 ?_
  refine va_sld (A := fun q => s.heap.size ≤ q) hx hb hX hbl hbA hS (hb1 2 (by decide)) d_L_656 ?_
  refine ncl_i (As := [.int (xs (Int32.toNatClampNeg (jI i + 1))), .int (xs (Int32.toNatClampNeg (jI i + 2)))]) (c_M_entry hqM MA MD MF MG ML MN MP MT MV (xs (Int32.toNatClampNeg (jI i + 1))) (xs (Int32.toNatClampNeg (jI i + 2))) _ hw) (cwV 2 hts gl_M_entry rfl rfl rfl hl_M_entry ⟨Nat.le_of_ble_eq_true rfl, Nat.le_of_ble_eq_true rfl⟩) hx hb hml hown hts hK hPM hPN (fun k x hx => by rintro ⟨j, hj, e⟩; obtain ⟨h1, h2⟩ := wN_at hx; exact hdis k j h1 hj (by rw [← e, h2])) (fun q h => by obtain ⟨k, hk, rfl⟩ := h; exact hM k hk) hS hl.1 d_L_657 (va_recv (q := (R_M, F_M, 39)) hK hPM (ci := 7) (q0 := 0) rfl rfl) rfl (lv_room (Nat.le_of_ble_eq_true rfl)) hc hs rfl (fun r2 u2 H2 locs2 hw2 hPM hPN hS => ?_)
  have hw2 : r = r2 := hw2
  refine lv_icmp_eq (tgt := 767) hx hb d_L_660 (by decide) (fun _ => ?_) (fun z => absurd hw2 z)
  exact go _ _ _ _ _ _ _ _ _ _ _ _ _ _ _ _ H2 locs2 hR.up hPN hPM hS
set_option maxHeartbeats 1000000 in
theorem L_log {p : Program} {l : Launch} {e : Env} {s : State} {m : MethodId} {below : List Frame} {meth : Method} {c : Code} {b L : Nat} {xs : Nat → Int32} {dC : Nat → ClassId} {dI : Nat → Nat → Nat} {cI cL cZ : ClassId} {qN qM : Nat → Nat} {ls : Array Slot} {i k : Nat} {H : Heap} {locs : List Loc} {cells slots : Nat} {Q : State → Prop} {A : S_A} {D : S_D} {G : S_G} {K : S_K} {N : S_N} {P : S_P} {T : S_T} {MA : S_MA} {MD : S_MD} {MF : S_MF} {MG : S_MG} {ML : S_ML} {MN : S_MN} {MP : S_MP} {MT : S_MT} {MV : S_MV} (hx : p.tables.exec = Jvm.exec) (hb : c.code = code) (hml : c.maxLocals = 4) (hown : s.vm.findClass R_law = some m.cls) (hts : ∀ w ∈ (Cond.initialized R_N :: wA), w.before #[Value.ref b] s = true) (hK : va_K (dC, dI) clZ (tyZ cI cL cZ) s) (hX : va_X b L xs s s.heap) (hbl : b < s.heap.size) (hqN : iN qN) (hqM : iM qM) (hN : ∀ k, k < nN → s.heap.size ≤ qN k) (hM : ∀ k, k < nM → s.heap.size ≤ qM k) (hdis : ∀ i j, i < nN → j < nM → qN i ≠ qM j) (hl : lv_has ls 4 [(3, .int (jI i)), (2, .ref (qM 0)), (1, .ref (qN 0)), (0, .ref b)]) (hi : i + 3 < L) (hL : L ≤ 2049) (hk : k < 512) (hR : Rel k A G K N T MA MD MG ML MN MT) (hc : cells ≤ room_1.cells) (hs : slots ≤ room_1.slots) (hPN : va_P (dC, dI) clZ (wN cI cL cZ qN A D G K N P T) H) (hPM : va_P (dC, dI) clZ (wM cI cL cZ qM MA MD MF MG ML MN MP MT MV) H) (hS : va_S (fun q => s.heap.size ≤ q) s.heap H locs) (go : ∀ (A : S_A) (D : S_D) (G : S_G) (K : S_K) (N : S_N) (P : S_P) (T : S_T) (MA : S_MA) (MD : S_MD) (MF : S_MF) (MG : S_MG) (ML : S_ML) (MN : S_MN) (MP : S_MP) (MT : S_MT) (MV : S_MV) (H : Heap) (locs : List Loc), Rel (k + 1) A G K N T MA MD MG ML MN MT → va_P (dC, dI) clZ (wN cI cL cZ qN A D G K N P T) H → va_P (dC, dI) clZ (wM cI cL cZ qM MA MD MF MG ML MN MP MT MV) H → va_S (fun q => s.heap.size ≤ q) s.heap H locs → W p l e room_1 s m #[Value.ref b] below meth c H locs cells slots Q (F0 m 767 ls [])) : W p l e room_1 s m #[Value.ref b] below meth c H locs cells slots Q (F0 m 665 ls []) := by
  have hb1 : ∀ j, j ≤ 3 → vp_in (jI i + jI j) L := fun j hj => by rw [jI_a]; exact jI_in (by omega) (by omega)
  have hbA : ¬ s.heap.size ≤ b := by omega
  have hnm : ∀ (k : Nat) (x : Nat × va_E), (wM cI cL cZ qM MA MD MF MG ML MN MP MT MV)[k]? = some x → ¬ aN qN x.1 := fun k x hx => by rintro ⟨i, hi, e⟩; obtain ⟨h1, h2⟩ := wM_at hx; exact hdis i k hi h1 (by rw [← e, h2])
  refine lv_aload_n hx hb d_L_665 rfl (lv_at hl 2 rfl) ?_
  refine lv_aload_n hx hb d_L_666 rfl (lv_at hl 3 rfl) ?_
  refine lv_iload_n hx hb d_L_667 rfl (lv_at hl 0 rfl) ?_
  refine lv_iconst (v := 1) hx hb d_L_668 (by decide) ?_
  refine lv_iadd hx hb d_L_669 ?_
  refine va_sld (A := fun q => s.heap.size ≤ q) hx hb hX hbl hbA hS (hb1 1 (by decide)) d_L_670 ?_
  refine ncl_i (As := [.int (xs (Int32.toNatClampNeg (jI i + 1)))]) (c_N_log hqN A D G K N P T (xs (Int32.toNatClampNeg (jI i + 1))) _ (o_log (xs (Int32.toNatClampNeg (jI i + 1))) hR)) (cwV 1 hts gl_N_log rfl rfl rfl hl_N_log ⟨Nat.le_of_ble_eq_true rfl, Nat.le_of_ble_eq_true rfl⟩) hx hb hml hown hts hK hPN hPM hnm (fun q h => by obtain ⟨k, hk, rfl⟩ := h; exact hN k hk) hS hl.1 d_L_671 (va_recv (q := (R_N, F_N, 7)) hK hPN (ci := 0) (q0 := 0) rfl rfl) rfl (lv_room (Nat.le_of_ble_eq_true rfl)) hc hs rfl (fun r u H1 locs1 hw hPN hPM hS => ?_)
  refine lv_aload_n hx hb d_L_674 rfl (lv_at hl 1 rfl) ?_
  refine lv_aload_n hx hb d_L_675 rfl (lv_at hl 3 rfl) ?_
  refine lv_iload_n hx hb d_L_676 rfl (lv_at hl 0 rfl) ?_
  refine lv_iconst (v := 1) hx hb d_L_677 (by decide) ?_
  refine lv_iadd hx hb d_L_678 ?_
  refine va_sld (A := fun q => s.heap.size ≤ q) hx hb hX hbl hbA hS (hb1 1 (by decide)) d_L_679 ?_
  refine ncl_i (As := [.int (xs (Int32.toNatClampNeg (jI i + 1)))]) (c_M_log hqM MA MD MF MG ML MN MP MT MV (xs (Int32.toNatClampNeg (jI i + 1))) _ hw) (cwV 1 hts gl_M_log rfl rfl rfl hl_M_log ⟨Nat.le_of_ble_eq_true rfl, Nat.le_of_ble_eq_true rfl⟩) hx hb hml hown hts hK hPM hPN (fun k x hx => by rintro ⟨j, hj, e⟩; obtain ⟨h1, h2⟩ := wN_at hx; exact hdis k j h1 hj (by rw [← e, h2])) (fun q h => by obtain ⟨k, hk, rfl⟩ := h; exact hM k hk) hS hl.1 d_L_680 (va_recv (q := (R_M, F_M, 39)) hK hPM (ci := 7) (q0 := 0) rfl rfl) rfl (lv_room (Nat.le_of_ble_eq_true rfl)) hc hs rfl (fun r2 u2 H2 locs2 hw2 hPM hPN hS => ?_)
  have hw2 : r = r2 := hw2
  refine lv_icmp_eq (tgt := 767) hx hb d_L_683 (by decide) (fun _ => ?_) (fun z => absurd hw2 z)
  exact go _ _ _ _ _ _ _ _ _ _ _ _ _ _ _ _ H2 locs2 hR.up hPN hPM hS
set_option maxHeartbeats 1000000 in
theorem L_key {p : Program} {l : Launch} {e : Env} {s : State} {m : MethodId} {below : List Frame} {meth : Method} {c : Code} {b L : Nat} {xs : Nat → Int32} {dC : Nat → ClassId} {dI : Nat → Nat → Nat} {cI cL cZ : ClassId} {qN qM : Nat → Nat} {ls : Array Slot} {i k : Nat} {H : Heap} {locs : List Loc} {cells slots : Nat} {Q : State → Prop} {A : S_A} {D : S_D} {G : S_G} {K : S_K} {N : S_N} {P : S_P} {T : S_T} {MA : S_MA} {MD : S_MD} {MF : S_MF} {MG : S_MG} {ML : S_ML} {MN : S_MN} {MP : S_MP} {MT : S_MT} {MV : S_MV} (hx : p.tables.exec = Jvm.exec) (hb : c.code = code) (hml : c.maxLocals = 4) (hown : s.vm.findClass R_law = some m.cls) (hts : ∀ w ∈ (Cond.initialized R_N :: wA), w.before #[Value.ref b] s = true) (hK : va_K (dC, dI) clZ (tyZ cI cL cZ) s) (hX : va_X b L xs s s.heap) (hbl : b < s.heap.size) (hqN : iN qN) (hqM : iM qM) (hN : ∀ k, k < nN → s.heap.size ≤ qN k) (hM : ∀ k, k < nM → s.heap.size ≤ qM k) (hdis : ∀ i j, i < nN → j < nM → qN i ≠ qM j) (hl : lv_has ls 4 [(3, .int (jI i)), (2, .ref (qM 0)), (1, .ref (qN 0)), (0, .ref b)]) (hi : i + 3 < L) (hL : L ≤ 2049) (hk : k < 512) (hR : Rel k A G K N T MA MD MG ML MN MT) (hc : cells ≤ room_1.cells) (hs : slots ≤ room_1.slots) (hPN : va_P (dC, dI) clZ (wN cI cL cZ qN A D G K N P T) H) (hPM : va_P (dC, dI) clZ (wM cI cL cZ qM MA MD MF MG ML MN MP MT MV) H) (hS : va_S (fun q => s.heap.size ≤ q) s.heap H locs) (go : ∀ (A : S_A) (D : S_D) (G : S_G) (K : S_K) (N : S_N) (P : S_P) (T : S_T) (MA : S_MA) (MD : S_MD) (MF : S_MF) (MG : S_MG) (ML : S_ML) (MN : S_MN) (MP : S_MP) (MT : S_MT) (MV : S_MV) (H : Heap) (locs : List Loc), Rel (k + 1) A G K N T MA MD MG ML MN MT → va_P (dC, dI) clZ (wN cI cL cZ qN A D G K N P T) H → va_P (dC, dI) clZ (wM cI cL cZ qM MA MD MF MG ML MN MP MT MV) H → va_S (fun q => s.heap.size ≤ q) s.heap H locs → W p l e room_1 s m #[Value.ref b] below meth c H locs cells slots Q (F0 m 767 ls [])) : W p l e room_1 s m #[Value.ref b] below meth c H locs cells slots Q (F0 m 688 ls []) := by
  have hb1 : ∀ j, j ≤ 3 → vp_in (jI i + jI j) L := fun j hj => by rw [jI_a]; exact jI_in (by omega) (by omega)
  have hbA : ¬ s.heap.size ≤ b := by omega
  have hnm : ∀ (k : Nat) (x : Nat × va_E), (wM cI cL cZ qM MA MD MF MG ML MN MP MT MV)[k]? = some x → ¬ aN qN x.1 := fun k x hx => by rintro ⟨i, hi, e⟩; obtain ⟨h1, h2⟩ := wM_at hx; exact hdis i k hi h1 (by rw [← e, h2])
  refine lv_aload_n hx hb d_L_688 rfl (lv_at hl 2 rfl) ?_
  refine lv_aload_n hx hb d_L_689 rfl (lv_at hl 3 rfl) ?_
  refine lv_iload_n hx hb d_L_690 rfl (lv_at hl 0 rfl) ?_
  refine lv_iconst (v := 1) hx hb d_L_691 (by decide) ?_
  refine lv_iadd hx hb d_L_692 ?_
  refine va_sld (A := fun q => s.heap.size ≤ q) hx hb hX hbl hbA hS (hb1 1 (by decide)) d_L_693 ?_
  refine lv_aload_n hx hb d_L_694 rfl (lv_at hl 3 rfl) ?_
  refine lv_iload_n hx hb d_L_695 rfl (lv_at hl 0 rfl) ?_
  refine lv_iconst (v := 2) hx hb d_L_696 (by decide) ?_
  refine lv_iadd hx hb d_L_697 ?_
  refine va_sld (A := fun q => s.heap.size ≤ q) hx hb hX hbl hbA hS (hb1 2 (by decide)) d_L_698 ?_
  refine ncl_i (As := [.int (xs (Int32.toNatClampNeg (jI i + 1))), .int (xs (Int32.toNatClampNeg (jI i + 2)))]) (c_N_key hqN A D G K N P T (xs (Int32.toNatClampNeg (jI i + 1))) (xs (Int32.toNatClampNeg (jI i + 2))) _ (o_key (xs (Int32.toNatClampNeg (jI i + 1))) (xs (Int32.toNatClampNeg (jI i + 2))) hR)) (cwV 2 hts gl_N_key rfl rfl rfl hl_N_key ⟨Nat.le_of_ble_eq_true rfl, Nat.le_of_ble_eq_true rfl⟩) hx hb hml hown hts hK hPN hPM hnm (fun q h => by obtain ⟨k, hk, rfl⟩ := h; exact hN k hk) hS hl.1 d_L_699 (va_recv (q := (R_N, F_N, 7)) hK hPN (ci := 0) (q0 := 0) rfl rfl) rfl (lv_room (Nat.le_of_ble_eq_true rfl)) hc hs rfl (fun r u H1 locs1 hw hPN hPM hS => ?_)
  refine lv_aload_n hx hb d_L_702 rfl (lv_at hl 1 rfl) ?_
  refine lv_aload_n hx hb d_L_703 rfl (lv_at hl 3 rfl) ?_
  refine lv_iload_n hx hb d_L_704 rfl (lv_at hl 0 rfl) ?_
  refine lv_iconst (v := 1) hx hb d_L_705 (by decide) ?_
  refine lv_iadd hx hb d_L_706 ?_
  refine va_sld (A := fun q => s.heap.size ≤ q) hx hb hX hbl hbA hS (hb1 1 (by decide)) d_L_707 ?_
  refine lv_aload_n hx hb d_L_708 rfl (lv_at hl 3 rfl) ?_
  refine lv_iload_n hx hb d_L_709 rfl (lv_at hl 0 rfl) ?_
  refine lv_iconst (v := 2) hx hb d_L_710 (by decide) ?_
  refine lv_iadd hx hb d_L_711 ?_
  refine va_sld (A := fun q => s.heap.size ≤ q) hx hb hX hbl hbA hS (hb1 2 (by decide)) d_L_712 ?_
  refine ncl_i (As := [.int (xs (Int32.toNatClampNeg (jI i + 1))), .int (xs (Int32.toNatClampNeg (jI i + 2)))]) (c_M_key hqM MA MD MF MG ML MN MP MT MV (xs (Int32.toNatClampNeg (jI i + 1))) (xs (Int32.toNatClampNeg (jI i + 2))) _ hw) (cwV 2 hts gl_M_key rfl rfl rfl hl_M_key ⟨Nat.le_of_ble_eq_true rfl, Nat.le_of_ble_eq_true rfl⟩) hx hb hml hown hts hK hPM hPN (fun k x hx => by rintro ⟨j, hj, e⟩; obtain ⟨h1, h2⟩ := wN_at hx; exact hdis k j h1 hj (by rw [← e, h2])) (fun q h => by obtain ⟨k, hk, rfl⟩ := h; exact hM k hk) hS hl.1 d_L_713 (va_recv (q := (R_M, F_M, 39)) hK hPM (ci := 7) (q0 := 0) rfl rfl) rfl (lv_room (Nat.le_of_ble_eq_true rfl)) hc hs rfl (fun r2 u2 H2 locs2 hw2 hPM hPN hS => ?_)
  have hw2 : r = r2 := hw2
  refine lv_icmp_eq (tgt := 767) hx hb d_L_716 (by decide) (fun _ => ?_) (fun z => absurd hw2 z)
  exact go _ _ _ _ _ _ _ _ _ _ _ _ _ _ _ _ H2 locs2 hR.up hPN hPM hS
set_option maxHeartbeats 1000000 in
theorem L_frame {p : Program} {l : Launch} {e : Env} {s : State} {m : MethodId} {below : List Frame} {meth : Method} {c : Code} {b L : Nat} {xs : Nat → Int32} {dC : Nat → ClassId} {dI : Nat → Nat → Nat} {cI cL cZ : ClassId} {qN qM : Nat → Nat} {ls : Array Slot} {i k : Nat} {H : Heap} {locs : List Loc} {cells slots : Nat} {Q : State → Prop} {A : S_A} {D : S_D} {G : S_G} {K : S_K} {N : S_N} {P : S_P} {T : S_T} {MA : S_MA} {MD : S_MD} {MF : S_MF} {MG : S_MG} {ML : S_ML} {MN : S_MN} {MP : S_MP} {MT : S_MT} {MV : S_MV} (hx : p.tables.exec = Jvm.exec) (hb : c.code = code) (hml : c.maxLocals = 4) (hown : s.vm.findClass R_law = some m.cls) (hts : ∀ w ∈ (Cond.initialized R_N :: wA), w.before #[Value.ref b] s = true) (hK : va_K (dC, dI) clZ (tyZ cI cL cZ) s) (hX : va_X b L xs s s.heap) (hbl : b < s.heap.size) (hqN : iN qN) (hqM : iM qM) (hN : ∀ k, k < nN → s.heap.size ≤ qN k) (hM : ∀ k, k < nM → s.heap.size ≤ qM k) (hdis : ∀ i j, i < nN → j < nM → qN i ≠ qM j) (hl : lv_has ls 4 [(3, .int (jI i)), (2, .ref (qM 0)), (1, .ref (qN 0)), (0, .ref b)]) (hi : i + 3 < L) (hL : L ≤ 2049) (hk : k < 512) (hR : Rel k A G K N T MA MD MG ML MN MT) (hc : cells ≤ room_1.cells) (hs : slots ≤ room_1.slots) (hPN : va_P (dC, dI) clZ (wN cI cL cZ qN A D G K N P T) H) (hPM : va_P (dC, dI) clZ (wM cI cL cZ qM MA MD MF MG ML MN MP MT MV) H) (hS : va_S (fun q => s.heap.size ≤ q) s.heap H locs) (go : ∀ (A : S_A) (D : S_D) (G : S_G) (K : S_K) (N : S_N) (P : S_P) (T : S_T) (MA : S_MA) (MD : S_MD) (MF : S_MF) (MG : S_MG) (ML : S_ML) (MN : S_MN) (MP : S_MP) (MT : S_MT) (MV : S_MV) (H : Heap) (locs : List Loc), Rel (k + 1) A G K N T MA MD MG ML MN MT → va_P (dC, dI) clZ (wN cI cL cZ qN A D G K N P T) H → va_P (dC, dI) clZ (wM cI cL cZ qM MA MD MF MG ML MN MP MT MV) H → va_S (fun q => s.heap.size ≤ q) s.heap H locs → W p l e room_1 s m #[Value.ref b] below meth c H locs cells slots Q (F0 m 767 ls [])) : W p l e room_1 s m #[Value.ref b] below meth c H locs cells slots Q (F0 m 721 ls []) := by
  have hb1 : ∀ j, j ≤ 3 → vp_in (jI i + jI j) L := fun j hj => by rw [jI_a]; exact jI_in (by omega) (by omega)
  have hbA : ¬ s.heap.size ≤ b := by omega
  have hnm : ∀ (k : Nat) (x : Nat × va_E), (wM cI cL cZ qM MA MD MF MG ML MN MP MT MV)[k]? = some x → ¬ aN qN x.1 := fun k x hx => by rintro ⟨i, hi, e⟩; obtain ⟨h1, h2⟩ := wM_at hx; exact hdis i k hi h1 (by rw [← e, h2])
  refine lv_aload_n hx hb d_L_721 rfl (lv_at hl 2 rfl) ?_
  refine lv_aload_n hx hb d_L_722 rfl (lv_at hl 3 rfl) ?_
  refine lv_iload_n hx hb d_L_723 rfl (lv_at hl 0 rfl) ?_
  refine lv_iconst (v := 1) hx hb d_L_724 (by decide) ?_
  refine lv_iadd hx hb d_L_725 ?_
  refine va_sld (A := fun q => s.heap.size ≤ q) hx hb hX hbl hbA hS (hb1 1 (by decide)) d_L_726 ?_
  refine ncl_i (As := [.int (xs (Int32.toNatClampNeg (jI i + 1)))]) (c_N_frame hqN A D G K N P T (xs (Int32.toNatClampNeg (jI i + 1))) _ (o_frame hk (xs (Int32.toNatClampNeg (jI i + 1))) hR)) (cwV 1 hts gl_N_frame rfl rfl rfl hl_N_frame ⟨Nat.le_of_ble_eq_true rfl, Nat.le_of_ble_eq_true rfl⟩) hx hb hml hown hts hK hPN hPM hnm (fun q h => by obtain ⟨k, hk, rfl⟩ := h; exact hN k hk) hS hl.1 d_L_727 (va_recv (q := (R_N, F_N, 7)) hK hPN (ci := 0) (q0 := 0) rfl rfl) rfl (lv_room (Nat.le_of_ble_eq_true rfl)) hc hs rfl (fun r u H1 locs1 hw hPN hPM hS => ?_)
  refine lv_aload_n hx hb d_L_730 rfl (lv_at hl 1 rfl) ?_
  refine lv_aload_n hx hb d_L_731 rfl (lv_at hl 3 rfl) ?_
  refine lv_iload_n hx hb d_L_732 rfl (lv_at hl 0 rfl) ?_
  refine lv_iconst (v := 1) hx hb d_L_733 (by decide) ?_
  refine lv_iadd hx hb d_L_734 ?_
  refine va_sld (A := fun q => s.heap.size ≤ q) hx hb hX hbl hbA hS (hb1 1 (by decide)) d_L_735 ?_
  refine ncl_i (As := [.int (xs (Int32.toNatClampNeg (jI i + 1)))]) (c_M_frame hqM MA MD MF MG ML MN MP MT MV (xs (Int32.toNatClampNeg (jI i + 1))) _ hw) (cwV 1 hts gl_M_frame rfl rfl rfl hl_M_frame ⟨Nat.le_of_ble_eq_true rfl, Nat.le_of_ble_eq_true rfl⟩) hx hb hml hown hts hK hPM hPN (fun k x hx => by rintro ⟨j, hj, e⟩; obtain ⟨h1, h2⟩ := wN_at hx; exact hdis k j h1 hj (by rw [← e, h2])) (fun q h => by obtain ⟨k, hk, rfl⟩ := h; exact hM k hk) hS hl.1 d_L_736 (va_recv (q := (R_M, F_M, 39)) hK hPM (ci := 7) (q0 := 0) rfl rfl) rfl (lv_room (Nat.le_of_ble_eq_true rfl)) hc hs rfl (fun r2 u2 H2 locs2 hw2 hPM hPN hS => ?_)
  have hw2 : r = r2 := hw2
  refine lv_icmp_eq (tgt := 767) hx hb d_L_739 (by decide) (fun _ => ?_) (fun z => absurd hw2 z)
  exact go _ _ _ _ _ _ _ _ _ _ _ _ _ _ _ _ H2 locs2 hR.up hPN hPM hS
set_option maxHeartbeats 1000000 in
theorem L_page {p : Program} {l : Launch} {e : Env} {s : State} {m : MethodId} {below : List Frame} {meth : Method} {c : Code} {b L : Nat} {xs : Nat → Int32} {dC : Nat → ClassId} {dI : Nat → Nat → Nat} {cI cL cZ : ClassId} {qN qM : Nat → Nat} {ls : Array Slot} {i k : Nat} {H : Heap} {locs : List Loc} {cells slots : Nat} {Q : State → Prop} {A : S_A} {D : S_D} {G : S_G} {K : S_K} {N : S_N} {P : S_P} {T : S_T} {MA : S_MA} {MD : S_MD} {MF : S_MF} {MG : S_MG} {ML : S_ML} {MN : S_MN} {MP : S_MP} {MT : S_MT} {MV : S_MV} (hx : p.tables.exec = Jvm.exec) (hb : c.code = code) (hml : c.maxLocals = 4) (hown : s.vm.findClass R_law = some m.cls) (hts : ∀ w ∈ (Cond.initialized R_N :: wA), w.before #[Value.ref b] s = true) (hK : va_K (dC, dI) clZ (tyZ cI cL cZ) s) (hX : va_X b L xs s s.heap) (hbl : b < s.heap.size) (hqN : iN qN) (hqM : iM qM) (hN : ∀ k, k < nN → s.heap.size ≤ qN k) (hM : ∀ k, k < nM → s.heap.size ≤ qM k) (hdis : ∀ i j, i < nN → j < nM → qN i ≠ qM j) (hl : lv_has ls 4 [(3, .int (jI i)), (2, .ref (qM 0)), (1, .ref (qN 0)), (0, .ref b)]) (hi : i + 3 < L) (hL : L ≤ 2049) (hk : k < 512) (hR : Rel k A G K N T MA MD MG ML MN MT) (hc : cells ≤ room_1.cells) (hs : slots ≤ room_1.slots) (hPN : va_P (dC, dI) clZ (wN cI cL cZ qN A D G K N P T) H) (hPM : va_P (dC, dI) clZ (wM cI cL cZ qM MA MD MF MG ML MN MP MT MV) H) (hS : va_S (fun q => s.heap.size ≤ q) s.heap H locs) (go : ∀ (A : S_A) (D : S_D) (G : S_G) (K : S_K) (N : S_N) (P : S_P) (T : S_T) (MA : S_MA) (MD : S_MD) (MF : S_MF) (MG : S_MG) (ML : S_ML) (MN : S_MN) (MP : S_MP) (MT : S_MT) (MV : S_MV) (H : Heap) (locs : List Loc), Rel (k + 1) A G K N T MA MD MG ML MN MT → va_P (dC, dI) clZ (wN cI cL cZ qN A D G K N P T) H → va_P (dC, dI) clZ (wM cI cL cZ qM MA MD MF MG ML MN MP MT MV) H → va_S (fun q => s.heap.size ≤ q) s.heap H locs → W p l e room_1 s m #[Value.ref b] below meth c H locs cells slots Q (F0 m 767 ls [])) : W p l e room_1 s m #[Value.ref b] below meth c H locs cells slots Q (F0 m 744 ls []) := by
  have hb1 : ∀ j, j ≤ 3 → vp_in (jI i + jI j) L := fun j hj => by rw [jI_a]; exact jI_in (by omega) (by omega)
  have hbA : ¬ s.heap.size ≤ b := by omega
  have hnm : ∀ (k : Nat) (x : Nat × va_E), (wM cI cL cZ qM MA MD MF MG ML MN MP MT MV)[k]? = some x → ¬ aN qN x.1 := fun k x hx => by rintro ⟨i, hi, e⟩; obtain ⟨h1, h2⟩ := wM_at hx; exact hdis i k hi h1 (by rw [← e, h2])
  refine lv_aload_n hx hb d_L_744 rfl (lv_at hl 2 rfl) ?_
  refine lv_aload_n hx hb d_L_745 rfl (lv_at hl 3 rfl) ?_
  refine lv_iload_n hx hb d_L_746 rfl (lv_at hl 0 rfl) ?_
  refine lv_iconst (v := 1) hx hb d_L_747 (by decide) ?_
  refine lv_iadd hx hb d_L_748 ?_
  refine va_sld (A := fun q => s.heap.size ≤ q) hx hb hX hbl hbA hS (hb1 1 (by decide)) d_L_749 ?_
  refine ncl_i (As := [.int (xs (Int32.toNatClampNeg (jI i + 1)))]) (c_N_page hqN A D G K N P T (xs (Int32.toNatClampNeg (jI i + 1))) _ (o_page (xs (Int32.toNatClampNeg (jI i + 1))) hR)) (cwV 1 hts gl_N_page rfl rfl rfl hl_N_page ⟨Nat.le_of_ble_eq_true rfl, Nat.le_of_ble_eq_true rfl⟩) hx hb hml hown hts hK hPN hPM hnm (fun q h => by obtain ⟨k, hk, rfl⟩ := h; exact hN k hk) hS hl.1 d_L_750 (va_recv (q := (R_N, F_N, 7)) hK hPN (ci := 0) (q0 := 0) rfl rfl) rfl (lv_room (Nat.le_of_ble_eq_true rfl)) hc hs rfl (fun r u H1 locs1 hw hPN hPM hS => ?_)
  refine lv_aload_n hx hb d_L_753 rfl (lv_at hl 1 rfl) ?_
  refine lv_aload_n hx hb d_L_754 rfl (lv_at hl 3 rfl) ?_
  refine lv_iload_n hx hb d_L_755 rfl (lv_at hl 0 rfl) ?_
  refine lv_iconst (v := 1) hx hb d_L_756 (by decide) ?_
  refine lv_iadd hx hb d_L_757 ?_
  refine va_sld (A := fun q => s.heap.size ≤ q) hx hb hX hbl hbA hS (hb1 1 (by decide)) d_L_758 ?_
  refine ncl_i (As := [.int (xs (Int32.toNatClampNeg (jI i + 1)))]) (c_M_page hqM MA MD MF MG ML MN MP MT MV (xs (Int32.toNatClampNeg (jI i + 1))) _ hw) (cwV 1 hts gl_M_page rfl rfl rfl hl_M_page ⟨Nat.le_of_ble_eq_true rfl, Nat.le_of_ble_eq_true rfl⟩) hx hb hml hown hts hK hPM hPN (fun k x hx => by rintro ⟨j, hj, e⟩; obtain ⟨h1, h2⟩ := wN_at hx; exact hdis k j h1 hj (by rw [← e, h2])) (fun q h => by obtain ⟨k, hk, rfl⟩ := h; exact hM k hk) hS hl.1 d_L_759 (va_recv (q := (R_M, F_M, 39)) hK hPM (ci := 7) (q0 := 0) rfl rfl) rfl (lv_room (Nat.le_of_ble_eq_true rfl)) hc hs rfl (fun r2 u2 H2 locs2 hw2 hPM hPN hS => ?_)
  have hw2 : r = r2 := hw2
  refine lv_icmp_eq (tgt := 767) hx hb d_L_762 (by decide) (fun _ => ?_) (fun z => absurd hw2 z)
  exact go _ _ _ _ _ _ _ _ _ _ _ _ _ _ _ _ H2 locs2 hR.up hPN hPM hS
