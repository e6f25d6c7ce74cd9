set_option maxHeartbeats 1000000 in
theorem L_begin {p : Program} {l : Launch} {e : Env} {s : State} {m : MethodId} {below : List Frame} {meth : Method} {c : Code} {b L : Nat} {xs : Nat → Int32} {dC : Nat → ClassId} {dI : Nat → Nat → Nat} {cI cL cZ : ClassId} {qN qM : Nat → Nat} {ls : Array Slot} {i k : Nat} {H : Heap} {locs : List Loc} {cells slots : Nat} {Q : State → Prop} {A : S_A} {D : S_D} {G : S_G} {K : S_K} {N : S_N} {P : S_P} {T : S_T} {MA : S_MA} {MD : S_MD} {MF : S_MF} {MG : S_MG} {ML : S_ML} {MN : S_MN} {MP : S_MP} {MT : S_MT} {MV : S_MV} (hx : p.tables.exec = Jvm.exec) (hb : c.code = code) (hml : c.maxLocals = 4) (hown : s.vm.findClass R_law = some m.cls) (hts : ∀ w ∈ (Cond.initialized R_N :: wA), w.before #[Value.ref b] s = true) (hK : va_K (dC, dI) clZ (tyZ cI cL cZ) s) (hX : va_X b L xs s s.heap) (hbl : b < s.heap.size) (hqN : iN qN) (hqM : iM qM) (hN : ∀ k, k < nN → s.heap.size ≤ qN k) (hM : ∀ k, k < nM → s.heap.size ≤ qM k) (hdis : ∀ i j, i < nN → j < nM → qN i ≠ qM j) (hl : lv_has ls 4 [(3, .int (jI i)), (2, .ref (qM 0)), (1, .ref (qN 0)), (0, .ref b)]) (hi : i + 3 < L) (hL : L ≤ 2049) (hk : k < 512) (hR : Rel k A G K N T MA MD MG ML MN MT) (hc : cells ≤ room_1.cells) (hs : slots ≤ room_1.slots) (hPN : va_P (dC, dI) clZ (wN cI cL cZ qN A D G K N P T) H) (hPM : va_P (dC, dI) clZ (wM cI cL cZ qM MA MD MF MG ML MN MP MT MV) H) (hS : va_S (fun q => s.heap.size ≤ q) s.heap H locs) (go : ∀ (A : S_A) (D : S_D) (G : S_G) (K : S_K) (N : S_N) (P : S_P) (T : S_T) (MA : S_MA) (MD : S_MD) (MF : S_MF) (MG : S_MG) (ML : S_ML) (MN : S_MN) (MP : S_MP) (MT : S_MT) (MV : S_MV) (H : Heap) (locs : List Loc), Rel (k + 1) A G K N T MA MD MG ML MN MT → va_P (dC, dI) clZ (wN cI cL cZ qN A D G K N P T) H → va_P (dC, dI) clZ (wM cI cL cZ qM MA MD MF MG ML MN MP MT MV) H → va_S (fun q => s.heap.size ≤ q) s.heap H locs → W p l e room_1 s m #[Value.ref b] below meth c H locs cells slots Q (F0 m 767 ls [])) : W p l e room_1 s m #[Value.ref b] below meth c H locs cells slots Q (F0 m 148 ls []) := by
  have hb1 : ∀ j, j ≤ 3 → vp_in (jI i + jI j) L := fun j hj => by rw [jI_a]; exact jI_in (by omega) (by omega)
  have hbA : ¬ s.heap.size ≤ b := by omega
  have hnm : ∀ (k : Nat) (x : Nat × va_E), (wM cI cL cZ qM MA MD MF MG ML MN MP MT MV)[k]? = some x → ¬ aN qN x.1 := fun k x hx => by rintro ⟨i, hi, e⟩; obtain ⟨h1, h2⟩ := wM_at hx; exact hdis i k hi h1 (by rw [← e, h2])
  refine lv_aload_n hx hb d_L_148 rfl (lv_at hl 2 rfl) ?_
  refine lv_aload_n hx hb d_L_149 rfl (lv_at hl 3 rfl) ?_
  refine lv_iload_n hx hb d_L_150 rfl (lv_at hl 0 rfl) ?_
  refine lv_iconst (v := 1) hx hb d_L_151 (by decide) ?_
  refine lv_iadd hx hb d_L_152 ?_
  refine va_sld (A := fun q => s.heap.size ≤ q) hx hb hX hbl hbA hS (hb1 1 (by decide)) d_L_153 ?_
  refine ncl_i (As := [.int (xs (Int32.toNatClampNeg (jI i + 1)))]) (c_N_begin hqN A D G K N P T (xs (Int32.toNatClampNeg (jI i + 1))) _ (o_begin hk (xs (Int32.toNatClampNeg (jI i + 1))) hR)) (cwV 1 hts gl_N_begin rfl rfl rfl hl_N_begin ⟨Nat.le_of_ble_eq_true rfl, Nat.le_of_ble_eq_true rfl⟩) hx hb hml hown hts hK hPN hPM hnm (fun q h => by obtain ⟨k, hk, rfl⟩ := h; exact hN k hk) hS hl.1 d_L_154 (va_recv (q := (R_N, F_N, 7)) hK hPN (ci := 0) (q0 := 0) rfl rfl) rfl (lv_room (Nat.le_of_ble_eq_true rfl)) hc hs rfl (fun r u H1 locs1 hw hPN hPM hS => ?_)
  refine lv_aload_n hx hb d_L_157 rfl (lv_at hl 1 rfl) ?_
  refine lv_aload_n hx hb d_L_158 rfl (lv_at hl 3 rfl) ?_
  refine lv_iload_n hx hb d_L_159 rfl (lv_at hl 0 rfl) ?_
  refine lv_iconst (v := 1) hx hb d_L_160 (by decide) ?_
  refine lv_iadd hx hb d_L_161 ?_
  refine va_sld (A := fun q => s.heap.size ≤ q) hx hb hX hbl hbA hS (hb1 1 (by decide)) d_L_162 ?_
  refine ncl_i (As := [.int (xs (Int32.toNatClampNeg (jI i + 1)))]) (c_M_begin hqM MA MD MF MG ML MN MP MT MV (xs (Int32.toNatClampNeg (jI i + 1))) _ hw) (cwV 1 hts gl_M_begin rfl rfl rfl hl_M_begin ⟨Nat.le_of_ble_eq_true rfl, Nat.le_of_ble_eq_true rfl⟩) hx hb hml hown hts hK hPM hPN (fun k x hx => by rintro ⟨j, hj, e⟩; obtain ⟨h1, h2⟩ := wN_at hx; exact hdis k j h1 hj (by rw [← e, h2])) (fun q h => by obtain ⟨k, hk, rfl⟩ := h; exact hM k hk) hS hl.1 d_L_163 (va_recv (q := (R_M, F_M, 39)) hK hPM (ci := 7) (q0 := 0) rfl rfl) rfl (lv_room (Nat.le_of_ble_eq_true rfl)) hc hs rfl (fun r2 u2 H2 locs2 hw2 hPM hPN hS => ?_)
  obtain ⟨he, hR2⟩ := hw2
  refine lv_icmp_eq (tgt := 767) hx hb d_L_166 (by decide) (fun _ => ?_) (fun z => absurd he z)
  exact go _ _ _ _ _ _ _ _ _ _ _ _ _ _ _ _ H2 locs2 hR2 hPN hPM hS
set_option maxHeartbeats 1000000 in
theorem L_get {p : Program} {l : Launch} {e : Env} {s : State} {m : MethodId} {below : List Frame} {meth : Method} {c : Code} {b L : Nat} {xs : Nat → Int32} {dC : Nat → ClassId} {dI : Nat → Nat → Nat} {cI cL cZ : ClassId} {qN qM : Nat → Nat} {ls : Array Slot} {i k : Nat} {H : Heap} {locs : List Loc} {cells slots : Nat} {Q : State → Prop} {A : S_A} {D : S_D} {G : S_G} {K : S_K} {N : S_N} {P : S_P} {T : S_T} {MA : S_MA} {MD : S_MD} {MF : S_MF} {MG : S_MG} {ML : S_ML} {MN : S_MN} {MP : S_MP} {MT : S_MT} {MV : S_MV} (hx : p.tables.exec = Jvm.exec) (hb : c.code = code) (hml : c.maxLocals = 4) (hown : s.vm.findClass R_law = some m.cls) (hts : ∀ w ∈ (Cond.initialized R_N :: wA), w.before #[Value.ref b] s = true) (hK : va_K (dC, dI) clZ (tyZ cI cL cZ) s) (hX : va_X b L xs s s.heap) (hbl : b < s.heap.size) (hqN : iN qN) (hqM : iM qM) (hN : ∀ k, k < nN → s.heap.size ≤ qN k) (hM : ∀ k, k < nM → s.heap.size ≤ qM k) (hdis : ∀ i j, i < nN → j < nM → qN i ≠ qM j) (hl : lv_has ls 4 [(3, .int (jI i)), (2, .ref (qM 0)), (1, .ref (qN 0)), (0, .ref b)]) (hi : i + 3 < L) (hL : L ≤ 2049) (hk : k < 512) (hR : Rel k A G K N T MA MD MG ML MN MT) (hc : cells ≤ room_1.cells) (hs : slots ≤ room_1.slots) (hPN : va_P (dC, dI) clZ (wN cI cL cZ qN A D G K N P T) H) (hPM : va_P (dC, dI) clZ (wM cI cL cZ qM MA MD MF MG ML MN MP MT MV) H) (hS : va_S (fun q => s.heap.size ≤ q) s.heap H locs) (go : ∀ (A : S_A) (D : S_D) (G : S_G) (K : S_K) (N : S_N) (P : S_P) (T : S_T) (MA : S_MA) (MD : S_MD) (MF : S_MF) (MG : S_MG) (ML : S_ML) (MN : S_MN) (MP : S_MP) (MT : S_MT) (MV : S_MV) (H : Heap) (locs : List Loc), Rel (k + 1) A G K N T MA MD MG ML MN MT → va_P (dC, dI) clZ (wN cI cL cZ qN A D G K N P T) H → va_P (dC, dI) clZ (wM cI cL cZ qM MA MD MF MG ML MN MP MT MV) H → va_S (fun q => s.heap.size ≤ q) s.heap H locs → W p l e room_1 s m #[Value.ref b] below meth c H locs cells slots Q (F0 m 767 ls [])) : W p l e room_1 s m #[Value.ref b] below meth c H locs cells slots Q (F0 m 171 ls []) := by
  have hb1 : ∀ j, j ≤ 3 → vp_in (jI i + jI j) L := fun j hj => by rw [jI_a]; exact jI_in (by omega) (by omega)
  have hbA : ¬ s.heap.size ≤ b := by omega
  have hnm : ∀ (k : Nat) (x : Nat × va_E), (wM cI cL cZ qM MA MD MF MG ML MN MP MT MV)[k]? = some x → ¬ aN qN x.1 := fun k x hx => by rintro ⟨i, hi, e⟩; obtain ⟨h1, h2⟩ := wM_at hx; exact hdis i k hi h1 (by rw [← e, h2])
  refine lv_aload_n hx hb d_L_171 rfl (lv_at hl 2 rfl) ?_
  refine lv_aload_n hx hb d_L_172 rfl (lv_at hl 3 rfl) ?_
  refine lv_iload_n hx hb d_L_173 rfl (lv_at hl 0 rfl) ?_
  refine lv_iconst (v := 1) hx hb d_L_174 (by decide) ?_
  refine lv_iadd hx hb d_L_175 ?_
  refine va_sld (A := fun q => s.heap.size ≤ q) hx hb hX hbl hbA hS (hb1 1 (by decide)) d_L_176 ?_
  refine lv_aload_n hx hb d_L_177 rfl (lv_at hl 3 rfl) ?_
  refine lv_iload_n hx hb d_L_178 rfl (lv_at hl 0 rfl) ?_
  refine lv_iconst (v := 2) hx hb d_L_179 (by decide) ?_
  refine lv_iadd hx hb d_L_180 ?_
  refine va_sld (A := fun q => s.heap.size ≤ q) hx hb hX hbl hbA hS (hb1 2 (by decide)) d_L_181 ?_
  refine ncl_i (As := [.int (xs (Int32.toNatClampNeg (jI i + 1))), .int (xs (Int32.toNatClampNeg (jI i + 2)))]) (c_N_get hqN A D G K N P T (xs (Int32.toNatClampNeg (jI i + 1))) (xs (Int32.toNatClampNeg (jI i + 2))) _ (o_get (MF := MF) (MP := MP) (MV := MV) hk (xs (Int32.toNatClampNeg (jI i + 1))) (xs (Int32.toNatClampNeg (jI i + 2))) hR)) (cwV 2 hts gl_N_get rfl rfl rfl hl_N_get ⟨Nat.le_of_ble_eq_true rfl, Nat.le_of_ble_eq_true rfl⟩) hx hb hml hown hts hK hPN hPM hnm (fun q h => by obtain ⟨k, hk, rfl⟩ := h; exact hN k hk) hS hl.1 d_L_182 (va_recv (q := (R_N, F_N, 7)) hK hPN (ci := 0) (q0 := 0) rfl rfl) rfl (lv_room (Nat.le_of_ble_eq_true rfl)) hc hs rfl (fun r u H1 locs1 hw hPN hPM hS => ?_)
  refine lv_aload_n hx hb d_L_185 rfl (lv_at hl 1 rfl) ?_
  refine lv_aload_n hx hb d_L_186 rfl (lv_at hl 3 rfl) ?_
  refine lv_iload_n hx hb d_L_187 rfl (lv_at hl 0 rfl) ?_
  refine lv_iconst (v := 1) hx hb d_L_188 (by decide) ?_
  refine lv_iadd hx hb d_L_189 ?_
  refine va_sld (A := fun q => s.heap.size ≤ q) hx hb hX hbl hbA hS (hb1 1 (by decide)) d_L_190 ?_
  refine lv_aload_n hx hb d_L_191 rfl (lv_at hl 3 rfl) ?_
  refine lv_iload_n hx hb d_L_192 rfl (lv_at hl 0 rfl) ?_
  refine lv_iconst (v := 2) hx hb d_L_193 (by decide) ?_
  refine lv_iadd hx hb d_L_194 ?_
  refine va_sld (A := fun q => s.heap.size ≤ q) hx hb hX hbl hbA hS (hb1 2 (by decide)) d_L_195 ?_
  refine ncl_i (As := [.int (xs (Int32.toNatClampNeg (jI i + 1))), .int (xs (Int32.toNatClampNeg (jI i + 2)))]) (c_M_get hqM MA MD MF MG ML MN MP MT MV (xs (Int32.toNatClampNeg (jI i + 1))) (xs (Int32.toNatClampNeg (jI i + 2))) _ hw) (cwV 2 hts gl_M_get rfl rfl rfl hl_M_get ⟨Nat.le_of_ble_eq_true rfl, Nat.le_of_ble_eq_true rfl⟩) hx hb hml hown hts hK hPM hPN (fun k x hx => by rintro ⟨j, hj, e⟩; obtain ⟨h1, h2⟩ := wN_at hx; exact hdis k j h1 hj (by rw [← e, h2])) (fun q h => by obtain ⟨k, hk, rfl⟩ := h; exact hM k hk) hS hl.1 d_L_196 (va_recv (q := (R_M, F_M, 39)) hK hPM (ci := 7) (q0 := 0) rfl rfl) rfl (lv_room (Nat.le_of_ble_eq_true rfl)) hc hs rfl (fun r2 u2 H2 locs2 hw2 hPM hPN hS => ?_)
  obtain ⟨he, hR2⟩ := hw2
  refine lv_icmp_eq (tgt := 767) hx hb d_L_199 (by decide) (fun _ => ?_) (fun z => absurd he z)
  exact go _ _ _ _ _ _ _ _ _ _ _ _ _ _ _ _ H2 locs2 hR2 hPN hPM hS
set_option maxHeartbeats 1000000 in
theorem L_put {p : Program} {l : Launch} {e : Env} {s : State} {m : MethodId} {below : List Frame} {meth : Method} {c : Code} {b L : Nat} {xs : Nat → Int32} {dC : Nat → ClassId} {dI : Nat → Nat → Nat} {cI cL cZ : ClassId} {qN qM : Nat → Nat} {ls : Array Slot} {i k : Nat} {H : Heap} {locs : List Loc} {cells slots : Nat} {Q : State → Prop} {A : S_A} {D : S_D} {G : S_G} {K : S_K} {N : S_N} {P : S_P} {T : S_T} {MA : S_MA} {MD : S_MD} {MF : S_MF} {MG : S_MG} {ML : S_ML} {MN : S_MN} {MP : S_MP} {MT : S_MT} {MV : S_MV} (hx : p.tables.exec = Jvm.exec) (hb : c.code = code) (hml : c.maxLocals = 4) (hown : s.vm.findClass R_law = some m.cls) (hts : ∀ w ∈ (Cond.initialized R_N :: wA), w.before #[Value.ref b] s = true) (hK : va_K (dC, dI) clZ (tyZ cI cL cZ) s) (hX : va_X b L xs s s.heap) (hbl : b < s.heap.size) (hqN : iN qN) (hqM : iM qM) (hN : ∀ k, k < nN → s.heap.size ≤ qN k) (hM : ∀ k, k < nM → s.heap.size ≤ qM k) (hdis : ∀ i j, i < nN → j < nM → qN i ≠ qM j) (hl : lv_has ls 4 [(3, .int (jI i)), (2, .ref (qM 0)), (1, .ref (qN 0)), (0, .ref b)]) (hi : i + 3 < L) (hL : L ≤ 2049) (hk : k < 512) (hR : Rel k A G K N T MA MD MG ML MN MT) (hc : cells ≤ room_1.cells) (hs : slots ≤ room_1.slots) (hPN : va_P (dC, dI) clZ (wN cI cL cZ qN A D G K N P T) H) (hPM : va_P (dC, dI) clZ (wM cI cL cZ qM MA MD MF MG ML MN MP MT MV) H) (hS : va_S (fun q => s.heap.size ≤ q) s.heap H locs) (go : ∀ (A : S_A) (D : S_D) (G : S_G) (K : S_K) (N : S_N) (P : S_P) (T : S_T) (MA : S_MA) (MD : S_MD) (MF : S_MF) (MG : S_MG) (ML : S_ML) (MN : S_MN) (MP : S_MP) (MT : S_MT) (MV : S_MV) (H : Heap) (locs : List Loc), Rel (k + 1) A G K N T MA MD MG ML MN MT → va_P (dC, dI) clZ (wN cI cL cZ qN A D G K N P T) H → va_P (dC, dI) clZ (wM cI cL cZ qM MA MD MF MG ML MN MP MT MV) H → va_S (fun q => s.heap.size ≤ q) s.heap H locs → W p l e room_1 s m #[Value.ref b] below meth c H locs cells slots Q (F0 m 767 ls [])) : W p l e room_1 s m #[Value.ref b] below meth c H locs cells slots Q (F0 m 204 ls []) := by
  have hb1 : ∀ j, j ≤ 3 → vp_in (jI i + jI j) L := fun j hj => by rw [jI_a]; exact jI_in (by omega) (by omega)
  have hbA : ¬ s.heap.size ≤ b := by omega
  have hnm : ∀ (k : Nat) (x : Nat × va_E), (wM cI cL cZ qM MA MD MF MG ML MN MP MT MV)[k]? = some x → ¬ aN qN x.1 := fun k x hx => by rintro ⟨i, hi, e⟩; obtain ⟨h1, h2⟩ := wM_at hx; exact hdis i k hi h1 (by rw [← e, h2])
  refine lv_aload_n hx hb d_L_204 rfl (lv_at hl 2 rfl) ?_
  refine lv_aload_n hx hb d_L_205 rfl (lv_at hl 3 rfl) ?_
  refine lv_iload_n hx hb d_L_206 rfl (lv_at hl 0 rfl) ?_
  refine lv_iconst (v := 1) hx hb d_L_207 (by decide) ?_
  refine lv_iadd hx hb d_L_208 ?_
  refine va_sld (A := fun q => s.heap.size ≤ q) hx hb hX hbl hbA hS (hb1 1 (by decide)) d_L_209 ?_
  refine lv_aload_n hx hb d_L_210 rfl (lv_at hl 3 rfl) ?_
  refine lv_iload_n hx hb d_L_211 rfl (lv_at hl 0 rfl) ?_
  refine lv_iconst (v := 2) hx hb d_L_212 (by decide) ?_
  refine lv_iadd hx hb d_L_213 ?_
  refine va_sld (A := fun q => s.heap.size ≤ q) hx hb hX hbl hbA hS (hb1 2 (by decide)) d_L_214 ?_
  refine lv_aload_n hx hb d_L_215 rfl (lv_at hl 3 rfl) ?_
  refine lv_iload_n hx hb d_L_216 rfl (lv_at hl 0 rfl) ?_
  refine lv_iconst (v := 3) hx hb d_L_217 (by decide) ?_
  refine lv_iadd hx hb d_L_218 ?_
  refine va_sld (A := fun q => s.heap.size ≤ q) hx hb hX hbl hbA hS (hb1 3 (by decide)) d_L_219 ?_
  refine ncl_i (As := [.int (xs (Int32.toNatClampNeg (jI i + 1))), .int (xs (Int32.toNatClampNeg (jI i + 2))), .int (xs (Int32.toNatClampNeg (jI i + 3)))]) (c_N_put hqN A D G K N P T (xs (Int32.toNatClampNeg (jI i + 1))) (xs (Int32.toNatClampNeg (jI i + 2))) (xs (Int32.toNatClampNeg (jI i + 3))) _ (o_put (MF := MF) (MP := MP) (MV := MV) hk (xs (Int32.toNatClampNeg (jI i + 1))) (xs (Int32.toNatClampNeg (jI i + 2))) (xs (Int32.toNatClampNeg (jI i + 3))) hR)) (cwV 3 hts gl_N_put rfl rfl rfl hl_N_put ⟨Nat.le_of_ble_eq_true rfl, Nat.le_of_ble_eq_true rfl⟩) hx hb hml hown hts hK hPN hPM hnm (fun q h => by obtain ⟨k, hk, rfl⟩ := h; exact hN k hk) hS hl.1 d_L_220 (va_recv (q := (R_N, F_N, 7)) hK hPN (ci := 0) (q0 := 0) rfl rfl) rfl (lv_room (Nat.le_of_ble_eq_true rfl)) hc hs rfl (fun r u H1 locs1 hw hPN hPM hS => ?_)
  refine lv_aload_n hx hb d_L_223 rfl (lv_at hl 1 rfl) ?_
  refine lv_aload_n hx hb d_L_224 rfl (lv_at hl 3 rfl) ?_
  refine lv_iload_n hx hb d_L_225 rfl (lv_at hl 0 rfl) ?_
  refine lv_iconst (v := 1) hx hb d_L_226 (by decide) ?_
  refine lv_iadd hx hb d_L_227 ?_
  refine va_sld (A := fun q => s.heap.size ≤ q) hx hb hX hbl hbA hS (hb1 1 (by decide)) d_L_228 ?_
  refine lv_aload_n hx hb d_L_229 rfl (lv_at hl 3 rfl) ?_
  refine lv_iload_n hx hb d_L_230 rfl (lv_at hl 0 rfl) ?_
  refine lv_iconst (v := 2) hx hb d_L_231 (by decide) ?_
  refine lv_iadd hx hb d_L_232 ?_
  refine va_sld (A := fun q => s.heap.size ≤ q) hx hb hX hbl hbA hS (hb1 2 (by decide)) d_L_233 ?_
  refine lv_aload_n hx hb d_L_234 rfl (lv_at hl 3 rfl) ?_
  refine lv_iload_n hx hb d_L_235 rfl (lv_at hl 0 rfl) ?_
  refine lv_iconst (v := 3) hx hb d_L_236 (by decide) ?_
  refine lv_iadd hx hb d_L_237 ?_
  refine va_sld (A := fun q => s.heap.size ≤ q) hx hb hX hbl hbA hS (hb1 3 (by decide)) d_L_238 ?_
  refine ncl_i (As := [.int (xs (Int32.toNatClampNeg (jI i + 1))), .int (xs (Int32.toNatClampNeg (jI i + 2))), .int (xs (Int32.toNatClampNeg (jI i + 3)))]) (c_M_put hqM MA MD MF MG ML MN MP MT MV (xs (Int32.toNatClampNeg (jI i + 1))) (xs (Int32.toNatClampNeg (jI i + 2))) (xs (Int32.toNatClampNeg (jI i + 3))) _ hw) (cwV 3 hts gl_M_put rfl rfl rfl hl_M_put ⟨Nat.le_of_ble_eq_true rfl, Nat.le_of_ble_eq_true rfl⟩) hx hb hml hown hts hK hPM hPN (fun k x hx => by rintro ⟨j, hj, e⟩; obtain ⟨h1, h2⟩ := wN_at hx; exact hdis k j h1 hj (by rw [← e, h2])) (fun q h => by obtain ⟨k, hk, rfl⟩ := h; exact hM k hk) hS hl.1 d_L_239 (va_recv (q := (R_M, F_M, 39)) hK hPM (ci := 7) (q0 := 0) rfl rfl) rfl (lv_room (Nat.le_of_ble_eq_true rfl)) hc hs rfl (fun r2 u2 H2 locs2 hw2 hPM hPN hS => ?_)
  obtain ⟨he, hR2⟩ := hw2
  refine lv_icmp_eq (tgt := 767) hx hb d_L_242 (by decide) (fun _ => ?_) (fun z => absurd he z)
  exact go _ _ _ _ _ _ _ _ _ _ _ _ _ _ _ _ H2 locs2 hR2 hPN hPM hS
set_option maxHeartbeats 1000000 in
theorem L_delete {p : Program} {l : Launch} {e : Env} {s : State} {m : MethodId} {below : List Frame} {meth : Method} {c : Code} {b L : Nat} {xs : Nat → Int32} {dC : Nat → ClassId} {dI : Nat → Nat → Nat} {cI cL cZ : ClassId} {qN qM : Nat → Nat} {ls : Array Slot} {i k : Nat} {H : Heap} {locs : List Loc} {cells slots : Nat} {Q : State → Prop} {A : S_A} {D : S_D} {G : S_G} {K : S_K} {N : S_N} {P : S_P} {T : S_T} {MA : S_MA} {MD : S_MD} {MF : S_MF} {MG : S_MG} {ML : S_ML} {MN : S_MN} {MP : S_MP} {MT : S_MT} {MV : S_MV} (hx : p.tables.exec = Jvm.exec) (hb : c.code = code) (hml : c.maxLocals = 4) (hown : s.vm.findClass R_law = some m.cls) (hts : ∀ w ∈ (Cond.initialized R_N :: wA), w.before #[Value.ref b] s = true) (hK : va_K (dC, dI) clZ (tyZ cI cL cZ) s) (hX : va_X b L xs s s.heap) (hbl : b < s.heap.size) (hqN : iN qN) (hqM : iM qM) (hN : ∀ k, k < nN → s.heap.size ≤ qN k) (hM : ∀ k, k < nM → s.heap.size ≤ qM k) (hdis : ∀ i j, i < nN → j < nM → qN i ≠ qM j) (hl : lv_has ls 4 [(3, .int (jI i)), (2, .ref (qM 0)), (1, .ref (qN 0)), (0, .ref b)]) (hi : i + 3 < L) (hL : L ≤ 2049) (hk : k < 512) (hR : Rel k A G K N T MA MD MG ML MN MT) (hc : cells ≤ room_1.cells) (hs : slots ≤ room_1.slots) (hPN : va_P (dC, dI) clZ (wN cI cL cZ qN A D G K N P T) H) (hPM : va_P (dC, dI) clZ (wM cI cL cZ qM MA MD MF MG ML MN MP MT MV) H) (hS : va_S (fun q => s.heap.size ≤ q) s.heap H locs) (go : ∀ (A : S_A) (D : S_D) (G : S_G) (K : S_K) (N : S_N) (P : S_P) (T : S_T) (MA : S_MA) (MD : S_MD) (MF : S_MF) (MG : S_MG) (ML : S_ML) (MN : S_MN) (MP : S_MP) (MT : S_MT) (MV : S_MV) (H : Heap) (locs : List Loc), Rel (k + 1) A G K N T MA MD MG ML MN MT → va_P (dC, dI) clZ (wN cI cL cZ qN A D G K N P T) H → va_P (dC, dI) clZ (wM cI cL cZ qM MA MD MF MG ML MN MP MT MV) H → va_S (fun q => s.heap.size ≤ q) s.heap H locs → W p l e room_1 s m #[Value.ref b] below meth c H locs cells slots Q (F0 m 767 ls [])) : W p l e room_1 s m #[Value.ref b] below meth c H locs cells slots Q (F0 m 247 ls []) := by
  have hb1 : ∀ j, j ≤ 3 → vp_in (jI i + jI j) L := fun j hj => by rw [jI_a]; exact jI_in (by omega) (by omega)
  have hbA : ¬ s.heap.size ≤ b := by omega
  have hnm : ∀ (k : Nat) (x : Nat × va_E), (wM cI cL cZ qM MA MD MF MG ML MN MP MT MV)[k]? = some x → ¬ aN qN x.1 := fun k x hx => by rintro ⟨i, hi, e⟩; obtain ⟨h1, h2⟩ := wM_at hx; exact hdis i k hi h1 (by rw [← e, h2])
  refine lv_aload_n hx hb d_L_247 rfl (lv_at hl 2 rfl) ?_
  refine lv_aload_n hx hb d_L_248 rfl (lv_at hl 3 rfl) ?_
  refine lv_iload_n hx hb d_L_249 rfl (lv_at hl 0 rfl) ?_
  refine lv_iconst (v := 1) hx hb d_L_250 (by decide) ?_
  refine lv_iadd hx hb d_L_251 ?_
  refine va_sld (A := fun q => s.heap.size ≤ q) hx hb hX hbl hbA hS (hb1 1 (by decide)) d_L_252 ?_
  refine lv_aload_n hx hb d_L_253 rfl (lv_at hl 3 rfl) ?_
  refine lv_iload_n hx hb d_L_254 rfl (lv_at hl 0 rfl) ?_
  refine lv_iconst (v := 2) hx hb d_L_255 (by decide) ?_
  refine lv_iadd hx hb d_L_256 ?_
  refine va_sld (A := fun q => s.heap.size ≤ q) hx hb hX hbl hbA hS (hb1 2 (by decide)) d_L_257 ?_
  refine ncl_i (As := [.int (xs (Int32.toNatClampNeg (jI i + 1))), .int (xs (Int32.toNatClampNeg (jI i + 2)))]) (c_N_delete hqN A D G K N P T (xs (Int32.toNatClampNeg (jI i + 1))) (xs (Int32.toNatClampNeg (jI i + 2))) _ (o_delete (MF := MF) (MP := MP) (MV := MV) hk (xs (Int32.toNatClampNeg (jI i + 1))) (xs (Int32.toNatClampNeg (jI i + 2))) hR)) (cwV 2 hts gl_N_delete rfl rfl rfl hl_N_delete ⟨Nat.le_of_ble_eq_true rfl, Nat.le_of_ble_eq_true rfl⟩) hx hb hml hown hts hK hPN hPM hnm (fun q h => by obtain ⟨k, hk, rfl⟩ := h; exact hN k hk) hS hl.1 d_L_258 (va_recv (q := (R_N, F_N, 7)) hK hPN (ci := 0) (q0 := 0) rfl rfl) rfl (lv_room (Nat.le_of_ble_eq_true rfl)) hc hs rfl (fun r u H1 locs1 hw hPN hPM hS => ?_)
  refine lv_aload_n hx hb d_L_261 rfl (lv_at hl 1 rfl) ?_
  refine lv_aload_n hx hb d_L_262 rfl (lv_at hl 3 rfl) ?_
  refine lv_iload_n hx hb d_L_263 rfl (lv_at hl 0 rfl) ?_
  refine lv_iconst (v := 1) hx hb d_L_264 (by decide) ?_
  refine lv_iadd hx hb d_L_265 ?_
  refine va_sld (A := fun q => s.heap.size ≤ q) hx hb hX hbl hbA hS (hb1 1 (by decide)) d_L_266 ?_
  refine lv_aload_n hx hb d_L_267 rfl (lv_at hl 3 rfl) ?_
  refine lv_iload_n hx hb d_L_268 rfl (lv_at hl 0 rfl) ?_
  refine lv_iconst (v := 2) hx hb d_L_269 (by decide) ?_
  refine lv_iadd hx hb d_L_270 ?_
  refine va_sld (A := fun q => s.heap.size ≤ q) hx hb hX hbl hbA hS (hb1 2 (by decide)) d_L_271 ?_
  refine ncl_i (As := [.int (xs (Int32.toNatClampNeg (jI i + 1))), .int (xs (Int32.toNatClampNeg (jI i + 2)))]) (c_M_delete hqM MA MD MF MG ML MN MP MT MV (xs (Int32.toNatClampNeg (jI i + 1))) (xs (Int32.toNatClampNeg (jI i + 2))) _ hw) (cwV 2 hts gl_M_delete rfl rfl rfl hl_M_delete ⟨Nat.le_of_ble_eq_true rfl, Nat.le_of_ble_eq_true rfl⟩) hx hb hml hown hts hK hPM hPN (fun k x hx => by rintro ⟨j, hj, e⟩; obtain ⟨h1, h2⟩ := wN_at hx; exact hdis k j h1 hj (by rw [← e, h2])) (fun q h => by obtain ⟨k, hk, rfl⟩ := h; exact hM k hk) hS hl.1 d_L_272 (va_recv (q := (R_M, F_M, 39)) hK hPM (ci := 7) (q0 := 0) rfl rfl) rfl (lv_room (Nat.le_of_ble_eq_true rfl)) hc hs rfl (fun r2 u2 H2 locs2 hw2 hPM hPN hS => ?_)
  obtain ⟨he, hR2⟩ := hw2
  refine lv_icmp_eq (tgt := 767) hx hb d_L_275 (by decide) (fun _ => ?_) (fun z => absurd he z)
  exact go _ _ _ _ _ _ _ _ _ _ _ _ _ _ _ _ H2 locs2 hR2 hPN hPM hS
set_option maxHeartbeats 1000000 in
theorem L_scan {p : Program} {l : Launch} {e : Env} {s : State} {m : MethodId} {below : List Frame} {meth : Method} {c : Code} {b L : Nat} {xs : Nat → Int32} {dC : Nat → ClassId} {dI : Nat → Nat → Nat} {cI cL cZ : ClassId} {qN qM : Nat → Nat} {ls : Array Slot} {i k : Nat} {H : Heap} {locs : List Loc} {cells slots : Nat} {Q : State → Prop} {A : S_A} {D : S_D} {G : S_G} {K : S_K} {N : S_N} {P : S_P} {T : S_T} {MA : S_MA} {MD : S_MD} {MF : S_MF} {MG : S_MG} {ML : S_ML} {MN : S_MN} {MP : S_MP} {MT : S_MT} {MV : S_MV} (hx : p.tables.exec = Jvm.exec) (hb : c.code = code) (hml : c.maxLocals = 4) (hown : s.vm.findClass R_law = some m.cls) (hts : ∀ w ∈ (Cond.initialized R_N :: wA), w.before #[Value.ref b] s = true) (hK : va_K (dC, dI) clZ (tyZ cI cL cZ) s) (hX : va_X b L xs s s.heap) (hbl : b < s.heap.size) (hqN : iN qN) (hqM : iM qM) (hN : ∀ k, k < nN → s.heap.size ≤ qN k) (hM : ∀ k, k < nM → s.heap.size ≤ qM k) (hdis : ∀ i j, i < nN → j < nM → qN i ≠ qM j) (hl : lv_has ls 4 [(3, .int (jI i)), (2, .ref (qM 0)), (1, .ref (qN 0)), (0, .ref b)]) (hi : i + 3 < L) (hL : L ≤ 2049) (hk : k < 512) (hR : Rel k A G K N T MA MD MG ML MN MT) (hc : cells ≤ room_1.cells) (hs : slots ≤ room_1.slots) (hPN : va_P (dC, dI) clZ (wN cI cL cZ qN A D G K N P T) H) (hPM : va_P (dC, dI) clZ (wM cI cL cZ qM MA MD MF MG ML MN MP MT MV) H) (hS : va_S (fun q => s.heap.size ≤ q) s.heap H locs) (go : ∀ (A : S_A) (D : S_D) (G : S_G) (K : S_K) (N : S_N) (P : S_P) (T : S_T) (MA : S_MA) (MD : S_MD) (MF : S_MF) (MG : S_MG) (ML : S_ML) (MN : S_MN) (MP : S_MP) (MT : S_MT) (MV : S_MV) (H : Heap) (locs : List Loc), Rel (k + 1) A G K N T MA MD MG ML MN MT → va_P (dC, dI) clZ (wN cI cL cZ qN A D G K N P T) H → va_P (dC, dI) clZ (wM cI cL cZ qM MA MD MF MG ML MN MP MT MV) H → va_S (fun q => s.heap.size ≤ q) s.heap H locs → W p l e room_1 s m #[Value.ref b] below meth c H locs cells slots Q (F0 m 767 ls [])) : W p l e room_1 s m #[Value.ref b] below meth c H locs cells slots Q (F0 m 280 ls []) := by
  have hb1 : ∀ j, j ≤ 3 → vp_in (jI i + jI j) L := fun j hj => by rw [jI_a]; exact jI_in (by omega) (by omega)
  have hbA : ¬ s.heap.size ≤ b := by omega
  have hnm : ∀ (k : Nat) (x : Nat × va_E), (wM cI cL cZ qM MA MD MF MG ML MN MP MT MV)[k]? = some x → ¬ aN qN x.1 := fun k x hx => by rintro ⟨i, hi, e⟩; obtain ⟨h1, h2⟩ := wM_at hx; exact hdis i k hi h1 (by rw [← e, h2])
  refine lv_aload_n hx hb d_L_280 rfl (lv_at hl 2 rfl) ?_
  refine lv_aload_n hx hb d_L_281 rfl (lv_at hl 3 rfl) ?_
  refine lv_iload_n hx hb d_L_282 rfl (lv_at hl 0 rfl) ?_
  refine lv_iconst (v := 1) hx hb d_L_283 (by decide) ?_
  refine lv_iadd hx hb d_L_284 ?_
  refine va_sld (A := fun q => s.heap.size ≤ q) hx hb hX hbl hbA hS (hb1 1 (by decide)) d_L_285 ?_
  refine lv_aload_n hx hb d_L_286 rfl (lv_at hl 3 rfl) ?_
  refine lv_iload_n hx hb d_L_287 rfl (lv_at hl 0 rfl) ?_
  refine lv_iconst (v := 2) hx hb d_L_288 (by decide) ?_
  refine lv_iadd hx hb d_L_289 ?_
  refine va_sld (A := fun q => s.heap.size ≤ q) hx hb hX hbl hbA hS (hb1 2 (by decide)) d_L_290 ?_
  refine lv_aload_n hx hb d_L_291 rfl (lv_at hl 3 rfl) ?_
  refine lv_iload_n hx hb d_L_292 rfl (lv_at hl 0 rfl) ?_
  refine lv_iconst (v := 3) hx hb d_L_293 (by decide) ?_
  refine lv_iadd hx hb d_L_294 ?_
  refine va_sld (A := fun q => s.heap.size ≤ q) hx hb hX hbl hbA hS (hb1 3 (by decide)) d_L_295 ?_
  refine ncl_i (As := [.int (xs (Int32.toNatClampNeg (jI i + 1))), .int (xs (Int32.toNatClampNeg (jI i + 2))), .int (xs (Int32.toNatClampNeg (jI i + 3)))]) (c_N_scan hqN A D G K N P T (xs (Int32.toNatClampNeg (jI i + 1))) (xs (Int32.toNatClampNeg (jI i + 2))) (xs (Int32.toNatClampNeg (jI i + 3))) _ (o_scan (MF := MF) (MP := MP) (MV := MV) hk (xs (Int32.toNatClampNeg (jI i + 1))) (xs (Int32.toNatClampNeg (jI i + 2))) (xs (Int32.toNatClampNeg (jI i + 3))) hR)) (cwV 3 hts gl_N_scan rfl rfl rfl hl_N_scan ⟨Nat.le_of_ble_eq_true rfl, Nat.le_of_ble_eq_true rfl⟩) hx hb hml hown hts hK hPN hPM hnm (fun q h => by obtain ⟨k, hk, rfl⟩ := h; exact hN k hk) hS hl.1 d_L_296 (va_recv (q := (R_N, F_N, 7)) hK hPN (ci := 0) (q0 := 0) rfl rfl) rfl (lv_room (Nat.le_of_ble_eq_true rfl)) hc hs rfl (fun r u H1 locs1 hw hPN hPM hS => ?_)
  refine lv_aload_n hx hb d_L_299 rfl (lv_at hl 1 rfl) ?_
  refine lv_aload_n hx hb d_L_300 rfl (lv_at hl 3 rfl) ?_
  refine lv_iload_n hx hb d_L_301 rfl (lv_at hl 0 rfl) ?_
  refine lv_iconst (v := 1) hx hb d_L_302 (by decide) ?_
  refine lv_iadd hx hb d_L_303 ?_
  refine va_sld (A := fun q => s.heap.size ≤ q) hx hb hX hbl hbA hS (hb1 1 (by decide)) d_L_304 ?_
  refine lv_aload_n hx hb d_L_305 rfl (lv_at hl 3 rfl) ?_
  refine lv_iload_n hx hb d_L_306 rfl (lv_at hl 0 rfl) ?_
  refine lv_iconst (v := 2) hx hb d_L_307 (by decide) ?_
  refine lv_iadd hx hb d_L_308 ?_
  refine va_sld (A := fun q => s.heap.size ≤ q) hx hb hX hbl hbA hS (hb1 2 (by decide)) d_L_309 ?_
  refine lv_aload_n hx hb d_L_310 rfl (lv_at hl 3 rfl) ?_
  refine lv_iload_n hx hb d_L_311 rfl (lv_at hl 0 rfl) ?_
  refine lv_iconst (v := 3) hx hb d_L_312 (by decide) ?_
  refine lv_iadd hx hb d_L_313 ?_
  refine va_sld (A := fun q => s.heap.size ≤ q) hx hb hX hbl hbA hS (hb1 3 (by decide)) d_L_314 ?_
  refine ncl_i (As := [.int (xs (Int32.toNatClampNeg (jI i + 1))), .int (xs (Int32.toNatClampNeg (jI i + 2))), .int (xs (Int32.toNatClampNeg (jI i + 3)))]) (c_M_scan hqM MA MD MF MG ML MN MP MT MV (xs (Int32.toNatClampNeg (jI i + 1))) (xs (Int32.toNatClampNeg (jI i + 2))) (xs (Int32.toNatClampNeg (jI i + 3))) _ hw) (cwV 3 hts gl_M_scan rfl rfl rfl hl_M_scan ⟨Nat.le_of_ble_eq_true rfl, Nat.le_of_ble_eq_true rfl⟩) hx hb hml hown hts hK hPM hPN (fun k x hx => by rintro ⟨j, hj, e⟩; obtain ⟨h1, h2⟩ := wN_at hx; exact hdis k j h1 hj (by rw [← e, h2])) (fun q h => by obtain ⟨k, hk, rfl⟩ := h; exact hM k hk) hS hl.1 d_L_315 (va_recv (q := (R_M, F_M, 39)) hK hPM (ci := 7) (q0 := 0) rfl rfl) rfl (lv_room (Nat.le_of_ble_eq_true rfl)) hc hs rfl (fun r2 u2 H2 locs2 hw2 hPM hPN hS => ?_)
  obtain ⟨he, hR2⟩ := hw2
  refine lv_icmp_eq (tgt := 767) hx hb d_L_318 (by decide) (fun _ => ?_) (fun z => absurd he z)
  exact go _ _ _ _ _ _ _ _ _ _ _ _ _ _ _ _ H2 locs2 hR2 hPN hPM hS
set_option maxHeartbeats 1000000 in
theorem L_resume {p : Program} {l : Launch} {e : Env} {s : State} {m : MethodId} {below : List Frame} {meth : Method} {c : Code} {b L : Nat} {xs : Nat → Int32} {dC : Nat → ClassId} {dI : Nat → Nat → Nat} {cI cL cZ : ClassId} {qN qM : Nat → Nat} {ls : Array Slot} {i k : Nat} {H : Heap} {locs : List Loc} {cells slots : Nat} {Q : State → Prop} {A : S_A} {D : S_D} {G : S_G} {K : S_K} {N : S_N} {P : S_P} {T : S_T} {MA : S_MA} {MD : S_MD} {MF : S_MF} {MG : S_MG} {ML : S_ML} {MN : S_MN} {MP : S_MP} {MT : S_MT} {MV : S_MV} (hx : p.tables.exec = Jvm.exec) (hb : c.code = code) (hml : c.maxLocals = 4) (hown : s.vm.findClass R_law = some m.cls) (hts : ∀ w ∈ (Cond.initialized R_N :: wA), w.before #[Value.ref b] s = true) (hK : va_K (dC, dI) clZ (tyZ cI cL cZ) s) (hX : va_X b L xs s s.heap) (hbl : b < s.heap.size) (hqN : iN qN) (hqM : iM qM) (hN : ∀ k, k < nN → s.heap.size ≤ qN k) (hM : ∀ k, k < nM → s.heap.size ≤ qM k) (hdis : ∀ i j, i < nN → j < nM → qN i ≠ qM j) (hl : lv_has ls 4 [(3, .int (jI i)), (2, .ref (qM 0)), (1, .ref (qN 0)), (0, .ref b)]) (hi : i + 3 < L) (hL : L ≤ 2049) (hk : k < 512) (hR : Rel k A G K N T MA MD MG ML MN MT) (hc : cells ≤ room_1.cells) (hs : slots ≤ room_1.slots) (hPN : va_P (dC, dI) clZ (wN cI cL cZ qN A D G K N P T) H) (hPM : va_P (dC, dI) clZ (wM cI cL cZ qM MA MD MF MG ML MN MP MT MV) H) (hS : va_S (fun q => s.heap.size ≤ q) s.heap H locs) (go : ∀ (A : S_A) (D : S_D) (G : S_G) (K : S_K) (N : S_N) (P : S_P) (T : S_T) (MA : S_MA) (MD : S_MD) (MF : S_MF) (MG : S_MG) (ML : S_ML) (MN : S_MN) (MP : S_MP) (MT : S_MT) (MV : S_MV) (H : Heap) (locs : List Loc), Rel (k + 1) A G K N T MA MD MG ML MN MT → va_P (dC, dI) clZ (wN cI cL cZ qN A D G K N P T) H → va_P (dC, dI) clZ (wM cI cL cZ qM MA MD MF MG ML MN MP MT MV) H → va_S (fun q => s.heap.size ≤ q) s.heap H locs → W p l e room_1 s m #[Value.ref b] below meth c H locs cells slots Q (F0 m 767 ls [])) : W p l e room_1 s m #[Value.ref b] below meth c H locs cells slots Q (F0 m 323 ls []) := by
  have hb1 : ∀ j, j ≤ 3 → vp_in (jI i + jI j) L := fun j hj => by rw [jI_a]; exact jI_in (by omega) (by omega)
  have hbA : ¬ s.heap.size ≤ b := by omega
  have hnm : ∀ (k : Nat) (x : Nat × va_E), (wM cI cL cZ qM MA MD MF MG ML MN MP MT MV)[k]? = some x → ¬ aN qN x.1 := fun k x hx => by rintro ⟨i, hi, e⟩; obtain ⟨h1, h2⟩ := wM_at hx; exact hdis i k hi h1 (by rw [← e, h2])
  refine lv_aload_n hx hb d_L_323 rfl (lv_at hl 2 rfl) ?_
  refine lv_aload_n hx hb d_L_324 rfl (lv_at hl 3 rfl) ?_
  refine lv_iload_n hx hb d_L_325 rfl (lv_at hl 0 rfl) ?_
  refine lv_iconst (v := 1) hx hb d_L_326 (by decide) ?_
  refine lv_iadd hx hb d_L_327 ?_
  refine va_sld (A := fun q => s.heap.size ≤ q) hx hb hX hbl hbA hS (hb1 1 (by decide)) d_L_328 ?_
  refine ncl_i (As := [.int (xs (Int32.toNatClampNeg (jI i + 1)))]) (c_N_resume hqN A D G K N P T (xs (Int32.toNatClampNeg (jI i + 1))) _ (o_resume (MF := MF) (MP := MP) (MV := MV) hk (xs (Int32.toNatClampNeg (jI i + 1))) hR)) (cwV 1 hts gl_N_resume rfl rfl rfl hl_N_resume ⟨Nat.le_of_ble_eq_true rfl, Nat.le_of_ble_eq_true rfl⟩) hx hb hml hown hts hK hPN hPM hnm (fun q h => by obtain ⟨k, hk, rfl⟩ := h; exact hN k hk) hS hl.1 d_L_329 (va_recv (q := (R_N, F_N, 7)) hK hPN (ci := 0) (q0 := 0) rfl rfl) rfl (lv_room (Nat.le_of_ble_eq_true rfl)) hc hs rfl (fun r u H1 locs1 hw hPN hPM hS => ?_)
  refine lv_aload_n hx hb d_L_332 rfl (lv_at hl 1 rfl) ?_
  refine lv_aload_n hx hb d_L_333 rfl (lv_at hl 3 rfl) ?_
  refine lv_iload_n hx hb d_L_334 rfl (lv_at hl 0 rfl) ?_
  refine lv_iconst (v := 1) hx hb d_L_335 (by decide) ?_
  refine lv_iadd hx hb d_L_336 ?_
  refine va_sld (A := fun q => s.heap.size ≤ q) hx hb hX hbl hbA hS (hb1 1 (by decide)) d_L_337 ?_
  refine ncl_i (As := [.int (xs (Int32.toNatClampNeg (jI i + 1)))]) (c_M_resume hqM MA MD MF MG ML MN MP MT MV (xs (Int32.toNatClampNeg (jI i + 1))) _ hw) (cwV 1 hts gl_M_resume rfl rfl rfl hl_M_resume ⟨Nat.le_of_ble_eq_true rfl, Nat.le_of_ble_eq_true rfl⟩) hx hb hml hown hts hK hPM hPN (fun k x hx => by rintro ⟨j, hj, e⟩; obtain ⟨h1, h2⟩ := wN_at hx; exact hdis k j h1 hj (by rw [← e, h2])) (fun q h => by obtain ⟨k, hk, rfl⟩ := h; exact hM k hk) hS hl.1 d_L_338 (va_recv (q := (R_M, F_M, 39)) hK hPM (ci := 7) (q0 := 0) rfl rfl) rfl (lv_room (Nat.le_of_ble_eq_true rfl)) hc hs rfl (fun r2 u2 H2 locs2 hw2 hPM hPN hS => ?_)
  obtain ⟨he, hR2⟩ := hw2
  refine lv_icmp_eq (tgt := 767) hx hb d_L_341 (by decide) (fun _ => ?_) (fun z => absurd he z)
  exact go _ _ _ _ _ _ _ _ _ _ _ _ _ _ _ _ H2 locs2 hR2 hPN hPM hS
set_option maxHeartbeats 1000000 in
theorem L_value {p : Program} {l : Launch} {e : Env} {s : State} {m : MethodId} {below : List Frame} {meth : Method} {c : Code} {b L : Nat} {xs : Nat → Int32} {dC : Nat → ClassId} {dI : Nat → Nat → Nat} {cI cL cZ : ClassId} {qN qM : Nat → Nat} {ls : Array Slot} {i k : Nat} {H : Heap} {locs : List Loc} {cells slots : Nat} {Q : State → Prop} {A : S_A} {D : S_D} {G : S_G} {K : S_K} {N : S_N} {P : S_P} {T : S_T} {MA : S_MA} {MD : S_MD} {MF : S_MF} {MG : S_MG} {ML : S_ML} {MN : S_MN} {MP : S_MP} {MT : S_MT} {MV : S_MV} (hx : p.tables.exec = Jvm.exec) (hb : c.code = code) (hml : c.maxLocals = 4) (hown : s.vm.findClass R_law = some m.cls) (hts : ∀ w ∈ (Cond.initialized R_N :: wA), w.before #[Value.ref b] s = true) (hK : va_K (dC, dI) clZ (tyZ cI cL cZ) s) (hX : va_X b L xs s s.heap) (hbl : b < s.heap.size) (hqN : iN qN) (hqM : iM qM) (hN : ∀ k, k < nN → s.heap.size ≤ qN k) (hM : ∀ k, k < nM → s.heap.size ≤ qM k) (hdis : ∀ i j, i < nN → j < nM → qN i ≠ qM j) (hl : lv_has ls 4 [(3, .int (jI i)), (2, .ref (qM 0)), (1, .ref (qN 0)), (0, .ref b)]) (hi : i + 3 < L) (hL : L ≤ 2049) (hk : k < 512) (hR : Rel k A G K N T MA MD MG ML MN MT) (hc : cells ≤ room_1.cells) (hs : slots ≤ room_1.slots) (hPN : va_P (dC, dI) clZ (wN cI cL cZ qN A D G K N P T) H) (hPM : va_P (dC, dI) clZ (wM cI cL cZ qM MA MD MF MG ML MN MP MT MV) H) (hS : va_S (fun q => s.heap.size ≤ q) s.heap H locs) (go : ∀ (A : S_A) (D : S_D) (G : S_G) (K : S_K) (N : S_N) (P : S_P) (T : S_T) (MA : S_MA) (MD : S_MD) (MF : S_MF) (MG : S_MG) (ML : S_ML) (MN : S_MN) (MP : S_MP) (MT : S_MT) (MV : S_MV) (H : Heap) (locs : List Loc), Rel (k + 1) A G K N T MA MD MG ML MN MT → va_P (dC, dI) clZ (wN cI cL cZ qN A D G K N P T) H → va_P (dC, dI) clZ (wM cI cL cZ qM MA MD MF MG ML MN MP MT MV) H → va_S (fun q => s.heap.size ≤ q) s.heap H locs → W p l e room_1 s m #[Value.ref b] below meth c H locs cells slots Q (F0 m 767 ls [])) : W p l e room_1 s m #[Value.ref b] below meth c H locs cells slots Q (F0 m 346 ls []) := by
  have hb1 : ∀ j, j ≤ 3 → vp_in (jI i + jI j) L := fun j hj => by rw [jI_a]; exact jI_in (by omega) (by omega)
  have hbA : ¬ s.heap.size ≤ b := by omega
  have hnm : ∀ (k : Nat) (x : Nat × va_E), (wM cI cL cZ qM MA MD MF MG ML MN MP MT MV)[k]? = some x → ¬ aN qN x.1 := fun k x hx => by rintro ⟨i, hi, e⟩; obtain ⟨h1, h2⟩ := wM_at hx; exact hdis i k hi h1 (by rw [← e, h2])
  refine lv_aload_n hx hb d_L_346 rfl (lv_at hl 2 rfl) ?_
  refine ncl_i (As := []) (c_N_value hqN A D G K N P T  _ (o_value  hR)) (cwV 0 hts gl_N_value rfl rfl rfl hl_N_value ⟨Nat.le_of_ble_eq_true rfl, Nat.le_of_ble_eq_true rfl⟩) hx hb hml hown hts hK hPN hPM hnm (fun q h => by obtain ⟨k, hk, rfl⟩ := h; exact hN k hk) hS hl.1 d_L_347 (va_recv (q := (R_N, F_N, 7)) hK hPN (ci := 0) (q0 := 0) rfl rfl) rfl (lv_room (Nat.le_of_ble_eq_true rfl)) hc hs rfl (fun r u H1 locs1 hw hPN hPM hS => ?_)
  refine lv_aload_n hx hb d_L_350 rfl (lv_at hl 1 rfl) ?_
  refine ncl_i (As := []) (c_M_value hqM MA MD MF MG ML MN MP MT MV  _ hw) (cwV 0 hts gl_M_value rfl rfl rfl hl_M_value ⟨Nat.le_of_ble_eq_true rfl, Nat.le_of_ble_eq_true rfl⟩) hx hb hml hown hts hK hPM hPN (fun k x hx => by rintro ⟨j, hj, e⟩; obtain ⟨h1, h2⟩ := wN_at hx; exact hdis k j h1 hj (by rw [← e, h2])) (fun q h => by obtain ⟨k, hk, rfl⟩ := h; exact hM k hk) hS hl.1 d_L_351 (va_recv (q := (R_M, F_M, 39)) hK hPM (ci := 7) (q0 := 0) rfl rfl) rfl (lv_room (Nat.le_of_ble_eq_true rfl)) hc hs rfl (fun r2 u2 H2 locs2 hw2 hPM hPN hS => ?_)
  have hw2 : r = r2 := hw2
  refine lv_icmp_eq (tgt := 767) hx hb d_L_354 (by decide) (fun _ => ?_) (fun z => absurd hw2 z)
  exact go _ _ _ _ _ _ _ _ _ _ _ _ _ _ _ _ H2 locs2 hR.up hPN hPM hS
set_option maxHeartbeats 1000000 in
theorem L_commit {p : Program} {l : Launch} {e : Env} {s : State} {m : MethodId} {below : List Frame} {meth : Method} {c : Code} {b L : Nat} {xs : Nat → Int32} {dC : Nat → ClassId} {dI : Nat → Nat → Nat} {cI cL cZ : ClassId} {qN qM : Nat → Nat} {ls : Array Slot} {i k : Nat} {H : Heap} {locs : List Loc} {cells slots : Nat} {Q : State → Prop} {A : S_A} {D : S_D} {G : S_G} {K : S_K} {N : S_N} {P : S_P} {T : S_T} {MA : S_MA} {MD : S_MD} {MF : S_MF} {MG : S_MG} {ML : S_ML} {MN : S_MN} {MP : S_MP} {MT : S_MT} {MV : S_MV} (hx : p.tables.exec = Jvm.exec) (hb : c.code = code) (hml : c.maxLocals = 4) (hown : s.vm.findClass R_law = some m.cls) (hts : ∀ w ∈ (Cond.initialized R_N :: wA), w.before #[Value.ref b] s = true) (hK : va_K (dC, dI) clZ (tyZ cI cL cZ) s) (hX : va_X b L xs s s.heap) (hbl : b < s.heap.size) (hqN : iN qN) (hqM : iM qM) (hN : ∀ k, k < nN → s.heap.size ≤ qN k) (hM : ∀ k, k < nM → s.heap.size ≤ qM k) (hdis : ∀ i j, i < nN → j < nM → qN i ≠ qM j) (hl : lv_has ls 4 [(3, .int (jI i)), (2, .ref (qM 0)), (1, .ref (qN 0)), (0, .ref b)]) (hi : i + 3 < L) (hL : L ≤ 2049) (hk : k < 512) (hR : Rel k A G K N T MA MD MG ML MN MT) (hc : cells ≤ room_1.cells) (hs : slots ≤ room_1.slots) (hPN : va_P (dC, dI) clZ (wN cI cL cZ qN A D G K N P T) H) (hPM : va_P (dC, dI) clZ (wM cI cL cZ qM MA MD MF MG ML MN MP MT MV) H) (hS : va_S (fun q => s.heap.size ≤ q) s.heap H locs) (go : ∀ (A : S_A) (D : S_D) (G : S_G) (K : S_K) (N : S_N) (P : S_P) (T : S_T) (MA : S_MA) (MD : S_MD) (MF : S_MF) (MG : S_MG) (ML : S_ML) (MN : S_MN) (MP : S_MP) (MT : S_MT) (MV : S_MV) (H : Heap) (locs : List Loc), Rel (k + 1) A G K N T MA MD MG ML MN MT → va_P (dC, dI) clZ (wN cI cL cZ qN A D G K N P T) H → va_P (dC, dI) clZ (wM cI cL cZ qM MA MD MF MG ML MN MP MT MV) H → va_S (fun q => s.heap.size ≤ q) s.heap H locs → W p l e room_1 s m #[Value.ref b] below meth c H locs cells slots Q (F0 m 767 ls [])) : W p l e room_1 s m #[Value.ref b] below meth c H locs cells slots Q (F0 m 359 ls []) := by
  have hb1 : ∀ j, j ≤ 3 → vp_in (jI i + jI j) L := fun j hj => by rw [jI_a]; exact jI_in (by omega) (by omega)
  have hbA : ¬ s.heap.size ≤ b := by omega
  have hnm : ∀ (k : Nat) (x : Nat × va_E), (wM cI cL cZ qM MA MD MF MG ML MN MP MT MV)[k]? = some x → ¬ aN qN x.1 := fun k x hx => by rintro ⟨i, hi, e⟩; obtain ⟨h1, h2⟩ := wM_at hx; exact hdis i k hi h1 (by rw [← e, h2])
  refine lv_aload_n hx hb d_L_359 rfl (lv_at hl 2 rfl) ?_
  refine lv_aload_n hx hb d_L_360 rfl (lv_at hl 3 rfl) ?_
  refine lv_iload_n hx hb d_L_361 rfl (lv_at hl 0 rfl) ?_
  refine lv_iconst (v := 1) hx hb d_L_362 (by decide) ?_
  refine lv_iadd hx hb d_L_363 ?_
  refine va_sld (A := fun q => s.heap.size ≤ q) hx hb hX hbl hbA hS (hb1 1 (by decide)) d_L_364 ?_
  refine ncl_i (As := [.int (xs (Int32.toNatClampNeg (jI i + 1)))]) (c_N_commit hqN A D G K N P T (xs (Int32.toNatClampNeg (jI i + 1))) _ (o_commit hk (xs (Int32.toNatClampNeg (jI i + 1))) hR)) (cwV 1 hts gl_N_commit rfl rfl rfl hl_N_commit ⟨Nat.le_of_ble_eq_true rfl, Nat.le_of_ble_eq_true rfl⟩) hx hb hml hown hts hK hPN hPM hnm (fun q h => by obtain ⟨k, hk, rfl⟩ := h; exact hN k hk) hS hl.1 d_L_365 (va_recv (q := (R_N, F_N, 7)) hK hPN (ci := 0) (q0 := 0) rfl rfl) rfl (lv_room (Nat.le_of_ble_eq_true rfl)) hc hs rfl (fun r u H1 locs1 hw hPN hPM hS => ?_)
  refine lv_aload_n hx hb d_L_368 rfl (lv_at hl 1 rfl) ?_
  refine lv_aload_n hx hb d_L_369 rfl (lv_at hl 3 rfl) ?_
  refine lv_iload_n hx hb d_L_370 rfl (lv_at hl 0 rfl) ?_
  refine lv_iconst (v := 1) hx hb d_L_371 (by decide) ?_
  refine lv_iadd hx hb d_L_372 ?_
  refine va_sld (A := fun q => s.heap.size ≤ q) hx hb hX hbl hbA hS (hb1 1 (by decide)) d_L_373 ?_
  refine ncl_i (As := [.int (xs (Int32.toNatClampNeg (jI i + 1)))]) (c_M_commit hqM MA MD MF MG ML MN MP MT MV (xs (Int32.toNatClampNeg (jI i + 1))) _ hw) (cwV 1 hts gl_M_commit rfl rfl rfl hl_M_commit ⟨Nat.le_of_ble_eq_true rfl, Nat.le_of_ble_eq_true rfl⟩) hx hb hml hown hts hK hPM hPN (fun k x hx => by rintro ⟨j, hj, e⟩; obtain ⟨h1, h2⟩ := wN_at hx; exact hdis k j h1 hj (by rw [← e, h2])) (fun q h => by obtain ⟨k, hk, rfl⟩ := h; exact hM k hk) hS hl.1 d_L_374 (va_recv (q := (R_M, F_M, 39)) hK hPM (ci := 7) (q0 := 0) rfl rfl) rfl (lv_room (Nat.le_of_ble_eq_true rfl)) hc hs rfl (fun r2 u2 H2 locs2 hw2 hPM hPN hS => ?_)
  obtain ⟨he, hR2⟩ := hw2
  refine lv_icmp_eq (tgt := 767) hx hb d_L_377 (by decide) (fun _ => ?_) (fun z => absurd he z)
  exact go _ _ _ _ _ _ _ _ _ _ _ _ _ _ _ _ H2 locs2 hR2 hPN hPM hS
set_option maxHeartbeats 1000000 in
theorem L_abort {p : Program} {l : Launch} {e : Env} {s : State} {m : MethodId} {below : List Frame} {meth : Method} {c : Code} {b L : Nat} {xs : Nat → Int32} {dC : Nat → ClassId} {dI : Nat → Nat → Nat} {cI cL cZ : ClassId} {qN qM : Nat → Nat} {ls : Array Slot} {i k : Nat} {H : Heap} {locs : List Loc} {cells slots : Nat} {Q : State → Prop} {A : S_A} {D : S_D} {G : S_G} {K : S_K} {N : S_N} {P : S_P} {T : S_T} {MA : S_MA} {MD : S_MD} {MF : S_MF} {MG : S_MG} {ML : S_ML} {MN : S_MN} {MP : S_MP} {MT : S_MT} {MV : S_MV} (hx : p.tables.exec = Jvm.exec) (hb : c.code = code) (hml : c.maxLocals = 4) (hown : s.vm.findClass R_law = some m.cls) (hts : ∀ w ∈ (Cond.initialized R_N :: wA), w.before #[Value.ref b] s = true) (hK : va_K (dC, dI) clZ (tyZ cI cL cZ) s) (hX : va_X b L xs s s.heap) (hbl : b < s.heap.size) (hqN : iN qN) (hqM : iM qM) (hN : ∀ k, k < nN → s.heap.size ≤ qN k) (hM : ∀ k, k < nM → s.heap.size ≤ qM k) (hdis : ∀ i j, i < nN → j < nM → qN i ≠ qM j) (hl : lv_has ls 4 [(3, .int (jI i)), (2, .ref (qM 0)), (1, .ref (qN 0)), (0, .ref b)]) (hi : i + 3 < L) (hL : L ≤ 2049) (hk : k < 512) (hR : Rel k A G K N T MA MD MG ML MN MT) (hc : cells ≤ room_1.cells) (hs : slots ≤ room_1.slots) (hPN : va_P (dC, dI) clZ (wN cI cL cZ qN A D G K N P T) H) (hPM : va_P (dC, dI) clZ (wM cI cL cZ qM MA MD MF MG ML MN MP MT MV) H) (hS : va_S (fun q => s.heap.size ≤ q) s.heap H locs) (go : ∀ (A : S_A) (D : S_D) (G : S_G) (K : S_K) (N : S_N) (P : S_P) (T : S_T) (MA : S_MA) (MD : S_MD) (MF : S_MF) (MG : S_MG) (ML : S_ML) (MN : S_MN) (MP : S_MP) (MT : S_MT) (MV : S_MV) (H : Heap) (locs : List Loc), Rel (k + 1) A G K N T MA MD MG ML MN MT → va_P (dC, dI) clZ (wN cI cL cZ qN A D G K N P T) H → va_P (dC, dI) clZ (wM cI cL cZ qM MA MD MF MG ML MN MP MT MV) H → va_S (fun q => s.heap.size ≤ q) s.heap H locs → W p l e room_1 s m #[Value.ref b] below meth c H locs cells slots Q (F0 m 767 ls [])) : W p l e room_1 s m #[Value.ref b] below meth c H locs cells slots Q (F0 m 382 ls []) := by
  have hb1 : ∀ j, j ≤ 3 → vp_in (jI i + jI j) L := fun j hj => by rw [jI_a]; exact jI_in (by omega) (by omega)
  have hbA : ¬ s.heap.size ≤ b := by omega
  have hnm : ∀ (k : Nat) (x : Nat × va_E), (wM cI cL cZ qM MA MD MF MG ML MN MP MT MV)[k]? = some x → ¬ aN qN x.1 := fun k x hx => by rintro ⟨i, hi, e⟩; obtain ⟨h1, h2⟩ := wM_at hx; exact hdis i k hi h1 (by rw [← e, h2])
  refine lv_aload_n hx hb d_L_382 rfl (lv_at hl 2 rfl) ?_
  refine lv_aload_n hx hb d_L_383 rfl (lv_at hl 3 rfl) ?_
  refine lv_iload_n hx hb d_L_384 rfl (lv_at hl 0 rfl) ?_
  refine lv_iconst (v := 1) hx hb d_L_385 (by decide) ?_
  refine lv_iadd hx hb d_L_386 ?_
  refine va_sld (A := fun q => s.heap.size ≤ q) hx hb hX hbl hbA hS (hb1 1 (by decide)) d_L_387 ?_
  refine ncl_i (As := [.int (xs (Int32.toNatClampNeg (jI i + 1)))]) (c_N_abort hqN A D G K N P T (xs (Int32.toNatClampNeg (jI i + 1))) _ (o_abort (MF := MF) hk (xs (Int32.toNatClampNeg (jI i + 1))) hR)) (cwV 1 hts gl_N_abort rfl rfl rfl hl_N_abort ⟨Nat.le_of_ble_eq_true rfl, Nat.le_of_ble_eq_true rfl⟩) hx hb hml hown hts hK hPN hPM hnm (fun q h => by obtain ⟨k, hk, rfl⟩ := h; exact hN k hk) hS hl.1 d_L_388 (va_recv (q := (R_N, F_N, 7)) hK hPN (ci := 0) (q0 := 0) rfl rfl) rfl (lv_room (Nat.le_of_ble_eq_true rfl)) hc hs rfl (fun r u H1 locs1 hw hPN hPM hS => ?_)
  refine lv_aload_n hx hb d_L_391 rfl (lv_at hl 1 rfl) ?_
  refine lv_aload_n hx hb d_L_392 rfl (lv_at hl 3 rfl) ?_
  refine lv_iload_n hx hb d_L_393 rfl (lv_at hl 0 rfl) ?_
  refine lv_iconst (v := 1) hx hb d_L_394 (by decide) ?_
  refine lv_iadd hx hb d_L_395 ?_
  refine va_sld (A := fun q => s.heap.size ≤ q) hx hb hX hbl hbA hS (hb1 1 (by decide)) d_L_396 ?_
  refine ncl_i (As := [.int (xs (Int32.toNatClampNeg (jI i + 1)))]) (c_M_abort hqM MA MD MF MG ML MN MP MT MV (xs (Int32.toNatClampNeg (jI i + 1))) _ hw) (cwV 1 hts gl_M_abort rfl rfl rfl hl_M_abort ⟨Nat.le_of_ble_eq_true rfl, Nat.le_of_ble_eq_true rfl⟩) hx hb hml hown hts hK hPM hPN (fun k x hx => by rintro ⟨j, hj, e⟩; obtain ⟨h1, h2⟩ := wN_at hx; exact hdis k j h1 hj (by rw [← e, h2])) (fun q h => by obtain ⟨k, hk, rfl⟩ := h; exact hM k hk) hS hl.1 d_L_397 (va_recv (q := (R_M, F_M, 39)) hK hPM (ci := 7) (q0 := 0) rfl rfl) rfl (lv_room (Nat.le_of_ble_eq_true rfl)) hc hs rfl (fun r2 u2 H2 locs2 hw2 hPM hPN hS => ?_)
  obtain ⟨he, hR2⟩ := hw2
  refine lv_icmp_eq (tgt := 767) hx hb d_L_400 (by decide) (fun _ => ?_) (fun z => absurd he z)
  exact go _ _ _ _ _ _ _ _ _ _ _ _ _ _ _ _ H2 locs2 hR2 hPN hPM hS
set_option maxHeartbeats 1000000 in
theorem L_save {p : Program} {l : Launch} {e : Env} {s : State} {m : MethodId} {below : List Frame} {meth : Method} {c : Code} {b L : Nat} {xs : Nat → Int32} {dC : Nat → ClassId} {dI : Nat → Nat → Nat} {cI cL cZ : ClassId} {qN qM : Nat → Nat} {ls : Array Slot} {i k : Nat} {H : Heap} {locs : List Loc} {cells slots : Nat} {Q : State → Prop} {A : S_A} {D : S_D} {G : S_G} {K : S_K} {N : S_N} {P : S_P} {T : S_T} {MA : S_MA} {MD : S_MD} {MF : S_MF} {MG : S_MG} {ML : S_ML} {MN : S_MN} {MP : S_MP} {MT : S_MT} {MV : S_MV} (hx : p.tables.exec = Jvm.exec) (hb : c.code = code) (hml : c.maxLocals = 4) (hown : s.vm.findClass R_law = some m.cls) (hts : ∀ w ∈ (Cond.initialized R_N :: wA), w.before #[Value.ref b] s = true) (hK : va_K (dC, dI) clZ (tyZ cI cL cZ) s) (hX : va_X b L xs s s.heap) (hbl : b < s.heap.size) (hqN : iN qN) (hqM : iM qM) (hN : ∀ k, k < nN → s.heap.size ≤ qN k) (hM : ∀ k, k < nM → s.heap.size ≤ qM k) (hdis : ∀ i j, i < nN → j < nM → qN i ≠ qM j) (hl : lv_has ls 4 [(3, .int (jI i)), (2, .ref (qM 0)), (1, .ref (qN 0)), (0, .ref b)]) (hi : i + 3 < L) (hL : L ≤ 2049) (hk : k < 512) (hR : Rel k A G K N T MA MD MG ML MN MT) (hc : cells ≤ room_1.cells) (hs : slots ≤ room_1.slots) (hPN : va_P (dC, dI) clZ (wN cI cL cZ qN A D G K N P T) H) (hPM : va_P (dC, dI) clZ (wM cI cL cZ qM MA MD MF MG ML MN MP MT MV) H) (hS : va_S (fun q => s.heap.size ≤ q) s.heap H locs) (go : ∀ (A : S_A) (D : S_D) (G : S_G) (K : S_K) (N : S_N) (P : S_P) (T : S_T) (MA : S_MA) (MD : S_MD) (MF : S_MF) (MG : S_MG) (ML : S_ML) (MN : S_MN) (MP : S_MP) (MT : S_MT) (MV : S_MV) (H : Heap) (locs : List Loc), Rel (k + 1) A G K N T MA MD MG ML MN MT → va_P (dC, dI) clZ (wN cI cL cZ qN A D G K N P T) H → va_P (dC, dI) clZ (wM cI cL cZ qM MA MD MF MG ML MN MP MT MV) H → va_S (fun q => s.heap.size ≤ q) s.heap H locs → W p l e room_1 s m #[Value.ref b] below meth c H locs cells slots Q (F0 m 767 ls [])) : W p l e room_1 s m #[Value.ref b] below meth c H locs cells slots Q (F0 m 405 ls []) := by
  have hb1 : ∀ j, j ≤ 3 → vp_in (jI i + jI j) L := fun j hj => by rw [jI_a]; exact jI_in (by omega) (by omega)
  have hbA : ¬ s.heap.size ≤ b := by omega
  have hnm : ∀ (k : Nat) (x : Nat × va_E), (wM cI cL cZ qM MA MD MF MG ML MN MP MT MV)[k]? = some x → ¬ aN qN x.1 := fun k x hx => by rintro ⟨i, hi, e⟩; obtain ⟨h1, h2⟩ := wM_at hx; exact hdis i k hi h1 (by rw [← e, h2])
  refine lv_aload_n hx hb d_L_405 rfl (lv_at hl 2 rfl) ?_
  refine lv_aload_n hx hb d_L_406 rfl (lv_at hl 3 rfl) ?_
  refine lv_iload_n hx hb d_L_407 rfl (lv_at hl 0 rfl) ?_
  refine lv_iconst (v := 1) hx hb d_L_408 (by decide) ?_
  refine lv_iadd hx hb d_L_409 ?_
  refine va_sld (A := fun q => s.heap.size ≤ q) hx hb hX hbl hbA hS (hb1 1 (by decide)) d_L_410 ?_
  refine ncl_i (As := [.int (xs (Int32.toNatClampNeg (jI i + 1)))]) (c_N_save hqN A D G K N P T (xs (Int32.toNatClampNeg (jI i + 1))) _ (o_save (xs (Int32.toNatClampNeg (jI i + 1))) hR)) (cwV 1 hts gl_N_save rfl rfl rfl hl_N_save ⟨Nat.le_of_ble_eq_true rfl, Nat.le_of_ble_eq_true rfl⟩) hx hb hml hown hts hK hPN hPM hnm (fun q h => by obtain ⟨k, hk, rfl⟩ := h; exact hN k hk) hS hl.1 d_L_411 (va_recv (q := (R_N, F_N, 7)) hK hPN (ci := 0) (q0 := 0) rfl rfl) rfl (lv_room (Nat.le_of_ble_eq_true rfl)) hc hs rfl (fun r u H1 locs1 hw hPN hPM hS => ?_)
  refine lv_aload_n hx hb d_L_414 rfl (lv_at hl 1 rfl) ?_
  refine lv_aload_n hx hb d_L_415 rfl (lv_at hl 3 rfl) ?_
  refine lv_iload_n hx hb d_L_416 rfl (lv_at hl 0 rfl) ?_
  refine lv_iconst (v := 1) hx hb d_L_417 (by decide) ?_
  refine lv_iadd hx hb d_L_418 ?_
  refine va_sld (A := fun q => s.heap.size ≤ q) hx hb hX hbl hbA hS (hb1 1 (by decide)) d_L_419 ?_
  refine ncl_i (As := [.int (xs (Int32.toNatClampNeg (jI i + 1)))]) (c_M_save hqM MA MD MF MG ML MN MP MT MV (xs (Int32.toNatClampNeg (jI i + 1))) _ hw) (cwV 1 hts gl_M_save rfl rfl rfl hl_M_save ⟨Nat.le_of_ble_eq_true rfl, Nat.le_of_ble_eq_true rfl⟩) hx hb hml hown hts hK hPM hPN (fun k x hx => by rintro ⟨j, hj, e⟩; obtain ⟨h1, h2⟩ := wN_at hx; exact hdis k j h1 hj (by rw [← e, h2])) (fun q h => by obtain ⟨k, hk, rfl⟩ := h; exact hM k hk) hS hl.1 d_L_420 (va_recv (q := (R_M, F_M, 39)) hK hPM (ci := 7) (q0 := 0) rfl rfl) rfl (lv_room (Nat.le_of_ble_eq_true rfl)) hc hs rfl (fun r2 u2 H2 locs2 hw2 hPM hPN hS => ?_)
  have hw2 : r = r2 := hw2
  refine lv_icmp_eq (tgt := 767) hx hb d_L_423 (by decide) (fun _ => ?_) (fun z => absurd hw2 z)
  exact go _ _ _ _ _ _ _ _ _ _ _ _ _ _ _ _ H2 locs2 hR.up hPN hPM hS
set_option maxHeartbeats 1000000 in
theorem L_rollback {p : Program} {l : Launch} {e : Env} {s : State} {m : MethodId} {below : List Frame} {meth : Method} {c : Code} {b L : Nat} {xs : Nat → Int32} {dC : Nat → ClassId} {dI : Nat → Nat → Nat} {cI cL cZ : ClassId} {qN qM : Nat → Nat} {ls : Array Slot} {i k : Nat} {H : Heap} {locs : List Loc} {cells slots : Nat} {Q : State → Prop} {A : S_A} {D : S_D} {G : S_G} {K : S_K} {N : S_N} {P : S_P} {T : S_T} {MA : S_MA} {MD : S_MD} {MF : S_MF} {MG : S_MG} {ML : S_ML} {MN : S_MN} {MP : S_MP} {MT : S_MT} {MV : S_MV} (hx : p.tables.exec = Jvm.exec) (hb : c.code = code) (hml : c.maxLocals = 4) (hown : s.vm.findClass R_law = some m.cls) (hts : ∀ w ∈ (Cond.initialized R_N :: wA), w.before #[Value.ref b] s = true) (hK : va_K (dC, dI) clZ (tyZ cI cL cZ) s) (hX : va_X b L xs s s.heap) (hbl : b < s.heap.size) (hqN : iN qN) (hqM : iM qM) (hN : ∀ k, k < nN → s.heap.size ≤ qN k) (hM : ∀ k, k < nM → s.heap.size ≤ qM k) (hdis : ∀ i j, i < nN → j < nM → qN i ≠ qM j) (hl : lv_has ls 4 [(3, .int (jI i)), (2, .ref (qM 0)), (1, .ref (qN 0)), (0, .ref b)]) (hi : i + 3 < L) (hL : L ≤ 2049) (hk : k < 512) (hR : Rel k A G K N T MA MD MG ML MN MT) (hc : cells ≤ room_1.cells) (hs : slots ≤ room_1.slots) (hPN : va_P (dC, dI) clZ (wN cI cL cZ qN A D G K N P T) H) (hPM : va_P (dC, dI) clZ (wM cI cL cZ qM MA MD MF MG ML MN MP MT MV) H) (hS : va_S (fun q => s.heap.size ≤ q) s.heap H locs) (go : ∀ (A : S_A) (D : S_D) (G : S_G) (K : S_K) (N : S_N) (P : S_P) (T : S_T) (MA : S_MA) (MD : S_MD) (MF : S_MF) (MG : S_MG) (ML : S_ML) (MN : S_MN) (MP : S_MP) (MT : S_MT) (MV : S_MV) (H : Heap) (locs : List Loc), Rel (k + 1) A G K N T MA MD MG ML MN MT → va_P (dC, dI) clZ (wN cI cL cZ qN A D G K N P T) H → va_P (dC, dI) clZ (wM cI cL cZ qM MA MD MF MG ML MN MP MT MV) H → va_S (fun q => s.heap.size ≤ q) s.heap H locs → W p l e room_1 s m #[Value.ref b] below meth c H locs cells slots Q (F0 m 767 ls [])) : W p l e room_1 s m #[Value.ref b] below meth c H locs cells slots Q (F0 m 428 ls []) := by
  have hb1 : ∀ j, j ≤ 3 → vp_in (jI i + jI j) L := fun j hj => by rw [jI_a]; exact jI_in (by omega) (by omega)
  have hbA : ¬ s.heap.size ≤ b := by omega
  have hnm : ∀ (k : Nat) (x : Nat × va_E), (wM cI cL cZ qM MA MD MF MG ML MN MP MT MV)[k]? = some x → ¬ aN qN x.1 := fun k x hx => by rintro ⟨i, hi, e⟩; obtain ⟨h1, h2⟩ := wM_at hx; exact hdis i k hi h1 (by rw [← e, h2])
  refine lv_aload_n hx hb d_L_428 rfl (lv_at hl 2 rfl) ?_
  refine lv_aload_n hx hb d_L_429 rfl (lv_at hl 3 rfl) ?_
  refine lv_iload_n hx hb d_L_430 rfl (lv_at hl 0 rfl) ?_
  refine lv_iconst (v := 1) hx hb d_L_431 (by decide) ?_
  refine lv_iadd hx hb d_L_432 ?_
  refine va_sld (A := fun q => s.heap.size ≤ q) hx hb hX hbl hbA hS (hb1 1 (by decide)) d_L_433 ?_
  refine lv_aload_n hx hb d_L_434 rfl (lv_at hl 3 rfl) ?_
  refine lv_iload_n hx hb d_L_435 rfl (lv_at hl 0 rfl) ?_
  refine lv_iconst (v := 2) hx hb d_L_436 (by decide) ?_
  refine lv_iadd hx hb d_L_437 ?_
  refine va_sld (A := fun q => s.heap.size ≤ q) hx hb hX hbl hbA hS (hb1 2 (by decide)) d_L_438 ?_
  refine ncl_i (As := [.int (xs (Int32.toNatClampNeg (jI i + 1))), .int (xs (Int32.toNatClampNeg (jI i + 2)))]) (c_N_rollback hqN A D G K N P T (xs (Int32.toNatClampNeg (jI i + 1))) (xs (Int32.toNatClampNeg (jI i + 2))) _ (o_rollback hk (xs (Int32.toNatClampNeg (jI i + 1))) (xs (Int32.toNatClampNeg (jI i + 2))) hR)) (cwV 2 hts gl_N_rollback rfl rfl rfl hl_N_rollback ⟨Nat.le_of_ble_eq_true rfl, Nat.le_of_ble_eq_true rfl⟩) hx hb hml hown hts hK hPN hPM hnm (fun q h => by obtain ⟨k, hk, rfl⟩ := h; exact hN k hk) hS hl.1 d_L_439 (va_recv (q := (R_N, F_N, 7)) hK hPN (ci := 0) (q0 := 0) rfl rfl) rfl (lv_room (Nat.le_of_ble_eq_true rfl)) hc hs rfl (fun r u H1 locs1 hw hPN hPM hS => ?_)
  refine lv_aload_n hx hb d_L_442 rfl (lv_at hl 1 rfl) ?_
  refine lv_aload_n hx hb d_L_443 rfl (lv_at hl 3 rfl) ?_
  refine lv_iload_n hx hb d_L_444 rfl (lv_at hl 0 rfl) ?_
  refine lv_iconst (v := 1) hx hb d_L_445 (by decide) ?_
  refine lv_iadd hx hb d_L_446 ?_
  refine va_sld (A := fun q => s.heap.size ≤ q) hx hb hX hbl hbA hS (hb1 1 (by decide)) d_L_447 ?_
  refine lv_aload_n hx hb d_L_448 rfl (lv_at hl 3 rfl) ?_
  refine lv_iload_n hx hb d_L_449 rfl (lv_at hl 0 rfl) ?_
  refine lv_iconst (v := 2) hx hb d_L_450 (by decide) ?_
  refine lv_iadd hx hb d_L_451 ?_
  refine va_sld (A := fun q => s.heap.size ≤ q) hx hb hX hbl hbA hS (hb1 2 (by decide)) d_L_452 ?_
  refine ncl_i (As := [.int (xs (Int32.toNatClampNeg (jI i + 1))), .int (xs (Int32.toNatClampNeg (jI i + 2)))]) (c_M_rollback hqM MA MD MF MG ML MN MP MT MV (xs (Int32.toNatClampNeg (jI i + 1))) (xs (Int32.toNatClampNeg (jI i + 2))) _ hw) (cwV 2 hts gl_M_rollback rfl rfl rfl hl_M_rollback ⟨Nat.le_of_ble_eq_true rfl, Nat.le_of_ble_eq_true rfl⟩) hx hb hml hown hts hK hPM hPN (fun k x hx => by rintro ⟨j, hj, e⟩; obtain ⟨h1, h2⟩ := wN_at hx; exact hdis k j h1 hj (by rw [← e, h2])) (fun q h => by obtain ⟨k, hk, rfl⟩ := h; exact hM k hk) hS hl.1 d_L_453 (va_recv (q := (R_M, F_M, 39)) hK hPM (ci := 7) (q0 := 0) rfl rfl) rfl (lv_room (Nat.le_of_ble_eq_true rfl)) hc hs rfl (fun r2 u2 H2 locs2 hw2 hPM hPN hS => ?_)
  obtain ⟨he, hR2⟩ := hw2
  refine lv_icmp_eq (tgt := 767) hx hb d_L_456 (by decide) (fun _ => ?_) (fun z => absurd he z)
  exact go _ _ _ _ _ _ _ _ _ _ _ _ _ _ _ _ H2 locs2 hR2 hPN hPM hS
set_option maxHeartbeats 1000000 in
theorem L_write {p : Program} {l : Launch} {e : Env} {s : State} {m : MethodId} {below : List Frame} {meth : Method} {c : Code} {b L : Nat} {xs : Nat → Int32} {dC : Nat → ClassId} {dI : Nat → Nat → Nat} {cI cL cZ : ClassId} {qN qM : Nat → Nat} {ls : Array Slot} {i k : Nat} {H : Heap} {locs : List Loc} {cells slots : Nat} {Q : State → Prop} {A : S_A} {D : S_D} {G : S_G} {K : S_K} {N : S_N} {P : S_P} {T : S_T} {MA : S_MA} {MD : S_MD} {MF : S_MF} {MG : S_MG} {ML : S_ML} {MN : S_MN} {MP : S_MP} {MT : S_MT} {MV : S_MV} (hx : p.tables.exec = Jvm.exec) (hb : c.code = code) (hml : c.maxLocals = 4) (hown : s.vm.findClass R_law = some m.cls) (hts : ∀ w ∈ (Cond.initialized R_N :: wA), w.before #[Value.ref b] s = true) (hK : va_K (dC, dI) clZ (tyZ cI cL cZ) s) (hX : va_X b L xs s s.heap) (hbl : b < s.heap.size) (hqN : iN qN) (hqM : iM qM) (hN : ∀ k, k < nN → s.heap.size ≤ qN k) (hM : ∀ k, k < nM → s.heap.size ≤ qM k) (hdis : ∀ i j, i < nN → j < nM → qN i ≠ qM j) (hl : lv_has ls 4 [(3, .int (jI i)), (2, .ref (qM 0)), (1, .ref (qN 0)), (0, .ref b)]) (hi : i + 3 < L) (hL : L ≤ 2049) (hk : k < 512) (hR : Rel k A G K N T MA MD MG ML MN MT) (hc : cells ≤ room_1.cells) (hs : slots ≤ room_1.slots) (hPN : va_P (dC, dI) clZ (wN cI cL cZ qN A D G K N P T) H) (hPM : va_P (dC, dI) clZ (wM cI cL cZ qM MA MD MF MG ML MN MP MT MV) H) (hS : va_S (fun q => s.heap.size ≤ q) s.heap H locs) (go : ∀ (A : S_A) (D : S_D) (G : S_G) (K : S_K) (N : S_N) (P : S_P) (T : S_T) (MA : S_MA) (MD : S_MD) (MF : S_MF) (MG : S_MG) (ML : S_ML) (MN : S_MN) (MP : S_MP) (MT : S_MT) (MV : S_MV) (H : Heap) (locs : List Loc), Rel (k + 1) A G K N T MA MD MG ML MN MT → va_P (dC, dI) clZ (wN cI cL cZ qN A D G K N P T) H → va_P (dC, dI) clZ (wM cI cL cZ qM MA MD MF MG ML MN MP MT MV) H → va_S (fun q => s.heap.size ≤ q) s.heap H locs → W p l e room_1 s m #[Value.ref b] below meth c H locs cells slots Q (F0 m 767 ls [])) : W p l e room_1 s m #[Value.ref b] below meth c H locs cells slots Q (F0 m 461 ls []) := by
  have hb1 : ∀ j, j ≤ 3 → vp_in (jI i + jI j) L := fun j hj => by rw [jI_a]; exact jI_in (by omega) (by omega)
  have hbA : ¬ s.heap.size ≤ b := by omega
  have hnm : ∀ (k : Nat) (x : Nat × va_E), (wM cI cL cZ qM MA MD MF MG ML MN MP MT MV)[k]? = some x → ¬ aN qN x.1 := fun k x hx => by rintro ⟨i, hi, e⟩; obtain ⟨h1, h2⟩ := wM_at hx; exact hdis i k hi h1 (by rw [← e, h2])
  refine lv_aload_n hx hb d_L_461 rfl (lv_at hl 2 rfl) ?_
  refine lv_aload_n hx hb d_L_462 rfl (lv_at hl 3 rfl) ?_
  refine lv_iload_n hx hb d_L_463 rfl (lv_at hl 0 rfl) ?_
  refine lv_iconst (v := 1) hx hb d_L_464 (by decide) ?_
  refine lv_iadd hx hb d_L_465 ?_
  refine va_sld (A := fun q => s.heap.size ≤ q) hx hb hX hbl hbA hS (hb1 1 (by decide)) d_L_466 ?_
  refine ncl_i (As := [.int (xs (Int32.toNatClampNeg (jI i + 1)))]) (c_N_write hqN A D G K N P T (xs (Int32.toNatClampNeg (jI i + 1))) _ (o_write hk (xs (Int32.toNatClampNeg (jI i + 1))) hR)) (cwV 1 hts gl_N_write rfl rfl rfl hl_N_write ⟨Nat.le_of_ble_eq_true rfl, Nat.le_of_ble_eq_true rfl⟩) hx hb hml hown hts hK hPN hPM hnm (fun q h => by obtain ⟨k, hk, rfl⟩ := h; exact hN k hk) hS hl.1 d_L_467 (va_recv (q := (R_N, F_N, 7)) hK hPN (ci := 0) (q0 := 0) rfl rfl) rfl (lv_room (Nat.le_of_ble_eq_true rfl)) hc hs rfl (fun r u H1 locs1 hw hPN hPM hS => ?_)
  refine lv_aload_n hx hb d_L_470 rfl (lv_at hl 1 rfl) ?_
  refine lv_aload_n hx hb d_L_471 rfl (lv_at hl 3 rfl) ?_
  refine lv_iload_n hx hb d_L_472 rfl (lv_at hl 0 rfl) ?_
  refine lv_iconst (v := 1) hx hb d_L_473 (by decide) ?_
  refine lv_iadd hx hb d_L_474 ?_
  refine va_sld (A := fun q => s.heap.size ≤ q) hx hb hX hbl hbA hS (hb1 1 (by decide)) d_L_475 ?_
  refine ncl_i (As := [.int (xs (Int32.toNatClampNeg (jI i + 1)))]) (c_M_write hqM MA MD MF MG ML MN MP MT MV (xs (Int32.toNatClampNeg (jI i + 1))) _ hw) (cwV 1 hts gl_M_write rfl rfl rfl hl_M_write ⟨Nat.le_of_ble_eq_true rfl, Nat.le_of_ble_eq_true rfl⟩) hx hb hml hown hts hK hPM hPN (fun k x hx => by rintro ⟨j, hj, e⟩; obtain ⟨h1, h2⟩ := wN_at hx; exact hdis k j h1 hj (by rw [← e, h2])) (fun q h => by obtain ⟨k, hk, rfl⟩ := h; exact hM k hk) hS hl.1 d_L_476 (va_recv (q := (R_M, F_M, 39)) hK hPM (ci := 7) (q0 := 0) rfl rfl) rfl (lv_room (Nat.le_of_ble_eq_true rfl)) hc hs rfl (fun r2 u2 H2 locs2 hw2 hPM hPN hS => ?_)
  obtain ⟨he, hR2⟩ := hw2
  refine lv_icmp_eq (tgt := 767) hx hb d_L_479 (by decide) (fun _ => ?_) (fun z => absurd he z)
  exact go _ _ _ _ _ _ _ _ _ _ _ _ _ _ _ _ H2 locs2 hR2 hPN hPM hS
