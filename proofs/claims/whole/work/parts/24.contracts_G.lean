set_option maxHeartbeats 4000000 in
set_option maxRecDepth 100000 in
theorem c_G_last {l : Launch} {dC : Nat → ClassId} {dI : Nat → Nat → Nat} {cI cL cZ : ClassId} {q : Nat → Nat} (hq : iN q) (A : S_A) (D : S_D) (G : S_G) (K : S_K) (N : S_N) (P : S_P) (T : S_T)  (post : Int32 → Prop) (hwp : wp_G_last G post) : Met l y_G_last ws_G_last rm_G_last (va_Pc [.ref (q 5)] (bN dC dI cI cL cZ q A D G K N P T)) (va_Qi (fun (r : Int32) (u : Unit) => post r) (fun u t => va_P (dC, dI) clZ (wN cI cL cZ q A D G K N P T) t.heap) (aN q)) 0 0 (aN q) := by
  refine Met.ofW (cc := b_G_last) (maxL := 1) (ret := (some .int)) (by decide) rfl ?_
  intro p e s m args below meth c s₁ B hml hv
  obtain ⟨rfl, hP, hK⟩ := hv
  have hx := B.exec
  have hb := B.bytes
  have hr := B.returns
  have hts := atoms_spec (ws := ws_G_last) B.pre
  have hown : s.vm.findClass R_G = some m.cls := findClass_of_methodNamed B.named
  have hlocks := B.notSynchronized
  have hiG : ∀ w ∈ u_ws R_G F_G 12, w ∈ ws_G_last := fun w h => List.mem_cons_of_mem _ (in_G w h)
  have lk40 := hts _ (List.mem_cons_of_mem _ k_G_40)
  have lk44 := hts _ (List.mem_cons_of_mem _ k_G_44)
  have hS : va_S (aN q) s.heap s.heap [] := va_S.rf
  have hl := lv_entry ([.ref (q 5)]) (n := 1) (Nat.le_of_ble_eq_true rfl)
  rw [lg_entry_eq]
  generalize (lg_sl ([.ref (q 5)]) ++ List.replicate (1 - (lg_sl ([.ref (q 5)])).length) Slot.unset).toArray = ls at hl ⊢
  have hl : lv_has ls 1 [(0, .ref (q 5))] := hl
  obtain ⟨Q, hQ⟩ : ∃ Q, Q = MQ below (va_Qi (fun (r : Int32) (u : Unit) => post r) (fun u t => va_P (dC, dI) clZ (wN cI cL cZ q A D G K N P T) t.heap) (aN q)) ([.ref (q 5)]).toArray s 0 0 (aN q) := ⟨_, rfl⟩
  rw [← hQ]
  rw [wp_G_last] at hwp
  refine lv_aload_n hx hb d_G_last_0 rfl (lv_at hl 0 rfl) ?_
  refine va_get (D := (dC, dI)) (ci := 5) (v := .int (G_base G)) (C := R_G) (T := F_G) (N := 12) hx hb hts hiG hown hK hP 5 rfl rfl 0 (by decide) lk40 (fun _ h9 => h9) rfl d_G_last_1 ?_
  refine lv_aload_n hx hb d_G_last_4 rfl (lv_at hl 0 rfl) ?_
  refine va_get (D := (dC, dI)) (ci := 5) (v := .int (G_size G)) (C := R_G) (T := F_G) (N := 12) hx hb hts hiG hown hK hP 5 rfl rfl 1 (by decide) lk44 (fun _ h9 => h9) rfl d_G_last_5 ?_
  refine lv_iadd hx hb d_G_last_8 ?_
  rw [hQ]
  exact W.iret (v := ((G_base G) + (G_size G))) hx hb hr (fun t ht hW => ⟨⟨((G_base G) + (G_size G)), (), rfl, hwp, hp_of ht hP⟩, hS.F ht⟩) hS.2.2 d_G_last_9

set_option maxHeartbeats 4000000 in
set_option maxRecDepth 100000 in
theorem c_G_setBefore {l : Launch} {dC : Nat → ClassId} {dI : Nat → Nat → Nat} {cI cL cZ : ClassId} {q : Nat → Nat} (hq : iN q) (A : S_A) (D : S_D) (G : S_G) (K : S_K) (N : S_N) (P : S_P) (T : S_T) (a1 : Int32) (a2 : Int32) (a3 : Int32) (post : S_G → Prop) (hwp : wp_G_setBefore G a1 a2 a3 post) : Met l y_G_setBefore ws_G_setBefore rm_G_setBefore (va_Pc [.ref (q 5), .int a1, .int a2, .int a3] (bN dC dI cI cL cZ q A D G K N P T)) (va_Qv (fun (u : S_G) => post u) (fun u t => va_P (dC, dI) clZ (wN cI cL cZ q A D (u) K N P T) t.heap) (aN q)) 0 0 (aN q) := by
  refine Met.ofW (cc := b_G_setBefore) (maxL := 4) (ret := none) (by decide) rfl ?_
  intro p e s m args below meth c s₁ B hml hv
  obtain ⟨rfl, hP, hK⟩ := hv
  have hx := B.exec
  have hb := B.bytes
  have hr := B.returns
  have hts := atoms_spec (ws := ws_G_setBefore) B.pre
  have hown : s.vm.findClass R_G = some m.cls := findClass_of_methodNamed B.named
  have hlocks := B.notSynchronized
  have hiG : ∀ w ∈ u_ws R_G F_G 12, w ∈ ws_G_setBefore := fun w h => List.mem_cons_of_mem _ (in_G w h)
  have lk21 := hts _ (List.mem_cons_of_mem _ k_G_21)
  have lk25 := hts _ (List.mem_cons_of_mem _ k_G_25)
  have hS : va_S (aN q) s.heap s.heap [] := va_S.rf
  have hl := lv_entry ([.ref (q 5), .int a1, .int a2, .int a3]) (n := 4) (Nat.le_of_ble_eq_true rfl)
  rw [lg_entry_eq]
  generalize (lg_sl ([.ref (q 5), .int a1, .int a2, .int a3]) ++ List.replicate (4 - (lg_sl ([.ref (q 5), .int a1, .int a2, .int a3])).length) Slot.unset).toArray = ls at hl ⊢
  have hl : lv_has ls 4 [(0, .ref (q 5)), (1, .int a1), (2, .int a2), (3, .int a3)] := hl
  obtain ⟨Q, hQ⟩ : ∃ Q, Q = MQ below (va_Qv (fun (u : S_G) => post u) (fun u t => va_P (dC, dI) clZ (wN cI cL cZ q A D (u) K N P T) t.heap) (aN q)) ([.ref (q 5), .int a1, .int a2, .int a3]).toArray s 0 0 (aN q) := ⟨_, rfl⟩
  rw [← hQ]
  rw [wp_G_setBefore] at hwp
  refine lv_aload_n hx hb d_G_setBefore_0 rfl (lv_at hl 0 rfl) ?_
  refine va_get (D := (dC, dI)) (ci := 5) (v := .ref (q 24)) (C := R_G) (T := F_G) (N := 12) hx hb hts hiG hown hK hP 5 rfl rfl 6 (by decide) lk21 (fun _ h9 => h9) rfl d_G_setBefore_1 ?_
  refine lv_iload_n hx hb d_G_setBefore_4 rfl (lv_at hl 1 rfl) ?_
  refine lv_iload_n hx hb d_G_setBefore_5 rfl (lv_at hl 2 rfl) ?_
  refine va_zast hx hb hK hP (dN hq) hS 24 2 rfl rfl hwp.1 d_G_setBefore_6 (fun H locs hP _ hS => ?_)
  have hwp := hwp.2
  have hP : va_P (dC, dI) clZ (wN cI cL cZ q A D (G_wasThere' G (upd (G_wasThere G) (Int32.toNatClampNeg a1) (vp_nar .boolean a2))) K N P T) H := hP
  refine lv_aload_n hx hb d_G_setBefore_7 rfl (lv_at hl 0 rfl) ?_
  refine va_get (D := (dC, dI)) (ci := 5) (v := .ref (q 25)) (C := R_G) (T := F_G) (N := 12) hx hb hts hiG hown hK hP 5 rfl rfl 7 (by decide) lk25 (fun _ h9 => h9) rfl d_G_setBefore_8 ?_
  refine lv_iload_n hx hb d_G_setBefore_11 rfl (lv_at hl 1 rfl) ?_
  refine lv_iload_n hx hb d_G_setBefore_12 rfl (lv_at hl 3 rfl) ?_
  refine va_iast hx hb hK hP (dN hq) hS 25 0 rfl rfl hwp.1 d_G_setBefore_13 (fun H locs hP _ hS => ?_)
  have hwp := hwp.2
  have hP : va_P (dC, dI) clZ (wN cI cL cZ q A D (G_oldValue' (G_wasThere' G (upd (G_wasThere G) (Int32.toNatClampNeg a1) (vp_nar .boolean a2))) (upd (G_oldValue G) (Int32.toNatClampNeg a1) a3)) K N P T) H := hP
  rw [hQ]
  exact W.vret hx hb hr (fun t ht hW => ⟨⟨(G_oldValue' (G_wasThere' G (upd (G_wasThere G) (Int32.toNatClampNeg a1) (vp_nar .boolean a2))) (upd (G_oldValue G) (Int32.toNatClampNeg a1) a3)), rfl, hwp, hp_of ht hP⟩, hS.F ht⟩) hS.2.2 d_G_setBefore_14

set_option maxHeartbeats 4000000 in
set_option maxRecDepth 100000 in
theorem c_G_setAfter {l : Launch} {dC : Nat → ClassId} {dI : Nat → Nat → Nat} {cI cL cZ : ClassId} {q : Nat → Nat} (hq : iN q) (A : S_A) (D : S_D) (G : S_G) (K : S_K) (N : S_N) (P : S_P) (T : S_T) (a1 : Int32) (a2 : Int32) (a3 : Int32) (post : S_G → Prop) (hwp : wp_G_setAfter G a1 a2 a3 post) : Met l y_G_setAfter ws_G_setAfter rm_G_setAfter (va_Pc [.ref (q 5), .int a1, .int a2, .int a3] (bN dC dI cI cL cZ q A D G K N P T)) (va_Qv (fun (u : S_G) => post u) (fun u t => va_P (dC, dI) clZ (wN cI cL cZ q A D (u) K N P T) t.heap) (aN q)) 0 0 (aN q) := by
  refine Met.ofW (cc := b_G_setAfter) (maxL := 4) (ret := none) (by decide) rfl ?_
  intro p e s m args below meth c s₁ B hml hv
  obtain ⟨rfl, hP, hK⟩ := hv
  have hx := B.exec
  have hb := B.bytes
  have hr := B.returns
  have hts := atoms_spec (ws := ws_G_setAfter) B.pre
  have hown : s.vm.findClass R_G = some m.cls := findClass_of_methodNamed B.named
  have hlocks := B.notSynchronized
  have hiG : ∀ w ∈ u_ws R_G F_G 12, w ∈ ws_G_setAfter := fun w h => List.mem_cons_of_mem _ (in_G w h)
  have lk28 := hts _ (List.mem_cons_of_mem _ k_G_28)
  have lk31 := hts _ (List.mem_cons_of_mem _ k_G_31)
  have hS : va_S (aN q) s.heap s.heap [] := va_S.rf
  have hl := lv_entry ([.ref (q 5), .int a1, .int a2, .int a3]) (n := 4) (Nat.le_of_ble_eq_true rfl)
  rw [lg_entry_eq]
  generalize (lg_sl ([.ref (q 5), .int a1, .int a2, .int a3]) ++ List.replicate (4 - (lg_sl ([.ref (q 5), .int a1, .int a2, .int a3])).length) Slot.unset).toArray = ls at hl ⊢
  have hl : lv_has ls 4 [(0, .ref (q 5)), (1, .int a1), (2, .int a2), (3, .int a3)] := hl
  obtain ⟨Q, hQ⟩ : ∃ Q, Q = MQ below (va_Qv (fun (u : S_G) => post u) (fun u t => va_P (dC, dI) clZ (wN cI cL cZ q A D (u) K N P T) t.heap) (aN q)) ([.ref (q 5), .int a1, .int a2, .int a3]).toArray s 0 0 (aN q) := ⟨_, rfl⟩
  rw [← hQ]
  rw [wp_G_setAfter] at hwp
  refine lv_aload_n hx hb d_G_setAfter_0 rfl (lv_at hl 0 rfl) ?_
  refine va_get (D := (dC, dI)) (ci := 5) (v := .ref (q 26)) (C := R_G) (T := F_G) (N := 12) hx hb hts hiG hown hK hP 5 rfl rfl 8 (by decide) lk28 (fun _ h9 => h9) rfl d_G_setAfter_1 ?_
  refine lv_iload_n hx hb d_G_setAfter_4 rfl (lv_at hl 1 rfl) ?_
  refine lv_iload_n hx hb d_G_setAfter_5 rfl (lv_at hl 2 rfl) ?_
  refine va_zast hx hb hK hP (dN hq) hS 26 2 rfl rfl hwp.1 d_G_setAfter_6 (fun H locs hP _ hS => ?_)
  have hwp := hwp.2
  have hP : va_P (dC, dI) clZ (wN cI cL cZ q A D (G_isThere' G (upd (G_isThere G) (Int32.toNatClampNeg a1) (vp_nar .boolean a2))) K N P T) H := hP
  refine lv_aload_n hx hb d_G_setAfter_7 rfl (lv_at hl 0 rfl) ?_
  refine va_get (D := (dC, dI)) (ci := 5) (v := .ref (q 27)) (C := R_G) (T := F_G) (N := 12) hx hb hts hiG hown hK hP 5 rfl rfl 9 (by decide) lk31 (fun _ h9 => h9) rfl d_G_setAfter_8 ?_
  refine lv_iload_n hx hb d_G_setAfter_11 rfl (lv_at hl 1 rfl) ?_
  refine lv_iload_n hx hb d_G_setAfter_12 rfl (lv_at hl 3 rfl) ?_
  refine va_iast hx hb hK hP (dN hq) hS 27 0 rfl rfl hwp.1 d_G_setAfter_13 (fun H locs hP _ hS => ?_)
  have hwp := hwp.2
  have hP : va_P (dC, dI) clZ (wN cI cL cZ q A D (G_newValue' (G_isThere' G (upd (G_isThere G) (Int32.toNatClampNeg a1) (vp_nar .boolean a2))) (upd (G_newValue G) (Int32.toNatClampNeg a1) a3)) K N P T) H := hP
  rw [hQ]
  exact W.vret hx hb hr (fun t ht hW => ⟨⟨(G_newValue' (G_isThere' G (upd (G_isThere G) (Int32.toNatClampNeg a1) (vp_nar .boolean a2))) (upd (G_newValue G) (Int32.toNatClampNeg a1) a3)), rfl, hwp, hp_of ht hP⟩, hS.F ht⟩) hS.2.2 d_G_setAfter_14

set_option maxHeartbeats 4000000 in
set_option maxRecDepth 100000 in
theorem c_G_append {l : Launch} {dC : Nat → ClassId} {dI : Nat → Nat → Nat} {cI cL cZ : ClassId} {q : Nat → Nat} (hq : iN q) (A : S_A) (D : S_D) (G : S_G) (K : S_K) (N : S_N) (P : S_P) (T : S_T) (a1 : Int32) (a2 : Int32) (a3 : Int32) (post : Int32 → S_G → Prop) (hwp : wp_G_append G a1 a2 a3 post) : Met l y_G_append ws_G_append rm_G_append (va_Pc [.ref (q 5), .int a1, .int a2, .int a3] (bN dC dI cI cL cZ q A D G K N P T)) (va_Qi (fun (r : Int32) (u : S_G) => post r u) (fun u t => va_P (dC, dI) clZ (wN cI cL cZ q A D (u) K N P T) t.heap) (aN q)) 0 0 (aN q) := by
  refine Met.ofW (cc := b_G_append) (maxL := 5) (ret := (some .int)) (by decide) rfl ?_
  intro p e s m args below meth c s₁ B hml hv
  obtain ⟨rfl, hP, hK⟩ := hv
  have hx := B.exec
  have hb := B.bytes
  have hr := B.returns
  have hts := atoms_spec (ws := ws_G_append) B.pre
  have hown : s.vm.findClass R_G = some m.cls := findClass_of_methodNamed B.named
  have hlocks := B.notSynchronized
  have hiG : ∀ w ∈ u_ws R_G F_G 12, w ∈ ws_G_append := fun w h => List.mem_cons_of_mem _ (in_G w h)
  have lk9 := hts _ (List.mem_cons_of_mem _ k_G_9)
  have lk15 := hts _ (List.mem_cons_of_mem _ k_G_15)
  have lk18 := hts _ (List.mem_cons_of_mem _ k_G_18)
  have lk34 := hts _ (List.mem_cons_of_mem _ k_G_34)
  have lk37 := hts _ (List.mem_cons_of_mem _ k_G_37)
  have lk44 := hts _ (List.mem_cons_of_mem _ k_G_44)
  have hS : va_S (aN q) s.heap s.heap [] := va_S.rf
  have hl := lv_entry ([.ref (q 5), .int a1, .int a2, .int a3]) (n := 5) (Nat.le_of_ble_eq_true rfl)
  rw [lg_entry_eq]
  generalize (lg_sl ([.ref (q 5), .int a1, .int a2, .int a3]) ++ List.replicate (5 - (lg_sl ([.ref (q 5), .int a1, .int a2, .int a3])).length) Slot.unset).toArray = ls at hl ⊢
  have hl : lv_has ls 5 [(0, .ref (q 5)), (1, .int a1), (2, .int a2), (3, .int a3)] := hl
  obtain ⟨Q, hQ⟩ : ∃ Q, Q = MQ below (va_Qi (fun (r : Int32) (u : S_G) => post r u) (fun u t => va_P (dC, dI) clZ (wN cI cL cZ q A D (u) K N P T) t.heap) (aN q)) ([.ref (q 5), .int a1, .int a2, .int a3]).toArray s 0 0 (aN q) := ⟨_, rfl⟩
  rw [← hQ]
  rw [wp_G_append] at hwp
  refine lv_aload_n hx hb d_G_append_0 rfl (lv_at hl 0 rfl) ?_
  refine va_get (D := (dC, dI)) (ci := 5) (v := .int (G_size G)) (C := R_G) (T := F_G) (N := 12) hx hb hts hiG hown hK hP 5 rfl rfl 1 (by decide) lk44 (fun _ h9 => h9) rfl d_G_append_1 ?_
  refine lv_sipush (v := 300) hx hb d_G_append_4 (by decide) ?_
  refine jn_split hwp (fun jk20 hjk hwp => ?_)
  have J20 : ∀ (G1 : S_G) (H : Heap) (locs : List Loc) (ls : Array Slot), lv_has ls 5 [(0, .ref (q 5)), (1, .int a1), (2, .int a2), (3, .int a3)] → va_P (dC, dI) clZ (wN cI cL cZ q A D G1 K N P T) H → va_S (aN q) s.heap H locs → jk20 G1 → W p l e (headSpec ws_G_append rm_G_append).room s m ([.ref (q 5), .int a1, .int a2, .int a3]).toArray below meth c H locs 0 0 Q (F0 m 20 ls []) := by
    intro G1 H locs ls hl hP hS hwp
    rw [hjk] at hwp
    refine lv_aload_n hx hb d_G_append_20 rfl (lv_at hl 0 rfl) ?_
    refine va_get (D := (dC, dI)) (ci := 5) (v := .int (G_size G1)) (C := R_G) (T := F_G) (N := 12) hx hb hts hiG hown hK hP 5 rfl rfl 1 (by decide) lk44 (fun _ h9 => h9) rfl d_G_append_21 ?_
    refine lv_iconst (v := 1) hx hb d_G_append_24 (by decide) ?_
    refine lv_isub hx hb d_G_append_25 ?_
    refine lv_istore (lv' := [(4, .int ((G_size G1) - 1)), (0, .ref (q 5)), (1, .int a1), (2, .int a2), (3, .int a3)]) hx hb d_G_append_26 hl (by decide) rfl (fun ls hl => ?_)
    refine lv_aload_n hx hb d_G_append_28 rfl (lv_at hl 1 rfl) ?_
    refine va_get (D := (dC, dI)) (ci := 5) (v := .ref (q 21)) (C := R_G) (T := F_G) (N := 12) hx hb hts hiG hown hK hP 5 rfl rfl 3 (by decide) lk9 (fun _ h9 => h9) rfl d_G_append_29 ?_
    refine lv_iload hx hb d_G_append_32 (lv_at hl 0 rfl) ?_
    refine lv_iload_n hx hb d_G_append_34 rfl (lv_at hl 2 rfl) ?_
    refine va_iast hx hb hK hP (dN hq) hS 21 0 rfl rfl hwp.1 d_G_append_35 (fun H locs hP _ hS => ?_)
    have hwp := hwp.2
    have hP : va_P (dC, dI) clZ (wN cI cL cZ q A D (G_kind' G1 (upd (G_kind G1) (Int32.toNatClampNeg ((G_size G1) - 1)) a1)) K N P T) H := hP
    refine lv_aload_n hx hb d_G_append_36 rfl (lv_at hl 1 rfl) ?_
    refine va_get (D := (dC, dI)) (ci := 5) (v := .ref (q 22)) (C := R_G) (T := F_G) (N := 12) hx hb hts hiG hown hK hP 5 rfl rfl 4 (by decide) lk15 (fun _ h9 => h9) rfl d_G_append_37 ?_
    refine lv_iload hx hb d_G_append_40 (lv_at hl 0 rfl) ?_
    refine lv_iload_n hx hb d_G_append_42 rfl (lv_at hl 3 rfl) ?_
    refine va_iast hx hb hK hP (dN hq) hS 22 0 rfl rfl hwp.1 d_G_append_43 (fun H locs hP _ hS => ?_)
    have hwp := hwp.2
    have hP : va_P (dC, dI) clZ (wN cI cL cZ q A D (G_transaction' (G_kind' G1 (upd (G_kind G1) (Int32.toNatClampNeg ((G_size G1) - 1)) a1)) (upd (G_transaction G1) (Int32.toNatClampNeg ((G_size G1) - 1)) a2)) K N P T) H := hP
    refine lv_aload_n hx hb d_G_append_44 rfl (lv_at hl 1 rfl) ?_
    refine va_get (D := (dC, dI)) (ci := 5) (v := .ref (q 23)) (C := R_G) (T := F_G) (N := 12) hx hb hts hiG hown hK hP 5 rfl rfl 5 (by decide) lk18 (fun _ h9 => h9) rfl d_G_append_45 ?_
    refine lv_iload hx hb d_G_append_48 (lv_at hl 0 rfl) ?_
    refine lv_iload_n hx hb d_G_append_50 rfl (lv_at hl 4 rfl) ?_
    refine va_iast hx hb hK hP (dN hq) hS 23 0 rfl rfl hwp.1 d_G_append_51 (fun H locs hP _ hS => ?_)
    have hwp := hwp.2
    have hP : va_P (dC, dI) clZ (wN cI cL cZ q A D (G_subject' (G_transaction' (G_kind' G1 (upd (G_kind G1) (Int32.toNatClampNeg ((G_size G1) - 1)) a1)) (upd (G_transaction G1) (Int32.toNatClampNeg ((G_size G1) - 1)) a2)) (upd (G_subject G1) (Int32.toNatClampNeg ((G_size G1) - 1)) a3)) K N P T) H := hP
    refine lv_aload_n hx hb d_G_append_52 rfl (lv_at hl 1 rfl) ?_
    refine lv_iload hx hb d_G_append_53 (lv_at hl 0 rfl) ?_
    refine lv_iconst (v := 0) hx hb d_G_append_55 (by decide) ?_
    refine lv_iconst (v := 0) hx hb d_G_append_56 (by decide) ?_
    refine ncn_v (As := [.int ((G_size G1) - 1), .int 0, .int 0]) (c_G_setBefore hq (A) (D) ((G_subject' (G_transaction' (G_kind' G1 (upd (G_kind G1) (Int32.toNatClampNeg ((G_size G1) - 1)) a1)) (upd (G_transaction G1) (Int32.toNatClampNeg ((G_size G1) - 1)) a2)) (upd (G_subject G1) (Int32.toNatClampNeg ((G_size G1) - 1)) a3))) (K) (N) (P) (T) (((G_size G1) - 1)) (0) (0) _ hwp) (cwV 3 hts g_G_47 rfl rfl rfl hd_G_setBefore ⟨Nat.le_of_ble_eq_true rfl, Nat.le_of_ble_eq_true rfl⟩) hx hb hml hown hts hK hP hS hl.1 d_G_append_57 (va_recv (q := (R_G, F_G, 12)) hK hP (ci := 5) (q0 := 5) rfl rfl) rfl (lv_room (Nat.le_of_ble_eq_true rfl)) (Nat.zero_le _) (Nat.zero_le _) rfl (fun G2 H locs hwp hP hS => ?_)
    have hP : va_P (dC, dI) clZ (wN cI cL cZ q A D G2 K N P T) H := hP
    refine lv_aload_n hx hb d_G_append_60 rfl (lv_at hl 1 rfl) ?_
    refine lv_iload hx hb d_G_append_61 (lv_at hl 0 rfl) ?_
    refine lv_iconst (v := 0) hx hb d_G_append_63 (by decide) ?_
    refine lv_iconst (v := 0) hx hb d_G_append_64 (by decide) ?_
    refine ncn_v (As := [.int ((G_size G1) - 1), .int 0, .int 0]) (c_G_setAfter hq (A) (D) (G2) (K) (N) (P) (T) (((G_size G1) - 1)) (0) (0) _ hwp) (cwV 3 hts g_G_51 rfl rfl rfl hd_G_setAfter ⟨Nat.le_of_ble_eq_true rfl, Nat.le_of_ble_eq_true rfl⟩) hx hb hml hown hts hK hP hS hl.1 d_G_append_65 (va_recv (q := (R_G, F_G, 12)) hK hP (ci := 5) (q0 := 5) rfl rfl) rfl (lv_room (Nat.le_of_ble_eq_true rfl)) (Nat.zero_le _) (Nat.zero_le _) rfl (fun G3 H locs hwp hP hS => ?_)
    have hP : va_P (dC, dI) clZ (wN cI cL cZ q A D G3 K N P T) H := hP
    refine lv_aload_n hx hb d_G_append_68 rfl (lv_at hl 1 rfl) ?_
    refine va_get (D := (dC, dI)) (ci := 5) (v := .ref (q 28)) (C := R_G) (T := F_G) (N := 12) hx hb hts hiG hown hK hP 5 rfl rfl 10 (by decide) lk34 (fun _ h9 => h9) rfl d_G_append_69 ?_
    refine lv_iload hx hb d_G_append_72 (lv_at hl 0 rfl) ?_
    refine lv_iconst (v := 0) hx hb d_G_append_74 (by decide) ?_
    refine va_iast hx hb hK hP (dN hq) hS 28 0 rfl rfl hwp.1 d_G_append_75 (fun H locs hP _ hS => ?_)
    have hwp := hwp.2
    have hP : va_P (dC, dI) clZ (wN cI cL cZ q A D (G_undoes' G3 (upd (G_undoes G3) (Int32.toNatClampNeg ((G_size G1) - 1)) 0)) K N P T) H := hP
    refine lv_aload_n hx hb d_G_append_76 rfl (lv_at hl 1 rfl) ?_
    refine va_get (D := (dC, dI)) (ci := 5) (v := .ref (q 29)) (C := R_G) (T := F_G) (N := 12) hx hb hts hiG hown hK hP 5 rfl rfl 11 (by decide) lk37 (fun _ h9 => h9) rfl d_G_append_77 ?_
    refine lv_iload hx hb d_G_append_80 (lv_at hl 0 rfl) ?_
    refine lv_iconst (v := 0) hx hb d_G_append_82 (by decide) ?_
    refine va_zast hx hb hK hP (dN hq) hS 29 2 rfl rfl hwp.1 d_G_append_83 (fun H locs hP _ hS => ?_)
    have hwp := hwp.2
    have hP : va_P (dC, dI) clZ (wN cI cL cZ q A D (G_undone' (G_undoes' G3 (upd (G_undoes G3) (Int32.toNatClampNeg ((G_size G1) - 1)) 0)) (upd (G_undone G3) (Int32.toNatClampNeg ((G_size G1) - 1)) (vp_nar .boolean 0))) K N P T) H := hP
    refine lv_iload hx hb d_G_append_84 (lv_at hl 0 rfl) ?_
    rw [hQ]
    exact W.iret (v := ((G_size G1) - 1)) hx hb hr (fun t ht hW => ⟨⟨((G_size G1) - 1), (G_undone' (G_undoes' G3 (upd (G_undoes G3) (Int32.toNatClampNeg ((G_size G1) - 1)) 0)) (upd (G_undone G3) (Int32.toNatClampNeg ((G_size G1) - 1)) (vp_nar .boolean 0))), rfl, hwp, hp_of ht hP⟩, hS.F ht⟩) hS.2.2 d_G_append_86
  clear hjk
  refine lv_icmp_ge (tgt := 20) hx hb d_G_append_7 (by decide) (fun hc => ?_) (fun hc => ?_)
  · rw [if_pos hc] at hwp
    exact J20 (G) _ _ _ (lv_sub hl [0, 1, 2, 3] rfl) hP hS hwp
  · rw [if_neg hc] at hwp
    refine lv_aload_n hx hb d_G_append_10 rfl (lv_at hl 0 rfl) ?_
    refine lv_dup hx hb d_G_append_11 rfl ?_
    refine va_get (D := (dC, dI)) (ci := 5) (v := .int (G_size G)) (C := R_G) (T := F_G) (N := 12) hx hb hts hiG hown hK hP 5 rfl rfl 1 (by decide) lk44 (fun _ h9 => h9) rfl d_G_append_12 ?_
    refine lv_iconst (v := 1) hx hb d_G_append_15 (by decide) ?_
    refine lv_iadd hx hb d_G_append_16 ?_
    refine va_put (D := (dC, dI)) (ci := 5) (v := .int ((G_size G) + 1)) (ty := .int) (C := R_G) (T := F_G) (N := 12) hx hb hts hiG ty_G ty_G_ok nmx_G hown hK hP (dN hq) hS 5 rfl rfl 1 (by decide) lk44 (fun _ h9 => h9) rfl (by decide +kernel) rfl rfl (Nat.le_of_ble_eq_true rfl) d_G_append_17 (fun H locs hP _ hS => ?_)
    have hP : va_P (dC, dI) clZ (wN cI cL cZ q A D (G_size' G ((G_size G) + 1)) K N P T) H := hP
    exact J20 ((G_size' G ((G_size G) + 1))) _ _ _ (lv_sub hl [0, 1, 2, 3] rfl) hP hS hwp

set_option maxHeartbeats 4000000 in
set_option maxRecDepth 100000 in
theorem c_G_lsnOf {l : Launch} {dC : Nat → ClassId} {dI : Nat → Nat → Nat} {cI cL cZ : ClassId} {q : Nat → Nat} (hq : iN q) (A : S_A) (D : S_D) (G : S_G) (K : S_K) (N : S_N) (P : S_P) (T : S_T) (a1 : Int32) (post : Int32 → Prop) (hwp : wp_G_lsnOf G a1 post) : Met l y_G_lsnOf ws_G_lsnOf rm_G_lsnOf (va_Pc [.ref (q 5), .int a1] (bN dC dI cI cL cZ q A D G K N P T)) (va_Qi (fun (r : Int32) (u : Unit) => post r) (fun u t => va_P (dC, dI) clZ (wN cI cL cZ q A D G K N P T) t.heap) (aN q)) 0 0 (aN q) := by
  refine Met.ofW (cc := b_G_lsnOf) (maxL := 2) (ret := (some .int)) (by decide) rfl ?_
  intro p e s m args below meth c s₁ B hml hv
  obtain ⟨rfl, hP, hK⟩ := hv
  have hx := B.exec
  have hb := B.bytes
  have hr := B.returns
  have hts := atoms_spec (ws := ws_G_lsnOf) B.pre
  have hown : s.vm.findClass R_G = some m.cls := findClass_of_methodNamed B.named
  have hlocks := B.notSynchronized
  have hiG : ∀ w ∈ u_ws R_G F_G 12, w ∈ ws_G_lsnOf := fun w h => List.mem_cons_of_mem _ (in_G w h)
  have lk40 := hts _ (List.mem_cons_of_mem _ k_G_40)
  have hS : va_S (aN q) s.heap s.heap [] := va_S.rf
  have hl := lv_entry ([.ref (q 5), .int a1]) (n := 2) (Nat.le_of_ble_eq_true rfl)
  rw [lg_entry_eq]
  generalize (lg_sl ([.ref (q 5), .int a1]) ++ List.replicate (2 - (lg_sl ([.ref (q 5), .int a1])).length) Slot.unset).toArray = ls at hl ⊢
  have hl : lv_has ls 2 [(0, .ref (q 5)), (1, .int a1)] := hl
  obtain ⟨Q, hQ⟩ : ∃ Q, Q = MQ below (va_Qi (fun (r : Int32) (u : Unit) => post r) (fun u t => va_P (dC, dI) clZ (wN cI cL cZ q A D G K N P T) t.heap) (aN q)) ([.ref (q 5), .int a1]).toArray s 0 0 (aN q) := ⟨_, rfl⟩
  rw [← hQ]
  rw [wp_G_lsnOf] at hwp
  refine lv_aload_n hx hb d_G_lsnOf_0 rfl (lv_at hl 0 rfl) ?_
  refine va_get (D := (dC, dI)) (ci := 5) (v := .int (G_base G)) (C := R_G) (T := F_G) (N := 12) hx hb hts hiG hown hK hP 5 rfl rfl 0 (by decide) lk40 (fun _ h9 => h9) rfl d_G_lsnOf_1 ?_
  refine lv_iconst (v := 1) hx hb d_G_lsnOf_4 (by decide) ?_
  refine lv_iadd hx hb d_G_lsnOf_5 ?_
  refine lv_iload_n hx hb d_G_lsnOf_6 rfl (lv_at hl 1 rfl) ?_
  refine lv_iadd hx hb d_G_lsnOf_7 ?_
  rw [hQ]
  exact W.iret (v := (((G_base G) + 1) + a1)) hx hb hr (fun t ht hW => ⟨⟨(((G_base G) + 1) + a1), (), rfl, hwp, hp_of ht hP⟩, hS.F ht⟩) hS.2.2 d_G_lsnOf_8

set_option maxHeartbeats 4000000 in
set_option maxRecDepth 100000 in
theorem c_G_empty {l : Launch} {dC : Nat → ClassId} {dI : Nat → Nat → Nat} {cI cL cZ : ClassId} {q : Nat → Nat} (hq : iN q) (A : S_A) (D : S_D) (G : S_G) (K : S_K) (N : S_N) (P : S_P) (T : S_T)  (post : S_G → Prop) (hwp : wp_G_empty G post) : Met l y_G_empty ws_G_empty rm_G_empty (va_Pc [.ref (q 5)] (bN dC dI cI cL cZ q A D G K N P T)) (va_Qv (fun (u : S_G) => post u) (fun u t => va_P (dC, dI) clZ (wN cI cL cZ q A D (u) K N P T) t.heap) (aN q)) 0 0 (aN q) := by
  refine Met.ofW (cc := b_G_empty) (maxL := 1) (ret := none) (by decide) rfl ?_
  intro p e s m args below meth c s₁ B hml hv
  obtain ⟨rfl, hP, hK⟩ := hv
  have hx := B.exec
  have hb := B.bytes
  have hr := B.returns
  have hts := atoms_spec (ws := ws_G_empty) B.pre
  have hown : s.vm.findClass R_G = some m.cls := findClass_of_methodNamed B.named
  have hlocks := B.notSynchronized
  have hiG : ∀ w ∈ u_ws R_G F_G 12, w ∈ ws_G_empty := fun w h => List.mem_cons_of_mem _ (in_G w h)
  have lk40 := hts _ (List.mem_cons_of_mem _ k_G_40)
  have lk44 := hts _ (List.mem_cons_of_mem _ k_G_44)
  have lk54 := hts _ (List.mem_cons_of_mem _ k_G_54)
  have hS : va_S (aN q) s.heap s.heap [] := va_S.rf
  have hl := lv_entry ([.ref (q 5)]) (n := 1) (Nat.le_of_ble_eq_true rfl)
  rw [lg_entry_eq]
  generalize (lg_sl ([.ref (q 5)]) ++ List.replicate (1 - (lg_sl ([.ref (q 5)])).length) Slot.unset).toArray = ls at hl ⊢
  have hl : lv_has ls 1 [(0, .ref (q 5))] := hl
  obtain ⟨Q, hQ⟩ : ∃ Q, Q = MQ below (va_Qv (fun (u : S_G) => post u) (fun u t => va_P (dC, dI) clZ (wN cI cL cZ q A D (u) K N P T) t.heap) (aN q)) ([.ref (q 5)]).toArray s 0 0 (aN q) := ⟨_, rfl⟩
  rw [← hQ]
  rw [wp_G_empty] at hwp
  refine lv_aload_n hx hb d_G_empty_0 rfl (lv_at hl 0 rfl) ?_
  refine lv_aload_n hx hb d_G_empty_1 rfl (lv_at hl 0 rfl) ?_
  refine ncn_i (As := []) (c_G_last hq (A) (D) (G) (K) (N) (P) (T)  _ hwp) (cwV 0 hts g_G_61 rfl rfl rfl hd_G_last ⟨Nat.le_of_ble_eq_true rfl, Nat.le_of_ble_eq_true rfl⟩) hx hb hml hown hts hK hP hS hl.1 d_G_empty_2 (va_recv (q := (R_G, F_G, 12)) hK hP (ci := 5) (q0 := 5) rfl rfl) rfl (lv_room (Nat.le_of_ble_eq_true rfl)) (Nat.zero_le _) (Nat.zero_le _) rfl (fun r1 u H locs hwp hP hS => ?_)
  have hP : va_P (dC, dI) clZ (wN cI cL cZ q A D G K N P T) H := hP
  refine va_put (D := (dC, dI)) (ci := 5) (v := .int r1) (ty := .int) (C := R_G) (T := F_G) (N := 12) hx hb hts hiG ty_G ty_G_ok nmx_G hown hK hP (dN hq) hS 5 rfl rfl 0 (by decide) lk40 (fun _ h9 => h9) rfl (by decide +kernel) rfl rfl (Nat.le_of_ble_eq_true rfl) d_G_empty_5 (fun H locs hP _ hS => ?_)
  have hP : va_P (dC, dI) clZ (wN cI cL cZ q A D (G_base' G r1) K N P T) H := hP
  refine lv_aload_n hx hb d_G_empty_8 rfl (lv_at hl 0 rfl) ?_
  refine lv_iconst (v := 0) hx hb d_G_empty_9 (by decide) ?_
  refine va_put (D := (dC, dI)) (ci := 5) (v := .int 0) (ty := .int) (C := R_G) (T := F_G) (N := 12) hx hb hts hiG ty_G ty_G_ok nmx_G hown hK hP (dN hq) hS 5 rfl rfl 1 (by decide) lk44 (fun _ h9 => h9) rfl (by decide +kernel) rfl rfl (Nat.le_of_ble_eq_true rfl) d_G_empty_10 (fun H locs hP _ hS => ?_)
  have hP : va_P (dC, dI) clZ (wN cI cL cZ q A D (G_size' (G_base' G r1) 0) K N P T) H := hP
  refine lv_aload_n hx hb d_G_empty_13 rfl (lv_at hl 0 rfl) ?_
  refine lv_aload_n hx hb d_G_empty_14 rfl (lv_at hl 0 rfl) ?_
  refine va_get (D := (dC, dI)) (ci := 5) (v := .int r1) (C := R_G) (T := F_G) (N := 12) hx hb hts hiG hown hK hP 5 rfl rfl 0 (by decide) lk40 (fun _ h9 => h9) rfl d_G_empty_15 ?_
  refine va_put (D := (dC, dI)) (ci := 5) (v := .int r1) (ty := .int) (C := R_G) (T := F_G) (N := 12) hx hb hts hiG ty_G ty_G_ok nmx_G hown hK hP (dN hq) hS 5 rfl rfl 2 (by decide) lk54 (fun _ h9 => h9) rfl (by decide +kernel) rfl rfl (Nat.le_of_ble_eq_true rfl) d_G_empty_18 (fun H locs hP _ hS => ?_)
  have hP : va_P (dC, dI) clZ (wN cI cL cZ q A D (G_flushed' (G_size' (G_base' G r1) 0) r1) K N P T) H := hP
  rw [hQ]
  exact W.vret hx hb hr (fun t ht hW => ⟨⟨(G_flushed' (G_size' (G_base' G r1) 0) r1), rfl, hwp, hp_of ht hP⟩, hS.F ht⟩) hS.2.2 d_G_empty_21

set_option maxHeartbeats 4000000 in
set_option maxRecDepth 100000 in
theorem c_G_rowOf {l : Launch} {dC : Nat → ClassId} {dI : Nat → Nat → Nat} {cI cL cZ : ClassId} {q : Nat → Nat} (hq : iN q) (A : S_A) (D : S_D) (G : S_G) (K : S_K) (N : S_N) (P : S_P) (T : S_T) (a1 : Int32) (post : Int32 → Prop) (hwp : wp_G_rowOf G a1 post) : Met l y_G_rowOf ws_G_rowOf rm_G_rowOf (va_Pc [.ref (q 5), .int a1] (bN dC dI cI cL cZ q A D G K N P T)) (va_Qi (fun (r : Int32) (u : Unit) => post r) (fun u t => va_P (dC, dI) clZ (wN cI cL cZ q A D G K N P T) t.heap) (aN q)) 0 0 (aN q) := by
  refine Met.ofW (cc := b_G_rowOf) (maxL := 2) (ret := (some .int)) (by decide) rfl ?_
  intro p e s m args below meth c s₁ B hml hv
  obtain ⟨rfl, hP, hK⟩ := hv
  have hx := B.exec
  have hb := B.bytes
  have hr := B.returns
  have hts := atoms_spec (ws := ws_G_rowOf) B.pre
  have hown : s.vm.findClass R_G = some m.cls := findClass_of_methodNamed B.named
  have hlocks := B.notSynchronized
  have hiG : ∀ w ∈ u_ws R_G F_G 12, w ∈ ws_G_rowOf := fun w h => List.mem_cons_of_mem _ (in_G w h)
  have lk40 := hts _ (List.mem_cons_of_mem _ k_G_40)
  have hS : va_S (aN q) s.heap s.heap [] := va_S.rf
  have hl := lv_entry ([.ref (q 5), .int a1]) (n := 2) (Nat.le_of_ble_eq_true rfl)
  rw [lg_entry_eq]
  generalize (lg_sl ([.ref (q 5), .int a1]) ++ List.replicate (2 - (lg_sl ([.ref (q 5), .int a1])).length) Slot.unset).toArray = ls at hl ⊢
  have hl : lv_has ls 2 [(0, .ref (q 5)), (1, .int a1)] := hl
  obtain ⟨Q, hQ⟩ : ∃ Q, Q = MQ below (va_Qi (fun (r : Int32) (u : Unit) => post r) (fun u t => va_P (dC, dI) clZ (wN cI cL cZ q A D G K N P T) t.heap) (aN q)) ([.ref (q 5), .int a1]).toArray s 0 0 (aN q) := ⟨_, rfl⟩
  rw [← hQ]
  rw [wp_G_rowOf] at hwp
  refine lv_iload_n hx hb d_G_rowOf_0 rfl (lv_at hl 1 rfl) ?_
  refine lv_aload_n hx hb d_G_rowOf_1 rfl (lv_at hl 0 rfl) ?_
  refine va_get (D := (dC, dI)) (ci := 5) (v := .int (G_base G)) (C := R_G) (T := F_G) (N := 12) hx hb hts hiG hown hK hP 5 rfl rfl 0 (by decide) lk40 (fun _ h9 => h9) rfl d_G_rowOf_2 ?_
  refine lv_isub hx hb d_G_rowOf_5 ?_
  refine lv_iconst (v := 1) hx hb d_G_rowOf_6 (by decide) ?_
  refine lv_isub hx hb d_G_rowOf_7 ?_
  rw [hQ]
  exact W.iret (v := ((a1 - (G_base G)) - 1)) hx hb hr (fun t ht hW => ⟨⟨((a1 - (G_base G)) - 1), (), rfl, hwp, hp_of ht hP⟩, hS.F ht⟩) hS.2.2 d_G_rowOf_8

set_option maxHeartbeats 4000000 in
set_option maxRecDepth 100000 in
theorem c_G_loseUnflushed {l : Launch} {dC : Nat → ClassId} {dI : Nat → Nat → Nat} {cI cL cZ : ClassId} {q : Nat → Nat} (hq : iN q) (A : S_A) (D : S_D) (G : S_G) (K : S_K) (N : S_N) (P : S_P) (T : S_T)  (post : S_G → Prop) (hwp : wp_G_loseUnflushed G post) : Met l y_G_loseUnflushed ws_G_loseUnflushed rm_G_loseUnflushed (va_Pc [.ref (q 5)] (bN dC dI cI cL cZ q A D G K N P T)) (va_Qv (fun (u : S_G) => post u) (fun u t => va_P (dC, dI) clZ (wN cI cL cZ q A D (u) K N P T) t.heap) (aN q)) 0 0 (aN q) := by
  refine Met.ofW (cc := b_G_loseUnflushed) (maxL := 3) (ret := none) (by decide) rfl ?_
  intro p e s m args below meth c s₁ B hml hv
  obtain ⟨rfl, hP, hK⟩ := hv
  have hx := B.exec
  have hb := B.bytes
  have hr := B.returns
  have hts := atoms_spec (ws := ws_G_loseUnflushed) B.pre
  have hown : s.vm.findClass R_G = some m.cls := findClass_of_methodNamed B.named
  have hlocks := B.notSynchronized
  have hiG : ∀ w ∈ u_ws R_G F_G 12, w ∈ ws_G_loseUnflushed := fun w h => List.mem_cons_of_mem _ (in_G w h)
  have lk9 := hts _ (List.mem_cons_of_mem _ k_G_9)
  have lk34 := hts _ (List.mem_cons_of_mem _ k_G_34)
  have lk37 := hts _ (List.mem_cons_of_mem _ k_G_37)
  have lk40 := hts _ (List.mem_cons_of_mem _ k_G_40)
  have lk44 := hts _ (List.mem_cons_of_mem _ k_G_44)
  have lk54 := hts _ (List.mem_cons_of_mem _ k_G_54)
  have hS : va_S (aN q) s.heap s.heap [] := va_S.rf
  have hl := lv_entry ([.ref (q 5)]) (n := 3) (Nat.le_of_ble_eq_true rfl)
  rw [lg_entry_eq]
  generalize (lg_sl ([.ref (q 5)]) ++ List.replicate (3 - (lg_sl ([.ref (q 5)])).length) Slot.unset).toArray = ls at hl ⊢
  have hl : lv_has ls 3 [(0, .ref (q 5))] := hl
  obtain ⟨Q, hQ⟩ : ∃ Q, Q = MQ below (va_Qv (fun (u : S_G) => post u) (fun u t => va_P (dC, dI) clZ (wN cI cL cZ q A D (u) K N P T) t.heap) (aN q)) ([.ref (q 5)]).toArray s 0 0 (aN q) := ⟨_, rfl⟩
  rw [← hQ]
  have L12 : ∀ (Kx : S_G → Prop) (v1 : Int32) (n : Nat) (v2 : Int32) (G : S_G) (H : Heap) (locs : List Loc) (ls : Array Slot), lv_has ls 3 [(0, .ref (q 5)), (1, .int v1), (2, .int v2)] → va_P (dC, dI) clZ (wN cI cL cZ q A D G K N P T) H → va_S (aN q) s.heap H locs → wp_G_loseUnflushed_L12 v1 Kx n v2 G → (∀ (G1 : S_G) (H : Heap) (locs : List Loc) (ls : Array Slot), lv_has ls 3 [(0, .ref (q 5)), (1, .int v1)] → va_P (dC, dI) clZ (wN cI cL cZ q A D G1 K N P T) H → va_S (aN q) s.heap H locs → Kx G1 → W p l e (headSpec ws_G_loseUnflushed rm_G_loseUnflushed).room s m ([.ref (q 5)]).toArray below meth c H locs 0 0 Q (F0 m 52 ls [])) → W p l e (headSpec ws_G_loseUnflushed rm_G_loseUnflushed).room s m ([.ref (q 5)]).toArray below meth c H locs 0 0 Q (F0 m 12 ls []) := by
    intro Kx v1 n
    induction n with
    | zero =>
      intros
      rename_i hwp _
      exact hwp.elim
    | succ n12 ih =>
      intro v2 G H locs ls hl hP hS hwp hX
      rw [wp_G_loseUnflushed_L12] at hwp
      refine lv_iload_n hx hb d_G_loseUnflushed_12 rfl (lv_at hl 2 rfl) ?_
      refine lv_aload_n hx hb d_G_loseUnflushed_13 rfl (lv_at hl 0 rfl) ?_
      refine va_get (D := (dC, dI)) (ci := 5) (v := .int (G_size G)) (C := R_G) (T := F_G) (N := 12) hx hb hts hiG hown hK hP 5 rfl rfl 1 (by decide) lk44 (fun _ h9 => h9) rfl d_G_loseUnflushed_14 ?_
      refine lv_icmp_ge (tgt := 52) hx hb d_G_loseUnflushed_17 (by decide) (fun hc => ?_) (fun hc => ?_)
      · rw [if_pos hc] at hwp
        exact hX (G) _ _ _ (lv_sub hl [0, 1] rfl) hP hS hwp
      · rw [if_neg hc] at hwp
        refine lv_aload_n hx hb d_G_loseUnflushed_20 rfl (lv_at hl 0 rfl) ?_
        refine va_get (D := (dC, dI)) (ci := 5) (v := .ref (q 21)) (C := R_G) (T := F_G) (N := 12) hx hb hts hiG hown hK hP 5 rfl rfl 3 (by decide) lk9 (fun _ h9 => h9) rfl d_G_loseUnflushed_21 ?_
        refine lv_iload_n hx hb d_G_loseUnflushed_24 rfl (lv_at hl 2 rfl) ?_
        refine va_iald hx hb hK hP 21 0 rfl rfl hwp.1 d_G_loseUnflushed_25 ?_
        have hwp := hwp.2
        refine lv_iconst (v := 3) hx hb d_G_loseUnflushed_26 (by decide) ?_
        refine lv_icmp_ne (tgt := 46) hx hb d_G_loseUnflushed_27 (by decide) (fun hc => ?_) (fun hc => ?_)
        · rw [if_neg hc] at hwp
          refine lv_iinc (k := 2) (v := (v2 + 1)) (lv' := [(2, .int (v2 + 1)), (0, .ref (q 5)), (1, .int v1)]) hx hb d_G_loseUnflushed_46 hl rfl (ii_1 _) (by decide) rfl (fun ls hl => ?_)
          refine lv_goto hx hb d_G_loseUnflushed_49 (tgt := 12) (by decide) ?_
          exact ih ((v2 + 1)) (G) _ _ _ (lv_sub hl [1, 2, 0] rfl) hP hS hwp hX
        · rw [if_pos hc] at hwp
          refine lv_aload_n hx hb d_G_loseUnflushed_30 rfl (lv_at hl 0 rfl) ?_
          refine va_get (D := (dC, dI)) (ci := 5) (v := .ref (q 29)) (C := R_G) (T := F_G) (N := 12) hx hb hts hiG hown hK hP 5 rfl rfl 11 (by decide) lk37 (fun _ h9 => h9) rfl d_G_loseUnflushed_31 ?_
          refine lv_aload_n hx hb d_G_loseUnflushed_34 rfl (lv_at hl 0 rfl) ?_
          refine lv_aload_n hx hb d_G_loseUnflushed_35 rfl (lv_at hl 0 rfl) ?_
          refine va_get (D := (dC, dI)) (ci := 5) (v := .ref (q 28)) (C := R_G) (T := F_G) (N := 12) hx hb hts hiG hown hK hP 5 rfl rfl 10 (by decide) lk34 (fun _ h9 => h9) rfl d_G_loseUnflushed_36 ?_
          refine lv_iload_n hx hb d_G_loseUnflushed_39 rfl (lv_at hl 2 rfl) ?_
          refine va_iald hx hb hK hP 28 0 rfl rfl hwp.1 d_G_loseUnflushed_40 ?_
          have hwp := hwp.2
          refine ncn_i (As := [.int ((G_undoes G) (Int32.toNatClampNeg v2))]) (c_G_rowOf hq (A) (D) (G) (K) (N) (P) (T) (((G_undoes G) (Int32.toNatClampNeg v2))) _ hwp) (cwV 1 hts g_G_57 rfl rfl rfl hd_G_rowOf ⟨Nat.le_of_ble_eq_true rfl, Nat.le_of_ble_eq_true rfl⟩) hx hb hml hown hts hK hP hS hl.1 d_G_loseUnflushed_41 (va_recv (q := (R_G, F_G, 12)) hK hP (ci := 5) (q0 := 5) rfl rfl) rfl (lv_room (Nat.le_of_ble_eq_true rfl)) (Nat.zero_le _) (Nat.zero_le _) rfl (fun r1 u H locs hwp hP hS => ?_)
          have hP : va_P (dC, dI) clZ (wN cI cL cZ q A D G K N P T) H := hP
          refine lv_iconst (v := 0) hx hb d_G_loseUnflushed_44 (by decide) ?_
          refine va_zast hx hb hK hP (dN hq) hS 29 2 rfl rfl hwp.1 d_G_loseUnflushed_45 (fun H locs hP _ hS => ?_)
          have hwp := hwp.2
          have hP : va_P (dC, dI) clZ (wN cI cL cZ q A D (G_undone' G (upd (G_undone G) (Int32.toNatClampNeg r1) (vp_nar .boolean 0))) K N P T) H := hP
          refine lv_iinc (k := 2) (v := (v2 + 1)) (lv' := [(2, .int (v2 + 1)), (0, .ref (q 5)), (1, .int v1)]) hx hb d_G_loseUnflushed_46 hl rfl (ii_1 _) (by decide) rfl (fun ls hl => ?_)
          refine lv_goto hx hb d_G_loseUnflushed_49 (tgt := 12) (by decide) ?_
          exact ih ((v2 + 1)) ((G_undone' G (upd (G_undone G) (Int32.toNatClampNeg r1) (vp_nar .boolean 0)))) _ _ _ (lv_sub hl [1, 2, 0] rfl) hP hS hwp hX
  rw [wp_G_loseUnflushed] at hwp
  refine lv_aload_n hx hb d_G_loseUnflushed_0 rfl (lv_at hl 0 rfl) ?_
  refine va_get (D := (dC, dI)) (ci := 5) (v := .int (G_flushed G)) (C := R_G) (T := F_G) (N := 12) hx hb hts hiG hown hK hP 5 rfl rfl 2 (by decide) lk54 (fun _ h9 => h9) rfl d_G_loseUnflushed_1 ?_
  refine lv_aload_n hx hb d_G_loseUnflushed_4 rfl (lv_at hl 0 rfl) ?_
  refine va_get (D := (dC, dI)) (ci := 5) (v := .int (G_base G)) (C := R_G) (T := F_G) (N := 12) hx hb hts hiG hown hK hP 5 rfl rfl 0 (by decide) lk40 (fun _ h9 => h9) rfl d_G_loseUnflushed_5 ?_
  refine lv_isub hx hb d_G_loseUnflushed_8 ?_
  refine lv_istore_n (lv' := [(1, .int ((G_flushed G) - (G_base G))), (0, .ref (q 5))]) hx hb d_G_loseUnflushed_9 rfl hl (by decide) rfl (fun ls hl => ?_)
  refine lv_iload_n hx hb d_G_loseUnflushed_10 rfl (lv_at hl 0 rfl) ?_
  refine lv_istore_n (lv' := [(2, .int ((G_flushed G) - (G_base G))), (1, .int ((G_flushed G) - (G_base G))), (0, .ref (q 5))]) hx hb d_G_loseUnflushed_11 rfl hl (by decide) rfl (fun ls hl => ?_)
  obtain ⟨e12, hwp⟩ := hwp
  refine L12 _ (((G_flushed G) - (G_base G))) e12 (((G_flushed G) - (G_base G))) (G) _ _ _ (lv_sub hl [2, 1, 0] rfl) hP hS hwp (fun G2 H locs ls hl hP hS hwp => ?_)
  refine lv_aload_n hx hb d_G_loseUnflushed_52 rfl (lv_at hl 0 rfl) ?_
  refine lv_iload_n hx hb d_G_loseUnflushed_53 rfl (lv_at hl 1 rfl) ?_
  refine va_put (D := (dC, dI)) (ci := 5) (v := .int ((G_flushed G) - (G_base G))) (ty := .int) (C := R_G) (T := F_G) (N := 12) hx hb hts hiG ty_G ty_G_ok nmx_G hown hK hP (dN hq) hS 5 rfl rfl 1 (by decide) lk44 (fun _ h9 => h9) rfl (by decide +kernel) rfl rfl (Nat.le_of_ble_eq_true rfl) d_G_loseUnflushed_54 (fun H locs hP _ hS => ?_)
  have hP : va_P (dC, dI) clZ (wN cI cL cZ q A D (G_size' G2 ((G_flushed G) - (G_base G))) K N P T) H := hP
  rw [hQ]
  exact W.vret hx hb hr (fun t ht hW => ⟨⟨(G_size' G2 ((G_flushed G) - (G_base G))), rfl, hwp, hp_of ht hP⟩, hS.F ht⟩) hS.2.2 d_G_loseUnflushed_57
