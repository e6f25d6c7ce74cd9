set_option maxHeartbeats 4000000 in
set_option maxRecDepth 100000 in
theorem c_P_start {l : Launch} {dC : Nat → ClassId} {dI : Nat → Nat → Nat} {cI cL cZ : ClassId} {q : Nat → Nat} (hq : iN q) (A : S_A) (D : S_D) (G : S_G) (K : S_K) (N : S_N) (P : S_P) (T : S_T) (a1 : Int32) (post : S_P → Prop) (hwp : wp_P_start P a1 post) : Met l y_P_start ws_P_start rm_P_start (va_Pc [.ref (q 3), .int a1] (bN dC dI cI cL cZ q A D G K N P T)) (va_Qv (fun (u : S_P) => post u) (fun u t => va_P (dC, dI) clZ (wN cI cL cZ q A D G K N (u) T) t.heap) (aN q)) 0 0 (aN q) := by
  refine Met.ofW (cc := b_P_start) (maxL := 2) (ret := none) (by decide) rfl ?_
  intro p e s m args below meth c s₁ B hml hv
  obtain ⟨rfl, hP, hK⟩ := hv
  have hx := B.exec
  have hb := B.bytes
  have hr := B.returns
  have hts := atoms_spec (ws := ws_P_start) B.pre
  have hown : s.vm.findClass R_P = some m.cls := findClass_of_methodNamed B.named
  have hlocks := B.notSynchronized
  have hiP : ∀ w ∈ u_ws R_P F_P 3, w ∈ ws_P_start := fun w h => List.mem_cons_of_mem _ (in_P w h)
  have lk15 := hts _ (List.mem_cons_of_mem _ k_P_15)
  have lk19 := hts _ (List.mem_cons_of_mem _ k_P_19)
  have hS : va_S (aN q) s.heap s.heap [] := va_S.rf
  have hl := lv_entry ([.ref (q 3), .int a1]) (n := 2) (Nat.le_of_ble_eq_true rfl)
  rw [lg_entry_eq]
  generalize (lg_sl ([.ref (q 3), .int a1]) ++ List.replicate (2 - (lg_sl ([.ref (q 3), .int a1])).length) Slot.unset).toArray = ls at hl ⊢
  have hl : lv_has ls 2 [(0, .ref (q 3)), (1, .int a1)] := hl
  obtain ⟨Q, hQ⟩ : ∃ Q, Q = MQ below (va_Qv (fun (u : S_P) => post u) (fun u t => va_P (dC, dI) clZ (wN cI cL cZ q A D G K N (u) T) t.heap) (aN q)) ([.ref (q 3), .int a1]).toArray s 0 0 (aN q) := ⟨_, rfl⟩
  rw [← hQ]
  rw [wp_P_start] at hwp
  refine lv_aload_n hx hb d_P_start_0 rfl (lv_at hl 0 rfl) ?_
  refine lv_iload_n hx hb d_P_start_1 rfl (lv_at hl 1 rfl) ?_
  refine va_put (D := (dC, dI)) (ci := 3) (v := .int a1) (ty := .int) (C := R_P) (T := F_P) (N := 3) hx hb hts hiP ty_P ty_P_ok nmx_P hown hK hP (dN hq) hS 3 rfl rfl 0 (by decide) lk15 (fun _ h9 => h9) rfl (by decide +kernel) rfl rfl (Nat.le_of_ble_eq_true rfl) d_P_start_2 (fun H locs hP _ hS => ?_)
  have hP : va_P (dC, dI) clZ (wN cI cL cZ q A D G K N (P_mode' P a1) T) H := hP
  refine lv_aload_n hx hb d_P_start_5 rfl (lv_at hl 0 rfl) ?_
  refine lv_iconst (v := 0) hx hb d_P_start_6 (by decide) ?_
  refine va_put (D := (dC, dI)) (ci := 3) (v := .int 0) (ty := .int) (C := R_P) (T := F_P) (N := 3) hx hb hts hiP ty_P ty_P_ok nmx_P hown hK hP (dN hq) hS 3 rfl rfl 1 (by decide) lk19 (fun _ h9 => h9) rfl (by decide +kernel) rfl rfl (Nat.le_of_ble_eq_true rfl) d_P_start_7 (fun H locs hP _ hS => ?_)
  have hP : va_P (dC, dI) clZ (wN cI cL cZ q A D G K N (P_size' (P_mode' P a1) 0) T) H := hP
  rw [hQ]
  exact W.vret hx hb hr (fun t ht hW => ⟨⟨(P_size' (P_mode' P a1) 0), rfl, hwp, hp_of ht hP⟩, hS.F ht⟩) hS.2.2 d_P_start_10

set_option maxHeartbeats 4000000 in
set_option maxRecDepth 100000 in
theorem c_P_add {l : Launch} {dC : Nat → ClassId} {dI : Nat → Nat → Nat} {cI cL cZ : ClassId} {q : Nat → Nat} (hq : iN q) (A : S_A) (D : S_D) (G : S_G) (K : S_K) (N : S_N) (P : S_P) (T : S_T) (a1 : Int32) (post : S_P → Prop) (hwp : wp_P_add P a1 post) : Met l y_P_add ws_P_add rm_P_add (va_Pc [.ref (q 3), .int a1] (bN dC dI cI cL cZ q A D G K N P T)) (va_Qv (fun (u : S_P) => post u) (fun u t => va_P (dC, dI) clZ (wN cI cL cZ q A D G K N (u) T) t.heap) (aN q)) 0 0 (aN q) := by
  refine Met.ofW (cc := b_P_add) (maxL := 2) (ret := none) (by decide) rfl ?_
  intro p e s m args below meth c s₁ B hml hv
  obtain ⟨rfl, hP, hK⟩ := hv
  have hx := B.exec
  have hb := B.bytes
  have hr := B.returns
  have hts := atoms_spec (ws := ws_P_add) B.pre
  have hown : s.vm.findClass R_P = some m.cls := findClass_of_methodNamed B.named
  have hlocks := B.notSynchronized
  have hiP : ∀ w ∈ u_ws R_P F_P 3, w ∈ ws_P_add := fun w h => List.mem_cons_of_mem _ (in_P w h)
  have lk9 := hts _ (List.mem_cons_of_mem _ k_P_9)
  have lk19 := hts _ (List.mem_cons_of_mem _ k_P_19)
  have hS : va_S (aN q) s.heap s.heap [] := va_S.rf
  have hl := lv_entry ([.ref (q 3), .int a1]) (n := 2) (Nat.le_of_ble_eq_true rfl)
  rw [lg_entry_eq]
  generalize (lg_sl ([.ref (q 3), .int a1]) ++ List.replicate (2 - (lg_sl ([.ref (q 3), .int a1])).length) Slot.unset).toArray = ls at hl ⊢
  have hl : lv_has ls 2 [(0, .ref (q 3)), (1, .int a1)] := hl
  obtain ⟨Q, hQ⟩ : ∃ Q, Q = MQ below (va_Qv (fun (u : S_P) => post u) (fun u t => va_P (dC, dI) clZ (wN cI cL cZ q A D G K N (u) T) t.heap) (aN q)) ([.ref (q 3), .int a1]).toArray s 0 0 (aN q) := ⟨_, rfl⟩
  rw [← hQ]
  rw [wp_P_add] at hwp
  refine lv_aload_n hx hb d_P_add_0 rfl (lv_at hl 0 rfl) ?_
  refine va_get (D := (dC, dI)) (ci := 3) (v := .int (P_size P)) (C := R_P) (T := F_P) (N := 3) hx hb hts hiP hown hK hP 3 rfl rfl 1 (by decide) lk19 (fun _ h9 => h9) rfl d_P_add_1 ?_
  refine lv_bipush (v := 33) hx hb d_P_add_4 (by decide) ?_
  refine lv_icmp_ge (tgt := 29) hx hb d_P_add_6 (by decide) (fun hc => ?_) (fun hc => ?_)
  · rw [if_pos hc] at hwp
    rw [hQ]
    exact W.vret hx hb hr (fun t ht hW => ⟨⟨P, rfl, hwp, hp_of ht hP⟩, hS.F ht⟩) hS.2.2 d_P_add_29
  · rw [if_neg hc] at hwp
    refine lv_aload_n hx hb d_P_add_9 rfl (lv_at hl 0 rfl) ?_
    refine va_get (D := (dC, dI)) (ci := 3) (v := .ref (q 19)) (C := R_P) (T := F_P) (N := 3) hx hb hts hiP hown hK hP 3 rfl rfl 2 (by decide) lk9 (fun _ h9 => h9) rfl d_P_add_10 ?_
    refine lv_aload_n hx hb d_P_add_13 rfl (lv_at hl 0 rfl) ?_
    refine va_get (D := (dC, dI)) (ci := 3) (v := .int (P_size P)) (C := R_P) (T := F_P) (N := 3) hx hb hts hiP hown hK hP 3 rfl rfl 1 (by decide) lk19 (fun _ h9 => h9) rfl d_P_add_14 ?_
    refine lv_iload_n hx hb d_P_add_17 rfl (lv_at hl 1 rfl) ?_
    refine va_iast hx hb hK hP (dN hq) hS 19 0 rfl rfl hwp.1 d_P_add_18 (fun H locs hP _ hS => ?_)
    have hwp := hwp.2
    have hP : va_P (dC, dI) clZ (wN cI cL cZ q A D G K N (P_items' P (upd (P_items P) (Int32.toNatClampNeg (P_size P)) a1)) T) H := hP
    refine lv_aload_n hx hb d_P_add_19 rfl (lv_at hl 0 rfl) ?_
    refine lv_dup hx hb d_P_add_20 rfl ?_
    refine va_get (D := (dC, dI)) (ci := 3) (v := .int (P_size P)) (C := R_P) (T := F_P) (N := 3) hx hb hts hiP hown hK hP 3 rfl rfl 1 (by decide) lk19 (fun _ h9 => h9) rfl d_P_add_21 ?_
    refine lv_iconst (v := 1) hx hb d_P_add_24 (by decide) ?_
    refine lv_iadd hx hb d_P_add_25 ?_
    refine va_put (D := (dC, dI)) (ci := 3) (v := .int ((P_size P) + 1)) (ty := .int) (C := R_P) (T := F_P) (N := 3) hx hb hts hiP ty_P ty_P_ok nmx_P hown hK hP (dN hq) hS 3 rfl rfl 1 (by decide) lk19 (fun _ h9 => h9) rfl (by decide +kernel) rfl rfl (Nat.le_of_ble_eq_true rfl) d_P_add_26 (fun H locs hP _ hS => ?_)
    have hP : va_P (dC, dI) clZ (wN cI cL cZ q A D G K N (P_size' (P_items' P (upd (P_items P) (Int32.toNatClampNeg (P_size P)) a1)) ((P_size P) + 1)) T) H := hP
    rw [hQ]
    exact W.vret hx hb hr (fun t ht hW => ⟨⟨(P_size' (P_items' P (upd (P_items P) (Int32.toNatClampNeg (P_size P)) a1)) ((P_size P) + 1)), rfl, hwp, hp_of ht hP⟩, hS.F ht⟩) hS.2.2 d_P_add_29
