set_option maxHeartbeats 4000000 in
set_option maxRecDepth 100000 in
theorem c_N_isOpen {l : Launch} {dC : Nat → ClassId} {dI : Nat → Nat → Nat} {cI cL cZ : ClassId} {q : Nat → Nat} (hq : iN q) (A : S_A) (D : S_D) (G : S_G) (K : S_K) (N : S_N) (P : S_P) (T : S_T) (a1 : Int32) (post : Int32 → Prop) (hwp : wp_N_isOpen G T a1 post) : Met l y_N_isOpen ws_N_isOpen rm_N_isOpen (va_Pc [.ref (q 0), .int a1] (bN dC dI cI cL cZ q A D G K N P T)) (va_Qi (fun (r : Int32) (u : Unit) => post r) (fun u t => va_P (dC, dI) clZ (wN cI cL cZ q A D G K N P T) t.heap) (aN q)) 0 0 (aN q) := by
  refine Met.ofW (cc := b_N_isOpen) (maxL := 2) (ret := (some .boolean)) (by decide) rfl ?_
  intro p e s m args below meth c s₁ B hml hv
  obtain ⟨rfl, hP, hK⟩ := hv
  have hx := B.exec
  have hb := B.bytes
  have hr := B.returns
  have hts := atoms_spec (ws := ws_N_isOpen) B.pre
  have hown : s.vm.findClass R_N = some m.cls := findClass_of_methodNamed B.named
  have hlocks := B.notSynchronized
  have hiN : ∀ w ∈ u_ws R_N F_N 7, w ∈ ws_N_isOpen := fun w h => List.mem_cons_of_mem _ (in_N w h)
  have hiG : ∀ w ∈ u_ws R_G F_G 12, w ∈ ws_N_isOpen := fun w h => List.mem_cons_of_mem _ (in_G w h)
  have lk12 := hts _ (List.mem_cons_of_mem _ k_N_12)
  have lk40 := hts _ (List.mem_cons_of_mem _ k_N_40)
  have lk188 := hts _ (List.mem_cons_of_mem _ k_N_188)
  have lk191 := hts _ (List.mem_cons_of_mem _ k_N_191)
  have lk324 := hts _ (List.mem_cons_of_mem _ k_N_324)
  have hS : va_S (aN q) s.heap s.heap [] := va_S.rf
  have hl := lv_entry ([.ref (q 0), .int a1]) (n := 2) (Nat.le_of_ble_eq_true rfl)
  rw [lg_entry_eq]
  generalize (lg_sl ([.ref (q 0), .int a1]) ++ List.replicate (2 - (lg_sl ([.ref (q 0), .int a1])).length) Slot.unset).toArray = ls at hl ⊢
  have hl : lv_has ls 2 [(0, .ref (q 0)), (1, .int a1)] := hl
  obtain ⟨Q, hQ⟩ : ∃ Q, Q = MQ below (va_Qi (fun (r : Int32) (u : Unit) => post r) (fun u t => va_P (dC, dI) clZ (wN cI cL cZ q A D G K N P T) t.heap) (aN q)) ([.ref (q 0), .int a1]).toArray s 0 0 (aN q) := ⟨_, rfl⟩
  rw [← hQ]
  rw [wp_N_isOpen] at hwp
  refine lv_aload_n hx hb d_N_isOpen_0 rfl (lv_at hl 0 rfl) ?_
  refine va_get (D := (dC, dI)) (ci := 0) (v := .ref (q 5)) (C := R_N) (T := F_N) (N := 7) hx hb hts hiN hown hK hP 0 rfl rfl 4 (by decide) lk40 (fun _ h9 => h9) rfl d_N_isOpen_1 ?_
  refine va_get (D := (dC, dI)) (ci := 5) (v := .ref (q 21)) (C := R_G) (T := F_G) (N := 12) hx hb hts hiG hown hK hP 5 rfl rfl 3 (by decide) lk188 (fun _ h9 => h9) rfl d_N_isOpen_4 ?_
  refine lv_iload_n hx hb d_N_isOpen_7 rfl (lv_at hl 1 rfl) ?_
  refine va_iald hx hb hK hP 21 0 rfl rfl hwp.1 d_N_isOpen_8 ?_
  have hwp := hwp.2
  refine lv_iconst (v := 2) hx hb d_N_isOpen_9 (by decide) ?_
  refine lv_icmp_ne (tgt := 48) hx hb d_N_isOpen_10 (by decide) (fun hc => ?_) (fun hc => ?_)
  · rw [if_neg hc] at hwp
    refine lv_iconst (v := 0) hx hb d_N_isOpen_48 (by decide) ?_
    rw [hQ]
    exact W.zret (v := 0) hx hb hr rfl (fun t ht hW => ⟨⟨0, (), rfl, hwp, hp_of ht hP⟩, hS.F ht⟩) hS.2.2 d_N_isOpen_49
  · rw [if_pos hc] at hwp
    refine lv_aload_n hx hb d_N_isOpen_13 rfl (lv_at hl 0 rfl) ?_
    refine va_get (D := (dC, dI)) (ci := 0) (v := .ref (q 5)) (C := R_N) (T := F_N) (N := 7) hx hb hts hiN hown hK hP 0 rfl rfl 4 (by decide) lk40 (fun _ h9 => h9) rfl d_N_isOpen_14 ?_
    refine va_get (D := (dC, dI)) (ci := 5) (v := .ref (q 29)) (C := R_G) (T := F_G) (N := 12) hx hb hts hiG hown hK hP 5 rfl rfl 11 (by decide) lk324 (fun _ h9 => h9) rfl d_N_isOpen_17 ?_
    refine lv_iload_n hx hb d_N_isOpen_20 rfl (lv_at hl 1 rfl) ?_
    refine va_zald hx hb hK hP 29 2 rfl rfl hwp.1 d_N_isOpen_21 ?_
    have hwp := hwp.2
    refine lv_if_ne (tgt := 48) hx hb d_N_isOpen_22 (by decide) (fun hc => ?_) (fun hc => ?_)
    · rw [if_neg hc] at hwp
      refine lv_iconst (v := 0) hx hb d_N_isOpen_48 (by decide) ?_
      rw [hQ]
      exact W.zret (v := 0) hx hb hr rfl (fun t ht hW => ⟨⟨0, (), rfl, hwp, hp_of ht hP⟩, hS.F ht⟩) hS.2.2 d_N_isOpen_49
    · rw [if_pos hc] at hwp
      refine lv_aload_n hx hb d_N_isOpen_25 rfl (lv_at hl 0 rfl) ?_
      refine va_get (D := (dC, dI)) (ci := 0) (v := .ref (q 1)) (C := R_N) (T := F_N) (N := 7) hx hb hts hiN hown hK hP 0 rfl rfl 0 (by decide) lk12 (fun _ h9 => h9) rfl d_N_isOpen_26 ?_
      refine lv_aload_n hx hb d_N_isOpen_29 rfl (lv_at hl 0 rfl) ?_
      refine va_get (D := (dC, dI)) (ci := 0) (v := .ref (q 5)) (C := R_N) (T := F_N) (N := 7) hx hb hts hiN hown hK hP 0 rfl rfl 4 (by decide) lk40 (fun _ h9 => h9) rfl d_N_isOpen_30 ?_
      refine va_get (D := (dC, dI)) (ci := 5) (v := .ref (q 22)) (C := R_G) (T := F_G) (N := 12) hx hb hts hiG hown hK hP 5 rfl rfl 4 (by decide) lk191 (fun _ h9 => h9) rfl d_N_isOpen_33 ?_
      refine lv_iload_n hx hb d_N_isOpen_36 rfl (lv_at hl 1 rfl) ?_
      refine va_iald hx hb hK hP 22 0 rfl rfl hwp.1 d_N_isOpen_37 ?_
      have hwp := hwp.2
      refine ncn_i (As := [.int ((G_transaction G) (Int32.toNatClampNeg a1))]) (c_T_isTopLive hq (A) (D) (G) (K) (N) (P) (T) (((G_transaction G) (Int32.toNatClampNeg a1))) _ hwp) (cwV 1 hts g_N_327 rfl rfl rfl hd_T_isTopLive ⟨Nat.le_of_ble_eq_true rfl, Nat.le_of_ble_eq_true rfl⟩) hx hb hml hown hts hK hP hS hl.1 d_N_isOpen_38 (va_recv (q := (R_T, F_T, 11)) hK hP (ci := 1) (q0 := 1) rfl rfl) rfl (lv_room (Nat.le_of_ble_eq_true rfl)) (Nat.zero_le _) (Nat.zero_le _) rfl (fun r1 u H locs hwp hP hS => ?_)
      have hP : va_P (dC, dI) clZ (wN cI cL cZ q A D G K N P T) H := hP
      refine lv_if_eq (tgt := 48) hx hb d_N_isOpen_41 (by decide) (fun hc => ?_) (fun hc => ?_)
      · rw [if_pos hc] at hwp
        refine lv_iconst (v := 0) hx hb d_N_isOpen_48 (by decide) ?_
        rw [hQ]
        exact W.zret (v := 0) hx hb hr rfl (fun t ht hW => ⟨⟨0, (), rfl, hwp, hp_of ht hP⟩, hS.F ht⟩) hS.2.2 d_N_isOpen_49
      · rw [if_neg hc] at hwp
        refine lv_iconst (v := 1) hx hb d_N_isOpen_44 (by decide) ?_
        refine lv_goto hx hb d_N_isOpen_45 (tgt := 49) (by decide) ?_
        rw [hQ]
        exact W.zret (v := 1) hx hb hr rfl (fun t ht hW => ⟨⟨1, (), rfl, hwp, hp_of ht hP⟩, hS.F ht⟩) hS.2.2 d_N_isOpen_49

set_option maxHeartbeats 4000000 in
set_option maxRecDepth 100000 in
theorem c_N_openUpdateCount {l : Launch} {dC : Nat → ClassId} {dI : Nat → Nat → Nat} {cI cL cZ : ClassId} {q : Nat → Nat} (hq : iN q) (A : S_A) (D : S_D) (G : S_G) (K : S_K) (N : S_N) (P : S_P) (T : S_T)  (post : Int32 → Prop) (hwp : wp_N_openUpdateCount G T post) : Met l y_N_openUpdateCount ws_N_openUpdateCount rm_N_openUpdateCount (va_Pc [.ref (q 0)] (bN dC dI cI cL cZ q A D G K N P T)) (va_Qi (fun (r : Int32) (u : Unit) => post r) (fun u t => va_P (dC, dI) clZ (wN cI cL cZ q A D G K N P T) t.heap) (aN q)) 0 0 (aN q) := by
  refine Met.ofW (cc := b_N_openUpdateCount) (maxL := 3) (ret := (some .int)) (by decide) rfl ?_
  intro p e s m args below meth c s₁ B hml hv
  obtain ⟨rfl, hP, hK⟩ := hv
  have hx := B.exec
  have hb := B.bytes
  have hr := B.returns
  have hts := atoms_spec (ws := ws_N_openUpdateCount) B.pre
  have hown : s.vm.findClass R_N = some m.cls := findClass_of_methodNamed B.named
  have hlocks := B.notSynchronized
  have hiN : ∀ w ∈ u_ws R_N F_N 7, w ∈ ws_N_openUpdateCount := fun w h => List.mem_cons_of_mem _ (in_N w h)
  have hiG : ∀ w ∈ u_ws R_G F_G 12, w ∈ ws_N_openUpdateCount := fun w h => List.mem_cons_of_mem _ (in_G w h)
  have lk40 := hts _ (List.mem_cons_of_mem _ k_N_40)
  have lk213 := hts _ (List.mem_cons_of_mem _ k_N_213)
  have hS : va_S (aN q) s.heap s.heap [] := va_S.rf
  have hl := lv_entry ([.ref (q 0)]) (n := 3) (Nat.le_of_ble_eq_true rfl)
  rw [lg_entry_eq]
  generalize (lg_sl ([.ref (q 0)]) ++ List.replicate (3 - (lg_sl ([.ref (q 0)])).length) Slot.unset).toArray = ls at hl ⊢
  have hl : lv_has ls 3 [(0, .ref (q 0))] := hl
  obtain ⟨Q, hQ⟩ : ∃ Q, Q = MQ below (va_Qi (fun (r : Int32) (u : Unit) => post r) (fun u t => va_P (dC, dI) clZ (wN cI cL cZ q A D G K N P T) t.heap) (aN q)) ([.ref (q 0)]).toArray s 0 0 (aN q) := ⟨_, rfl⟩
  rw [← hQ]
  have L4 : ∀ (Kx : Int32 → Prop) (n : Nat) (v1 : Int32) (v2 : Int32) (H : Heap) (locs : List Loc) (ls : Array Slot), lv_has ls 3 [(0, .ref (q 0)), (1, .int v1), (2, .int v2)] → va_P (dC, dI) clZ (wN cI cL cZ q A D G K N P T) H → va_S (aN q) s.heap H locs → wp_N_openUpdateCount_L4 G T Kx n v1 v2 → (∀ (x1 : Int32) (H : Heap) (locs : List Loc) (ls : Array Slot), lv_has ls 3 [(1, .int x1)] → va_P (dC, dI) clZ (wN cI cL cZ q A D G K N P T) H → va_S (aN q) s.heap H locs → Kx x1 → W p l e (headSpec ws_N_openUpdateCount rm_N_openUpdateCount).room s m ([.ref (q 0)]).toArray below meth c H locs 0 0 Q (F0 m 32 ls [])) → W p l e (headSpec ws_N_openUpdateCount rm_N_openUpdateCount).room s m ([.ref (q 0)]).toArray below meth c H locs 0 0 Q (F0 m 4 ls []) := by
    intro Kx  n
    induction n with
    | zero =>
      intros
      rename_i hwp _
      exact hwp.elim
    | succ n4 ih =>
      intro v1 v2 H locs ls hl hP hS hwp hX
      rw [wp_N_openUpdateCount_L4] at hwp
      refine lv_iload_n hx hb d_N_openUpdateCount_4 rfl (lv_at hl 2 rfl) ?_
      refine lv_aload_n hx hb d_N_openUpdateCount_5 rfl (lv_at hl 0 rfl) ?_
      refine va_get (D := (dC, dI)) (ci := 0) (v := .ref (q 5)) (C := R_N) (T := F_N) (N := 7) hx hb hts hiN hown hK hP 0 rfl rfl 4 (by decide) lk40 (fun _ h9 => h9) rfl d_N_openUpdateCount_6 ?_
      refine va_get (D := (dC, dI)) (ci := 5) (v := .int (G_size G)) (C := R_G) (T := F_G) (N := 12) hx hb hts hiG hown hK hP 5 rfl rfl 1 (by decide) lk213 (fun _ h9 => h9) rfl d_N_openUpdateCount_9 ?_
      refine lv_icmp_ge (tgt := 32) hx hb d_N_openUpdateCount_12 (by decide) (fun hc => ?_) (fun hc => ?_)
      · rw [if_pos hc] at hwp
        exact hX (v1) _ _ _ (lv_sub hl [1] rfl) hP hS hwp
      · rw [if_neg hc] at hwp
        refine lv_aload_n hx hb d_N_openUpdateCount_15 rfl (lv_at hl 0 rfl) ?_
        refine lv_iload_n hx hb d_N_openUpdateCount_16 rfl (lv_at hl 2 rfl) ?_
        refine ncn_i (As := [.int v2]) (c_N_isOpen hq (A) (D) (G) (K) (N) (P) (T) (v2) _ hwp) (cwV 1 hts g_N_330 rfl rfl rfl hd_N_isOpen ⟨Nat.le_of_ble_eq_true rfl, Nat.le_of_ble_eq_true rfl⟩) hx hb hml hown hts hK hP hS hl.1 d_N_openUpdateCount_17 (va_recv (q := (R_N, F_N, 7)) hK hP (ci := 0) (q0 := 0) rfl rfl) rfl (lv_room (Nat.le_of_ble_eq_true rfl)) (Nat.zero_le _) (Nat.zero_le _) rfl (fun r1 u H locs hwp hP hS => ?_)
        have hP : va_P (dC, dI) clZ (wN cI cL cZ q A D G K N P T) H := hP
        refine lv_if_eq (tgt := 26) hx hb d_N_openUpdateCount_20 (by decide) (fun hc => ?_) (fun hc => ?_)
        · rw [if_pos hc] at hwp
          refine lv_iinc (k := 2) (v := (v2 + 1)) (lv' := [(2, .int (v2 + 1)), (0, .ref (q 0)), (1, .int v1)]) hx hb d_N_openUpdateCount_26 hl rfl (ii_1 _) (by decide) rfl (fun ls hl => ?_)
          refine lv_goto hx hb d_N_openUpdateCount_29 (tgt := 4) (by decide) ?_
          exact ih (v1) ((v2 + 1)) _ _ _ (lv_sub hl [1, 2, 0] rfl) hP hS hwp hX
        · rw [if_neg hc] at hwp
          refine lv_iinc (k := 1) (v := (v1 + 1)) (lv' := [(1, .int (v1 + 1)), (0, .ref (q 0)), (2, .int v2)]) hx hb d_N_openUpdateCount_23 hl rfl (ii_1 _) (by decide) rfl (fun ls hl => ?_)
          refine lv_iinc (k := 2) (v := (v2 + 1)) (lv' := [(2, .int (v2 + 1)), (1, .int (v1 + 1)), (0, .ref (q 0))]) hx hb d_N_openUpdateCount_26 hl rfl (ii_1 _) (by decide) rfl (fun ls hl => ?_)
          refine lv_goto hx hb d_N_openUpdateCount_29 (tgt := 4) (by decide) ?_
          exact ih ((v1 + 1)) ((v2 + 1)) _ _ _ (lv_sub hl [2, 1, 0] rfl) hP hS hwp hX
  rw [wp_N_openUpdateCount] at hwp
  refine lv_iconst (v := 0) hx hb d_N_openUpdateCount_0 (by decide) ?_
  refine lv_istore_n (lv' := [(1, .int 0), (0, .ref (q 0))]) hx hb d_N_openUpdateCount_1 rfl hl (by decide) rfl (fun ls hl => ?_)
  refine lv_iconst (v := 0) hx hb d_N_openUpdateCount_2 (by decide) ?_
  refine lv_istore_n (lv' := [(2, .int 0), (1, .int 0), (0, .ref (q 0))]) hx hb d_N_openUpdateCount_3 rfl hl (by decide) rfl (fun ls hl => ?_)
  obtain ⟨e4, hwp⟩ := hwp
  refine L4 _  e4 (0) (0) _ _ _ (lv_sub hl [2, 1, 0] rfl) hP hS hwp (fun x2 H locs ls hl hP hS hwp => ?_)
  refine lv_iload_n hx hb d_N_openUpdateCount_32 rfl (lv_at hl 0 rfl) ?_
  rw [hQ]
  exact W.iret (v := x2) hx hb hr (fun t ht hW => ⟨⟨x2, (), rfl, hwp, hp_of ht hP⟩, hS.F ht⟩) hS.2.2 d_N_openUpdateCount_33

set_option maxHeartbeats 4000000 in
set_option maxRecDepth 100000 in
theorem c_N_hasRoomForOne {l : Launch} {dC : Nat → ClassId} {dI : Nat → Nat → Nat} {cI cL cZ : ClassId} {q : Nat → Nat} (hq : iN q) (A : S_A) (D : S_D) (G : S_G) (K : S_K) (N : S_N) (P : S_P) (T : S_T)  (post : Int32 → Prop) (hwp : wp_N_hasRoomForOne G T post) : Met l y_N_hasRoomForOne ws_N_hasRoomForOne rm_N_hasRoomForOne (va_Pc [.ref (q 0)] (bN dC dI cI cL cZ q A D G K N P T)) (va_Qi (fun (r : Int32) (u : Unit) => post r) (fun u t => va_P (dC, dI) clZ (wN cI cL cZ q A D G K N P T) t.heap) (aN q)) 0 0 (aN q) := by
  refine Met.ofW (cc := b_N_hasRoomForOne) (maxL := 2) (ret := (some .boolean)) (by decide) rfl ?_
  intro p e s m args below meth c s₁ B hml hv
  obtain ⟨rfl, hP, hK⟩ := hv
  have hx := B.exec
  have hb := B.bytes
  have hr := B.returns
  have hts := atoms_spec (ws := ws_N_hasRoomForOne) B.pre
  have hown : s.vm.findClass R_N = some m.cls := findClass_of_methodNamed B.named
  have hlocks := B.notSynchronized
  have hiN : ∀ w ∈ u_ws R_N F_N 7, w ∈ ws_N_hasRoomForOne := fun w h => List.mem_cons_of_mem _ (in_N w h)
  have hiG : ∀ w ∈ u_ws R_G F_G 12, w ∈ ws_N_hasRoomForOne := fun w h => List.mem_cons_of_mem _ (in_G w h)
  have lk12 := hts _ (List.mem_cons_of_mem _ k_N_12)
  have lk40 := hts _ (List.mem_cons_of_mem _ k_N_40)
  have lk213 := hts _ (List.mem_cons_of_mem _ k_N_213)
  have hS : va_S (aN q) s.heap s.heap [] := va_S.rf
  have hl := lv_entry ([.ref (q 0)]) (n := 2) (Nat.le_of_ble_eq_true rfl)
  rw [lg_entry_eq]
  generalize (lg_sl ([.ref (q 0)]) ++ List.replicate (2 - (lg_sl ([.ref (q 0)])).length) Slot.unset).toArray = ls at hl ⊢
  have hl : lv_has ls 2 [(0, .ref (q 0))] := hl
  obtain ⟨Q, hQ⟩ : ∃ Q, Q = MQ below (va_Qi (fun (r : Int32) (u : Unit) => post r) (fun u t => va_P (dC, dI) clZ (wN cI cL cZ q A D G K N P T) t.heap) (aN q)) ([.ref (q 0)]).toArray s 0 0 (aN q) := ⟨_, rfl⟩
  rw [← hQ]
  rw [wp_N_hasRoomForOne] at hwp
  refine lv_aload_n hx hb d_N_hasRoomForOne_0 rfl (lv_at hl 0 rfl) ?_
  refine va_get (D := (dC, dI)) (ci := 0) (v := .ref (q 5)) (C := R_N) (T := F_N) (N := 7) hx hb hts hiN hown hK hP 0 rfl rfl 4 (by decide) lk40 (fun _ h9 => h9) rfl d_N_hasRoomForOne_1 ?_
  refine va_get (D := (dC, dI)) (ci := 5) (v := .int (G_size G)) (C := R_G) (T := F_G) (N := 12) hx hb hts hiG hown hK hP 5 rfl rfl 1 (by decide) lk213 (fun _ h9 => h9) rfl d_N_hasRoomForOne_4 ?_
  refine lv_aload_n hx hb d_N_hasRoomForOne_7 rfl (lv_at hl 0 rfl) ?_
  refine ncn_i (As := []) (c_N_openUpdateCount hq (A) (D) (G) (K) (N) (P) (T)  _ hwp) (cwV 0 hts g_N_216 rfl rfl rfl hd_N_openUpdateCount ⟨Nat.le_of_ble_eq_true rfl, Nat.le_of_ble_eq_true rfl⟩) hx hb hml hown hts hK hP hS hl.1 d_N_hasRoomForOne_8 (va_recv (q := (R_N, F_N, 7)) hK hP (ci := 0) (q0 := 0) rfl rfl) rfl (lv_room (Nat.le_of_ble_eq_true rfl)) (Nat.zero_le _) (Nat.zero_le _) rfl (fun r1 u H locs hwp hP hS => ?_)
  have hP : va_P (dC, dI) clZ (wN cI cL cZ q A D G K N P T) H := hP
  refine lv_iadd hx hb d_N_hasRoomForOne_11 ?_
  refine lv_aload_n hx hb d_N_hasRoomForOne_12 rfl (lv_at hl 0 rfl) ?_
  refine va_get (D := (dC, dI)) (ci := 0) (v := .ref (q 1)) (C := R_N) (T := F_N) (N := 7) hx hb hts hiN hown hK hP 0 rfl rfl 0 (by decide) lk12 (fun _ h9 => h9) rfl d_N_hasRoomForOne_13 ?_
  refine ncn_i (As := []) (c_T_liveCount hq (A) (D) (G) (K) (N) (P) (T)  _ hwp) (cwV 0 hts g_N_148 rfl rfl rfl hd_T_liveCount ⟨Nat.le_of_ble_eq_true rfl, Nat.le_of_ble_eq_true rfl⟩) hx hb hml hown hts hK hP hS hl.1 d_N_hasRoomForOne_16 (va_recv (q := (R_T, F_T, 11)) hK hP (ci := 1) (q0 := 1) rfl rfl) rfl (lv_room (Nat.le_of_ble_eq_true rfl)) (Nat.zero_le _) (Nat.zero_le _) rfl (fun r2 u H locs hwp hP hS => ?_)
  have hP : va_P (dC, dI) clZ (wN cI cL cZ q A D G K N P T) H := hP
  refine lv_iadd hx hb d_N_hasRoomForOne_19 ?_
  refine lv_istore_n (lv' := [(1, .int (((G_size G) + r1) + r2)), (0, .ref (q 0))]) hx hb d_N_hasRoomForOne_20 rfl hl (by decide) rfl (fun ls hl => ?_)
  refine lv_iload_n hx hb d_N_hasRoomForOne_21 rfl (lv_at hl 0 rfl) ?_
  refine lv_iconst (v := 2) hx hb d_N_hasRoomForOne_22 (by decide) ?_
  refine lv_iadd hx hb d_N_hasRoomForOne_23 ?_
  refine lv_sipush (v := 300) hx hb d_N_hasRoomForOne_24 (by decide) ?_
  refine lv_icmp_gt (tgt := 34) hx hb d_N_hasRoomForOne_27 (by decide) (fun hc => ?_) (fun hc => ?_)
  · rw [if_pos hc] at hwp
    refine lv_iconst (v := 0) hx hb d_N_hasRoomForOne_34 (by decide) ?_
    rw [hQ]
    exact W.zret (v := 0) hx hb hr rfl (fun t ht hW => ⟨⟨0, (), rfl, hwp, hp_of ht hP⟩, hS.F ht⟩) hS.2.2 d_N_hasRoomForOne_35
  · rw [if_neg hc] at hwp
    refine lv_iconst (v := 1) hx hb d_N_hasRoomForOne_30 (by decide) ?_
    refine lv_goto hx hb d_N_hasRoomForOne_31 (tgt := 35) (by decide) ?_
    rw [hQ]
    exact W.zret (v := 1) hx hb hr rfl (fun t ht hW => ⟨⟨1, (), rfl, hwp, hp_of ht hP⟩, hS.F ht⟩) hS.2.2 d_N_hasRoomForOne_35

set_option maxHeartbeats 4000000 in
set_option maxRecDepth 100000 in
theorem c_N_begin {l : Launch} {dC : Nat → ClassId} {dI : Nat → Nat → Nat} {cI cL cZ : ClassId} {q : Nat → Nat} (hq : iN q) (A : S_A) (D : S_D) (G : S_G) (K : S_K) (N : S_N) (P : S_P) (T : S_T) (a1 : Int32) (post : Int32 → S_G → S_T → Prop) (hwp : wp_N_begin G T a1 post) : Met l y_N_begin ws_N_begin rm_N_begin (va_Pc [.ref (q 0), .int a1] (bN dC dI cI cL cZ q A D G K N P T)) (va_Qi (fun (r : Int32) (u : S_G × S_T) => post r u.1 u.2) (fun u t => va_P (dC, dI) clZ (wN cI cL cZ q A D (u.1) K N P (u.2)) t.heap) (aN q)) 0 0 (aN q) := by
  refine Met.ofW (cc := b_N_begin) (maxL := 4) (ret := (some .int)) (by decide) rfl ?_
  intro p e s m args below meth c s₁ B hml hv
  obtain ⟨rfl, hP, hK⟩ := hv
  have hx := B.exec
  have hb := B.bytes
  have hr := B.returns
  have hts := atoms_spec (ws := ws_N_begin) B.pre
  have hown : s.vm.findClass R_N = some m.cls := findClass_of_methodNamed B.named
  have hlocks := B.notSynchronized
  have hiN : ∀ w ∈ u_ws R_N F_N 7, w ∈ ws_N_begin := fun w h => List.mem_cons_of_mem _ (in_N w h)
  have hiT : ∀ w ∈ u_ws R_T F_T 11, w ∈ ws_N_begin := fun w h => List.mem_cons_of_mem _ (in_T w h)
  have lk12 := hts _ (List.mem_cons_of_mem _ k_N_12)
  have lk40 := hts _ (List.mem_cons_of_mem _ k_N_40)
  have lk66 := hts _ (List.mem_cons_of_mem _ k_N_66)
  have lk70 := hts _ (List.mem_cons_of_mem _ k_N_70)
  have hS : va_S (aN q) s.heap s.heap [] := va_S.rf
  have hl := lv_entry ([.ref (q 0), .int a1]) (n := 4) (Nat.le_of_ble_eq_true rfl)
  rw [lg_entry_eq]
  generalize (lg_sl ([.ref (q 0), .int a1]) ++ List.replicate (4 - (lg_sl ([.ref (q 0), .int a1])).length) Slot.unset).toArray = ls at hl ⊢
  have hl : lv_has ls 4 [(0, .ref (q 0)), (1, .int a1)] := hl
  obtain ⟨Q, hQ⟩ : ∃ Q, Q = MQ below (va_Qi (fun (r : Int32) (u : S_G × S_T) => post r u.1 u.2) (fun u t => va_P (dC, dI) clZ (wN cI cL cZ q A D (u.1) K N P (u.2)) t.heap) (aN q)) ([.ref (q 0), .int a1]).toArray s 0 0 (aN q) := ⟨_, rfl⟩
  rw [← hQ]
  rw [wp_N_begin] at hwp
  refine lv_iload_n hx hb d_N_begin_0 rfl (lv_at hl 1 rfl) ?_
  refine lv_iconst (v := (-1)) hx hb d_N_begin_1 (by decide) ?_
  refine jn_split hwp (fun jk34 hjk hwp => ?_)
  have J34 : ∀ (b2 : Int32) (H : Heap) (locs : List Loc) (ls : Array Slot), lv_has ls 4 [(0, .ref (q 0)), (1, .int a1)] → va_P (dC, dI) clZ (wN cI cL cZ q A D G K N P T) H → va_S (aN q) s.heap H locs → jk34 b2 → W p l e (headSpec ws_N_begin rm_N_begin).room s m ([.ref (q 0), .int a1]).toArray below meth c H locs 0 0 Q (F0 m 34 ls [.int b2]) := by
    intro b2 H locs ls hl hP hS hwp
    rw [hjk] at hwp
    refine lv_istore_n (lv' := [(2, .int b2), (0, .ref (q 0)), (1, .int a1)]) hx hb d_N_begin_34 rfl hl (by decide) rfl (fun ls hl => ?_)
    refine lv_iload_n hx hb d_N_begin_35 rfl (lv_at hl 0 rfl) ?_
    refine lv_if_eq (tgt := 51) hx hb d_N_begin_36 (by decide) (fun hc => ?_) (fun hc => ?_)
    · rw [if_pos hc] at hwp
      refine lv_iconst (v := (-1)) hx hb d_N_begin_51 (by decide) ?_
      rw [hQ]
      exact W.iret (v := (-1)) hx hb hr (fun t ht hW => ⟨⟨(-1), (G, T), rfl, hwp, hp_of ht hP⟩, hS.F ht⟩) hS.2.2 d_N_begin_52
    · rw [if_neg hc] at hwp
      refine lv_aload_n hx hb d_N_begin_39 rfl (lv_at hl 1 rfl) ?_
      refine va_get (D := (dC, dI)) (ci := 0) (v := .ref (q 1)) (C := R_N) (T := F_N) (N := 7) hx hb hts hiN hown hK hP 0 rfl rfl 0 (by decide) lk12 (fun _ h9 => h9) rfl d_N_begin_40 ?_
      refine va_get (D := (dC, dI)) (ci := 1) (v := .int (T_count T)) (C := R_T) (T := F_T) (N := 11) hx hb hts hiT hown hK hP 1 rfl rfl 0 (by decide) lk70 (fun _ h9 => h9) rfl d_N_begin_43 ?_
      refine lv_bipush (v := 60) hx hb d_N_begin_46 (by decide) ?_
      refine lv_icmp_lt (tgt := 53) hx hb d_N_begin_48 (by decide) (fun hc => ?_) (fun hc => ?_)
      · rw [if_pos hc] at hwp
        refine lv_aload_n hx hb d_N_begin_53 rfl (lv_at hl 1 rfl) ?_
        refine ncn_i (As := []) (c_N_hasRoomForOne hq (A) (D) (G) (K) (N) (P) (T)  _ hwp) (cwV 0 hts g_N_74 rfl rfl rfl hd_N_hasRoomForOne ⟨Nat.le_of_ble_eq_true rfl, Nat.le_of_ble_eq_true rfl⟩) hx hb hml hown hts hK hP hS hl.1 d_N_begin_54 (va_recv (q := (R_N, F_N, 7)) hK hP (ci := 0) (q0 := 0) rfl rfl) rfl (lv_room (Nat.le_of_ble_eq_true rfl)) (Nat.zero_le _) (Nat.zero_le _) rfl (fun r3 u H locs hwp hP hS => ?_)
        have hP : va_P (dC, dI) clZ (wN cI cL cZ q A D G K N P T) H := hP
        refine lv_if_ne (tgt := 63) hx hb d_N_begin_57 (by decide) (fun hc => ?_) (fun hc => ?_)
        · rw [if_neg hc] at hwp
          refine lv_aload_n hx hb d_N_begin_63 rfl (lv_at hl 1 rfl) ?_
          refine va_get (D := (dC, dI)) (ci := 0) (v := .ref (q 1)) (C := R_N) (T := F_N) (N := 7) hx hb hts hiN hown hK hP 0 rfl rfl 0 (by decide) lk12 (fun _ h9 => h9) rfl d_N_begin_64 ?_
          refine lv_iload_n hx hb d_N_begin_67 rfl (lv_at hl 2 rfl) ?_
          refine lv_aload_n hx hb d_N_begin_68 rfl (lv_at hl 1 rfl) ?_
          refine va_get (D := (dC, dI)) (ci := 0) (v := .ref (q 5)) (C := R_N) (T := F_N) (N := 7) hx hb hts hiN hown hK hP 0 rfl rfl 4 (by decide) lk40 (fun _ h9 => h9) rfl d_N_begin_69 ?_
          refine ncn_i (As := []) (c_G_last hq (A) (D) (G) (K) (N) (P) (T)  _ hwp) (cwV 0 hts g_N_78 rfl rfl rfl hd_G_last ⟨Nat.le_of_ble_eq_true rfl, Nat.le_of_ble_eq_true rfl⟩) hx hb hml hown hts hK hP hS hl.1 d_N_begin_72 (va_recv (q := (R_G, F_G, 12)) hK hP (ci := 5) (q0 := 5) rfl rfl) rfl (lv_room (Nat.le_of_ble_eq_true rfl)) (Nat.zero_le _) (Nat.zero_le _) rfl (fun r4 u H locs hwp hP hS => ?_)
          have hP : va_P (dC, dI) clZ (wN cI cL cZ q A D G K N P T) H := hP
          refine lv_iconst (v := 1) hx hb d_N_begin_75 (by decide) ?_
          refine lv_iadd hx hb d_N_begin_76 ?_
          refine ncn_i (As := [.int a1, .int (r4 + 1)]) (c_T_add hq (A) (D) (G) (K) (N) (P) (T) (a1) ((r4 + 1)) _ hwp) (cwV 2 hts g_N_82 rfl rfl rfl hd_T_add ⟨Nat.le_of_ble_eq_true rfl, Nat.le_of_ble_eq_true rfl⟩) hx hb hml hown hts hK hP hS hl.1 d_N_begin_77 (va_recv (q := (R_T, F_T, 11)) hK hP (ci := 1) (q0 := 1) rfl rfl) rfl (lv_room (Nat.le_of_ble_eq_true rfl)) (Nat.zero_le _) (Nat.zero_le _) rfl (fun r5 T6 H locs hwp hP hS => ?_)
          have hP : va_P (dC, dI) clZ (wN cI cL cZ q A D G K N P T6) H := hP
          refine lv_istore_n (lv' := [(3, .int r5), (2, .int b2), (0, .ref (q 0)), (1, .int a1)]) hx hb d_N_begin_80 rfl hl (by decide) rfl (fun ls hl => ?_)
          refine lv_aload_n hx hb d_N_begin_81 rfl (lv_at hl 2 rfl) ?_
          refine va_get (D := (dC, dI)) (ci := 0) (v := .ref (q 5)) (C := R_N) (T := F_N) (N := 7) hx hb hts hiN hown hK hP 0 rfl rfl 4 (by decide) lk40 (fun _ h9 => h9) rfl d_N_begin_82 ?_
          refine lv_iconst (v := 1) hx hb d_N_begin_85 (by decide) ?_
          refine lv_iload_n hx hb d_N_begin_86 rfl (lv_at hl 0 rfl) ?_
          refine lv_iload_n hx hb d_N_begin_87 rfl (lv_at hl 3 rfl) ?_
          refine ncn_i (As := [.int 1, .int r5, .int a1]) (c_G_append hq (A) (D) (G) (K) (N) (P) (T6) (1) (r5) (a1) _ hwp) (cwV 3 hts g_N_85 rfl rfl rfl hd_G_append ⟨Nat.le_of_ble_eq_true rfl, Nat.le_of_ble_eq_true rfl⟩) hx hb hml hown hts hK hP hS hl.1 d_N_begin_88 (va_recv (q := (R_G, F_G, 12)) hK hP (ci := 5) (q0 := 5) rfl rfl) rfl (lv_room (Nat.le_of_ble_eq_true rfl)) (Nat.zero_le _) (Nat.zero_le _) rfl (fun r7 G8 H locs hwp hP hS => ?_)
          have hP : va_P (dC, dI) clZ (wN cI cL cZ q A D G8 K N P T6) H := hP
          refine lv_pop hx hb d_N_begin_91 rfl ?_
          refine lv_iload_n hx hb d_N_begin_92 rfl (lv_at hl 0 rfl) ?_
          rw [hQ]
          exact W.iret (v := r5) hx hb hr (fun t ht hW => ⟨⟨r5, (G8, T6), rfl, hwp, hp_of ht hP⟩, hS.F ht⟩) hS.2.2 d_N_begin_93
        · rw [if_pos hc] at hwp
          refine lv_bipush (v := (-5)) hx hb d_N_begin_60 (by decide) ?_
          rw [hQ]
          exact W.iret (v := (-5)) hx hb hr (fun t ht hW => ⟨⟨(-5), (G, T), rfl, hwp, hp_of ht hP⟩, hS.F ht⟩) hS.2.2 d_N_begin_62
      · rw [if_neg hc] at hwp
        refine lv_iconst (v := (-1)) hx hb d_N_begin_51 (by decide) ?_
        rw [hQ]
        exact W.iret (v := (-1)) hx hb hr (fun t ht hW => ⟨⟨(-1), (G, T), rfl, hwp, hp_of ht hP⟩, hS.F ht⟩) hS.2.2 d_N_begin_52
  clear hjk
  refine lv_icmp_eq (tgt := 29) hx hb d_N_begin_2 (by decide) (fun hc => ?_) (fun hc => ?_)
  · rw [if_pos hc] at hwp
    refine lv_iconst (v := 1) hx hb d_N_begin_29 (by decide) ?_
    refine lv_goto hx hb d_N_begin_30 (tgt := 34) (by decide) ?_
    exact J34 (1) _ _ _ (lv_sub hl [0, 1] rfl) hP hS hwp
  · rw [if_neg hc] at hwp
    refine lv_aload_n hx hb d_N_begin_5 rfl (lv_at hl 0 rfl) ?_
    refine va_get (D := (dC, dI)) (ci := 0) (v := .ref (q 1)) (C := R_N) (T := F_N) (N := 7) hx hb hts hiN hown hK hP 0 rfl rfl 0 (by decide) lk12 (fun _ h9 => h9) rfl d_N_begin_6 ?_
    refine lv_iload_n hx hb d_N_begin_9 rfl (lv_at hl 1 rfl) ?_
    refine ncn_i (As := [.int a1]) (c_T_isActive hq (A) (D) (G) (K) (N) (P) (T) (a1) _ hwp) (cwV 1 hts g_N_62 rfl rfl rfl hd_T_isActive ⟨Nat.le_of_ble_eq_true rfl, Nat.le_of_ble_eq_true rfl⟩) hx hb hml hown hts hK hP hS hl.1 d_N_begin_10 (va_recv (q := (R_T, F_T, 11)) hK hP (ci := 1) (q0 := 1) rfl rfl) rfl (lv_room (Nat.le_of_ble_eq_true rfl)) (Nat.zero_le _) (Nat.zero_le _) rfl (fun r1 u H locs hwp hP hS => ?_)
    have hP : va_P (dC, dI) clZ (wN cI cL cZ q A D G K N P T) H := hP
    refine lv_if_eq (tgt := 33) hx hb d_N_begin_13 (by decide) (fun hc => ?_) (fun hc => ?_)
    · rw [if_pos hc] at hwp
      refine lv_iconst (v := 0) hx hb d_N_begin_33 (by decide) ?_
      exact J34 (0) _ _ _ (lv_sub hl [0, 1] rfl) hP hS hwp
    · rw [if_neg hc] at hwp
      refine lv_aload_n hx hb d_N_begin_16 rfl (lv_at hl 0 rfl) ?_
      refine va_get (D := (dC, dI)) (ci := 0) (v := .ref (q 1)) (C := R_N) (T := F_N) (N := 7) hx hb hts hiN hown hK hP 0 rfl rfl 0 (by decide) lk12 (fun _ h9 => h9) rfl d_N_begin_17 ?_
      refine va_get (D := (dC, dI)) (ci := 1) (v := .ref (q 9)) (C := R_T) (T := F_T) (N := 11) hx hb hts hiT hown hK hP 1 rfl rfl 3 (by decide) lk66 (fun _ h9 => h9) rfl d_N_begin_20 ?_
      refine lv_iload_n hx hb d_N_begin_23 rfl (lv_at hl 1 rfl) ?_
      refine va_iald hx hb hK hP 9 0 rfl rfl hwp.1 d_N_begin_24 ?_
      have hwp := hwp.2
      refine lv_iconst (v := 4) hx hb d_N_begin_25 (by decide) ?_
      refine lv_icmp_ge (tgt := 33) hx hb d_N_begin_26 (by decide) (fun hc => ?_) (fun hc => ?_)
      · rw [if_pos hc] at hwp
        refine lv_iconst (v := 0) hx hb d_N_begin_33 (by decide) ?_
        exact J34 (0) _ _ _ (lv_sub hl [0, 1] rfl) hP hS hwp
      · rw [if_neg hc] at hwp
        refine lv_iconst (v := 1) hx hb d_N_begin_29 (by decide) ?_
        refine lv_goto hx hb d_N_begin_30 (tgt := 34) (by decide) ?_
        exact J34 (1) _ _ _ (lv_sub hl [0, 1] rfl) hP hS hwp

set_option maxHeartbeats 4000000 in
set_option maxRecDepth 100000 in
theorem c_N_isKey {l : Launch} {dC : Nat → ClassId} {dI : Nat → Nat → Nat} {cI cL cZ : ClassId} {q : Nat → Nat} (hq : iN q) (A : S_A) (D : S_D) (G : S_G) (K : S_K) (N : S_N) (P : S_P) (T : S_T) (a0 : Int32) (post : Int32 → Prop) (hwp : wp_N_isKey a0 post) : Met l y_N_isKey ws_N_isKey rm_N_isKey (va_Pc [.int a0] (bN dC dI cI cL cZ q A D G K N P T)) (va_Qi (fun (r : Int32) (u : Unit) => post r) (fun u t => va_P (dC, dI) clZ (wN cI cL cZ q A D G K N P T) t.heap) (aN q)) 0 0 (aN q) := by
  refine Met.ofW (cc := b_N_isKey) (maxL := 1) (ret := (some .boolean)) (by decide) rfl ?_
  intro p e s m args below meth c s₁ B hml hv
  obtain ⟨rfl, hP, hK⟩ := hv
  have hx := B.exec
  have hb := B.bytes
  have hr := B.returns
  have hts := atoms_spec (ws := ws_N_isKey) B.pre
  have hown : s.vm.findClass R_N = some m.cls := findClass_of_methodNamed B.named
  have hlocks := B.notSynchronized
  have hS : va_S (aN q) s.heap s.heap [] := va_S.rf
  have hl := lv_entry ([.int a0]) (n := 1) (Nat.le_of_ble_eq_true rfl)
  rw [lg_entry_eq]
  generalize (lg_sl ([.int a0]) ++ List.replicate (1 - (lg_sl ([.int a0])).length) Slot.unset).toArray = ls at hl ⊢
  have hl : lv_has ls 1 [(0, .int a0)] := hl
  obtain ⟨Q, hQ⟩ : ∃ Q, Q = MQ below (va_Qi (fun (r : Int32) (u : Unit) => post r) (fun u t => va_P (dC, dI) clZ (wN cI cL cZ q A D G K N P T) t.heap) (aN q)) ([.int a0]).toArray s 0 0 (aN q) := ⟨_, rfl⟩
  rw [← hQ]
  rw [wp_N_isKey] at hwp
  refine lv_iload_n hx hb d_N_isKey_0 rfl (lv_at hl 0 rfl) ?_
  refine lv_if_lt (tgt := 14) hx hb d_N_isKey_1 (by decide) (fun hc => ?_) (fun hc => ?_)
  · rw [if_pos hc] at hwp
    refine lv_iconst (v := 0) hx hb d_N_isKey_14 (by decide) ?_
    rw [hQ]
    exact W.zret (v := 0) hx hb hr rfl (fun t ht hW => ⟨⟨0, (), rfl, hwp, hp_of ht hP⟩, hS.F ht⟩) hS.2.2 d_N_isKey_15
  · rw [if_neg hc] at hwp
    refine lv_iload_n hx hb d_N_isKey_4 rfl (lv_at hl 0 rfl) ?_
    refine lv_bipush (v := 32) hx hb d_N_isKey_5 (by decide) ?_
    refine lv_icmp_ge (tgt := 14) hx hb d_N_isKey_7 (by decide) (fun hc => ?_) (fun hc => ?_)
    · rw [if_pos hc] at hwp
      refine lv_iconst (v := 0) hx hb d_N_isKey_14 (by decide) ?_
      rw [hQ]
      exact W.zret (v := 0) hx hb hr rfl (fun t ht hW => ⟨⟨0, (), rfl, hwp, hp_of ht hP⟩, hS.F ht⟩) hS.2.2 d_N_isKey_15
    · rw [if_neg hc] at hwp
      refine lv_iconst (v := 1) hx hb d_N_isKey_10 (by decide) ?_
      refine lv_goto hx hb d_N_isKey_11 (tgt := 15) (by decide) ?_
      rw [hQ]
      exact W.zret (v := 1) hx hb hr rfl (fun t ht hW => ⟨⟨1, (), rfl, hwp, hp_of ht hP⟩, hS.F ht⟩) hS.2.2 d_N_isKey_15

set_option maxHeartbeats 4000000 in
set_option maxRecDepth 100000 in
theorem c_N_refusalOf {l : Launch} {dC : Nat → ClassId} {dI : Nat → Nat → Nat} {cI cL cZ : ClassId} {q : Nat → Nat} (hq : iN q) (A : S_A) (D : S_D) (G : S_G) (K : S_K) (N : S_N) (P : S_P) (T : S_T) (a1 : Int32) (post : Int32 → Prop) (hwp : wp_N_refusalOf T a1 post) : Met l y_N_refusalOf ws_N_refusalOf rm_N_refusalOf (va_Pc [.ref (q 0), .int a1] (bN dC dI cI cL cZ q A D G K N P T)) (va_Qi (fun (r : Int32) (u : Unit) => post r) (fun u t => va_P (dC, dI) clZ (wN cI cL cZ q A D G K N P T) t.heap) (aN q)) 0 0 (aN q) := by
  refine Met.ofW (cc := b_N_refusalOf) (maxL := 2) (ret := (some .int)) (by decide) rfl ?_
  intro p e s m args below meth c s₁ B hml hv
  obtain ⟨rfl, hP, hK⟩ := hv
  have hx := B.exec
  have hb := B.bytes
  have hr := B.returns
  have hts := atoms_spec (ws := ws_N_refusalOf) B.pre
  have hown : s.vm.findClass R_N = some m.cls := findClass_of_methodNamed B.named
  have hlocks := B.notSynchronized
  have hiN : ∀ w ∈ u_ws R_N F_N 7, w ∈ ws_N_refusalOf := fun w h => List.mem_cons_of_mem _ (in_N w h)
  have lk12 := hts _ (List.mem_cons_of_mem _ k_N_12)
  have hS : va_S (aN q) s.heap s.heap [] := va_S.rf
  have hl := lv_entry ([.ref (q 0), .int a1]) (n := 2) (Nat.le_of_ble_eq_true rfl)
  rw [lg_entry_eq]
  generalize (lg_sl ([.ref (q 0), .int a1]) ++ List.replicate (2 - (lg_sl ([.ref (q 0), .int a1])).length) Slot.unset).toArray = ls at hl ⊢
  have hl : lv_has ls 2 [(0, .ref (q 0)), (1, .int a1)] := hl
  obtain ⟨Q, hQ⟩ : ∃ Q, Q = MQ below (va_Qi (fun (r : Int32) (u : Unit) => post r) (fun u t => va_P (dC, dI) clZ (wN cI cL cZ q A D G K N P T) t.heap) (aN q)) ([.ref (q 0), .int a1]).toArray s 0 0 (aN q) := ⟨_, rfl⟩
  rw [← hQ]
  rw [wp_N_refusalOf] at hwp
  refine lv_aload_n hx hb d_N_refusalOf_0 rfl (lv_at hl 0 rfl) ?_
  refine va_get (D := (dC, dI)) (ci := 0) (v := .ref (q 1)) (C := R_N) (T := F_N) (N := 7) hx hb hts hiN hown hK hP 0 rfl rfl 0 (by decide) lk12 (fun _ h9 => h9) rfl d_N_refusalOf_1 ?_
  refine lv_iload_n hx hb d_N_refusalOf_4 rfl (lv_at hl 1 rfl) ?_
  refine ncn_i (As := [.int a1]) (c_T_isActive hq (A) (D) (G) (K) (N) (P) (T) (a1) _ hwp) (cwV 1 hts g_N_62 rfl rfl rfl hd_T_isActive ⟨Nat.le_of_ble_eq_true rfl, Nat.le_of_ble_eq_true rfl⟩) hx hb hml hown hts hK hP hS hl.1 d_N_refusalOf_5 (va_recv (q := (R_T, F_T, 11)) hK hP (ci := 1) (q0 := 1) rfl rfl) rfl (lv_room (Nat.le_of_ble_eq_true rfl)) (Nat.zero_le _) (Nat.zero_le _) rfl (fun r1 u H locs hwp hP hS => ?_)
  have hP : va_P (dC, dI) clZ (wN cI cL cZ q A D G K N P T) H := hP
  refine lv_if_ne (tgt := 13) hx hb d_N_refusalOf_8 (by decide) (fun hc => ?_) (fun hc => ?_)
  · rw [if_neg hc] at hwp
    refine lv_aload_n hx hb d_N_refusalOf_13 rfl (lv_at hl 0 rfl) ?_
    refine va_get (D := (dC, dI)) (ci := 0) (v := .ref (q 1)) (C := R_N) (T := F_N) (N := 7) hx hb hts hiN hown hK hP 0 rfl rfl 0 (by decide) lk12 (fun _ h9 => h9) rfl d_N_refusalOf_14 ?_
    refine lv_iload_n hx hb d_N_refusalOf_17 rfl (lv_at hl 1 rfl) ?_
    refine ncn_i (As := [.int a1]) (c_T_isBusy hq (A) (D) (G) (K) (N) (P) (T) (a1) _ hwp) (cwV 1 hts g_N_131 rfl rfl rfl hd_T_isBusy ⟨Nat.le_of_ble_eq_true rfl, Nat.le_of_ble_eq_true rfl⟩) hx hb hml hown hts hK hP hS hl.1 d_N_refusalOf_18 (va_recv (q := (R_T, F_T, 11)) hK hP (ci := 1) (q0 := 1) rfl rfl) rfl (lv_room (Nat.le_of_ble_eq_true rfl)) (Nat.zero_le _) (Nat.zero_le _) rfl (fun r2 u H locs hwp hP hS => ?_)
    have hP : va_P (dC, dI) clZ (wN cI cL cZ q A D G K N P T) H := hP
    refine lv_if_eq (tgt := 29) hx hb d_N_refusalOf_21 (by decide) (fun hc => ?_) (fun hc => ?_)
    · rw [if_pos hc] at hwp
      refine lv_iconst (v := 0) hx hb d_N_refusalOf_29 (by decide) ?_
      rw [hQ]
      exact W.iret (v := 0) hx hb hr (fun t ht hW => ⟨⟨0, (), rfl, hwp, hp_of ht hP⟩, hS.F ht⟩) hS.2.2 d_N_refusalOf_30
    · rw [if_neg hc] at hwp
      refine lv_bipush (v := (-4)) hx hb d_N_refusalOf_24 (by decide) ?_
      refine lv_goto hx hb d_N_refusalOf_26 (tgt := 30) (by decide) ?_
      rw [hQ]
      exact W.iret (v := (-4)) hx hb hr (fun t ht hW => ⟨⟨(-4), (), rfl, hwp, hp_of ht hP⟩, hS.F ht⟩) hS.2.2 d_N_refusalOf_30
  · rw [if_pos hc] at hwp
    refine lv_iconst (v := (-1)) hx hb d_N_refusalOf_11 (by decide) ?_
    rw [hQ]
    exact W.iret (v := (-1)) hx hb hr (fun t ht hW => ⟨⟨(-1), (), rfl, hwp, hp_of ht hP⟩, hS.F ht⟩) hS.2.2 d_N_refusalOf_12

set_option maxHeartbeats 4000000 in
set_option maxRecDepth 100000 in
theorem c_N_prepare {l : Launch} {dC : Nat → ClassId} {dI : Nat → Nat → Nat} {cI cL cZ : ClassId} {q : Nat → Nat} (hq : iN q) (A : S_A) (D : S_D) (G : S_G) (K : S_K) (N : S_N) (P : S_P) (T : S_T) (a1 : Int32) (a2 : Int32) (a3 : Int32) (a4 : Int32) (a5 : Int32) (post : Int32 → S_T → Prop) (hwp : wp_N_prepare T a1 a2 a3 a4 a5 post) : Met l y_N_prepare ws_N_prepare rm_N_prepare (va_Pc [.ref (q 0), .int a1, .int a2, .int a3, .int a4, .int a5] (bN dC dI cI cL cZ q A D G K N P T)) (va_Qi (fun (r : Int32) (u : S_T) => post r u) (fun u t => va_P (dC, dI) clZ (wN cI cL cZ q A D G K N P (u)) t.heap) (aN q)) 0 0 (aN q) := by
  refine Met.ofW (cc := b_N_prepare) (maxL := 7) (ret := (some .int)) (by decide) rfl ?_
  intro p e s m args below meth c s₁ B hml hv
  obtain ⟨rfl, hP, hK⟩ := hv
  have hx := B.exec
  have hb := B.bytes
  have hr := B.returns
  have hts := atoms_spec (ws := ws_N_prepare) B.pre
  have hown : s.vm.findClass R_N = some m.cls := findClass_of_methodNamed B.named
  have hlocks := B.notSynchronized
  have hiN : ∀ w ∈ u_ws R_N F_N 7, w ∈ ws_N_prepare := fun w h => List.mem_cons_of_mem _ (in_N w h)
  have lk12 := hts _ (List.mem_cons_of_mem _ k_N_12)
  have hS : va_S (aN q) s.heap s.heap [] := va_S.rf
  have hl := lv_entry ([.ref (q 0), .int a1, .int a2, .int a3, .int a4, .int a5]) (n := 7) (Nat.le_of_ble_eq_true rfl)
  rw [lg_entry_eq]
  generalize (lg_sl ([.ref (q 0), .int a1, .int a2, .int a3, .int a4, .int a5]) ++ List.replicate (7 - (lg_sl ([.ref (q 0), .int a1, .int a2, .int a3, .int a4, .int a5])).length) Slot.unset).toArray = ls at hl ⊢
  have hl : lv_has ls 7 [(0, .ref (q 0)), (1, .int a1), (2, .int a2), (3, .int a3), (4, .int a4), (5, .int a5)] := hl
  obtain ⟨Q, hQ⟩ : ∃ Q, Q = MQ below (va_Qi (fun (r : Int32) (u : S_T) => post r u) (fun u t => va_P (dC, dI) clZ (wN cI cL cZ q A D G K N P (u)) t.heap) (aN q)) ([.ref (q 0), .int a1, .int a2, .int a3, .int a4, .int a5]).toArray s 0 0 (aN q) := ⟨_, rfl⟩
  rw [← hQ]
  rw [wp_N_prepare] at hwp
  refine lv_iload_n hx hb d_N_prepare_0 rfl (lv_at hl 3 rfl) ?_
  refine ncs_i (As := [.int a3]) (c_N_isKey hq (A) (D) (G) (K) (N) (P) (T) (a3) _ hwp) (cwS 1 hts g_N_219 rfl rfl rfl hd_N_isKey ⟨Nat.le_of_ble_eq_true rfl, Nat.le_of_ble_eq_true rfl⟩) hx hb hml hown hts hK hP hS hl.1 d_N_prepare_1 rfl (lv_room (Nat.le_of_ble_eq_true rfl)) (Nat.zero_le _) (Nat.zero_le _) rfl (fun r1 u H locs hwp hP hS => ?_)
  have hP : va_P (dC, dI) clZ (wN cI cL cZ q A D G K N P T) H := hP
  refine lv_if_eq (tgt := 21) hx hb d_N_prepare_4 (by decide) (fun hc => ?_) (fun hc => ?_)
  · rw [if_pos hc] at hwp
    refine lv_iconst (v := (-1)) hx hb d_N_prepare_21 (by decide) ?_
    rw [hQ]
    exact W.iret (v := (-1)) hx hb hr (fun t ht hW => ⟨⟨(-1), T, rfl, hwp, hp_of ht hP⟩, hS.F ht⟩) hS.2.2 d_N_prepare_22
  · rw [if_neg hc] at hwp
    refine lv_iload hx hb d_N_prepare_7 (lv_at hl 4 rfl) ?_
    refine ncs_i (As := [.int a4]) (c_N_isKey hq (A) (D) (G) (K) (N) (P) (T) (a4) _ hwp) (cwS 1 hts g_N_219 rfl rfl rfl hd_N_isKey ⟨Nat.le_of_ble_eq_true rfl, Nat.le_of_ble_eq_true rfl⟩) hx hb hml hown hts hK hP hS hl.1 d_N_prepare_9 rfl (lv_room (Nat.le_of_ble_eq_true rfl)) (Nat.zero_le _) (Nat.zero_le _) rfl (fun r2 u H locs hwp hP hS => ?_)
    have hP : va_P (dC, dI) clZ (wN cI cL cZ q A D G K N P T) H := hP
    refine lv_if_eq (tgt := 21) hx hb d_N_prepare_12 (by decide) (fun hc => ?_) (fun hc => ?_)
    · rw [if_pos hc] at hwp
      refine lv_iconst (v := (-1)) hx hb d_N_prepare_21 (by decide) ?_
      rw [hQ]
      exact W.iret (v := (-1)) hx hb hr (fun t ht hW => ⟨⟨(-1), T, rfl, hwp, hp_of ht hP⟩, hS.F ht⟩) hS.2.2 d_N_prepare_22
    · rw [if_neg hc] at hwp
      refine lv_iload_n hx hb d_N_prepare_15 rfl (lv_at hl 3 rfl) ?_
      refine lv_iload hx hb d_N_prepare_16 (lv_at hl 4 rfl) ?_
      refine lv_icmp_le (tgt := 23) hx hb d_N_prepare_18 (by decide) (fun hc => ?_) (fun hc => ?_)
      · rw [if_pos hc] at hwp
        refine lv_aload_n hx hb d_N_prepare_23 rfl (lv_at hl 0 rfl) ?_
        refine lv_iload_n hx hb d_N_prepare_24 rfl (lv_at hl 1 rfl) ?_
        refine ncn_i (As := [.int a1]) (c_N_refusalOf hq (A) (D) (G) (K) (N) (P) (T) (a1) _ hwp) (cwV 1 hts g_N_103 rfl rfl rfl hd_N_refusalOf ⟨Nat.le_of_ble_eq_true rfl, Nat.le_of_ble_eq_true rfl⟩) hx hb hml hown hts hK hP hS hl.1 d_N_prepare_25 (va_recv (q := (R_N, F_N, 7)) hK hP (ci := 0) (q0 := 0) rfl rfl) rfl (lv_room (Nat.le_of_ble_eq_true rfl)) (Nat.zero_le _) (Nat.zero_le _) rfl (fun r3 u H locs hwp hP hS => ?_)
        have hP : va_P (dC, dI) clZ (wN cI cL cZ q A D G K N P T) H := hP
        refine lv_istore (lv' := [(6, .int r3), (0, .ref (q 0)), (1, .int a1), (2, .int a2), (3, .int a3), (4, .int a4), (5, .int a5)]) hx hb d_N_prepare_28 hl (by decide) rfl (fun ls hl => ?_)
        refine lv_iload hx hb d_N_prepare_30 (lv_at hl 0 rfl) ?_
        refine lv_if_ne (tgt := 49) hx hb d_N_prepare_32 (by decide) (fun hc => ?_) (fun hc => ?_)
        · rw [if_neg hc] at hwp
          refine lv_iload hx hb d_N_prepare_49 (lv_at hl 0 rfl) ?_
          rw [hQ]
          exact W.iret (v := r3) hx hb hr (fun t ht hW => ⟨⟨r3, T, rfl, hwp, hp_of ht hP⟩, hS.F ht⟩) hS.2.2 d_N_prepare_51
        · rw [if_pos hc] at hwp
          refine lv_aload_n hx hb d_N_prepare_35 rfl (lv_at hl 1 rfl) ?_
          refine va_get (D := (dC, dI)) (ci := 0) (v := .ref (q 1)) (C := R_N) (T := F_N) (N := 7) hx hb hts hiN hown hK hP 0 rfl rfl 0 (by decide) lk12 (fun _ h9 => h9) rfl d_N_prepare_36 ?_
          refine lv_iload_n hx hb d_N_prepare_39 rfl (lv_at hl 2 rfl) ?_
          refine lv_iload_n hx hb d_N_prepare_40 rfl (lv_at hl 3 rfl) ?_
          refine lv_iload_n hx hb d_N_prepare_41 rfl (lv_at hl 4 rfl) ?_
          refine lv_iload hx hb d_N_prepare_42 (lv_at hl 5 rfl) ?_
          refine lv_iload hx hb d_N_prepare_44 (lv_at hl 6 rfl) ?_
          refine ncn_v (As := [.int a1, .int a2, .int a3, .int a4, .int a5]) (c_T_setRequest hq (A) (D) (G) (K) (N) (P) (T) (a1) (a2) (a3) (a4) (a5) _ hwp) (cwV 5 hts g_N_243 rfl rfl rfl hd_T_setRequest ⟨Nat.le_of_ble_eq_true rfl, Nat.le_of_ble_eq_true rfl⟩) hx hb hml hown hts hK hP hS hl.1 d_N_prepare_46 (va_recv (q := (R_T, F_T, 11)) hK hP (ci := 1) (q0 := 1) rfl rfl) rfl (lv_room (Nat.le_of_ble_eq_true rfl)) (Nat.zero_le _) (Nat.zero_le _) rfl (fun T4 H locs hwp hP hS => ?_)
          have hP : va_P (dC, dI) clZ (wN cI cL cZ q A D G K N P T4) H := hP
          refine lv_iload hx hb d_N_prepare_49 (lv_at hl 0 rfl) ?_
          rw [hQ]
          exact W.iret (v := r3) hx hb hr (fun t ht hW => ⟨⟨r3, T4, rfl, hwp, hp_of ht hP⟩, hS.F ht⟩) hS.2.2 d_N_prepare_51
      · rw [if_neg hc] at hwp
        refine lv_iconst (v := (-1)) hx hb d_N_prepare_21 (by decide) ?_
        rw [hQ]
        exact W.iret (v := (-1)) hx hb hr (fun t ht hW => ⟨⟨(-1), T, rfl, hwp, hp_of ht hP⟩, hS.F ht⟩) hS.2.2 d_N_prepare_22

set_option maxHeartbeats 4000000 in
set_option maxRecDepth 100000 in
theorem c_N_planLocks {l : Launch} {dC : Nat → ClassId} {dI : Nat → Nat → Nat} {cI cL cZ : ClassId} {q : Nat → Nat} (hq : iN q) (A : S_A) (D : S_D) (G : S_G) (K : S_K) (N : S_N) (P : S_P) (T : S_T) (a1 : Int32) (post : S_P → Prop) (hwp : wp_N_planLocks A P T a1 post) : Met l y_N_planLocks ws_N_planLocks rm_N_planLocks (va_Pc [.ref (q 0), .int a1] (bN dC dI cI cL cZ q A D G K N P T)) (va_Qv (fun (u : S_P) => post u) (fun u t => va_P (dC, dI) clZ (wN cI cL cZ q A D G K N (u) T) t.heap) (aN q)) 0 0 (aN q) := by
  refine Met.ofW (cc := b_N_planLocks) (maxL := 6) (ret := none) (by decide) rfl ?_
  intro p e s m args below meth c s₁ B hml hv
  obtain ⟨rfl, hP, hK⟩ := hv
  have hx := B.exec
  have hb := B.bytes
  have hr := B.returns
  have hts := atoms_spec (ws := ws_N_planLocks) B.pre
  have hown : s.vm.findClass R_N = some m.cls := findClass_of_methodNamed B.named
  have hlocks := B.notSynchronized
  have hiN : ∀ w ∈ u_ws R_N F_N 7, w ∈ ws_N_planLocks := fun w h => List.mem_cons_of_mem _ (in_N w h)
  have hiA : ∀ w ∈ u_ws R_A F_A 10, w ∈ ws_N_planLocks := fun w h => List.mem_cons_of_mem _ (in_A w h)
  have hiT : ∀ w ∈ u_ws R_T F_T 11, w ∈ ws_N_planLocks := fun w h => List.mem_cons_of_mem _ (in_T w h)
  have lk12 := hts _ (List.mem_cons_of_mem _ k_N_12)
  have lk26 := hts _ (List.mem_cons_of_mem _ k_N_26)
  have lk58 := hts _ (List.mem_cons_of_mem _ k_N_58)
  have lk222 := hts _ (List.mem_cons_of_mem _ k_N_222)
  have lk281 := hts _ (List.mem_cons_of_mem _ k_N_281)
  have lk284 := hts _ (List.mem_cons_of_mem _ k_N_284)
  have lk287 := hts _ (List.mem_cons_of_mem _ k_N_287)
  have hS : va_S (aN q) s.heap s.heap [] := va_S.rf
  have hl := lv_entry ([.ref (q 0), .int a1]) (n := 6) (Nat.le_of_ble_eq_true rfl)
  rw [lg_entry_eq]
  generalize (lg_sl ([.ref (q 0), .int a1]) ++ List.replicate (6 - (lg_sl ([.ref (q 0), .int a1])).length) Slot.unset).toArray = ls at hl ⊢
  have hl : lv_has ls 6 [(0, .ref (q 0)), (1, .int a1)] := hl
  obtain ⟨Q, hQ⟩ : ∃ Q, Q = MQ below (va_Qv (fun (u : S_P) => post u) (fun u t => va_P (dC, dI) clZ (wN cI cL cZ q A D G K N (u) T) t.heap) (aN q)) ([.ref (q 0), .int a1]).toArray s 0 0 (aN q) := ⟨_, rfl⟩
  rw [← hQ]
  have L201 : ∀ (Kx : S_P → Prop) (v3 : Int32) (n : Nat) (v5 : Int32) (P : S_P) (H : Heap) (locs : List Loc) (ls : Array Slot), lv_has ls 6 [(0, .ref (q 0)), (3, .int v3), (5, .int v5)] → va_P (dC, dI) clZ (wN cI cL cZ q A D G K N P T) H → va_S (aN q) s.heap H locs → wp_N_planLocks_L201 A v3 Kx n v5 P → (∀ (P1 : S_P) (H : Heap) (locs : List Loc) (ls : Array Slot), lv_has ls 6 [(0, .ref (q 0)), (3, .int v3)] → va_P (dC, dI) clZ (wN cI cL cZ q A D G K N P1 T) H → va_S (aN q) s.heap H locs → Kx P1 → W p l e (headSpec ws_N_planLocks rm_N_planLocks).room s m ([.ref (q 0), .int a1]).toArray below meth c H locs 0 0 Q (F0 m 235 ls [])) → W p l e (headSpec ws_N_planLocks rm_N_planLocks).room s m ([.ref (q 0), .int a1]).toArray below meth c H locs 0 0 Q (F0 m 201 ls []) := by
    intro Kx v3 n
    induction n with
    | zero =>
      intros
      rename_i hwp _
      exact hwp.elim
    | succ n201 ih =>
      intro v5 P H locs ls hl hP hS hwp hX
      rw [wp_N_planLocks_L201] at hwp
      refine lv_iload hx hb d_N_planLocks_201 (lv_at hl 2 rfl) ?_
      refine lv_iload_n hx hb d_N_planLocks_203 rfl (lv_at hl 1 rfl) ?_
      refine lv_icmp_gt (tgt := 235) hx hb d_N_planLocks_204 (by decide) (fun hc => ?_) (fun hc => ?_)
      · rw [if_pos hc] at hwp
        exact hX (P) _ _ _ (lv_sub hl [0, 1] rfl) hP hS hwp
      · rw [if_neg hc] at hwp
        refine lv_aload_n hx hb d_N_planLocks_207 rfl (lv_at hl 0 rfl) ?_
        refine va_get (D := (dC, dI)) (ci := 0) (v := .ref (q 6)) (C := R_N) (T := F_N) (N := 7) hx hb hts hiN hown hK hP 0 rfl rfl 5 (by decide) lk58 (fun _ h9 => h9) rfl d_N_planLocks_208 ?_
        refine va_get (D := (dC, dI)) (ci := 6) (v := .ref (q 33)) (C := R_A) (T := F_A) (N := 10) hx hb hts hiA hown hK hP 6 rfl rfl 5 (by decide) lk222 (fun _ h9 => h9) rfl d_N_planLocks_211 ?_
        refine lv_iload hx hb d_N_planLocks_214 (lv_at hl 2 rfl) ?_
        refine va_zald hx hb hK hP 33 2 rfl rfl hwp.1 d_N_planLocks_216 ?_
        have hwp := hwp.2
        refine lv_if_eq (tgt := 229) hx hb d_N_planLocks_217 (by decide) (fun hc => ?_) (fun hc => ?_)
        · rw [if_pos hc] at hwp
          refine lv_iinc (k := 2) (v := (v5 + 1)) (lv' := [(5, .int (v5 + 1)), (0, .ref (q 0)), (3, .int v3)]) hx hb d_N_planLocks_229 hl rfl (ii_1 _) (by decide) rfl (fun ls hl => ?_)
          refine lv_goto hx hb d_N_planLocks_232 (tgt := 201) (by decide) ?_
          exact ih ((v5 + 1)) (P) _ _ _ (lv_sub hl [1, 2, 0] rfl) hP hS hwp hX
        · rw [if_neg hc] at hwp
          refine lv_aload_n hx hb d_N_planLocks_220 rfl (lv_at hl 0 rfl) ?_
          refine va_get (D := (dC, dI)) (ci := 0) (v := .ref (q 3)) (C := R_N) (T := F_N) (N := 7) hx hb hts hiN hown hK hP 0 rfl rfl 2 (by decide) lk26 (fun _ h9 => h9) rfl d_N_planLocks_221 ?_
          refine lv_iload hx hb d_N_planLocks_224 (lv_at hl 2 rfl) ?_
          refine ncn_v (As := [.int v5]) (c_P_add hq (A) (D) (G) (K) (N) (P) (T) (v5) _ hwp) (cwV 1 hts g_N_294 rfl rfl rfl hd_P_add ⟨Nat.le_of_ble_eq_true rfl, Nat.le_of_ble_eq_true rfl⟩) hx hb hml hown hts hK hP hS hl.1 d_N_planLocks_226 (va_recv (q := (R_P, F_P, 3)) hK hP (ci := 3) (q0 := 3) rfl rfl) rfl (lv_room (Nat.le_of_ble_eq_true rfl)) (Nat.zero_le _) (Nat.zero_le _) rfl (fun P16 H locs hwp hP hS => ?_)
          have hP : va_P (dC, dI) clZ (wN cI cL cZ q A D G K N P16 T) H := hP
          refine lv_iinc (k := 2) (v := (v5 + 1)) (lv' := [(5, .int (v5 + 1)), (0, .ref (q 0)), (3, .int v3)]) hx hb d_N_planLocks_229 hl rfl (ii_1 _) (by decide) rfl (fun ls hl => ?_)
          refine lv_goto hx hb d_N_planLocks_232 (tgt := 201) (by decide) ?_
          exact ih ((v5 + 1)) (P16) _ _ _ (lv_sub hl [1, 2, 0] rfl) hP hS hwp hX
  rw [wp_N_planLocks] at hwp
  refine lv_aload_n hx hb d_N_planLocks_0 rfl (lv_at hl 0 rfl) ?_
  refine va_get (D := (dC, dI)) (ci := 0) (v := .ref (q 1)) (C := R_N) (T := F_N) (N := 7) hx hb hts hiN hown hK hP 0 rfl rfl 0 (by decide) lk12 (fun _ h9 => h9) rfl d_N_planLocks_1 ?_
  refine va_get (D := (dC, dI)) (ci := 1) (v := .ref (q 14)) (C := R_T) (T := F_T) (N := 11) hx hb hts hiT hown hK hP 1 rfl rfl 8 (by decide) lk281 (fun _ h9 => h9) rfl d_N_planLocks_4 ?_
  refine lv_iload_n hx hb d_N_planLocks_7 rfl (lv_at hl 1 rfl) ?_
  refine va_iald hx hb hK hP 14 0 rfl rfl hwp.1 d_N_planLocks_8 ?_
  have hwp := hwp.2
  refine lv_istore_n (lv' := [(2, .int ((T_low T) (Int32.toNatClampNeg a1))), (0, .ref (q 0)), (1, .int a1)]) hx hb d_N_planLocks_9 rfl hl (by decide) rfl (fun ls hl => ?_)
  refine lv_aload_n hx hb d_N_planLocks_10 rfl (lv_at hl 1 rfl) ?_
  refine va_get (D := (dC, dI)) (ci := 0) (v := .ref (q 1)) (C := R_N) (T := F_N) (N := 7) hx hb hts hiN hown hK hP 0 rfl rfl 0 (by decide) lk12 (fun _ h9 => h9) rfl d_N_planLocks_11 ?_
  refine va_get (D := (dC, dI)) (ci := 1) (v := .ref (q 15)) (C := R_T) (T := F_T) (N := 11) hx hb hts hiT hown hK hP 1 rfl rfl 9 (by decide) lk284 (fun _ h9 => h9) rfl d_N_planLocks_14 ?_
  refine lv_iload_n hx hb d_N_planLocks_17 rfl (lv_at hl 2 rfl) ?_
  refine va_iald hx hb hK hP 15 0 rfl rfl hwp.1 d_N_planLocks_18 ?_
  have hwp := hwp.2
  refine lv_istore_n (lv' := [(3, .int ((T_high T) (Int32.toNatClampNeg a1))), (2, .int ((T_low T) (Int32.toNatClampNeg a1))), (0, .ref (q 0)), (1, .int a1)]) hx hb d_N_planLocks_19 rfl hl (by decide) rfl (fun ls hl => ?_)
  refine lv_aload_n hx hb d_N_planLocks_20 rfl (lv_at hl 2 rfl) ?_
  refine va_get (D := (dC, dI)) (ci := 0) (v := .ref (q 6)) (C := R_N) (T := F_N) (N := 7) hx hb hts hiN hown hK hP 0 rfl rfl 5 (by decide) lk58 (fun _ h9 => h9) rfl d_N_planLocks_21 ?_
  refine va_get (D := (dC, dI)) (ci := 6) (v := .ref (q 33)) (C := R_A) (T := F_A) (N := 10) hx hb hts hiA hown hK hP 6 rfl rfl 5 (by decide) lk222 (fun _ h9 => h9) rfl d_N_planLocks_24 ?_
  refine lv_iload_n hx hb d_N_planLocks_27 rfl (lv_at hl 1 rfl) ?_
  refine va_zald hx hb hK hP 33 2 rfl rfl hwp.1 d_N_planLocks_28 ?_
  have hwp := hwp.2
  refine lv_istore (lv' := [(4, .int ((A_there A) (Int32.toNatClampNeg ((T_low T) (Int32.toNatClampNeg a1))))), (3, .int ((T_high T) (Int32.toNatClampNeg a1))), (2, .int ((T_low T) (Int32.toNatClampNeg a1))), (0, .ref (q 0)), (1, .int a1)]) hx hb d_N_planLocks_29 hl (by decide) rfl (fun ls hl => ?_)
  refine lv_aload_n hx hb d_N_planLocks_31 rfl (lv_at hl 3 rfl) ?_
  refine va_get (D := (dC, dI)) (ci := 0) (v := .ref (q 1)) (C := R_N) (T := F_N) (N := 7) hx hb hts hiN hown hK hP 0 rfl rfl 0 (by decide) lk12 (fun _ h9 => h9) rfl d_N_planLocks_32 ?_
  refine va_get (D := (dC, dI)) (ci := 1) (v := .ref (q 13)) (C := R_T) (T := F_T) (N := 11) hx hb hts hiT hown hK hP 1 rfl rfl 7 (by decide) lk287 (fun _ h9 => h9) rfl d_N_planLocks_35 ?_
  refine lv_iload_n hx hb d_N_planLocks_38 rfl (lv_at hl 4 rfl) ?_
  refine va_iald hx hb hK hP 13 0 rfl rfl hwp.1 d_N_planLocks_39 ?_
  have hwp := hwp.2
  by_cases hc0 : ((T_kind T) (Int32.toNatClampNeg a1)) = 0
  · rw [if_pos hc0] at hwp
    refine lv_tableIn (tgt := 68) hx hb d_N_planLocks_40 (by rw [hc0]; decide) (by rw [hc0]; decide) (by rw [hc0]; rfl) (by decide) ?_
    refine lv_aload_n hx hb d_N_planLocks_68 rfl (lv_at hl 3 rfl) ?_
    refine va_get (D := (dC, dI)) (ci := 0) (v := .ref (q 3)) (C := R_N) (T := F_N) (N := 7) hx hb hts hiN hown hK hP 0 rfl rfl 2 (by decide) lk26 (fun _ h9 => h9) rfl d_N_planLocks_69 ?_
    refine lv_iconst (v := 1) hx hb d_N_planLocks_72 (by decide) ?_
    refine ncn_v (As := [.int 1]) (c_P_start hq (A) (D) (G) (K) (N) (P) (T) (1) _ hwp) (cwV 1 hts g_N_288 rfl rfl rfl hd_P_start ⟨Nat.le_of_ble_eq_true rfl, Nat.le_of_ble_eq_true rfl⟩) hx hb hml hown hts hK hP hS hl.1 d_N_planLocks_73 (va_recv (q := (R_P, F_P, 3)) hK hP (ci := 3) (q0 := 3) rfl rfl) rfl (lv_room (Nat.le_of_ble_eq_true rfl)) (Nat.zero_le _) (Nat.zero_le _) rfl (fun P1 H locs hwp hP hS => ?_)
    have hP : va_P (dC, dI) clZ (wN cI cL cZ q A D G K N P1 T) H := hP
    refine lv_aload_n hx hb d_N_planLocks_76 rfl (lv_at hl 3 rfl) ?_
    refine va_get (D := (dC, dI)) (ci := 0) (v := .ref (q 3)) (C := R_N) (T := F_N) (N := 7) hx hb hts hiN hown hK hP 0 rfl rfl 2 (by decide) lk26 (fun _ h9 => h9) rfl d_N_planLocks_77 ?_
    refine lv_iload hx hb d_N_planLocks_80 (lv_at hl 0 rfl) ?_
    refine lv_if_eq (tgt := 89) hx hb d_N_planLocks_82 (by decide) (fun hc => ?_) (fun hc => ?_)
    · rw [if_pos hc] at hwp
      refine lv_aload_n hx hb d_N_planLocks_89 rfl (lv_at hl 3 rfl) ?_
      refine va_get (D := (dC, dI)) (ci := 0) (v := .ref (q 6)) (C := R_N) (T := F_N) (N := 7) hx hb hts hiN hown hK hP 0 rfl rfl 5 (by decide) lk58 (fun _ h9 => h9) rfl d_N_planLocks_90 ?_
      refine lv_iload_n hx hb d_N_planLocks_93 rfl (lv_at hl 2 rfl) ?_
      refine ncn_i (As := [.int ((T_low T) (Int32.toNatClampNeg a1))]) (c_A_nextItem hq (A) (D) (G) (K) (N) (P1) (T) (((T_low T) (Int32.toNatClampNeg a1))) _ hwp) (cwV 1 hts g_N_291 rfl rfl rfl hd_A_nextItem ⟨Nat.le_of_ble_eq_true rfl, Nat.le_of_ble_eq_true rfl⟩) hx hb hml hown hts hK hP hS hl.1 d_N_planLocks_94 (va_recv (q := (R_A, F_A, 10)) hK hP (ci := 6) (q0 := 6) rfl rfl) rfl (lv_room (Nat.le_of_ble_eq_true rfl)) (Nat.zero_le _) (Nat.zero_le _) rfl (fun r2 u H locs hwp hP hS => ?_)
      have hP : va_P (dC, dI) clZ (wN cI cL cZ q A D G K N P1 T) H := hP
      refine ncn_v (As := [.int r2]) (c_P_add hq (A) (D) (G) (K) (N) (P1) (T) (r2) _ hwp) (cwV 1 hts g_N_294 rfl rfl rfl hd_P_add ⟨Nat.le_of_ble_eq_true rfl, Nat.le_of_ble_eq_true rfl⟩) hx hb hml hown hts hK hP hS hl.1 d_N_planLocks_97 (va_recv (q := (R_P, F_P, 3)) hK hP (ci := 3) (q0 := 3) rfl rfl) rfl (lv_room (Nat.le_of_ble_eq_true rfl)) (Nat.zero_le _) (Nat.zero_le _) rfl (fun P3 H locs hwp hP hS => ?_)
      have hP : va_P (dC, dI) clZ (wN cI cL cZ q A D G K N P3 T) H := hP
      refine lv_goto hx hb d_N_planLocks_100 (tgt := 250) (by decide) ?_
      rw [hQ]
      exact W.vret hx hb hr (fun t ht hW => ⟨⟨P3, rfl, hwp, hp_of ht hP⟩, hS.F ht⟩) hS.2.2 d_N_planLocks_250
    · rw [if_neg hc] at hwp
      refine lv_iload_n hx hb d_N_planLocks_85 rfl (lv_at hl 2 rfl) ?_
      refine lv_goto hx hb d_N_planLocks_86 (tgt := 97) (by decide) ?_
      refine ncn_v (As := [.int ((T_low T) (Int32.toNatClampNeg a1))]) (c_P_add hq (A) (D) (G) (K) (N) (P1) (T) (((T_low T) (Int32.toNatClampNeg a1))) _ hwp) (cwV 1 hts g_N_294 rfl rfl rfl hd_P_add ⟨Nat.le_of_ble_eq_true rfl, Nat.le_of_ble_eq_true rfl⟩) hx hb hml hown hts hK hP hS hl.1 d_N_planLocks_97 (va_recv (q := (R_P, F_P, 3)) hK hP (ci := 3) (q0 := 3) rfl rfl) rfl (lv_room (Nat.le_of_ble_eq_true rfl)) (Nat.zero_le _) (Nat.zero_le _) rfl (fun P4 H locs hwp hP hS => ?_)
      have hP : va_P (dC, dI) clZ (wN cI cL cZ q A D G K N P4 T) H := hP
      refine lv_goto hx hb d_N_planLocks_100 (tgt := 250) (by decide) ?_
      rw [hQ]
      exact W.vret hx hb hr (fun t ht hW => ⟨⟨P4, rfl, hwp, hp_of ht hP⟩, hS.F ht⟩) hS.2.2 d_N_planLocks_250
  rw [if_neg hc0] at hwp
  by_cases hc1 : ((T_kind T) (Int32.toNatClampNeg a1)) = 1
  · rw [if_pos hc1] at hwp
    refine lv_tableIn (tgt := 103) hx hb d_N_planLocks_40 (by rw [hc1]; decide) (by rw [hc1]; decide) (by rw [hc1]; rfl) (by decide) ?_
    refine lv_aload_n hx hb d_N_planLocks_103 rfl (lv_at hl 3 rfl) ?_
    refine va_get (D := (dC, dI)) (ci := 0) (v := .ref (q 3)) (C := R_N) (T := F_N) (N := 7) hx hb hts hiN hown hK hP 0 rfl rfl 2 (by decide) lk26 (fun _ h9 => h9) rfl d_N_planLocks_104 ?_
    refine lv_iconst (v := 2) hx hb d_N_planLocks_107 (by decide) ?_
    refine ncn_v (As := [.int 2]) (c_P_start hq (A) (D) (G) (K) (N) (P) (T) (2) _ hwp) (cwV 1 hts g_N_288 rfl rfl rfl hd_P_start ⟨Nat.le_of_ble_eq_true rfl, Nat.le_of_ble_eq_true rfl⟩) hx hb hml hown hts hK hP hS hl.1 d_N_planLocks_108 (va_recv (q := (R_P, F_P, 3)) hK hP (ci := 3) (q0 := 3) rfl rfl) rfl (lv_room (Nat.le_of_ble_eq_true rfl)) (Nat.zero_le _) (Nat.zero_le _) rfl (fun P5 H locs hwp hP hS => ?_)
    have hP : va_P (dC, dI) clZ (wN cI cL cZ q A D G K N P5 T) H := hP
    refine lv_iload hx hb d_N_planLocks_111 (lv_at hl 0 rfl) ?_
    refine lv_if_ne (tgt := 131) hx hb d_N_planLocks_113 (by decide) (fun hc => ?_) (fun hc => ?_)
    · rw [if_neg hc] at hwp
      refine lv_aload_n hx hb d_N_planLocks_131 rfl (lv_at hl 3 rfl) ?_
      refine va_get (D := (dC, dI)) (ci := 0) (v := .ref (q 3)) (C := R_N) (T := F_N) (N := 7) hx hb hts hiN hown hK hP 0 rfl rfl 2 (by decide) lk26 (fun _ h9 => h9) rfl d_N_planLocks_132 ?_
      refine lv_iload_n hx hb d_N_planLocks_135 rfl (lv_at hl 2 rfl) ?_
      refine ncn_v (As := [.int ((T_low T) (Int32.toNatClampNeg a1))]) (c_P_add hq (A) (D) (G) (K) (N) (P5) (T) (((T_low T) (Int32.toNatClampNeg a1))) _ hwp) (cwV 1 hts g_N_294 rfl rfl rfl hd_P_add ⟨Nat.le_of_ble_eq_true rfl, Nat.le_of_ble_eq_true rfl⟩) hx hb hml hown hts hK hP hS hl.1 d_N_planLocks_136 (va_recv (q := (R_P, F_P, 3)) hK hP (ci := 3) (q0 := 3) rfl rfl) rfl (lv_room (Nat.le_of_ble_eq_true rfl)) (Nat.zero_le _) (Nat.zero_le _) rfl (fun P6 H locs hwp hP hS => ?_)
      have hP : va_P (dC, dI) clZ (wN cI cL cZ q A D G K N P6 T) H := hP
      refine lv_goto hx hb d_N_planLocks_139 (tgt := 250) (by decide) ?_
      rw [hQ]
      exact W.vret hx hb hr (fun t ht hW => ⟨⟨P6, rfl, hwp, hp_of ht hP⟩, hS.F ht⟩) hS.2.2 d_N_planLocks_250
    · rw [if_pos hc] at hwp
      refine lv_aload_n hx hb d_N_planLocks_116 rfl (lv_at hl 3 rfl) ?_
      refine va_get (D := (dC, dI)) (ci := 0) (v := .ref (q 3)) (C := R_N) (T := F_N) (N := 7) hx hb hts hiN hown hK hP 0 rfl rfl 2 (by decide) lk26 (fun _ h9 => h9) rfl d_N_planLocks_117 ?_
      refine lv_aload_n hx hb d_N_planLocks_120 rfl (lv_at hl 3 rfl) ?_
      refine va_get (D := (dC, dI)) (ci := 0) (v := .ref (q 6)) (C := R_N) (T := F_N) (N := 7) hx hb hts hiN hown hK hP 0 rfl rfl 5 (by decide) lk58 (fun _ h9 => h9) rfl d_N_planLocks_121 ?_
      refine lv_iload_n hx hb d_N_planLocks_124 rfl (lv_at hl 2 rfl) ?_
      refine ncn_i (As := [.int ((T_low T) (Int32.toNatClampNeg a1))]) (c_A_nextItem hq (A) (D) (G) (K) (N) (P5) (T) (((T_low T) (Int32.toNatClampNeg a1))) _ hwp) (cwV 1 hts g_N_291 rfl rfl rfl hd_A_nextItem ⟨Nat.le_of_ble_eq_true rfl, Nat.le_of_ble_eq_true rfl⟩) hx hb hml hown hts hK hP hS hl.1 d_N_planLocks_125 (va_recv (q := (R_A, F_A, 10)) hK hP (ci := 6) (q0 := 6) rfl rfl) rfl (lv_room (Nat.le_of_ble_eq_true rfl)) (Nat.zero_le _) (Nat.zero_le _) rfl (fun r7 u H locs hwp hP hS => ?_)
      have hP : va_P (dC, dI) clZ (wN cI cL cZ q A D G K N P5 T) H := hP
      refine ncn_v (As := [.int r7]) (c_P_add hq (A) (D) (G) (K) (N) (P5) (T) (r7) _ hwp) (cwV 1 hts g_N_294 rfl rfl rfl hd_P_add ⟨Nat.le_of_ble_eq_true rfl, Nat.le_of_ble_eq_true rfl⟩) hx hb hml hown hts hK hP hS hl.1 d_N_planLocks_128 (va_recv (q := (R_P, F_P, 3)) hK hP (ci := 3) (q0 := 3) rfl rfl) rfl (lv_room (Nat.le_of_ble_eq_true rfl)) (Nat.zero_le _) (Nat.zero_le _) rfl (fun P8 H locs hwp hP hS => ?_)
      have hP : va_P (dC, dI) clZ (wN cI cL cZ q A D G K N P8 T) H := hP
      refine lv_aload_n hx hb d_N_planLocks_131 rfl (lv_at hl 3 rfl) ?_
      refine va_get (D := (dC, dI)) (ci := 0) (v := .ref (q 3)) (C := R_N) (T := F_N) (N := 7) hx hb hts hiN hown hK hP 0 rfl rfl 2 (by decide) lk26 (fun _ h9 => h9) rfl d_N_planLocks_132 ?_
      refine lv_iload_n hx hb d_N_planLocks_135 rfl (lv_at hl 2 rfl) ?_
      refine ncn_v (As := [.int ((T_low T) (Int32.toNatClampNeg a1))]) (c_P_add hq (A) (D) (G) (K) (N) (P8) (T) (((T_low T) (Int32.toNatClampNeg a1))) _ hwp) (cwV 1 hts g_N_294 rfl rfl rfl hd_P_add ⟨Nat.le_of_ble_eq_true rfl, Nat.le_of_ble_eq_true rfl⟩) hx hb hml hown hts hK hP hS hl.1 d_N_planLocks_136 (va_recv (q := (R_P, F_P, 3)) hK hP (ci := 3) (q0 := 3) rfl rfl) rfl (lv_room (Nat.le_of_ble_eq_true rfl)) (Nat.zero_le _) (Nat.zero_le _) rfl (fun P9 H locs hwp hP hS => ?_)
      have hP : va_P (dC, dI) clZ (wN cI cL cZ q A D G K N P9 T) H := hP
      refine lv_goto hx hb d_N_planLocks_139 (tgt := 250) (by decide) ?_
      rw [hQ]
      exact W.vret hx hb hr (fun t ht hW => ⟨⟨P9, rfl, hwp, hp_of ht hP⟩, hS.F ht⟩) hS.2.2 d_N_planLocks_250
  rw [if_neg hc1] at hwp
  by_cases hc2 : ((T_kind T) (Int32.toNatClampNeg a1)) = 2
  · rw [if_pos hc2] at hwp
    refine lv_tableIn (tgt := 142) hx hb d_N_planLocks_40 (by rw [hc2]; decide) (by rw [hc2]; decide) (by rw [hc2]; rfl) (by decide) ?_
    refine lv_aload_n hx hb d_N_planLocks_142 rfl (lv_at hl 3 rfl) ?_
    refine va_get (D := (dC, dI)) (ci := 0) (v := .ref (q 3)) (C := R_N) (T := F_N) (N := 7) hx hb hts hiN hown hK hP 0 rfl rfl 2 (by decide) lk26 (fun _ h9 => h9) rfl d_N_planLocks_143 ?_
    refine lv_iload hx hb d_N_planLocks_146 (lv_at hl 0 rfl) ?_
    refine jn_split hwp (fun jk156 hjk hwp => ?_)
    have J156 : ∀ (b10 : Int32) (H : Heap) (locs : List Loc) (ls : Array Slot), lv_has ls 6 [(0, .ref (q 0)), (2, .int ((T_low T) (Int32.toNatClampNeg a1))), (4, .int ((A_there A) (Int32.toNatClampNeg ((T_low T) (Int32.toNatClampNeg a1)))))] → va_P (dC, dI) clZ (wN cI cL cZ q A D G K N P T) H → va_S (aN q) s.heap H locs → jk156 b10 → W p l e (headSpec ws_N_planLocks rm_N_planLocks).room s m ([.ref (q 0), .int a1]).toArray below meth c H locs 0 0 Q (F0 m 156 ls [.int b10, .ref (q 3)]) := by
      intro b10 H locs ls hl hP hS hwp
      rw [hjk] at hwp
      refine ncn_v (As := [.int b10]) (c_P_start hq (A) (D) (G) (K) (N) (P) (T) (b10) _ hwp) (cwV 1 hts g_N_288 rfl rfl rfl hd_P_start ⟨Nat.le_of_ble_eq_true rfl, Nat.le_of_ble_eq_true rfl⟩) hx hb hml hown hts hK hP hS hl.1 d_N_planLocks_156 (va_recv (q := (R_P, F_P, 3)) hK hP (ci := 3) (q0 := 3) rfl rfl) rfl (lv_room (Nat.le_of_ble_eq_true rfl)) (Nat.zero_le _) (Nat.zero_le _) rfl (fun P11 H locs hwp hP hS => ?_)
      have hP : va_P (dC, dI) clZ (wN cI cL cZ q A D G K N P11 T) H := hP
      refine lv_aload_n hx hb d_N_planLocks_159 rfl (lv_at hl 0 rfl) ?_
      refine va_get (D := (dC, dI)) (ci := 0) (v := .ref (q 3)) (C := R_N) (T := F_N) (N := 7) hx hb hts hiN hown hK hP 0 rfl rfl 2 (by decide) lk26 (fun _ h9 => h9) rfl d_N_planLocks_160 ?_
      refine lv_aload_n hx hb d_N_planLocks_163 rfl (lv_at hl 0 rfl) ?_
      refine va_get (D := (dC, dI)) (ci := 0) (v := .ref (q 6)) (C := R_N) (T := F_N) (N := 7) hx hb hts hiN hown hK hP 0 rfl rfl 5 (by decide) lk58 (fun _ h9 => h9) rfl d_N_planLocks_164 ?_
      refine lv_iload_n hx hb d_N_planLocks_167 rfl (lv_at hl 1 rfl) ?_
      refine ncn_i (As := [.int ((T_low T) (Int32.toNatClampNeg a1))]) (c_A_nextItem hq (A) (D) (G) (K) (N) (P11) (T) (((T_low T) (Int32.toNatClampNeg a1))) _ hwp) (cwV 1 hts g_N_291 rfl rfl rfl hd_A_nextItem ⟨Nat.le_of_ble_eq_true rfl, Nat.le_of_ble_eq_true rfl⟩) hx hb hml hown hts hK hP hS hl.1 d_N_planLocks_168 (va_recv (q := (R_A, F_A, 10)) hK hP (ci := 6) (q0 := 6) rfl rfl) rfl (lv_room (Nat.le_of_ble_eq_true rfl)) (Nat.zero_le _) (Nat.zero_le _) rfl (fun r12 u H locs hwp hP hS => ?_)
      have hP : va_P (dC, dI) clZ (wN cI cL cZ q A D G K N P11 T) H := hP
      refine ncn_v (As := [.int r12]) (c_P_add hq (A) (D) (G) (K) (N) (P11) (T) (r12) _ hwp) (cwV 1 hts g_N_294 rfl rfl rfl hd_P_add ⟨Nat.le_of_ble_eq_true rfl, Nat.le_of_ble_eq_true rfl⟩) hx hb hml hown hts hK hP hS hl.1 d_N_planLocks_171 (va_recv (q := (R_P, F_P, 3)) hK hP (ci := 3) (q0 := 3) rfl rfl) rfl (lv_room (Nat.le_of_ble_eq_true rfl)) (Nat.zero_le _) (Nat.zero_le _) rfl (fun P13 H locs hwp hP hS => ?_)
      have hP : va_P (dC, dI) clZ (wN cI cL cZ q A D G K N P13 T) H := hP
      refine lv_iload hx hb d_N_planLocks_174 (lv_at hl 2 rfl) ?_
      refine lv_if_eq (tgt := 250) hx hb d_N_planLocks_176 (by decide) (fun hc => ?_) (fun hc => ?_)
      · rw [if_pos hc] at hwp
        rw [hQ]
        exact W.vret hx hb hr (fun t ht hW => ⟨⟨P13, rfl, hwp, hp_of ht hP⟩, hS.F ht⟩) hS.2.2 d_N_planLocks_250
      · rw [if_neg hc] at hwp
        refine lv_aload_n hx hb d_N_planLocks_179 rfl (lv_at hl 0 rfl) ?_
        refine va_get (D := (dC, dI)) (ci := 0) (v := .ref (q 3)) (C := R_N) (T := F_N) (N := 7) hx hb hts hiN hown hK hP 0 rfl rfl 2 (by decide) lk26 (fun _ h9 => h9) rfl d_N_planLocks_180 ?_
        refine lv_iload_n hx hb d_N_planLocks_183 rfl (lv_at hl 1 rfl) ?_
        refine ncn_v (As := [.int ((T_low T) (Int32.toNatClampNeg a1))]) (c_P_add hq (A) (D) (G) (K) (N) (P13) (T) (((T_low T) (Int32.toNatClampNeg a1))) _ hwp) (cwV 1 hts g_N_294 rfl rfl rfl hd_P_add ⟨Nat.le_of_ble_eq_true rfl, Nat.le_of_ble_eq_true rfl⟩) hx hb hml hown hts hK hP hS hl.1 d_N_planLocks_184 (va_recv (q := (R_P, F_P, 3)) hK hP (ci := 3) (q0 := 3) rfl rfl) rfl (lv_room (Nat.le_of_ble_eq_true rfl)) (Nat.zero_le _) (Nat.zero_le _) rfl (fun P14 H locs hwp hP hS => ?_)
        have hP : va_P (dC, dI) clZ (wN cI cL cZ q A D G K N P14 T) H := hP
        refine lv_goto hx hb d_N_planLocks_187 (tgt := 250) (by decide) ?_
        rw [hQ]
        exact W.vret hx hb hr (fun t ht hW => ⟨⟨P14, rfl, hwp, hp_of ht hP⟩, hS.F ht⟩) hS.2.2 d_N_planLocks_250
    clear hjk
    refine lv_if_eq (tgt := 155) hx hb d_N_planLocks_148 (by decide) (fun hc => ?_) (fun hc => ?_)
    · rw [if_pos hc] at hwp
      refine lv_iconst (v := 1) hx hb d_N_planLocks_155 (by decide) ?_
      exact J156 (1) _ _ _ (lv_sub hl [3, 2, 0] rfl) hP hS hwp
    · rw [if_neg hc] at hwp
      refine lv_iconst (v := 2) hx hb d_N_planLocks_151 (by decide) ?_
      refine lv_goto hx hb d_N_planLocks_152 (tgt := 156) (by decide) ?_
      exact J156 (2) _ _ _ (lv_sub hl [3, 2, 0] rfl) hP hS hwp
  rw [if_neg hc2] at hwp
  refine lv_tableOut (tgt := 190) hx hb d_N_planLocks_40 (by have h0 := lv_neT hc0 (a := 0) rfl; have h1 := lv_neT hc1 (a := 1) rfl; have h2 := lv_neT hc2 (a := 2) rfl; omega) (by decide) ?_
  refine lv_aload_n hx hb d_N_planLocks_190 rfl (lv_at hl 3 rfl) ?_
  refine va_get (D := (dC, dI)) (ci := 0) (v := .ref (q 3)) (C := R_N) (T := F_N) (N := 7) hx hb hts hiN hown hK hP 0 rfl rfl 2 (by decide) lk26 (fun _ h9 => h9) rfl d_N_planLocks_191 ?_
  refine lv_iconst (v := 1) hx hb d_N_planLocks_194 (by decide) ?_
  refine ncn_v (As := [.int 1]) (c_P_start hq (A) (D) (G) (K) (N) (P) (T) (1) _ hwp) (cwV 1 hts g_N_288 rfl rfl rfl hd_P_start ⟨Nat.le_of_ble_eq_true rfl, Nat.le_of_ble_eq_true rfl⟩) hx hb hml hown hts hK hP hS hl.1 d_N_planLocks_195 (va_recv (q := (R_P, F_P, 3)) hK hP (ci := 3) (q0 := 3) rfl rfl) rfl (lv_room (Nat.le_of_ble_eq_true rfl)) (Nat.zero_le _) (Nat.zero_le _) rfl (fun P15 H locs hwp hP hS => ?_)
  have hP : va_P (dC, dI) clZ (wN cI cL cZ q A D G K N P15 T) H := hP
  refine lv_iload_n hx hb d_N_planLocks_198 rfl (lv_at hl 2 rfl) ?_
  refine lv_istore (lv' := [(5, .int ((T_low T) (Int32.toNatClampNeg a1))), (4, .int ((A_there A) (Int32.toNatClampNeg ((T_low T) (Int32.toNatClampNeg a1))))), (3, .int ((T_high T) (Int32.toNatClampNeg a1))), (2, .int ((T_low T) (Int32.toNatClampNeg a1))), (0, .ref (q 0)), (1, .int a1)]) hx hb d_N_planLocks_199 hl (by decide) rfl (fun ls hl => ?_)
  obtain ⟨e201, hwp⟩ := hwp
  refine L201 _ (((T_high T) (Int32.toNatClampNeg a1))) e201 (((T_low T) (Int32.toNatClampNeg a1))) (P15) _ _ _ (lv_sub hl [4, 2, 0] rfl) hP hS hwp (fun P17 H locs ls hl hP hS hwp => ?_)
  refine lv_aload_n hx hb d_N_planLocks_235 rfl (lv_at hl 0 rfl) ?_
  refine va_get (D := (dC, dI)) (ci := 0) (v := .ref (q 3)) (C := R_N) (T := F_N) (N := 7) hx hb hts hiN hown hK hP 0 rfl rfl 2 (by decide) lk26 (fun _ h9 => h9) rfl d_N_planLocks_236 ?_
  refine lv_aload_n hx hb d_N_planLocks_239 rfl (lv_at hl 0 rfl) ?_
  refine va_get (D := (dC, dI)) (ci := 0) (v := .ref (q 6)) (C := R_N) (T := F_N) (N := 7) hx hb hts hiN hown hK hP 0 rfl rfl 5 (by decide) lk58 (fun _ h9 => h9) rfl d_N_planLocks_240 ?_
  refine lv_iload_n hx hb d_N_planLocks_243 rfl (lv_at hl 1 rfl) ?_
  refine ncn_i (As := [.int ((T_high T) (Int32.toNatClampNeg a1))]) (c_A_nextItem hq (A) (D) (G) (K) (N) (P17) (T) (((T_high T) (Int32.toNatClampNeg a1))) _ hwp) (cwV 1 hts g_N_291 rfl rfl rfl hd_A_nextItem ⟨Nat.le_of_ble_eq_true rfl, Nat.le_of_ble_eq_true rfl⟩) hx hb hml hown hts hK hP hS hl.1 d_N_planLocks_244 (va_recv (q := (R_A, F_A, 10)) hK hP (ci := 6) (q0 := 6) rfl rfl) rfl (lv_room (Nat.le_of_ble_eq_true rfl)) (Nat.zero_le _) (Nat.zero_le _) rfl (fun r18 u H locs hwp hP hS => ?_)
  have hP : va_P (dC, dI) clZ (wN cI cL cZ q A D G K N P17 T) H := hP
  refine ncn_v (As := [.int r18]) (c_P_add hq (A) (D) (G) (K) (N) (P17) (T) (r18) _ hwp) (cwV 1 hts g_N_294 rfl rfl rfl hd_P_add ⟨Nat.le_of_ble_eq_true rfl, Nat.le_of_ble_eq_true rfl⟩) hx hb hml hown hts hK hP hS hl.1 d_N_planLocks_247 (va_recv (q := (R_P, F_P, 3)) hK hP (ci := 3) (q0 := 3) rfl rfl) rfl (lv_room (Nat.le_of_ble_eq_true rfl)) (Nat.zero_le _) (Nat.zero_le _) rfl (fun P19 H locs hwp hP hS => ?_)
  have hP : va_P (dC, dI) clZ (wN cI cL cZ q A D G K N P19 T) H := hP
  rw [hQ]
  exact W.vret hx hb hr (fun t ht hW => ⟨⟨P19, rfl, hwp, hp_of ht hP⟩, hS.F ht⟩) hS.2.2 d_N_planLocks_250

set_option maxHeartbeats 4000000 in
set_option maxRecDepth 100000 in
theorem c_N_freeLocks {l : Launch} {dC : Nat → ClassId} {dI : Nat → Nat → Nat} {cI cL cZ : ClassId} {q : Nat → Nat} (hq : iN q) (A : S_A) (D : S_D) (G : S_G) (K : S_K) (N : S_N) (P : S_P) (T : S_T) (a1 : Int32) (post : Int32 → Prop) (hwp : wp_N_freeLocks K P T a1 post) : Met l y_N_freeLocks ws_N_freeLocks rm_N_freeLocks (va_Pc [.ref (q 0), .int a1] (bN dC dI cI cL cZ q A D G K N P T)) (va_Qi (fun (r : Int32) (u : Unit) => post r) (fun u t => va_P (dC, dI) clZ (wN cI cL cZ q A D G K N P T) t.heap) (aN q)) 0 0 (aN q) := by
  refine Met.ofW (cc := b_N_freeLocks) (maxL := 5) (ret := (some .int)) (by decide) rfl ?_
  intro p e s m args below meth c s₁ B hml hv
  obtain ⟨rfl, hP, hK⟩ := hv
  have hx := B.exec
  have hb := B.bytes
  have hr := B.returns
  have hts := atoms_spec (ws := ws_N_freeLocks) B.pre
  have hown : s.vm.findClass R_N = some m.cls := findClass_of_methodNamed B.named
  have hlocks := B.notSynchronized
  have hiN : ∀ w ∈ u_ws R_N F_N 7, w ∈ ws_N_freeLocks := fun w h => List.mem_cons_of_mem _ (in_N w h)
  have hiP : ∀ w ∈ u_ws R_P F_P 3, w ∈ ws_N_freeLocks := fun w h => List.mem_cons_of_mem _ (in_P w h)
  have hiT : ∀ w ∈ u_ws R_T F_T 11, w ∈ ws_N_freeLocks := fun w h => List.mem_cons_of_mem _ (in_T w h)
  have lk12 := hts _ (List.mem_cons_of_mem _ k_N_12)
  have lk19 := hts _ (List.mem_cons_of_mem _ k_N_19)
  have lk26 := hts _ (List.mem_cons_of_mem _ k_N_26)
  have lk262 := hts _ (List.mem_cons_of_mem _ k_N_262)
  have lk265 := hts _ (List.mem_cons_of_mem _ k_N_265)
  have lk272 := hts _ (List.mem_cons_of_mem _ k_N_272)
  have lk273 := hts _ (List.mem_cons_of_mem _ k_N_273)
  have hS : va_S (aN q) s.heap s.heap [] := va_S.rf
  have hl := lv_entry ([.ref (q 0), .int a1]) (n := 5) (Nat.le_of_ble_eq_true rfl)
  rw [lg_entry_eq]
  generalize (lg_sl ([.ref (q 0), .int a1]) ++ List.replicate (5 - (lg_sl ([.ref (q 0), .int a1])).length) Slot.unset).toArray = ls at hl ⊢
  have hl : lv_has ls 5 [(0, .ref (q 0)), (1, .int a1)] := hl
  obtain ⟨Q, hQ⟩ : ∃ Q, Q = MQ below (va_Qi (fun (r : Int32) (u : Unit) => post r) (fun u t => va_P (dC, dI) clZ (wN cI cL cZ q A D G K N P T) t.heap) (aN q)) ([.ref (q 0), .int a1]).toArray s 0 0 (aN q) := ⟨_, rfl⟩
  rw [← hQ]
  have L2 : ∀ (Kx : Prop) (v1 : Int32) (n : Nat) (v2 : Int32) (H : Heap) (locs : List Loc) (ls : Array Slot), lv_has ls 5 [(0, .ref (q 0)), (1, .int v1), (2, .int v2)] → va_P (dC, dI) clZ (wN cI cL cZ q A D G K N P T) H → va_S (aN q) s.heap H locs → wp_N_freeLocks_L2 K P T v1 post Kx n v2 → (∀ (H : Heap) (locs : List Loc) (ls : Array Slot), lv_has ls 5 [(0, .ref (q 0))] → va_P (dC, dI) clZ (wN cI cL cZ q A D G K N P T) H → va_S (aN q) s.heap H locs → Kx → W p l e (headSpec ws_N_freeLocks rm_N_freeLocks).room s m ([.ref (q 0), .int a1]).toArray below meth c H locs 0 0 Q (F0 m 91 ls [])) → W p l e (headSpec ws_N_freeLocks rm_N_freeLocks).room s m ([.ref (q 0), .int a1]).toArray below meth c H locs 0 0 Q (F0 m 2 ls []) := by
    intro Kx v1 n
    induction n with
    | zero =>
      intros
      rename_i hwp _
      exact hwp.elim
    | succ n2 ih =>
      intro v2 H locs ls hl hP hS hwp hX
      rw [wp_N_freeLocks_L2] at hwp
      refine lv_iload_n hx hb d_N_freeLocks_2 rfl (lv_at hl 2 rfl) ?_
      refine lv_aload_n hx hb d_N_freeLocks_3 rfl (lv_at hl 0 rfl) ?_
      refine va_get (D := (dC, dI)) (ci := 0) (v := .ref (q 3)) (C := R_N) (T := F_N) (N := 7) hx hb hts hiN hown hK hP 0 rfl rfl 2 (by decide) lk26 (fun _ h9 => h9) rfl d_N_freeLocks_4 ?_
      refine va_get (D := (dC, dI)) (ci := 3) (v := .int (P_size P)) (C := R_P) (T := F_P) (N := 3) hx hb hts hiP hown hK hP 3 rfl rfl 1 (by decide) lk272 (fun _ h9 => h9) rfl d_N_freeLocks_7 ?_
      refine lv_icmp_ge (tgt := 91) hx hb d_N_freeLocks_10 (by decide) (fun hc => ?_) (fun hc => ?_)
      · rw [if_pos hc] at hwp
        exact hX  _ _ _ (lv_sub hl [0] rfl) hP hS hwp
      · rw [if_neg hc] at hwp
        refine lv_aload_n hx hb d_N_freeLocks_13 rfl (lv_at hl 0 rfl) ?_
        refine va_get (D := (dC, dI)) (ci := 0) (v := .ref (q 3)) (C := R_N) (T := F_N) (N := 7) hx hb hts hiN hown hK hP 0 rfl rfl 2 (by decide) lk26 (fun _ h9 => h9) rfl d_N_freeLocks_14 ?_
        refine va_get (D := (dC, dI)) (ci := 3) (v := .ref (q 19)) (C := R_P) (T := F_P) (N := 3) hx hb hts hiP hown hK hP 3 rfl rfl 2 (by decide) lk262 (fun _ h9 => h9) rfl d_N_freeLocks_17 ?_
        refine lv_iload_n hx hb d_N_freeLocks_20 rfl (lv_at hl 2 rfl) ?_
        refine va_iald hx hb hK hP 19 0 rfl rfl hwp.1 d_N_freeLocks_21 ?_
        have hwp := hwp.2
        refine lv_istore_n (lv' := [(3, .int ((P_items P) (Int32.toNatClampNeg v2))), (0, .ref (q 0)), (1, .int v1), (2, .int v2)]) hx hb d_N_freeLocks_22 rfl hl (by decide) rfl (fun ls hl => ?_)
        refine lv_aload_n hx hb d_N_freeLocks_23 rfl (lv_at hl 1 rfl) ?_
        refine va_get (D := (dC, dI)) (ci := 0) (v := .ref (q 2)) (C := R_N) (T := F_N) (N := 7) hx hb hts hiN hown hK hP 0 rfl rfl 1 (by decide) lk19 (fun _ h9 => h9) rfl d_N_freeLocks_24 ?_
        refine lv_iload_n hx hb d_N_freeLocks_27 rfl (lv_at hl 2 rfl) ?_
        refine lv_iload_n hx hb d_N_freeLocks_28 rfl (lv_at hl 0 rfl) ?_
        refine ncn_i (As := [.int v1, .int ((P_items P) (Int32.toNatClampNeg v2))]) (c_K_heldBy hq (A) (D) (G) (K) (N) (P) (T) (v1) (((P_items P) (Int32.toNatClampNeg v2))) _ hwp) (cwV 2 hts g_N_175 rfl rfl rfl hd_K_heldBy ⟨Nat.le_of_ble_eq_true rfl, Nat.le_of_ble_eq_true rfl⟩) hx hb hml hown hts hK hP hS hl.1 d_N_freeLocks_29 (va_recv (q := (R_K, F_K, 2)) hK hP (ci := 2) (q0 := 2) rfl rfl) rfl (lv_room (Nat.le_of_ble_eq_true rfl)) (Nat.zero_le _) (Nat.zero_le _) rfl (fun r1 u H locs hwp hP hS => ?_)
        have hP : va_P (dC, dI) clZ (wN cI cL cZ q A D G K N P T) H := hP
        refine lv_aload_n hx hb d_N_freeLocks_32 rfl (lv_at hl 1 rfl) ?_
        refine va_get (D := (dC, dI)) (ci := 0) (v := .ref (q 3)) (C := R_N) (T := F_N) (N := 7) hx hb hts hiN hown hK hP 0 rfl rfl 2 (by decide) lk26 (fun _ h9 => h9) rfl d_N_freeLocks_33 ?_
        refine va_get (D := (dC, dI)) (ci := 3) (v := .int (P_mode P)) (C := R_P) (T := F_P) (N := 3) hx hb hts hiP hown hK hP 3 rfl rfl 0 (by decide) lk265 (fun _ h9 => h9) rfl d_N_freeLocks_36 ?_
        refine jn_split hwp (fun jk47 hjk hwp => ?_)
        have J47 : ∀ (b2 : Int32) (H : Heap) (locs : List Loc) (ls : Array Slot), lv_has ls 5 [(0, .ref (q 0)), (1, .int v1), (2, .int v2), (3, .int ((P_items P) (Int32.toNatClampNeg v2)))] → va_P (dC, dI) clZ (wN cI cL cZ q A D G K N P T) H → va_S (aN q) s.heap H locs → jk47 b2 → W p l e (headSpec ws_N_freeLocks rm_N_freeLocks).room s m ([.ref (q 0), .int a1]).toArray below meth c H locs 0 0 Q (F0 m 47 ls [.int b2]) := by
          intro b2 H locs ls hl hP hS hwp
          rw [hjk] at hwp
          refine lv_istore (lv' := [(4, .int b2), (0, .ref (q 0)), (1, .int v1), (2, .int v2), (3, .int ((P_items P) (Int32.toNatClampNeg v2)))]) hx hb d_N_freeLocks_47 hl (by decide) rfl (fun ls hl => ?_)
          refine lv_iload hx hb d_N_freeLocks_49 (lv_at hl 0 rfl) ?_
          refine lv_if_ne (tgt := 85) hx hb d_N_freeLocks_51 (by decide) (fun hc => ?_) (fun hc => ?_)
          · rw [if_neg hc] at hwp
            refine lv_iinc (k := 3) (v := (v2 + 1)) (lv' := [(2, .int (v2 + 1)), (4, .int b2), (0, .ref (q 0)), (1, .int v1), (3, .int ((P_items P) (Int32.toNatClampNeg v2)))]) hx hb d_N_freeLocks_85 hl rfl (ii_1 _) (by decide) rfl (fun ls hl => ?_)
            refine lv_goto hx hb d_N_freeLocks_88 (tgt := 2) (by decide) ?_
            exact ih ((v2 + 1)) _ _ _ (lv_sub hl [2, 3, 0] rfl) hP hS hwp hX
          · rw [if_pos hc] at hwp
            refine lv_aload_n hx hb d_N_freeLocks_54 rfl (lv_at hl 1 rfl) ?_
            refine va_get (D := (dC, dI)) (ci := 0) (v := .ref (q 2)) (C := R_N) (T := F_N) (N := 7) hx hb hts hiN hown hK hP 0 rfl rfl 1 (by decide) lk19 (fun _ h9 => h9) rfl d_N_freeLocks_55 ?_
            refine lv_iload_n hx hb d_N_freeLocks_58 rfl (lv_at hl 4 rfl) ?_
            refine lv_aload_n hx hb d_N_freeLocks_59 rfl (lv_at hl 1 rfl) ?_
            refine va_get (D := (dC, dI)) (ci := 0) (v := .ref (q 3)) (C := R_N) (T := F_N) (N := 7) hx hb hts hiN hown hK hP 0 rfl rfl 2 (by decide) lk26 (fun _ h9 => h9) rfl d_N_freeLocks_60 ?_
            refine va_get (D := (dC, dI)) (ci := 3) (v := .int (P_mode P)) (C := R_P) (T := F_P) (N := 3) hx hb hts hiP hown hK hP 3 rfl rfl 0 (by decide) lk265 (fun _ h9 => h9) rfl d_N_freeLocks_63 ?_
            refine lv_aload_n hx hb d_N_freeLocks_66 rfl (lv_at hl 1 rfl) ?_
            refine va_get (D := (dC, dI)) (ci := 0) (v := .ref (q 1)) (C := R_N) (T := F_N) (N := 7) hx hb hts hiN hown hK hP 0 rfl rfl 0 (by decide) lk12 (fun _ h9 => h9) rfl d_N_freeLocks_67 ?_
            refine va_get (D := (dC, dI)) (ci := 1) (v := .ref (q 12)) (C := R_T) (T := F_T) (N := 11) hx hb hts hiT hown hK hP 1 rfl rfl 6 (by decide) lk273 (fun _ h9 => h9) rfl d_N_freeLocks_70 ?_
            refine lv_iload_n hx hb d_N_freeLocks_73 rfl (lv_at hl 2 rfl) ?_
            refine va_lald hx hb hK hP 12 1 rfl rfl hwp.1 d_N_freeLocks_74 ?_
            have hwp := hwp.2
            refine ncn_l (As := [.int ((P_items P) (Int32.toNatClampNeg v2)), .int (P_mode P), .long ((T_lineage T) (Int32.toNatClampNeg v1))]) (c_K_blockers hq (A) (D) (G) (K) (N) (P) (T) (((P_items P) (Int32.toNatClampNeg v2))) ((P_mode P)) (((T_lineage T) (Int32.toNatClampNeg v1))) _ hwp) (cwV 3 hts g_N_277 rfl rfl rfl hd_K_blockers ⟨Nat.le_of_ble_eq_true rfl, Nat.le_of_ble_eq_true rfl⟩) hx hb hml hown hts hK hP hS hl.1 d_N_freeLocks_75 (va_recv (q := (R_K, F_K, 2)) hK hP (ci := 2) (q0 := 2) rfl rfl) rfl (lv_room (Nat.le_of_ble_eq_true rfl)) (Nat.zero_le _) (Nat.zero_le _) rfl (fun r3 u H locs hwp hP hS => ?_)
            have hP : va_P (dC, dI) clZ (wN cI cL cZ q A D G K N P T) H := hP
            refine lv_lconst (v := (0 : Int64)) hx hb d_N_freeLocks_78 (by decide) ?_
            refine W.lcmp hx hb d_N_freeLocks_79 ?_
            refine lv_if_eq (tgt := 85) hx hb d_N_freeLocks_80 (by decide) (fun hc => ?_) (fun hc => ?_)
            · rw [if_pos hc] at hwp
              refine lv_iinc (k := 3) (v := (v2 + 1)) (lv' := [(2, .int (v2 + 1)), (4, .int b2), (0, .ref (q 0)), (1, .int v1), (3, .int ((P_items P) (Int32.toNatClampNeg v2)))]) hx hb d_N_freeLocks_85 hl rfl (ii_1 _) (by decide) rfl (fun ls hl => ?_)
              refine lv_goto hx hb d_N_freeLocks_88 (tgt := 2) (by decide) ?_
              exact ih ((v2 + 1)) _ _ _ (lv_sub hl [2, 3, 0] rfl) hP hS hwp hX
            · rw [if_neg hc] at hwp
              refine lv_iload_n hx hb d_N_freeLocks_83 rfl (lv_at hl 3 rfl) ?_
              rw [hQ]
              exact W.iret (v := v2) hx hb hr (fun t ht hW => ⟨⟨v2, (), rfl, hwp, hp_of ht hP⟩, hS.F ht⟩) hS.2.2 d_N_freeLocks_84
        clear hjk
        refine lv_icmp_lt (tgt := 46) hx hb d_N_freeLocks_39 (by decide) (fun hc => ?_) (fun hc => ?_)
        · rw [if_pos hc] at hwp
          refine lv_iconst (v := 0) hx hb d_N_freeLocks_46 (by decide) ?_
          exact J47 (0) _ _ _ (lv_sub hl [1, 2, 3, 0] rfl) hP hS hwp
        · rw [if_neg hc] at hwp
          refine lv_iconst (v := 1) hx hb d_N_freeLocks_42 (by decide) ?_
          refine lv_goto hx hb d_N_freeLocks_43 (tgt := 47) (by decide) ?_
          exact J47 (1) _ _ _ (lv_sub hl [1, 2, 3, 0] rfl) hP hS hwp
  rw [wp_N_freeLocks] at hwp
  refine lv_iconst (v := 0) hx hb d_N_freeLocks_0 (by decide) ?_
  refine lv_istore_n (lv' := [(2, .int 0), (0, .ref (q 0)), (1, .int a1)]) hx hb d_N_freeLocks_1 rfl hl (by decide) rfl (fun ls hl => ?_)
  obtain ⟨e2, hwp⟩ := hwp
  refine L2 _ (a1) e2 (0) _ _ _ (lv_sub hl [1, 2, 0] rfl) hP hS hwp (fun  H locs ls hl hP hS hwp => ?_)
  refine lv_aload_n hx hb d_N_freeLocks_91 rfl (lv_at hl 0 rfl) ?_
  refine va_get (D := (dC, dI)) (ci := 0) (v := .ref (q 3)) (C := R_N) (T := F_N) (N := 7) hx hb hts hiN hown hK hP 0 rfl rfl 2 (by decide) lk26 (fun _ h9 => h9) rfl d_N_freeLocks_92 ?_
  refine va_get (D := (dC, dI)) (ci := 3) (v := .int (P_size P)) (C := R_P) (T := F_P) (N := 3) hx hb hts hiP hown hK hP 3 rfl rfl 1 (by decide) lk272 (fun _ h9 => h9) rfl d_N_freeLocks_95 ?_
  rw [hQ]
  exact W.iret (v := (P_size P)) hx hb hr (fun t ht hW => ⟨⟨(P_size P), (), rfl, hwp, hp_of ht hP⟩, hS.F ht⟩) hS.2.2 d_N_freeLocks_98

set_option maxHeartbeats 4000000 in
set_option maxRecDepth 100000 in
theorem c_N_takeLocks {l : Launch} {dC : Nat → ClassId} {dI : Nat → Nat → Nat} {cI cL cZ : ClassId} {q : Nat → Nat} (hq : iN q) (A : S_A) (D : S_D) (G : S_G) (K : S_K) (N : S_N) (P : S_P) (T : S_T) (a1 : Int32) (post : Int32 → S_K → S_P → Prop) (hwp : wp_N_takeLocks A K P T a1 post) : Met l y_N_takeLocks ws_N_takeLocks rm_N_takeLocks (va_Pc [.ref (q 0), .int a1] (bN dC dI cI cL cZ q A D G K N P T)) (va_Qi (fun (r : Int32) (u : S_K × S_P) => post r u.1 u.2) (fun u t => va_P (dC, dI) clZ (wN cI cL cZ q A D G (u.1) N (u.2) T) t.heap) (aN q)) 0 0 (aN q) := by
  refine Met.ofW (cc := b_N_takeLocks) (maxL := 4) (ret := (some .boolean)) (by decide) rfl ?_
  intro p e s m args below meth c s₁ B hml hv
  obtain ⟨rfl, hP, hK⟩ := hv
  have hx := B.exec
  have hb := B.bytes
  have hr := B.returns
  have hts := atoms_spec (ws := ws_N_takeLocks) B.pre
  have hown : s.vm.findClass R_N = some m.cls := findClass_of_methodNamed B.named
  have hlocks := B.notSynchronized
  have hiN : ∀ w ∈ u_ws R_N F_N 7, w ∈ ws_N_takeLocks := fun w h => List.mem_cons_of_mem _ (in_N w h)
  have hiP : ∀ w ∈ u_ws R_P F_P 3, w ∈ ws_N_takeLocks := fun w h => List.mem_cons_of_mem _ (in_P w h)
  have lk19 := hts _ (List.mem_cons_of_mem _ k_N_19)
  have lk26 := hts _ (List.mem_cons_of_mem _ k_N_26)
  have lk262 := hts _ (List.mem_cons_of_mem _ k_N_262)
  have lk265 := hts _ (List.mem_cons_of_mem _ k_N_265)
  have lk272 := hts _ (List.mem_cons_of_mem _ k_N_272)
  have hS : va_S (aN q) s.heap s.heap [] := va_S.rf
  have hl := lv_entry ([.ref (q 0), .int a1]) (n := 4) (Nat.le_of_ble_eq_true rfl)
  rw [lg_entry_eq]
  generalize (lg_sl ([.ref (q 0), .int a1]) ++ List.replicate (4 - (lg_sl ([.ref (q 0), .int a1])).length) Slot.unset).toArray = ls at hl ⊢
  have hl : lv_has ls 4 [(0, .ref (q 0)), (1, .int a1)] := hl
  obtain ⟨Q, hQ⟩ : ∃ Q, Q = MQ below (va_Qi (fun (r : Int32) (u : S_K × S_P) => post r u.1 u.2) (fun u t => va_P (dC, dI) clZ (wN cI cL cZ q A D G (u.1) N (u.2) T) t.heap) (aN q)) ([.ref (q 0), .int a1]).toArray s 0 0 (aN q) := ⟨_, rfl⟩
  rw [← hQ]
  have L13 : ∀ (Kx : S_K → Prop) (P : S_P) (v1 : Int32) (v2 : Int32) (n : Nat) (v3 : Int32) (K : S_K) (H : Heap) (locs : List Loc) (ls : Array Slot), lv_has ls 4 [(0, .ref (q 0)), (1, .int v1), (2, .int v2), (3, .int v3)] → va_P (dC, dI) clZ (wN cI cL cZ q A D G K N P T) H → va_S (aN q) s.heap H locs → wp_N_takeLocks_L13 P v1 v2 Kx n v3 K → (∀ (K1 : S_K) (H : Heap) (locs : List Loc) (ls : Array Slot), lv_has ls 4 [(0, .ref (q 0)), (2, .int v2)] → va_P (dC, dI) clZ (wN cI cL cZ q A D G K1 N P T) H → va_S (aN q) s.heap H locs → Kx K1 → W p l e (headSpec ws_N_takeLocks rm_N_takeLocks).room s m ([.ref (q 0), .int a1]).toArray below meth c H locs 0 0 Q (F0 m 48 ls [])) → W p l e (headSpec ws_N_takeLocks rm_N_takeLocks).room s m ([.ref (q 0), .int a1]).toArray below meth c H locs 0 0 Q (F0 m 13 ls []) := by
    intro Kx P v1 v2 n
    induction n with
    | zero =>
      intros
      rename_i hwp _
      exact hwp.elim
    | succ n13 ih =>
      intro v3 K H locs ls hl hP hS hwp hX
      rw [wp_N_takeLocks_L13] at hwp
      refine lv_iload_n hx hb d_N_takeLocks_13 rfl (lv_at hl 3 rfl) ?_
      refine lv_iload_n hx hb d_N_takeLocks_14 rfl (lv_at hl 2 rfl) ?_
      refine lv_icmp_ge (tgt := 48) hx hb d_N_takeLocks_15 (by decide) (fun hc => ?_) (fun hc => ?_)
      · rw [if_pos hc] at hwp
        exact hX (K) _ _ _ (lv_sub hl [0, 2] rfl) hP hS hwp
      · rw [if_neg hc] at hwp
        refine lv_aload_n hx hb d_N_takeLocks_18 rfl (lv_at hl 0 rfl) ?_
        refine va_get (D := (dC, dI)) (ci := 0) (v := .ref (q 2)) (C := R_N) (T := F_N) (N := 7) hx hb hts hiN hown hK hP 0 rfl rfl 1 (by decide) lk19 (fun _ h9 => h9) rfl d_N_takeLocks_19 ?_
        refine lv_iload_n hx hb d_N_takeLocks_22 rfl (lv_at hl 1 rfl) ?_
        refine lv_aload_n hx hb d_N_takeLocks_23 rfl (lv_at hl 0 rfl) ?_
        refine va_get (D := (dC, dI)) (ci := 0) (v := .ref (q 3)) (C := R_N) (T := F_N) (N := 7) hx hb hts hiN hown hK hP 0 rfl rfl 2 (by decide) lk26 (fun _ h9 => h9) rfl d_N_takeLocks_24 ?_
        refine va_get (D := (dC, dI)) (ci := 3) (v := .ref (q 19)) (C := R_P) (T := F_P) (N := 3) hx hb hts hiP hown hK hP 3 rfl rfl 2 (by decide) lk262 (fun _ h9 => h9) rfl d_N_takeLocks_27 ?_
        refine lv_iload_n hx hb d_N_takeLocks_30 rfl (lv_at hl 3 rfl) ?_
        refine va_iald hx hb hK hP 19 0 rfl rfl hwp.1 d_N_takeLocks_31 ?_
        have hwp := hwp.2
        refine lv_aload_n hx hb d_N_takeLocks_32 rfl (lv_at hl 0 rfl) ?_
        refine va_get (D := (dC, dI)) (ci := 0) (v := .ref (q 3)) (C := R_N) (T := F_N) (N := 7) hx hb hts hiN hown hK hP 0 rfl rfl 2 (by decide) lk26 (fun _ h9 => h9) rfl d_N_takeLocks_33 ?_
        refine va_get (D := (dC, dI)) (ci := 3) (v := .int (P_mode P)) (C := R_P) (T := F_P) (N := 3) hx hb hts hiP hown hK hP 3 rfl rfl 0 (by decide) lk265 (fun _ h9 => h9) rfl d_N_takeLocks_36 ?_
        refine ncn_v (As := [.int v1, .int ((P_items P) (Int32.toNatClampNeg v3)), .int (P_mode P)]) (c_K_grant hq (A) (D) (G) (K) (N) (P) (T) (v1) (((P_items P) (Int32.toNatClampNeg v3))) ((P_mode P)) _ hwp) (cwV 3 hts g_N_268 rfl rfl rfl hd_K_grant ⟨Nat.le_of_ble_eq_true rfl, Nat.le_of_ble_eq_true rfl⟩) hx hb hml hown hts hK hP hS hl.1 d_N_takeLocks_39 (va_recv (q := (R_K, F_K, 2)) hK hP (ci := 2) (q0 := 2) rfl rfl) rfl (lv_room (Nat.le_of_ble_eq_true rfl)) (Nat.zero_le _) (Nat.zero_le _) rfl (fun K3 H locs hwp hP hS => ?_)
        have hP : va_P (dC, dI) clZ (wN cI cL cZ q A D G K3 N P T) H := hP
        refine lv_iinc (k := 3) (v := (v3 + 1)) (lv' := [(3, .int (v3 + 1)), (0, .ref (q 0)), (1, .int v1), (2, .int v2)]) hx hb d_N_takeLocks_42 hl rfl (ii_1 _) (by decide) rfl (fun ls hl => ?_)
        refine lv_goto hx hb d_N_takeLocks_45 (tgt := 13) (by decide) ?_
        exact ih ((v3 + 1)) (K3) _ _ _ (lv_sub hl [1, 2, 3, 0] rfl) hP hS hwp hX
  rw [wp_N_takeLocks] at hwp
  refine lv_aload_n hx hb d_N_takeLocks_0 rfl (lv_at hl 0 rfl) ?_
  refine lv_iload_n hx hb d_N_takeLocks_1 rfl (lv_at hl 1 rfl) ?_
  refine ncn_v (As := [.int a1]) (c_N_planLocks hq (A) (D) (G) (K) (N) (P) (T) (a1) _ hwp) (cwV 1 hts g_N_256 rfl rfl rfl hd_N_planLocks ⟨Nat.le_of_ble_eq_true rfl, Nat.le_of_ble_eq_true rfl⟩) hx hb hml hown hts hK hP hS hl.1 d_N_takeLocks_2 (va_recv (q := (R_N, F_N, 7)) hK hP (ci := 0) (q0 := 0) rfl rfl) rfl (lv_room (Nat.le_of_ble_eq_true rfl)) (Nat.zero_le _) (Nat.zero_le _) rfl (fun P1 H locs hwp hP hS => ?_)
  have hP : va_P (dC, dI) clZ (wN cI cL cZ q A D G K N P1 T) H := hP
  refine lv_aload_n hx hb d_N_takeLocks_5 rfl (lv_at hl 0 rfl) ?_
  refine lv_iload_n hx hb d_N_takeLocks_6 rfl (lv_at hl 1 rfl) ?_
  refine ncn_i (As := [.int a1]) (c_N_freeLocks hq (A) (D) (G) (K) (N) (P1) (T) (a1) _ hwp) (cwV 1 hts g_N_259 rfl rfl rfl hd_N_freeLocks ⟨Nat.le_of_ble_eq_true rfl, Nat.le_of_ble_eq_true rfl⟩) hx hb hml hown hts hK hP hS hl.1 d_N_takeLocks_7 (va_recv (q := (R_N, F_N, 7)) hK hP (ci := 0) (q0 := 0) rfl rfl) rfl (lv_room (Nat.le_of_ble_eq_true rfl)) (Nat.zero_le _) (Nat.zero_le _) rfl (fun r2 u H locs hwp hP hS => ?_)
  have hP : va_P (dC, dI) clZ (wN cI cL cZ q A D G K N P1 T) H := hP
  refine lv_istore_n (lv' := [(2, .int r2), (0, .ref (q 0)), (1, .int a1)]) hx hb d_N_takeLocks_10 rfl hl (by decide) rfl (fun ls hl => ?_)
  refine lv_iconst (v := 0) hx hb d_N_takeLocks_11 (by decide) ?_
  refine lv_istore_n (lv' := [(3, .int 0), (2, .int r2), (0, .ref (q 0)), (1, .int a1)]) hx hb d_N_takeLocks_12 rfl hl (by decide) rfl (fun ls hl => ?_)
  obtain ⟨e13, hwp⟩ := hwp
  refine L13 _ (P1) (a1) (r2) e13 (0) (K) _ _ _ (lv_sub hl [2, 3, 1, 0] rfl) hP hS hwp (fun K4 H locs ls hl hP hS hwp => ?_)
  refine lv_iload_n hx hb d_N_takeLocks_48 rfl (lv_at hl 1 rfl) ?_
  refine lv_aload_n hx hb d_N_takeLocks_49 rfl (lv_at hl 0 rfl) ?_
  refine va_get (D := (dC, dI)) (ci := 0) (v := .ref (q 3)) (C := R_N) (T := F_N) (N := 7) hx hb hts hiN hown hK hP 0 rfl rfl 2 (by decide) lk26 (fun _ h9 => h9) rfl d_N_takeLocks_50 ?_
  refine va_get (D := (dC, dI)) (ci := 3) (v := .int (P_size P1)) (C := R_P) (T := F_P) (N := 3) hx hb hts hiP hown hK hP 3 rfl rfl 1 (by decide) lk272 (fun _ h9 => h9) rfl d_N_takeLocks_53 ?_
  refine lv_icmp_ne (tgt := 63) hx hb d_N_takeLocks_56 (by decide) (fun hc => ?_) (fun hc => ?_)
  · rw [if_neg hc] at hwp
    refine lv_iconst (v := 0) hx hb d_N_takeLocks_63 (by decide) ?_
    rw [hQ]
    exact W.zret (v := 0) hx hb hr rfl (fun t ht hW => ⟨⟨0, (K4, P1), rfl, hwp, hp_of ht hP⟩, hS.F ht⟩) hS.2.2 d_N_takeLocks_64
  · rw [if_pos hc] at hwp
    refine lv_iconst (v := 1) hx hb d_N_takeLocks_59 (by decide) ?_
    refine lv_goto hx hb d_N_takeLocks_60 (tgt := 64) (by decide) ?_
    rw [hQ]
    exact W.zret (v := 1) hx hb hr rfl (fun t ht hW => ⟨⟨1, (K4, P1), rfl, hwp, hp_of ht hP⟩, hS.F ht⟩) hS.2.2 d_N_takeLocks_64

set_option maxHeartbeats 4000000 in
set_option maxRecDepth 100000 in
theorem c_N_asNumber {l : Launch} {dC : Nat → ClassId} {dI : Nat → Nat → Nat} {cI cL cZ : ClassId} {q : Nat → Nat} (hq : iN q) (A : S_A) (D : S_D) (G : S_G) (K : S_K) (N : S_N) (P : S_P) (T : S_T) (a0 : Int32) (post : Int32 → Prop) (hwp : wp_N_asNumber a0 post) : Met l y_N_asNumber ws_N_asNumber rm_N_asNumber (va_Pc [.int a0] (bN dC dI cI cL cZ q A D G K N P T)) (va_Qi (fun (r : Int32) (u : Unit) => post r) (fun u t => va_P (dC, dI) clZ (wN cI cL cZ q A D G K N P T) t.heap) (aN q)) 0 0 (aN q) := by
  refine Met.ofW (cc := b_N_asNumber) (maxL := 1) (ret := (some .int)) (by decide) rfl ?_
  intro p e s m args below meth c s₁ B hml hv
  obtain ⟨rfl, hP, hK⟩ := hv
  have hx := B.exec
  have hb := B.bytes
  have hr := B.returns
  have hts := atoms_spec (ws := ws_N_asNumber) B.pre
  have hown : s.vm.findClass R_N = some m.cls := findClass_of_methodNamed B.named
  have hlocks := B.notSynchronized
  have hS : va_S (aN q) s.heap s.heap [] := va_S.rf
  have hl := lv_entry ([.int a0]) (n := 1) (Nat.le_of_ble_eq_true rfl)
  rw [lg_entry_eq]
  generalize (lg_sl ([.int a0]) ++ List.replicate (1 - (lg_sl ([.int a0])).length) Slot.unset).toArray = ls at hl ⊢
  have hl : lv_has ls 1 [(0, .int a0)] := hl
  obtain ⟨Q, hQ⟩ : ∃ Q, Q = MQ below (va_Qi (fun (r : Int32) (u : Unit) => post r) (fun u t => va_P (dC, dI) clZ (wN cI cL cZ q A D G K N P T) t.heap) (aN q)) ([.int a0]).toArray s 0 0 (aN q) := ⟨_, rfl⟩
  rw [← hQ]
  rw [wp_N_asNumber] at hwp
  refine lv_iload_n hx hb d_N_asNumber_0 rfl (lv_at hl 0 rfl) ?_
  refine lv_if_eq (tgt := 8) hx hb d_N_asNumber_1 (by decide) (fun hc => ?_) (fun hc => ?_)
  · rw [if_pos hc] at hwp
    refine lv_iconst (v := 0) hx hb d_N_asNumber_8 (by decide) ?_
    rw [hQ]
    exact W.iret (v := 0) hx hb hr (fun t ht hW => ⟨⟨0, (), rfl, hwp, hp_of ht hP⟩, hS.F ht⟩) hS.2.2 d_N_asNumber_9
  · rw [if_neg hc] at hwp
    refine lv_iconst (v := 1) hx hb d_N_asNumber_4 (by decide) ?_
    refine lv_goto hx hb d_N_asNumber_5 (tgt := 9) (by decide) ?_
    rw [hQ]
    exact W.iret (v := 1) hx hb hr (fun t ht hW => ⟨⟨1, (), rfl, hwp, hp_of ht hP⟩, hS.F ht⟩) hS.2.2 d_N_asNumber_9

set_option maxHeartbeats 4000000 in
set_option maxRecDepth 100000 in
theorem c_N_update {l : Launch} {dC : Nat → ClassId} {dI : Nat → Nat → Nat} {cI cL cZ : ClassId} {q : Nat → Nat} (hq : iN q) (A : S_A) (D : S_D) (G : S_G) (K : S_K) (N : S_N) (P : S_P) (T : S_T) (a1 : Int32) (a2 : Int32) (a3 : Int32) (a4 : Int32) (post : S_A → S_G → Prop) (hwp : wp_N_update A G a1 a2 a3 a4 post) : Met l y_N_update ws_N_update rm_N_update (va_Pc [.ref (q 0), .int a1, .int a2, .int a3, .int a4] (bN dC dI cI cL cZ q A D G K N P T)) (va_Qv (fun (u : S_A × S_G) => post u.1 u.2) (fun u t => va_P (dC, dI) clZ (wN cI cL cZ q (u.1) D (u.2) K N P T) t.heap) (aN q)) 0 0 (aN q) := by
  refine Met.ofW (cc := b_N_update) (maxL := 6) (ret := none) (by decide) rfl ?_
  intro p e s m args below meth c s₁ B hml hv
  obtain ⟨rfl, hP, hK⟩ := hv
  have hx := B.exec
  have hb := B.bytes
  have hr := B.returns
  have hts := atoms_spec (ws := ws_N_update) B.pre
  have hown : s.vm.findClass R_N = some m.cls := findClass_of_methodNamed B.named
  have hlocks := B.notSynchronized
  have hiN : ∀ w ∈ u_ws R_N F_N 7, w ∈ ws_N_update := fun w h => List.mem_cons_of_mem _ (in_N w h)
  have hiA : ∀ w ∈ u_ws R_A F_A 10, w ∈ ws_N_update := fun w h => List.mem_cons_of_mem _ (in_A w h)
  have lk40 := hts _ (List.mem_cons_of_mem _ k_N_40)
  have lk58 := hts _ (List.mem_cons_of_mem _ k_N_58)
  have lk222 := hts _ (List.mem_cons_of_mem _ k_N_222)
  have lk225 := hts _ (List.mem_cons_of_mem _ k_N_225)
  have hS : va_S (aN q) s.heap s.heap [] := va_S.rf
  have hl := lv_entry ([.ref (q 0), .int a1, .int a2, .int a3, .int a4]) (n := 6) (Nat.le_of_ble_eq_true rfl)
  rw [lg_entry_eq]
  generalize (lg_sl ([.ref (q 0), .int a1, .int a2, .int a3, .int a4]) ++ List.replicate (6 - (lg_sl ([.ref (q 0), .int a1, .int a2, .int a3, .int a4])).length) Slot.unset).toArray = ls at hl ⊢
  have hl : lv_has ls 6 [(0, .ref (q 0)), (1, .int a1), (2, .int a2), (3, .int a3), (4, .int a4)] := hl
  obtain ⟨Q, hQ⟩ : ∃ Q, Q = MQ below (va_Qv (fun (u : S_A × S_G) => post u.1 u.2) (fun u t => va_P (dC, dI) clZ (wN cI cL cZ q (u.1) D (u.2) K N P T) t.heap) (aN q)) ([.ref (q 0), .int a1, .int a2, .int a3, .int a4]).toArray s 0 0 (aN q) := ⟨_, rfl⟩
  rw [← hQ]
  rw [wp_N_update] at hwp
  refine lv_aload_n hx hb d_N_update_0 rfl (lv_at hl 0 rfl) ?_
  refine va_get (D := (dC, dI)) (ci := 0) (v := .ref (q 5)) (C := R_N) (T := F_N) (N := 7) hx hb hts hiN hown hK hP 0 rfl rfl 4 (by decide) lk40 (fun _ h9 => h9) rfl d_N_update_1 ?_
  refine lv_iconst (v := 2) hx hb d_N_update_4 (by decide) ?_
  refine lv_iload_n hx hb d_N_update_5 rfl (lv_at hl 1 rfl) ?_
  refine lv_iload_n hx hb d_N_update_6 rfl (lv_at hl 2 rfl) ?_
  refine ncn_i (As := [.int 2, .int a1, .int a2]) (c_G_append hq (A) (D) (G) (K) (N) (P) (T) (2) (a1) (a2) _ hwp) (cwV 3 hts g_N_85 rfl rfl rfl hd_G_append ⟨Nat.le_of_ble_eq_true rfl, Nat.le_of_ble_eq_true rfl⟩) hx hb hml hown hts hK hP hS hl.1 d_N_update_7 (va_recv (q := (R_G, F_G, 12)) hK hP (ci := 5) (q0 := 5) rfl rfl) rfl (lv_room (Nat.le_of_ble_eq_true rfl)) (Nat.zero_le _) (Nat.zero_le _) rfl (fun r1 G2 H locs hwp hP hS => ?_)
  have hP : va_P (dC, dI) clZ (wN cI cL cZ q A D G2 K N P T) H := hP
  refine lv_istore (lv' := [(5, .int r1), (0, .ref (q 0)), (1, .int a1), (2, .int a2), (3, .int a3), (4, .int a4)]) hx hb d_N_update_10 hl (by decide) rfl (fun ls hl => ?_)
  refine lv_aload_n hx hb d_N_update_12 rfl (lv_at hl 1 rfl) ?_
  refine va_get (D := (dC, dI)) (ci := 0) (v := .ref (q 5)) (C := R_N) (T := F_N) (N := 7) hx hb hts hiN hown hK hP 0 rfl rfl 4 (by decide) lk40 (fun _ h9 => h9) rfl d_N_update_13 ?_
  refine lv_iload hx hb d_N_update_16 (lv_at hl 0 rfl) ?_
  refine lv_aload_n hx hb d_N_update_18 rfl (lv_at hl 1 rfl) ?_
  refine va_get (D := (dC, dI)) (ci := 0) (v := .ref (q 6)) (C := R_N) (T := F_N) (N := 7) hx hb hts hiN hown hK hP 0 rfl rfl 5 (by decide) lk58 (fun _ h9 => h9) rfl d_N_update_19 ?_
  refine va_get (D := (dC, dI)) (ci := 6) (v := .ref (q 33)) (C := R_A) (T := F_A) (N := 10) hx hb hts hiA hown hK hP 6 rfl rfl 5 (by decide) lk222 (fun _ h9 => h9) rfl d_N_update_22 ?_
  refine lv_iload_n hx hb d_N_update_25 rfl (lv_at hl 3 rfl) ?_
  refine va_zald hx hb hK hP 33 2 rfl rfl hwp.1 d_N_update_26 ?_
  have hwp := hwp.2
  refine lv_aload_n hx hb d_N_update_27 rfl (lv_at hl 1 rfl) ?_
  refine va_get (D := (dC, dI)) (ci := 0) (v := .ref (q 6)) (C := R_N) (T := F_N) (N := 7) hx hb hts hiN hown hK hP 0 rfl rfl 5 (by decide) lk58 (fun _ h9 => h9) rfl d_N_update_28 ?_
  refine va_get (D := (dC, dI)) (ci := 6) (v := .ref (q 34)) (C := R_A) (T := F_A) (N := 10) hx hb hts hiA hown hK hP 6 rfl rfl 6 (by decide) lk225 (fun _ h9 => h9) rfl d_N_update_31 ?_
  refine lv_iload_n hx hb d_N_update_34 rfl (lv_at hl 3 rfl) ?_
  refine va_iald hx hb hK hP 34 0 rfl rfl hwp.1 d_N_update_35 ?_
  have hwp := hwp.2
  refine ncn_v (As := [.int r1, .int ((A_there A) (Int32.toNatClampNeg a2)), .int ((A_value A) (Int32.toNatClampNeg a2))]) (c_G_setBefore hq (A) (D) (G2) (K) (N) (P) (T) (r1) (((A_there A) (Int32.toNatClampNeg a2))) (((A_value A) (Int32.toNatClampNeg a2))) _ hwp) (cwV 3 hts g_N_307 rfl rfl rfl hd_G_setBefore ⟨Nat.le_of_ble_eq_true rfl, Nat.le_of_ble_eq_true rfl⟩) hx hb hml hown hts hK hP hS hl.1 d_N_update_36 (va_recv (q := (R_G, F_G, 12)) hK hP (ci := 5) (q0 := 5) rfl rfl) rfl (lv_room (Nat.le_of_ble_eq_true rfl)) (Nat.zero_le _) (Nat.zero_le _) rfl (fun G3 H locs hwp hP hS => ?_)
  have hP : va_P (dC, dI) clZ (wN cI cL cZ q A D G3 K N P T) H := hP
  refine lv_aload_n hx hb d_N_update_39 rfl (lv_at hl 1 rfl) ?_
  refine va_get (D := (dC, dI)) (ci := 0) (v := .ref (q 5)) (C := R_N) (T := F_N) (N := 7) hx hb hts hiN hown hK hP 0 rfl rfl 4 (by decide) lk40 (fun _ h9 => h9) rfl d_N_update_40 ?_
  refine lv_iload hx hb d_N_update_43 (lv_at hl 0 rfl) ?_
  refine lv_iload_n hx hb d_N_update_45 rfl (lv_at hl 4 rfl) ?_
  refine lv_iload hx hb d_N_update_46 (lv_at hl 5 rfl) ?_
  refine ncn_v (As := [.int r1, .int a3, .int a4]) (c_G_setAfter hq (A) (D) (G3) (K) (N) (P) (T) (r1) (a3) (a4) _ hwp) (cwV 3 hts g_N_311 rfl rfl rfl hd_G_setAfter ⟨Nat.le_of_ble_eq_true rfl, Nat.le_of_ble_eq_true rfl⟩) hx hb hml hown hts hK hP hS hl.1 d_N_update_48 (va_recv (q := (R_G, F_G, 12)) hK hP (ci := 5) (q0 := 5) rfl rfl) rfl (lv_room (Nat.le_of_ble_eq_true rfl)) (Nat.zero_le _) (Nat.zero_le _) rfl (fun G4 H locs hwp hP hS => ?_)
  have hP : va_P (dC, dI) clZ (wN cI cL cZ q A D G4 K N P T) H := hP
  refine lv_aload_n hx hb d_N_update_51 rfl (lv_at hl 1 rfl) ?_
  refine va_get (D := (dC, dI)) (ci := 0) (v := .ref (q 6)) (C := R_N) (T := F_N) (N := 7) hx hb hts hiN hown hK hP 0 rfl rfl 5 (by decide) lk58 (fun _ h9 => h9) rfl d_N_update_52 ?_
  refine lv_iload_n hx hb d_N_update_55 rfl (lv_at hl 3 rfl) ?_
  refine lv_iconst (v := 4) hx hb d_N_update_56 (by decide) ?_
  refine lv_idiv hx hb d_N_update_57 (by decide) ?_
  refine lv_aload_n hx hb d_N_update_58 rfl (lv_at hl 1 rfl) ?_
  refine va_get (D := (dC, dI)) (ci := 0) (v := .ref (q 5)) (C := R_N) (T := F_N) (N := 7) hx hb hts hiN hown hK hP 0 rfl rfl 4 (by decide) lk40 (fun _ h9 => h9) rfl d_N_update_59 ?_
  refine ncn_v (As := [.int (a2 / 4), .ref (q 5)]) (c_A_touch hq (A) (D) (G4) (K) (N) (P) (T) ((a2 / 4)) _ hwp) (cwV 2 hts g_N_296 rfl rfl rfl hd_A_touch ⟨Nat.le_of_ble_eq_true rfl, Nat.le_of_ble_eq_true rfl⟩) hx hb hml hown hts hK hP hS hl.1 d_N_update_62 (va_recv (q := (R_A, F_A, 10)) hK hP (ci := 6) (q0 := 6) rfl rfl) rfl (lv_room (Nat.le_of_ble_eq_true rfl)) (Nat.zero_le _) (Nat.zero_le _) rfl (fun u H locs hwp hP hS => ?_)
  obtain ⟨A5, G6⟩ := u
  have hP : va_P (dC, dI) clZ (wN cI cL cZ q A5 D G6 K N P T) H := hP
  refine lv_aload_n hx hb d_N_update_65 rfl (lv_at hl 1 rfl) ?_
  refine va_get (D := (dC, dI)) (ci := 0) (v := .ref (q 6)) (C := R_N) (T := F_N) (N := 7) hx hb hts hiN hown hK hP 0 rfl rfl 5 (by decide) lk58 (fun _ h9 => h9) rfl d_N_update_66 ?_
  refine lv_iload_n hx hb d_N_update_69 rfl (lv_at hl 3 rfl) ?_
  refine lv_iload_n hx hb d_N_update_70 rfl (lv_at hl 4 rfl) ?_
  refine lv_iload hx hb d_N_update_71 (lv_at hl 5 rfl) ?_
  refine lv_aload_n hx hb d_N_update_73 rfl (lv_at hl 1 rfl) ?_
  refine va_get (D := (dC, dI)) (ci := 0) (v := .ref (q 5)) (C := R_N) (T := F_N) (N := 7) hx hb hts hiN hown hK hP 0 rfl rfl 4 (by decide) lk40 (fun _ h9 => h9) rfl d_N_update_74 ?_
  refine lv_iload hx hb d_N_update_77 (lv_at hl 0 rfl) ?_
  refine ncn_i (As := [.int r1]) (c_G_lsnOf hq (A5) (D) (G6) (K) (N) (P) (T) (r1) _ hwp) (cwV 1 hts g_N_314 rfl rfl rfl hd_G_lsnOf ⟨Nat.le_of_ble_eq_true rfl, Nat.le_of_ble_eq_true rfl⟩) hx hb hml hown hts hK hP hS hl.1 d_N_update_79 (va_recv (q := (R_G, F_G, 12)) hK hP (ci := 5) (q0 := 5) rfl rfl) rfl (lv_room (Nat.le_of_ble_eq_true rfl)) (Nat.zero_le _) (Nat.zero_le _) rfl (fun r7 u H locs hwp hP hS => ?_)
  have hP : va_P (dC, dI) clZ (wN cI cL cZ q A5 D G6 K N P T) H := hP
  refine ncn_v (As := [.int a2, .int a3, .int a4, .int r7]) (c_A_change hq (A5) (D) (G6) (K) (N) (P) (T) (a2) (a3) (a4) (r7) _ hwp) (cwV 4 hts g_N_317 rfl rfl rfl hd_A_change ⟨Nat.le_of_ble_eq_true rfl, Nat.le_of_ble_eq_true rfl⟩) hx hb hml hown hts hK hP hS hl.1 d_N_update_82 (va_recv (q := (R_A, F_A, 10)) hK hP (ci := 6) (q0 := 6) rfl rfl) rfl (lv_room (Nat.le_of_ble_eq_true rfl)) (Nat.zero_le _) (Nat.zero_le _) rfl (fun A8 H locs hwp hP hS => ?_)
  have hP : va_P (dC, dI) clZ (wN cI cL cZ q A8 D G6 K N P T) H := hP
  rw [hQ]
  exact W.vret hx hb hr (fun t ht hW => ⟨⟨(A8, G6), rfl, hwp, hp_of ht hP⟩, hS.F ht⟩) hS.2.2 d_N_update_85

set_option maxHeartbeats 4000000 in
set_option maxRecDepth 100000 in
theorem c_N_countAndSum {l : Launch} {dC : Nat → ClassId} {dI : Nat → Nat → Nat} {cI cL cZ : ClassId} {q : Nat → Nat} (hq : iN q) (A : S_A) (D : S_D) (G : S_G) (K : S_K) (N : S_N) (P : S_P) (T : S_T) (a1 : Int32) (a2 : Int32) (post : Int32 → S_A → S_G → S_N → Prop) (hwp : wp_N_countAndSum A G N a1 a2 post) : Met l y_N_countAndSum ws_N_countAndSum rm_N_countAndSum (va_Pc [.ref (q 0), .int a1, .int a2] (bN dC dI cI cL cZ q A D G K N P T)) (va_Qi (fun (r : Int32) (u : S_A × S_G × S_N) => post r u.1 u.2.1 u.2.2) (fun u t => va_P (dC, dI) clZ (wN cI cL cZ q (u.1) D (u.2.1) K (u.2.2) P T) t.heap) (aN q)) 0 0 (aN q) := by
  refine Met.ofW (cc := b_N_countAndSum) (maxL := 6) (ret := (some .int)) (by decide) rfl ?_
  intro p e s m args below meth c s₁ B hml hv
  obtain ⟨rfl, hP, hK⟩ := hv
  have hx := B.exec
  have hb := B.bytes
  have hr := B.returns
  have hts := atoms_spec (ws := ws_N_countAndSum) B.pre
  have hown : s.vm.findClass R_N = some m.cls := findClass_of_methodNamed B.named
  have hlocks := B.notSynchronized
  have hiN : ∀ w ∈ u_ws R_N F_N 7, w ∈ ws_N_countAndSum := fun w h => List.mem_cons_of_mem _ (in_N w h)
  have hiA : ∀ w ∈ u_ws R_A F_A 10, w ∈ ws_N_countAndSum := fun w h => List.mem_cons_of_mem _ (in_A w h)
  have lk40 := hts _ (List.mem_cons_of_mem _ k_N_40)
  have lk58 := hts _ (List.mem_cons_of_mem _ k_N_58)
  have lk100 := hts _ (List.mem_cons_of_mem _ k_N_100)
  have lk222 := hts _ (List.mem_cons_of_mem _ k_N_222)
  have lk225 := hts _ (List.mem_cons_of_mem _ k_N_225)
  have hS : va_S (aN q) s.heap s.heap [] := va_S.rf
  have hl := lv_entry ([.ref (q 0), .int a1, .int a2]) (n := 6) (Nat.le_of_ble_eq_true rfl)
  rw [lg_entry_eq]
  generalize (lg_sl ([.ref (q 0), .int a1, .int a2]) ++ List.replicate (6 - (lg_sl ([.ref (q 0), .int a1, .int a2])).length) Slot.unset).toArray = ls at hl ⊢
  have hl : lv_has ls 6 [(0, .ref (q 0)), (1, .int a1), (2, .int a2)] := hl
  obtain ⟨Q, hQ⟩ : ∃ Q, Q = MQ below (va_Qi (fun (r : Int32) (u : S_A × S_G × S_N) => post r u.1 u.2.1 u.2.2) (fun u t => va_P (dC, dI) clZ (wN cI cL cZ q (u.1) D (u.2.1) K (u.2.2) P T) t.heap) (aN q)) ([.ref (q 0), .int a1, .int a2]).toArray s 0 0 (aN q) := ⟨_, rfl⟩
  rw [← hQ]
  have L4 : ∀ (Kx : S_A → S_G → Prop) (N : S_N) (v1 : Int32) (v2 : Int32) (n : Nat) (v3 : Int32) (A : S_A) (G : S_G) (H : Heap) (locs : List Loc) (ls : Array Slot), lv_has ls 6 [(0, .ref (q 0)), (1, .int v1), (2, .int v2), (3, .int v3)] → va_P (dC, dI) clZ (wN cI cL cZ q A D G K N P T) H → va_S (aN q) s.heap H locs → wp_N_countAndSum_L4 v1 v2 Kx n v3 A G → (∀ (A1 : S_A) (G1 : S_G) (H : Heap) (locs : List Loc) (ls : Array Slot), lv_has ls 6 [(0, .ref (q 0)), (1, .int v1), (2, .int v2)] → va_P (dC, dI) clZ (wN cI cL cZ q A1 D G1 K N P T) H → va_S (aN q) s.heap H locs → Kx A1 G1 → W p l e (headSpec ws_N_countAndSum rm_N_countAndSum).room s m ([.ref (q 0), .int a1, .int a2]).toArray below meth c H locs 0 0 Q (F0 m 29 ls [])) → W p l e (headSpec ws_N_countAndSum rm_N_countAndSum).room s m ([.ref (q 0), .int a1, .int a2]).toArray below meth c H locs 0 0 Q (F0 m 4 ls []) := by
    intro Kx N v1 v2 n
    induction n with
    | zero =>
      intros
      rename_i hwp _
      exact hwp.elim
    | succ n4 ih =>
      intro v3 A G H locs ls hl hP hS hwp hX
      rw [wp_N_countAndSum_L4] at hwp
      refine lv_iload_n hx hb d_N_countAndSum_4 rfl (lv_at hl 3 rfl) ?_
      refine lv_iload_n hx hb d_N_countAndSum_5 rfl (lv_at hl 2 rfl) ?_
      refine lv_iconst (v := 4) hx hb d_N_countAndSum_6 (by decide) ?_
      refine lv_idiv hx hb d_N_countAndSum_7 (by decide) ?_
      refine lv_icmp_gt (tgt := 29) hx hb d_N_countAndSum_8 (by decide) (fun hc => ?_) (fun hc => ?_)
      · rw [if_pos hc] at hwp
        exact hX (A) (G) _ _ _ (lv_sub hl [0, 1, 2] rfl) hP hS hwp
      · rw [if_neg hc] at hwp
        refine lv_aload_n hx hb d_N_countAndSum_11 rfl (lv_at hl 0 rfl) ?_
        refine va_get (D := (dC, dI)) (ci := 0) (v := .ref (q 6)) (C := R_N) (T := F_N) (N := 7) hx hb hts hiN hown hK hP 0 rfl rfl 5 (by decide) lk58 (fun _ h9 => h9) rfl d_N_countAndSum_12 ?_
        refine lv_iload_n hx hb d_N_countAndSum_15 rfl (lv_at hl 3 rfl) ?_
        refine lv_aload_n hx hb d_N_countAndSum_16 rfl (lv_at hl 0 rfl) ?_
        refine va_get (D := (dC, dI)) (ci := 0) (v := .ref (q 5)) (C := R_N) (T := F_N) (N := 7) hx hb hts hiN hown hK hP 0 rfl rfl 4 (by decide) lk40 (fun _ h9 => h9) rfl d_N_countAndSum_17 ?_
        refine ncn_v (As := [.int v3, .ref (q 5)]) (c_A_touch hq (A) (D) (G) (K) (N) (P) (T) (v3) _ hwp) (cwV 2 hts g_N_296 rfl rfl rfl hd_A_touch ⟨Nat.le_of_ble_eq_true rfl, Nat.le_of_ble_eq_true rfl⟩) hx hb hml hown hts hK hP hS hl.1 d_N_countAndSum_20 (va_recv (q := (R_A, F_A, 10)) hK hP (ci := 6) (q0 := 6) rfl rfl) rfl (lv_room (Nat.le_of_ble_eq_true rfl)) (Nat.zero_le _) (Nat.zero_le _) rfl (fun u H locs hwp hP hS => ?_)
        obtain ⟨A1, G2⟩ := u
        have hP : va_P (dC, dI) clZ (wN cI cL cZ q A1 D G2 K N P T) H := hP
        refine lv_iinc (k := 3) (v := (v3 + 1)) (lv' := [(3, .int (v3 + 1)), (0, .ref (q 0)), (1, .int v1), (2, .int v2)]) hx hb d_N_countAndSum_23 hl rfl (ii_1 _) (by decide) rfl (fun ls hl => ?_)
        refine lv_goto hx hb d_N_countAndSum_26 (tgt := 4) (by decide) ?_
        exact ih ((v3 + 1)) (A1) (G2) _ _ _ (lv_sub hl [1, 2, 3, 0] rfl) hP hS hwp hX
  have L37 : ∀ (Kx : Int32 → Int32 → Prop) (A : S_A) (G : S_G) (N : S_N) (v2 : Int32) (n : Nat) (v3 : Int32) (v4 : Int32) (v5 : Int32) (H : Heap) (locs : List Loc) (ls : Array Slot), lv_has ls 6 [(0, .ref (q 0)), (2, .int v2), (3, .int v3), (4, .int v4), (5, .int v5)] → va_P (dC, dI) clZ (wN cI cL cZ q A D G K N P T) H → va_S (aN q) s.heap H locs → wp_N_countAndSum_L37 A v2 Kx n v3 v4 v5 → (∀ (x3 : Int32) (x4 : Int32) (H : Heap) (locs : List Loc) (ls : Array Slot), lv_has ls 6 [(0, .ref (q 0)), (3, .int x3), (4, .int x4)] → va_P (dC, dI) clZ (wN cI cL cZ q A D G K N P T) H → va_S (aN q) s.heap H locs → Kx x3 x4 → W p l e (headSpec ws_N_countAndSum rm_N_countAndSum).room s m ([.ref (q 0), .int a1, .int a2]).toArray below meth c H locs 0 0 Q (F0 m 80 ls [])) → W p l e (headSpec ws_N_countAndSum rm_N_countAndSum).room s m ([.ref (q 0), .int a1, .int a2]).toArray below meth c H locs 0 0 Q (F0 m 37 ls []) := by
    intro Kx A G N v2 n
    induction n with
    | zero =>
      intros
      rename_i hwp _
      exact hwp.elim
    | succ n37 ih =>
      intro v3 v4 v5 H locs ls hl hP hS hwp hX
      rw [wp_N_countAndSum_L37] at hwp
      refine lv_iload hx hb d_N_countAndSum_37 (lv_at hl 4 rfl) ?_
      refine lv_iload_n hx hb d_N_countAndSum_39 rfl (lv_at hl 1 rfl) ?_
      refine lv_icmp_gt (tgt := 80) hx hb d_N_countAndSum_40 (by decide) (fun hc => ?_) (fun hc => ?_)
      · rw [if_pos hc] at hwp
        exact hX (v3) (v4) _ _ _ (lv_sub hl [0, 2, 3] rfl) hP hS hwp
      · rw [if_neg hc] at hwp
        refine lv_aload_n hx hb d_N_countAndSum_43 rfl (lv_at hl 0 rfl) ?_
        refine va_get (D := (dC, dI)) (ci := 0) (v := .ref (q 6)) (C := R_N) (T := F_N) (N := 7) hx hb hts hiN hown hK hP 0 rfl rfl 5 (by decide) lk58 (fun _ h9 => h9) rfl d_N_countAndSum_44 ?_
        refine va_get (D := (dC, dI)) (ci := 6) (v := .ref (q 33)) (C := R_A) (T := F_A) (N := 10) hx hb hts hiA hown hK hP 6 rfl rfl 5 (by decide) lk222 (fun _ h9 => h9) rfl d_N_countAndSum_47 ?_
        refine lv_iload hx hb d_N_countAndSum_50 (lv_at hl 4 rfl) ?_
        refine va_zald hx hb hK hP 33 2 rfl rfl hwp.1 d_N_countAndSum_52 ?_
        have hwp := hwp.2
        refine lv_if_eq (tgt := 74) hx hb d_N_countAndSum_53 (by decide) (fun hc => ?_) (fun hc => ?_)
        · rw [if_pos hc] at hwp
          refine lv_iinc (k := 4) (v := (v5 + 1)) (lv' := [(5, .int (v5 + 1)), (0, .ref (q 0)), (2, .int v2), (3, .int v3), (4, .int v4)]) hx hb d_N_countAndSum_74 hl rfl (ii_1 _) (by decide) rfl (fun ls hl => ?_)
          refine lv_goto hx hb d_N_countAndSum_77 (tgt := 37) (by decide) ?_
          exact ih (v3) (v4) ((v5 + 1)) _ _ _ (lv_sub hl [1, 2, 3, 4, 0] rfl) hP hS hwp hX
        · rw [if_neg hc] at hwp
          refine lv_iinc (k := 2) (v := (v3 + 1)) (lv' := [(3, .int (v3 + 1)), (0, .ref (q 0)), (2, .int v2), (4, .int v4), (5, .int v5)]) hx hb d_N_countAndSum_56 hl rfl (ii_1 _) (by decide) rfl (fun ls hl => ?_)
          refine lv_iload hx hb d_N_countAndSum_59 (lv_at hl 3 rfl) ?_
          refine lv_aload_n hx hb d_N_countAndSum_61 rfl (lv_at hl 1 rfl) ?_
          refine va_get (D := (dC, dI)) (ci := 0) (v := .ref (q 6)) (C := R_N) (T := F_N) (N := 7) hx hb hts hiN hown hK hP 0 rfl rfl 5 (by decide) lk58 (fun _ h9 => h9) rfl d_N_countAndSum_62 ?_
          refine va_get (D := (dC, dI)) (ci := 6) (v := .ref (q 34)) (C := R_A) (T := F_A) (N := 10) hx hb hts hiA hown hK hP 6 rfl rfl 6 (by decide) lk225 (fun _ h9 => h9) rfl d_N_countAndSum_65 ?_
          refine lv_iload hx hb d_N_countAndSum_68 (lv_at hl 4 rfl) ?_
          refine va_iald hx hb hK hP 34 0 rfl rfl hwp.1 d_N_countAndSum_70 ?_
          have hwp := hwp.2
          refine lv_iadd hx hb d_N_countAndSum_71 ?_
          refine lv_istore (lv' := [(4, .int (v4 + ((A_value A) (Int32.toNatClampNeg v5)))), (3, .int (v3 + 1)), (0, .ref (q 0)), (2, .int v2), (5, .int v5)]) hx hb d_N_countAndSum_72 hl (by decide) rfl (fun ls hl => ?_)
          refine lv_iinc (k := 4) (v := (v5 + 1)) (lv' := [(5, .int (v5 + 1)), (4, .int (v4 + ((A_value A) (Int32.toNatClampNeg v5)))), (3, .int (v3 + 1)), (0, .ref (q 0)), (2, .int v2)]) hx hb d_N_countAndSum_74 hl rfl (ii_1 _) (by decide) rfl (fun ls hl => ?_)
          refine lv_goto hx hb d_N_countAndSum_77 (tgt := 37) (by decide) ?_
          exact ih ((v3 + 1)) ((v4 + ((A_value A) (Int32.toNatClampNeg v5)))) ((v5 + 1)) _ _ _ (lv_sub hl [3, 4, 2, 1, 0] rfl) hP hS hwp hX
  rw [wp_N_countAndSum] at hwp
  refine lv_iload_n hx hb d_N_countAndSum_0 rfl (lv_at hl 1 rfl) ?_
  refine lv_iconst (v := 4) hx hb d_N_countAndSum_1 (by decide) ?_
  refine lv_idiv hx hb d_N_countAndSum_2 (by decide) ?_
  refine lv_istore_n (lv' := [(3, .int (a1 / 4)), (0, .ref (q 0)), (1, .int a1), (2, .int a2)]) hx hb d_N_countAndSum_3 rfl hl (by decide) rfl (fun ls hl => ?_)
  obtain ⟨e4, hwp⟩ := hwp
  refine L4 _ (N) (a1) (a2) e4 ((a1 / 4)) (A) (G) _ _ _ (lv_sub hl [1, 2, 3, 0] rfl) hP hS hwp (fun A3 G4 H locs ls hl hP hS hwp => ?_)
  refine lv_iconst (v := 0) hx hb d_N_countAndSum_29 (by decide) ?_
  refine lv_istore_n (lv' := [(3, .int 0), (0, .ref (q 0)), (1, .int a1), (2, .int a2)]) hx hb d_N_countAndSum_30 rfl hl (by decide) rfl (fun ls hl => ?_)
  refine lv_iconst (v := 0) hx hb d_N_countAndSum_31 (by decide) ?_
  refine lv_istore (lv' := [(4, .int 0), (3, .int 0), (0, .ref (q 0)), (1, .int a1), (2, .int a2)]) hx hb d_N_countAndSum_32 hl (by decide) rfl (fun ls hl => ?_)
  refine lv_iload_n hx hb d_N_countAndSum_34 rfl (lv_at hl 3 rfl) ?_
  refine lv_istore (lv' := [(5, .int a1), (4, .int 0), (3, .int 0), (0, .ref (q 0)), (1, .int a1), (2, .int a2)]) hx hb d_N_countAndSum_35 hl (by decide) rfl (fun ls hl => ?_)
  obtain ⟨e37, hwp⟩ := hwp
  refine L37 _ (A3) (G4) (N) (a2) e37 (0) (0) (a1) _ _ _ (lv_sub hl [3, 5, 2, 1, 0] rfl) hP hS hwp (fun x5 x6 H locs ls hl hP hS hwp => ?_)
  refine lv_aload_n hx hb d_N_countAndSum_80 rfl (lv_at hl 0 rfl) ?_
  refine lv_iload hx hb d_N_countAndSum_81 (lv_at hl 2 rfl) ?_
  refine va_put (D := (dC, dI)) (ci := 0) (v := .int x6) (ty := .int) (C := R_N) (T := F_N) (N := 7) hx hb hts hiN ty_N ty_N_ok nmx_N hown hK hP (dN hq) hS 0 rfl rfl 6 (by decide) lk100 (fun _ h9 => h9) rfl (by decide +kernel) rfl rfl (Nat.le_of_ble_eq_true rfl) d_N_countAndSum_83 (fun H locs hP _ hS => ?_)
  have hP : va_P (dC, dI) clZ (wN cI cL cZ q A3 D G4 K (N_latestValue' N x6) P T) H := hP
  refine lv_iload_n hx hb d_N_countAndSum_86 rfl (lv_at hl 1 rfl) ?_
  rw [hQ]
  exact W.iret (v := x5) hx hb hr (fun t ht hW => ⟨⟨x5, (A3, G4, (N_latestValue' N x6)), rfl, hwp, hp_of ht hP⟩, hS.F ht⟩) hS.2.2 d_N_countAndSum_87

set_option maxHeartbeats 4000000 in
set_option maxRecDepth 100000 in
theorem c_N_carryOut {l : Launch} {dC : Nat → ClassId} {dI : Nat → Nat → Nat} {cI cL cZ : ClassId} {q : Nat → Nat} (hq : iN q) (A : S_A) (D : S_D) (G : S_G) (K : S_K) (N : S_N) (P : S_P) (T : S_T) (a1 : Int32) (post : Int32 → S_A → S_G → S_N → Prop) (hwp : wp_N_carryOut A G N T a1 post) : Met l y_N_carryOut ws_N_carryOut rm_N_carryOut (va_Pc [.ref (q 0), .int a1] (bN dC dI cI cL cZ q A D G K N P T)) (va_Qi (fun (r : Int32) (u : S_A × S_G × S_N) => post r u.1 u.2.1 u.2.2) (fun u t => va_P (dC, dI) clZ (wN cI cL cZ q (u.1) D (u.2.1) K (u.2.2) P T) t.heap) (aN q)) 0 0 (aN q) := by
  refine Met.ofW (cc := b_N_carryOut) (maxL := 3) (ret := (some .int)) (by decide) rfl ?_
  intro p e s m args below meth c s₁ B hml hv
  obtain ⟨rfl, hP, hK⟩ := hv
  have hx := B.exec
  have hb := B.bytes
  have hr := B.returns
  have hts := atoms_spec (ws := ws_N_carryOut) B.pre
  have hown : s.vm.findClass R_N = some m.cls := findClass_of_methodNamed B.named
  have hlocks := B.notSynchronized
  have hiN : ∀ w ∈ u_ws R_N F_N 7, w ∈ ws_N_carryOut := fun w h => List.mem_cons_of_mem _ (in_N w h)
  have hiA : ∀ w ∈ u_ws R_A F_A 10, w ∈ ws_N_carryOut := fun w h => List.mem_cons_of_mem _ (in_A w h)
  have hiT : ∀ w ∈ u_ws R_T F_T 11, w ∈ ws_N_carryOut := fun w h => List.mem_cons_of_mem _ (in_T w h)
  have lk12 := hts _ (List.mem_cons_of_mem _ k_N_12)
  have lk40 := hts _ (List.mem_cons_of_mem _ k_N_40)
  have lk58 := hts _ (List.mem_cons_of_mem _ k_N_58)
  have lk100 := hts _ (List.mem_cons_of_mem _ k_N_100)
  have lk222 := hts _ (List.mem_cons_of_mem _ k_N_222)
  have lk225 := hts _ (List.mem_cons_of_mem _ k_N_225)
  have lk281 := hts _ (List.mem_cons_of_mem _ k_N_281)
  have lk284 := hts _ (List.mem_cons_of_mem _ k_N_284)
  have lk287 := hts _ (List.mem_cons_of_mem _ k_N_287)
  have lk299 := hts _ (List.mem_cons_of_mem _ k_N_299)
  have hS : va_S (aN q) s.heap s.heap [] := va_S.rf
  have hl := lv_entry ([.ref (q 0), .int a1]) (n := 3) (Nat.le_of_ble_eq_true rfl)
  rw [lg_entry_eq]
  generalize (lg_sl ([.ref (q 0), .int a1]) ++ List.replicate (3 - (lg_sl ([.ref (q 0), .int a1])).length) Slot.unset).toArray = ls at hl ⊢
  have hl : lv_has ls 3 [(0, .ref (q 0)), (1, .int a1)] := hl
  obtain ⟨Q, hQ⟩ : ∃ Q, Q = MQ below (va_Qi (fun (r : Int32) (u : S_A × S_G × S_N) => post r u.1 u.2.1 u.2.2) (fun u t => va_P (dC, dI) clZ (wN cI cL cZ q (u.1) D (u.2.1) K (u.2.2) P T) t.heap) (aN q)) ([.ref (q 0), .int a1]).toArray s 0 0 (aN q) := ⟨_, rfl⟩
  rw [← hQ]
  rw [wp_N_carryOut] at hwp
  refine lv_aload_n hx hb d_N_carryOut_0 rfl (lv_at hl 0 rfl) ?_
  refine va_get (D := (dC, dI)) (ci := 0) (v := .ref (q 1)) (C := R_N) (T := F_N) (N := 7) hx hb hts hiN hown hK hP 0 rfl rfl 0 (by decide) lk12 (fun _ h9 => h9) rfl d_N_carryOut_1 ?_
  refine va_get (D := (dC, dI)) (ci := 1) (v := .ref (q 14)) (C := R_T) (T := F_T) (N := 11) hx hb hts hiT hown hK hP 1 rfl rfl 8 (by decide) lk281 (fun _ h9 => h9) rfl d_N_carryOut_4 ?_
  refine lv_iload_n hx hb d_N_carryOut_7 rfl (lv_at hl 1 rfl) ?_
  refine va_iald hx hb hK hP 14 0 rfl rfl hwp.1 d_N_carryOut_8 ?_
  have hwp := hwp.2
  refine lv_istore_n (lv' := [(2, .int ((T_low T) (Int32.toNatClampNeg a1))), (0, .ref (q 0)), (1, .int a1)]) hx hb d_N_carryOut_9 rfl hl (by decide) rfl (fun ls hl => ?_)
  refine lv_aload_n hx hb d_N_carryOut_10 rfl (lv_at hl 1 rfl) ?_
  refine va_get (D := (dC, dI)) (ci := 0) (v := .ref (q 1)) (C := R_N) (T := F_N) (N := 7) hx hb hts hiN hown hK hP 0 rfl rfl 0 (by decide) lk12 (fun _ h9 => h9) rfl d_N_carryOut_11 ?_
  refine va_get (D := (dC, dI)) (ci := 1) (v := .ref (q 13)) (C := R_T) (T := F_T) (N := 11) hx hb hts hiT hown hK hP 1 rfl rfl 7 (by decide) lk287 (fun _ h9 => h9) rfl d_N_carryOut_14 ?_
  refine lv_iload_n hx hb d_N_carryOut_17 rfl (lv_at hl 2 rfl) ?_
  refine va_iald hx hb hK hP 13 0 rfl rfl hwp.1 d_N_carryOut_18 ?_
  have hwp := hwp.2
  by_cases hc0 : ((T_kind T) (Int32.toNatClampNeg a1)) = 0
  · rw [if_pos hc0] at hwp
    refine lv_tableIn (tgt := 44) hx hb d_N_carryOut_19 (by rw [hc0]; decide) (by rw [hc0]; decide) (by rw [hc0]; rfl) (by decide) ?_
    refine lv_aload_n hx hb d_N_carryOut_44 rfl (lv_at hl 1 rfl) ?_
    refine va_get (D := (dC, dI)) (ci := 0) (v := .ref (q 6)) (C := R_N) (T := F_N) (N := 7) hx hb hts hiN hown hK hP 0 rfl rfl 5 (by decide) lk58 (fun _ h9 => h9) rfl d_N_carryOut_45 ?_
    refine lv_iload_n hx hb d_N_carryOut_48 rfl (lv_at hl 0 rfl) ?_
    refine lv_iconst (v := 4) hx hb d_N_carryOut_49 (by decide) ?_
    refine lv_idiv hx hb d_N_carryOut_50 (by decide) ?_
    refine lv_aload_n hx hb d_N_carryOut_51 rfl (lv_at hl 1 rfl) ?_
    refine va_get (D := (dC, dI)) (ci := 0) (v := .ref (q 5)) (C := R_N) (T := F_N) (N := 7) hx hb hts hiN hown hK hP 0 rfl rfl 4 (by decide) lk40 (fun _ h9 => h9) rfl d_N_carryOut_52 ?_
    refine ncn_v (As := [.int (((T_low T) (Int32.toNatClampNeg a1)) / 4), .ref (q 5)]) (c_A_touch hq (A) (D) (G) (K) (N) (P) (T) ((((T_low T) (Int32.toNatClampNeg a1)) / 4)) _ hwp) (cwV 2 hts g_N_296 rfl rfl rfl hd_A_touch ⟨Nat.le_of_ble_eq_true rfl, Nat.le_of_ble_eq_true rfl⟩) hx hb hml hown hts hK hP hS hl.1 d_N_carryOut_55 (va_recv (q := (R_A, F_A, 10)) hK hP (ci := 6) (q0 := 6) rfl rfl) rfl (lv_room (Nat.le_of_ble_eq_true rfl)) (Nat.zero_le _) (Nat.zero_le _) rfl (fun u H locs hwp hP hS => ?_)
    obtain ⟨A1, G2⟩ := u
    have hP : va_P (dC, dI) clZ (wN cI cL cZ q A1 D G2 K N P T) H := hP
    refine lv_aload_n hx hb d_N_carryOut_58 rfl (lv_at hl 1 rfl) ?_
    refine lv_aload_n hx hb d_N_carryOut_59 rfl (lv_at hl 1 rfl) ?_
    refine va_get (D := (dC, dI)) (ci := 0) (v := .ref (q 6)) (C := R_N) (T := F_N) (N := 7) hx hb hts hiN hown hK hP 0 rfl rfl 5 (by decide) lk58 (fun _ h9 => h9) rfl d_N_carryOut_60 ?_
    refine va_get (D := (dC, dI)) (ci := 6) (v := .ref (q 34)) (C := R_A) (T := F_A) (N := 10) hx hb hts hiA hown hK hP 6 rfl rfl 6 (by decide) lk225 (fun _ h9 => h9) rfl d_N_carryOut_63 ?_
    refine lv_iload_n hx hb d_N_carryOut_66 rfl (lv_at hl 0 rfl) ?_
    refine va_iald hx hb hK hP 34 0 rfl rfl hwp.1 d_N_carryOut_67 ?_
    have hwp := hwp.2
    refine va_put (D := (dC, dI)) (ci := 0) (v := .int ((A_value A1) (Int32.toNatClampNeg ((T_low T) (Int32.toNatClampNeg a1))))) (ty := .int) (C := R_N) (T := F_N) (N := 7) hx hb hts hiN ty_N ty_N_ok nmx_N hown hK hP (dN hq) hS 0 rfl rfl 6 (by decide) lk100 (fun _ h9 => h9) rfl (by decide +kernel) rfl rfl (Nat.le_of_ble_eq_true rfl) d_N_carryOut_68 (fun H locs hP _ hS => ?_)
    have hP : va_P (dC, dI) clZ (wN cI cL cZ q A1 D G2 K (N_latestValue' N ((A_value A1) (Int32.toNatClampNeg ((T_low T) (Int32.toNatClampNeg a1))))) P T) H := hP
    refine lv_aload_n hx hb d_N_carryOut_71 rfl (lv_at hl 1 rfl) ?_
    refine va_get (D := (dC, dI)) (ci := 0) (v := .ref (q 6)) (C := R_N) (T := F_N) (N := 7) hx hb hts hiN hown hK hP 0 rfl rfl 5 (by decide) lk58 (fun _ h9 => h9) rfl d_N_carryOut_72 ?_
    refine va_get (D := (dC, dI)) (ci := 6) (v := .ref (q 33)) (C := R_A) (T := F_A) (N := 10) hx hb hts hiA hown hK hP 6 rfl rfl 5 (by decide) lk222 (fun _ h9 => h9) rfl d_N_carryOut_75 ?_
    refine lv_iload_n hx hb d_N_carryOut_78 rfl (lv_at hl 0 rfl) ?_
    refine va_zald hx hb hK hP 33 2 rfl rfl hwp.1 d_N_carryOut_79 ?_
    have hwp := hwp.2
    refine ncs_i (As := [.int ((A_there A1) (Int32.toNatClampNeg ((T_low T) (Int32.toNatClampNeg a1))))]) (c_N_asNumber hq (A1) (D) (G2) (K) ((N_latestValue' N ((A_value A1) (Int32.toNatClampNeg ((T_low T) (Int32.toNatClampNeg a1)))))) (P) (T) (((A_there A1) (Int32.toNatClampNeg ((T_low T) (Int32.toNatClampNeg a1))))) _ hwp) (cwS 1 hts g_N_203 rfl rfl rfl hd_N_asNumber ⟨Nat.le_of_ble_eq_true rfl, Nat.le_of_ble_eq_true rfl⟩) hx hb hml hown hts hK hP hS hl.1 d_N_carryOut_80 rfl (lv_room (Nat.le_of_ble_eq_true rfl)) (Nat.zero_le _) (Nat.zero_le _) rfl (fun r3 u H locs hwp hP hS => ?_)
    have hP : va_P (dC, dI) clZ (wN cI cL cZ q A1 D G2 K (N_latestValue' N ((A_value A1) (Int32.toNatClampNeg ((T_low T) (Int32.toNatClampNeg a1))))) P T) H := hP
    rw [hQ]
    exact W.iret (v := r3) hx hb hr (fun t ht hW => ⟨⟨r3, (A1, G2, (N_latestValue' N ((A_value A1) (Int32.toNatClampNeg ((T_low T) (Int32.toNatClampNeg a1)))))), rfl, hwp, hp_of ht hP⟩, hS.F ht⟩) hS.2.2 d_N_carryOut_83
  rw [if_neg hc0] at hwp
  by_cases hc1 : ((T_kind T) (Int32.toNatClampNeg a1)) = 1
  · rw [if_pos hc1] at hwp
    refine lv_tableIn (tgt := 84) hx hb d_N_carryOut_19 (by rw [hc1]; decide) (by rw [hc1]; decide) (by rw [hc1]; rfl) (by decide) ?_
    refine lv_aload_n hx hb d_N_carryOut_84 rfl (lv_at hl 1 rfl) ?_
    refine ncn_i (As := []) (c_N_hasRoomForOne hq (A) (D) (G) (K) (N) (P) (T)  _ hwp) (cwV 0 hts g_N_74 rfl rfl rfl hd_N_hasRoomForOne ⟨Nat.le_of_ble_eq_true rfl, Nat.le_of_ble_eq_true rfl⟩) hx hb hml hown hts hK hP hS hl.1 d_N_carryOut_85 (va_recv (q := (R_N, F_N, 7)) hK hP (ci := 0) (q0 := 0) rfl rfl) rfl (lv_room (Nat.le_of_ble_eq_true rfl)) (Nat.zero_le _) (Nat.zero_le _) rfl (fun r4 u H locs hwp hP hS => ?_)
    have hP : va_P (dC, dI) clZ (wN cI cL cZ q A D G K N P T) H := hP
    refine lv_if_ne (tgt := 94) hx hb d_N_carryOut_88 (by decide) (fun hc => ?_) (fun hc => ?_)
    · rw [if_neg hc] at hwp
      refine lv_aload_n hx hb d_N_carryOut_94 rfl (lv_at hl 1 rfl) ?_
      refine lv_iload_n hx hb d_N_carryOut_95 rfl (lv_at hl 2 rfl) ?_
      refine lv_iload_n hx hb d_N_carryOut_96 rfl (lv_at hl 0 rfl) ?_
      refine lv_iconst (v := 1) hx hb d_N_carryOut_97 (by decide) ?_
      refine lv_aload_n hx hb d_N_carryOut_98 rfl (lv_at hl 1 rfl) ?_
      refine va_get (D := (dC, dI)) (ci := 0) (v := .ref (q 1)) (C := R_N) (T := F_N) (N := 7) hx hb hts hiN hown hK hP 0 rfl rfl 0 (by decide) lk12 (fun _ h9 => h9) rfl d_N_carryOut_99 ?_
      refine va_get (D := (dC, dI)) (ci := 1) (v := .ref (q 16)) (C := R_T) (T := F_T) (N := 11) hx hb hts hiT hown hK hP 1 rfl rfl 10 (by decide) lk299 (fun _ h9 => h9) rfl d_N_carryOut_102 ?_
      refine lv_iload_n hx hb d_N_carryOut_105 rfl (lv_at hl 2 rfl) ?_
      refine va_iald hx hb hK hP 16 0 rfl rfl hwp.1 d_N_carryOut_106 ?_
      have hwp := hwp.2
      refine ncn_v (As := [.int a1, .int ((T_low T) (Int32.toNatClampNeg a1)), .int 1, .int ((T_newValue T) (Int32.toNatClampNeg a1))]) (c_N_update hq (A) (D) (G) (K) (N) (P) (T) (a1) (((T_low T) (Int32.toNatClampNeg a1))) (1) (((T_newValue T) (Int32.toNatClampNeg a1))) _ hwp) (cwV 4 hts g_N_300 rfl rfl rfl hd_N_update ⟨Nat.le_of_ble_eq_true rfl, Nat.le_of_ble_eq_true rfl⟩) hx hb hml hown hts hK hP hS hl.1 d_N_carryOut_107 (va_recv (q := (R_N, F_N, 7)) hK hP (ci := 0) (q0 := 0) rfl rfl) rfl (lv_room (Nat.le_of_ble_eq_true rfl)) (Nat.zero_le _) (Nat.zero_le _) rfl (fun u H locs hwp hP hS => ?_)
      obtain ⟨A5, G6⟩ := u
      have hP : va_P (dC, dI) clZ (wN cI cL cZ q A5 D G6 K N P T) H := hP
      refine lv_iconst (v := 0) hx hb d_N_carryOut_110 (by decide) ?_
      rw [hQ]
      exact W.iret (v := 0) hx hb hr (fun t ht hW => ⟨⟨0, (A5, G6, N), rfl, hwp, hp_of ht hP⟩, hS.F ht⟩) hS.2.2 d_N_carryOut_111
    · rw [if_pos hc] at hwp
      refine lv_bipush (v := (-5)) hx hb d_N_carryOut_91 (by decide) ?_
      rw [hQ]
      exact W.iret (v := (-5)) hx hb hr (fun t ht hW => ⟨⟨(-5), (A, G, N), rfl, hwp, hp_of ht hP⟩, hS.F ht⟩) hS.2.2 d_N_carryOut_93
  rw [if_neg hc1] at hwp
  by_cases hc2 : ((T_kind T) (Int32.toNatClampNeg a1)) = 2
  · rw [if_pos hc2] at hwp
    refine lv_tableIn (tgt := 112) hx hb d_N_carryOut_19 (by rw [hc2]; decide) (by rw [hc2]; decide) (by rw [hc2]; rfl) (by decide) ?_
    refine lv_aload_n hx hb d_N_carryOut_112 rfl (lv_at hl 1 rfl) ?_
    refine va_get (D := (dC, dI)) (ci := 0) (v := .ref (q 6)) (C := R_N) (T := F_N) (N := 7) hx hb hts hiN hown hK hP 0 rfl rfl 5 (by decide) lk58 (fun _ h9 => h9) rfl d_N_carryOut_113 ?_
    refine va_get (D := (dC, dI)) (ci := 6) (v := .ref (q 33)) (C := R_A) (T := F_A) (N := 10) hx hb hts hiA hown hK hP 6 rfl rfl 5 (by decide) lk222 (fun _ h9 => h9) rfl d_N_carryOut_116 ?_
    refine lv_iload_n hx hb d_N_carryOut_119 rfl (lv_at hl 0 rfl) ?_
    refine va_zald hx hb hK hP 33 2 rfl rfl hwp.1 d_N_carryOut_120 ?_
    have hwp := hwp.2
    refine lv_if_ne (tgt := 126) hx hb d_N_carryOut_121 (by decide) (fun hc => ?_) (fun hc => ?_)
    · rw [if_neg hc] at hwp
      refine lv_aload_n hx hb d_N_carryOut_126 rfl (lv_at hl 1 rfl) ?_
      refine ncn_i (As := []) (c_N_hasRoomForOne hq (A) (D) (G) (K) (N) (P) (T)  _ hwp) (cwV 0 hts g_N_74 rfl rfl rfl hd_N_hasRoomForOne ⟨Nat.le_of_ble_eq_true rfl, Nat.le_of_ble_eq_true rfl⟩) hx hb hml hown hts hK hP hS hl.1 d_N_carryOut_127 (va_recv (q := (R_N, F_N, 7)) hK hP (ci := 0) (q0 := 0) rfl rfl) rfl (lv_room (Nat.le_of_ble_eq_true rfl)) (Nat.zero_le _) (Nat.zero_le _) rfl (fun r7 u H locs hwp hP hS => ?_)
      have hP : va_P (dC, dI) clZ (wN cI cL cZ q A D G K N P T) H := hP
      refine lv_if_ne (tgt := 136) hx hb d_N_carryOut_130 (by decide) (fun hc => ?_) (fun hc => ?_)
      · rw [if_neg hc] at hwp
        refine lv_aload_n hx hb d_N_carryOut_136 rfl (lv_at hl 1 rfl) ?_
        refine lv_iload_n hx hb d_N_carryOut_137 rfl (lv_at hl 2 rfl) ?_
        refine lv_iload_n hx hb d_N_carryOut_138 rfl (lv_at hl 0 rfl) ?_
        refine lv_iconst (v := 0) hx hb d_N_carryOut_139 (by decide) ?_
        refine lv_iconst (v := 0) hx hb d_N_carryOut_140 (by decide) ?_
        refine ncn_v (As := [.int a1, .int ((T_low T) (Int32.toNatClampNeg a1)), .int 0, .int 0]) (c_N_update hq (A) (D) (G) (K) (N) (P) (T) (a1) (((T_low T) (Int32.toNatClampNeg a1))) (0) (0) _ hwp) (cwV 4 hts g_N_300 rfl rfl rfl hd_N_update ⟨Nat.le_of_ble_eq_true rfl, Nat.le_of_ble_eq_true rfl⟩) hx hb hml hown hts hK hP hS hl.1 d_N_carryOut_141 (va_recv (q := (R_N, F_N, 7)) hK hP (ci := 0) (q0 := 0) rfl rfl) rfl (lv_room (Nat.le_of_ble_eq_true rfl)) (Nat.zero_le _) (Nat.zero_le _) rfl (fun u H locs hwp hP hS => ?_)
        obtain ⟨A8, G9⟩ := u
        have hP : va_P (dC, dI) clZ (wN cI cL cZ q A8 D G9 K N P T) H := hP
        refine lv_iconst (v := 1) hx hb d_N_carryOut_144 (by decide) ?_
        rw [hQ]
        exact W.iret (v := 1) hx hb hr (fun t ht hW => ⟨⟨1, (A8, G9, N), rfl, hwp, hp_of ht hP⟩, hS.F ht⟩) hS.2.2 d_N_carryOut_145
      · rw [if_pos hc] at hwp
        refine lv_bipush (v := (-5)) hx hb d_N_carryOut_133 (by decide) ?_
        rw [hQ]
        exact W.iret (v := (-5)) hx hb hr (fun t ht hW => ⟨⟨(-5), (A, G, N), rfl, hwp, hp_of ht hP⟩, hS.F ht⟩) hS.2.2 d_N_carryOut_135
    · rw [if_pos hc] at hwp
      refine lv_iconst (v := 0) hx hb d_N_carryOut_124 (by decide) ?_
      rw [hQ]
      exact W.iret (v := 0) hx hb hr (fun t ht hW => ⟨⟨0, (A, G, N), rfl, hwp, hp_of ht hP⟩, hS.F ht⟩) hS.2.2 d_N_carryOut_125
  rw [if_neg hc2] at hwp
  refine lv_tableOut (tgt := 146) hx hb d_N_carryOut_19 (by have h0 := lv_neT hc0 (a := 0) rfl; have h1 := lv_neT hc1 (a := 1) rfl; have h2 := lv_neT hc2 (a := 2) rfl; omega) (by decide) ?_
  refine lv_aload_n hx hb d_N_carryOut_146 rfl (lv_at hl 1 rfl) ?_
  refine lv_iload_n hx hb d_N_carryOut_147 rfl (lv_at hl 0 rfl) ?_
  refine lv_aload_n hx hb d_N_carryOut_148 rfl (lv_at hl 1 rfl) ?_
  refine va_get (D := (dC, dI)) (ci := 0) (v := .ref (q 1)) (C := R_N) (T := F_N) (N := 7) hx hb hts hiN hown hK hP 0 rfl rfl 0 (by decide) lk12 (fun _ h9 => h9) rfl d_N_carryOut_149 ?_
  refine va_get (D := (dC, dI)) (ci := 1) (v := .ref (q 15)) (C := R_T) (T := F_T) (N := 11) hx hb hts hiT hown hK hP 1 rfl rfl 9 (by decide) lk284 (fun _ h9 => h9) rfl d_N_carryOut_152 ?_
  refine lv_iload_n hx hb d_N_carryOut_155 rfl (lv_at hl 2 rfl) ?_
  refine va_iald hx hb hK hP 15 0 rfl rfl hwp.1 d_N_carryOut_156 ?_
  have hwp := hwp.2
  refine ncn_i (As := [.int ((T_low T) (Int32.toNatClampNeg a1)), .int ((T_high T) (Int32.toNatClampNeg a1))]) (c_N_countAndSum hq (A) (D) (G) (K) (N) (P) (T) (((T_low T) (Int32.toNatClampNeg a1))) (((T_high T) (Int32.toNatClampNeg a1))) _ hwp) (cwV 2 hts g_N_304 rfl rfl rfl hd_N_countAndSum ⟨Nat.le_of_ble_eq_true rfl, Nat.le_of_ble_eq_true rfl⟩) hx hb hml hown hts hK hP hS hl.1 d_N_carryOut_157 (va_recv (q := (R_N, F_N, 7)) hK hP (ci := 0) (q0 := 0) rfl rfl) rfl (lv_room (Nat.le_of_ble_eq_true rfl)) (Nat.zero_le _) (Nat.zero_le _) rfl (fun r10 u H locs hwp hP hS => ?_)
  obtain ⟨A11, G12, N13⟩ := u
  have hP : va_P (dC, dI) clZ (wN cI cL cZ q A11 D G12 K N13 P T) H := hP
  rw [hQ]
  exact W.iret (v := r10) hx hb hr (fun t ht hW => ⟨⟨r10, (A11, G12, N13), rfl, hwp, hp_of ht hP⟩, hS.F ht⟩) hS.2.2 d_N_carryOut_160

set_option maxHeartbeats 4000000 in
set_option maxRecDepth 100000 in
theorem c_N_blockersOf {l : Launch} {dC : Nat → ClassId} {dI : Nat → Nat → Nat} {cI cL cZ : ClassId} {q : Nat → Nat} (hq : iN q) (A : S_A) (D : S_D) (G : S_G) (K : S_K) (N : S_N) (P : S_P) (T : S_T) (a1 : Int32) (post : Int64 → S_P → Prop) (hwp : wp_N_blockersOf A K P T a1 post) : Met l y_N_blockersOf ws_N_blockersOf rm_N_blockersOf (va_Pc [.ref (q 0), .int a1] (bN dC dI cI cL cZ q A D G K N P T)) (va_Ql (fun (r : Int64) (u : S_P) => post r u) (fun u t => va_P (dC, dI) clZ (wN cI cL cZ q A D G K N (u) T) t.heap) (aN q)) 0 0 (aN q) := by
  refine Met.ofW (cc := b_N_blockersOf) (maxL := 3) (ret := (some .long)) (by decide) rfl ?_
  intro p e s m args below meth c s₁ B hml hv
  obtain ⟨rfl, hP, hK⟩ := hv
  have hx := B.exec
  have hb := B.bytes
  have hr := B.returns
  have hts := atoms_spec (ws := ws_N_blockersOf) B.pre
  have hown : s.vm.findClass R_N = some m.cls := findClass_of_methodNamed B.named
  have hlocks := B.notSynchronized
  have hiN : ∀ w ∈ u_ws R_N F_N 7, w ∈ ws_N_blockersOf := fun w h => List.mem_cons_of_mem _ (in_N w h)
  have hiP : ∀ w ∈ u_ws R_P F_P 3, w ∈ ws_N_blockersOf := fun w h => List.mem_cons_of_mem _ (in_P w h)
  have hiT : ∀ w ∈ u_ws R_T F_T 11, w ∈ ws_N_blockersOf := fun w h => List.mem_cons_of_mem _ (in_T w h)
  have lk12 := hts _ (List.mem_cons_of_mem _ k_N_12)
  have lk19 := hts _ (List.mem_cons_of_mem _ k_N_19)
  have lk26 := hts _ (List.mem_cons_of_mem _ k_N_26)
  have lk262 := hts _ (List.mem_cons_of_mem _ k_N_262)
  have lk265 := hts _ (List.mem_cons_of_mem _ k_N_265)
  have lk272 := hts _ (List.mem_cons_of_mem _ k_N_272)
  have lk273 := hts _ (List.mem_cons_of_mem _ k_N_273)
  have hS : va_S (aN q) s.heap s.heap [] := va_S.rf
  have hl := lv_entry ([.ref (q 0), .int a1]) (n := 3) (Nat.le_of_ble_eq_true rfl)
  rw [lg_entry_eq]
  generalize (lg_sl ([.ref (q 0), .int a1]) ++ List.replicate (3 - (lg_sl ([.ref (q 0), .int a1])).length) Slot.unset).toArray = ls at hl ⊢
  have hl : lv_has ls 3 [(0, .ref (q 0)), (1, .int a1)] := hl
  obtain ⟨Q, hQ⟩ : ∃ Q, Q = MQ below (va_Ql (fun (r : Int64) (u : S_P) => post r u) (fun u t => va_P (dC, dI) clZ (wN cI cL cZ q A D G K N (u) T) t.heap) (aN q)) ([.ref (q 0), .int a1]).toArray s 0 0 (aN q) := ⟨_, rfl⟩
  rw [← hQ]
  rw [wp_N_blockersOf] at hwp
  refine lv_aload_n hx hb d_N_blockersOf_0 rfl (lv_at hl 0 rfl) ?_
  refine lv_iload_n hx hb d_N_blockersOf_1 rfl (lv_at hl 1 rfl) ?_
  refine ncn_v (As := [.int a1]) (c_N_planLocks hq (A) (D) (G) (K) (N) (P) (T) (a1) _ hwp) (cwV 1 hts g_N_256 rfl rfl rfl hd_N_planLocks ⟨Nat.le_of_ble_eq_true rfl, Nat.le_of_ble_eq_true rfl⟩) hx hb hml hown hts hK hP hS hl.1 d_N_blockersOf_2 (va_recv (q := (R_N, F_N, 7)) hK hP (ci := 0) (q0 := 0) rfl rfl) rfl (lv_room (Nat.le_of_ble_eq_true rfl)) (Nat.zero_le _) (Nat.zero_le _) rfl (fun P1 H locs hwp hP hS => ?_)
  have hP : va_P (dC, dI) clZ (wN cI cL cZ q A D G K N P1 T) H := hP
  refine lv_aload_n hx hb d_N_blockersOf_5 rfl (lv_at hl 0 rfl) ?_
  refine lv_iload_n hx hb d_N_blockersOf_6 rfl (lv_at hl 1 rfl) ?_
  refine ncn_i (As := [.int a1]) (c_N_freeLocks hq (A) (D) (G) (K) (N) (P1) (T) (a1) _ hwp) (cwV 1 hts g_N_259 rfl rfl rfl hd_N_freeLocks ⟨Nat.le_of_ble_eq_true rfl, Nat.le_of_ble_eq_true rfl⟩) hx hb hml hown hts hK hP hS hl.1 d_N_blockersOf_7 (va_recv (q := (R_N, F_N, 7)) hK hP (ci := 0) (q0 := 0) rfl rfl) rfl (lv_room (Nat.le_of_ble_eq_true rfl)) (Nat.zero_le _) (Nat.zero_le _) rfl (fun r2 u H locs hwp hP hS => ?_)
  have hP : va_P (dC, dI) clZ (wN cI cL cZ q A D G K N P1 T) H := hP
  refine lv_istore_n (lv' := [(2, .int r2), (0, .ref (q 0)), (1, .int a1)]) hx hb d_N_blockersOf_10 rfl hl (by decide) rfl (fun ls hl => ?_)
  refine lv_iload_n hx hb d_N_blockersOf_11 rfl (lv_at hl 0 rfl) ?_
  refine lv_aload_n hx hb d_N_blockersOf_12 rfl (lv_at hl 1 rfl) ?_
  refine va_get (D := (dC, dI)) (ci := 0) (v := .ref (q 3)) (C := R_N) (T := F_N) (N := 7) hx hb hts hiN hown hK hP 0 rfl rfl 2 (by decide) lk26 (fun _ h9 => h9) rfl d_N_blockersOf_13 ?_
  refine va_get (D := (dC, dI)) (ci := 3) (v := .int (P_size P1)) (C := R_P) (T := F_P) (N := 3) hx hb hts hiP hown hK hP 3 rfl rfl 1 (by decide) lk272 (fun _ h9 => h9) rfl d_N_blockersOf_16 ?_
  refine lv_icmp_ne (tgt := 24) hx hb d_N_blockersOf_19 (by decide) (fun hc => ?_) (fun hc => ?_)
  · rw [if_neg hc] at hwp
    refine lv_aload_n hx hb d_N_blockersOf_24 rfl (lv_at hl 1 rfl) ?_
    refine va_get (D := (dC, dI)) (ci := 0) (v := .ref (q 2)) (C := R_N) (T := F_N) (N := 7) hx hb hts hiN hown hK hP 0 rfl rfl 1 (by decide) lk19 (fun _ h9 => h9) rfl d_N_blockersOf_25 ?_
    refine lv_aload_n hx hb d_N_blockersOf_28 rfl (lv_at hl 1 rfl) ?_
    refine va_get (D := (dC, dI)) (ci := 0) (v := .ref (q 3)) (C := R_N) (T := F_N) (N := 7) hx hb hts hiN hown hK hP 0 rfl rfl 2 (by decide) lk26 (fun _ h9 => h9) rfl d_N_blockersOf_29 ?_
    refine va_get (D := (dC, dI)) (ci := 3) (v := .ref (q 19)) (C := R_P) (T := F_P) (N := 3) hx hb hts hiP hown hK hP 3 rfl rfl 2 (by decide) lk262 (fun _ h9 => h9) rfl d_N_blockersOf_32 ?_
    refine lv_iload_n hx hb d_N_blockersOf_35 rfl (lv_at hl 0 rfl) ?_
    refine va_iald hx hb hK hP 19 0 rfl rfl hwp.1 d_N_blockersOf_36 ?_
    have hwp := hwp.2
    refine lv_aload_n hx hb d_N_blockersOf_37 rfl (lv_at hl 1 rfl) ?_
    refine va_get (D := (dC, dI)) (ci := 0) (v := .ref (q 3)) (C := R_N) (T := F_N) (N := 7) hx hb hts hiN hown hK hP 0 rfl rfl 2 (by decide) lk26 (fun _ h9 => h9) rfl d_N_blockersOf_38 ?_
    refine va_get (D := (dC, dI)) (ci := 3) (v := .int (P_mode P1)) (C := R_P) (T := F_P) (N := 3) hx hb hts hiP hown hK hP 3 rfl rfl 0 (by decide) lk265 (fun _ h9 => h9) rfl d_N_blockersOf_41 ?_
    refine lv_aload_n hx hb d_N_blockersOf_44 rfl (lv_at hl 1 rfl) ?_
    refine va_get (D := (dC, dI)) (ci := 0) (v := .ref (q 1)) (C := R_N) (T := F_N) (N := 7) hx hb hts hiN hown hK hP 0 rfl rfl 0 (by decide) lk12 (fun _ h9 => h9) rfl d_N_blockersOf_45 ?_
    refine va_get (D := (dC, dI)) (ci := 1) (v := .ref (q 12)) (C := R_T) (T := F_T) (N := 11) hx hb hts hiT hown hK hP 1 rfl rfl 6 (by decide) lk273 (fun _ h9 => h9) rfl d_N_blockersOf_48 ?_
    refine lv_iload_n hx hb d_N_blockersOf_51 rfl (lv_at hl 2 rfl) ?_
    refine va_lald hx hb hK hP 12 1 rfl rfl hwp.1 d_N_blockersOf_52 ?_
    have hwp := hwp.2
    refine ncn_l (As := [.int ((P_items P1) (Int32.toNatClampNeg r2)), .int (P_mode P1), .long ((T_lineage T) (Int32.toNatClampNeg a1))]) (c_K_blockers hq (A) (D) (G) (K) (N) (P1) (T) (((P_items P1) (Int32.toNatClampNeg r2))) ((P_mode P1)) (((T_lineage T) (Int32.toNatClampNeg a1))) _ hwp) (cwV 3 hts g_N_277 rfl rfl rfl hd_K_blockers ⟨Nat.le_of_ble_eq_true rfl, Nat.le_of_ble_eq_true rfl⟩) hx hb hml hown hts hK hP hS hl.1 d_N_blockersOf_53 (va_recv (q := (R_K, F_K, 2)) hK hP (ci := 2) (q0 := 2) rfl rfl) rfl (lv_room (Nat.le_of_ble_eq_true rfl)) (Nat.zero_le _) (Nat.zero_le _) rfl (fun r3 u H locs hwp hP hS => ?_)
    have hP : va_P (dC, dI) clZ (wN cI cL cZ q A D G K N P1 T) H := hP
    rw [hQ]
    exact W.lret (v := r3) hx hb hr (fun t ht hW => ⟨⟨r3, P1, rfl, hwp, hp_of ht hP⟩, hS.F ht⟩) hS.2.2 d_N_blockersOf_56
  · rw [if_pos hc] at hwp
    refine lv_lconst (v := (0 : Int64)) hx hb d_N_blockersOf_22 (by decide) ?_
    rw [hQ]
    exact W.lret (v := (0 : Int64)) hx hb hr (fun t ht hW => ⟨⟨(0 : Int64), P1, rfl, hwp, hp_of ht hP⟩, hS.F ht⟩) hS.2.2 d_N_blockersOf_23

set_option maxHeartbeats 4000000 in
set_option maxRecDepth 100000 in
theorem c_N_leadsOf {l : Launch} {dC : Nat → ClassId} {dI : Nat → Nat → Nat} {cI cL cZ : ClassId} {q : Nat → Nat} (hq : iN q) (A : S_A) (D : S_D) (G : S_G) (K : S_K) (N : S_N) (P : S_P) (T : S_T) (a1 : Int32) (post : Int64 → S_P → Prop) (hwp : wp_N_leadsOf A K P T a1 post) : Met l y_N_leadsOf ws_N_leadsOf rm_N_leadsOf (va_Pc [.ref (q 0), .int a1] (bN dC dI cI cL cZ q A D G K N P T)) (va_Ql (fun (r : Int64) (u : S_P) => post r u) (fun u t => va_P (dC, dI) clZ (wN cI cL cZ q A D G K N (u) T) t.heap) (aN q)) 0 0 (aN q) := by
  refine Met.ofW (cc := b_N_leadsOf) (maxL := 4) (ret := (some .long)) (by decide) rfl ?_
  intro p e s m args below meth c s₁ B hml hv
  obtain ⟨rfl, hP, hK⟩ := hv
  have hx := B.exec
  have hb := B.bytes
  have hr := B.returns
  have hts := atoms_spec (ws := ws_N_leadsOf) B.pre
  have hown : s.vm.findClass R_N = some m.cls := findClass_of_methodNamed B.named
  have hlocks := B.notSynchronized
  have hiN : ∀ w ∈ u_ws R_N F_N 7, w ∈ ws_N_leadsOf := fun w h => List.mem_cons_of_mem _ (in_N w h)
  have lk12 := hts _ (List.mem_cons_of_mem _ k_N_12)
  have hS : va_S (aN q) s.heap s.heap [] := va_S.rf
  have hl := lv_entry ([.ref (q 0), .int a1]) (n := 4) (Nat.le_of_ble_eq_true rfl)
  rw [lg_entry_eq]
  generalize (lg_sl ([.ref (q 0), .int a1]) ++ List.replicate (4 - (lg_sl ([.ref (q 0), .int a1])).length) Slot.unset).toArray = ls at hl ⊢
  have hl : lv_has ls 4 [(0, .ref (q 0)), (1, .int a1)] := hl
  obtain ⟨Q, hQ⟩ : ∃ Q, Q = MQ below (va_Ql (fun (r : Int64) (u : S_P) => post r u) (fun u t => va_P (dC, dI) clZ (wN cI cL cZ q A D G K N (u) T) t.heap) (aN q)) ([.ref (q 0), .int a1]).toArray s 0 0 (aN q) := ⟨_, rfl⟩
  rw [← hQ]
  rw [wp_N_leadsOf] at hwp
  refine lv_aload_n hx hb d_N_leadsOf_0 rfl (lv_at hl 0 rfl) ?_
  refine va_get (D := (dC, dI)) (ci := 0) (v := .ref (q 1)) (C := R_N) (T := F_N) (N := 7) hx hb hts hiN hown hK hP 0 rfl rfl 0 (by decide) lk12 (fun _ h9 => h9) rfl d_N_leadsOf_1 ?_
  refine lv_iload_n hx hb d_N_leadsOf_4 rfl (lv_at hl 1 rfl) ?_
  refine ncn_i (As := [.int a1]) (c_T_isLive hq (A) (D) (G) (K) (N) (P) (T) (a1) _ hwp) (cwV 1 hts g_N_122 rfl rfl rfl hd_T_isLive ⟨Nat.le_of_ble_eq_true rfl, Nat.le_of_ble_eq_true rfl⟩) hx hb hml hown hts hK hP hS hl.1 d_N_leadsOf_5 (va_recv (q := (R_T, F_T, 11)) hK hP (ci := 1) (q0 := 1) rfl rfl) rfl (lv_room (Nat.le_of_ble_eq_true rfl)) (Nat.zero_le _) (Nat.zero_le _) rfl (fun r1 u H locs hwp hP hS => ?_)
  have hP : va_P (dC, dI) clZ (wN cI cL cZ q A D G K N P T) H := hP
  refine lv_if_ne (tgt := 13) hx hb d_N_leadsOf_8 (by decide) (fun hc => ?_) (fun hc => ?_)
  · rw [if_neg hc] at hwp
    refine lv_aload_n hx hb d_N_leadsOf_13 rfl (lv_at hl 0 rfl) ?_
    refine va_get (D := (dC, dI)) (ci := 0) (v := .ref (q 1)) (C := R_N) (T := F_N) (N := 7) hx hb hts hiN hown hK hP 0 rfl rfl 0 (by decide) lk12 (fun _ h9 => h9) rfl d_N_leadsOf_14 ?_
    refine lv_iload_n hx hb d_N_leadsOf_17 rfl (lv_at hl 1 rfl) ?_
    refine ncn_l (As := [.int a1]) (c_T_liveChildren hq (A) (D) (G) (K) (N) (P) (T) (a1) _ hwp) (cwV 1 hts g_N_349 rfl rfl rfl hd_T_liveChildren ⟨Nat.le_of_ble_eq_true rfl, Nat.le_of_ble_eq_true rfl⟩) hx hb hml hown hts hK hP hS hl.1 d_N_leadsOf_18 (va_recv (q := (R_T, F_T, 11)) hK hP (ci := 1) (q0 := 1) rfl rfl) rfl (lv_room (Nat.le_of_ble_eq_true rfl)) (Nat.zero_le _) (Nat.zero_le _) rfl (fun r2 u H locs hwp hP hS => ?_)
    have hP : va_P (dC, dI) clZ (wN cI cL cZ q A D G K N P T) H := hP
    refine lv_lstore_n (lv' := [(2, .long r2), (0, .ref (q 0)), (1, .int a1)]) hx hb d_N_leadsOf_21 rfl hl (by decide) rfl (fun ls hl => ?_)
    refine lv_aload_n hx hb d_N_leadsOf_22 rfl (lv_at hl 1 rfl) ?_
    refine va_get (D := (dC, dI)) (ci := 0) (v := .ref (q 1)) (C := R_N) (T := F_N) (N := 7) hx hb hts hiN hown hK hP 0 rfl rfl 0 (by decide) lk12 (fun _ h9 => h9) rfl d_N_leadsOf_23 ?_
    refine lv_iload_n hx hb d_N_leadsOf_26 rfl (lv_at hl 2 rfl) ?_
    refine ncn_i (As := [.int a1]) (c_T_isWaiting hq (A) (D) (G) (K) (N) (P) (T) (a1) _ hwp) (cwV 1 hts g_N_97 rfl rfl rfl hd_T_isWaiting ⟨Nat.le_of_ble_eq_true rfl, Nat.le_of_ble_eq_true rfl⟩) hx hb hml hown hts hK hP hS hl.1 d_N_leadsOf_27 (va_recv (q := (R_T, F_T, 11)) hK hP (ci := 1) (q0 := 1) rfl rfl) rfl (lv_room (Nat.le_of_ble_eq_true rfl)) (Nat.zero_le _) (Nat.zero_le _) rfl (fun r3 u H locs hwp hP hS => ?_)
    have hP : va_P (dC, dI) clZ (wN cI cL cZ q A D G K N P T) H := hP
    refine lv_if_eq (tgt := 43) hx hb d_N_leadsOf_30 (by decide) (fun hc => ?_) (fun hc => ?_)
    · rw [if_pos hc] at hwp
      refine lv_lload_n hx hb d_N_leadsOf_43 rfl (lv_at hl 0 rfl) ?_
      rw [hQ]
      exact W.lret (v := r2) hx hb hr (fun t ht hW => ⟨⟨r2, P, rfl, hwp, hp_of ht hP⟩, hS.F ht⟩) hS.2.2 d_N_leadsOf_44
    · rw [if_neg hc] at hwp
      refine lv_lload_n hx hb d_N_leadsOf_33 rfl (lv_at hl 0 rfl) ?_
      refine lv_aload_n hx hb d_N_leadsOf_34 rfl (lv_at hl 1 rfl) ?_
      refine lv_iload_n hx hb d_N_leadsOf_35 rfl (lv_at hl 2 rfl) ?_
      refine ncn_l (As := [.int a1]) (c_N_blockersOf hq (A) (D) (G) (K) (N) (P) (T) (a1) _ hwp) (cwV 1 hts g_N_178 rfl rfl rfl hd_N_blockersOf ⟨Nat.le_of_ble_eq_true rfl, Nat.le_of_ble_eq_true rfl⟩) hx hb hml hown hts hK hP hS hl.1 d_N_leadsOf_36 (va_recv (q := (R_N, F_N, 7)) hK hP (ci := 0) (q0 := 0) rfl rfl) rfl (lv_room (Nat.le_of_ble_eq_true rfl)) (Nat.zero_le _) (Nat.zero_le _) rfl (fun r4 P5 H locs hwp hP hS => ?_)
      have hP : va_P (dC, dI) clZ (wN cI cL cZ q A D G K N P5 T) H := hP
      refine lv_lor hx hb d_N_leadsOf_39 ?_
      refine lv_goto hx hb d_N_leadsOf_40 (tgt := 44) (by decide) ?_
      rw [hQ]
      exact W.lret (v := (r2 ||| r4)) hx hb hr (fun t ht hW => ⟨⟨(r2 ||| r4), P5, rfl, hwp, hp_of ht hP⟩, hS.F ht⟩) hS.2.2 d_N_leadsOf_44
  · rw [if_pos hc] at hwp
    refine lv_lconst (v := (0 : Int64)) hx hb d_N_leadsOf_11 (by decide) ?_
    rw [hQ]
    exact W.lret (v := (0 : Int64)) hx hb hr (fun t ht hW => ⟨⟨(0 : Int64), P, rfl, hwp, hp_of ht hP⟩, hS.F ht⟩) hS.2.2 d_N_leadsOf_12

set_option maxHeartbeats 4000000 in
set_option maxRecDepth 100000 in
theorem c_N_victimOfCircle {l : Launch} {dC : Nat → ClassId} {dI : Nat → Nat → Nat} {cI cL cZ : ClassId} {q : Nat → Nat} (hq : iN q) (A : S_A) (D : S_D) (G : S_G) (K : S_K) (N : S_N) (P : S_P) (T : S_T) (a1 : Int32) (post : Int32 → S_D → S_P → Prop) (hwp : wp_N_victimOfCircle A D K P T a1 post) : Met l y_N_victimOfCircle ws_N_victimOfCircle rm_N_victimOfCircle (va_Pc [.ref (q 0), .int a1] (bN dC dI cI cL cZ q A D G K N P T)) (va_Qi (fun (r : Int32) (u : S_D × S_P) => post r u.1 u.2) (fun u t => va_P (dC, dI) clZ (wN cI cL cZ q A (u.1) G K N (u.2) T) t.heap) (aN q)) 0 0 (aN q) := by
  refine Met.ofW (cc := b_N_victimOfCircle) (maxL := 3) (ret := (some .int)) (by decide) rfl ?_
  intro p e s m args below meth c s₁ B hml hv
  obtain ⟨rfl, hP, hK⟩ := hv
  have hx := B.exec
  have hb := B.bytes
  have hr := B.returns
  have hts := atoms_spec (ws := ws_N_victimOfCircle) B.pre
  have hown : s.vm.findClass R_N = some m.cls := findClass_of_methodNamed B.named
  have hlocks := B.notSynchronized
  have hiN : ∀ w ∈ u_ws R_N F_N 7, w ∈ ws_N_victimOfCircle := fun w h => List.mem_cons_of_mem _ (in_N w h)
  have hiD : ∀ w ∈ u_ws R_D F_D 1, w ∈ ws_N_victimOfCircle := fun w h => List.mem_cons_of_mem _ (in_D w h)
  have hiT : ∀ w ∈ u_ws R_T F_T 11, w ∈ ws_N_victimOfCircle := fun w h => List.mem_cons_of_mem _ (in_T w h)
  have lk12 := hts _ (List.mem_cons_of_mem _ k_N_12)
  have lk33 := hts _ (List.mem_cons_of_mem _ k_N_33)
  have lk70 := hts _ (List.mem_cons_of_mem _ k_N_70)
  have lk340 := hts _ (List.mem_cons_of_mem _ k_N_340)
  have hS : va_S (aN q) s.heap s.heap [] := va_S.rf
  have hl := lv_entry ([.ref (q 0), .int a1]) (n := 3) (Nat.le_of_ble_eq_true rfl)
  rw [lg_entry_eq]
  generalize (lg_sl ([.ref (q 0), .int a1]) ++ List.replicate (3 - (lg_sl ([.ref (q 0), .int a1])).length) Slot.unset).toArray = ls at hl ⊢
  have hl : lv_has ls 3 [(0, .ref (q 0)), (1, .int a1)] := hl
  obtain ⟨Q, hQ⟩ : ∃ Q, Q = MQ below (va_Qi (fun (r : Int32) (u : S_D × S_P) => post r u.1 u.2) (fun u t => va_P (dC, dI) clZ (wN cI cL cZ q A (u.1) G K N (u.2) T) t.heap) (aN q)) ([.ref (q 0), .int a1]).toArray s 0 0 (aN q) := ⟨_, rfl⟩
  rw [← hQ]
  have L15 : ∀ (Kx : S_D → S_P → Prop) (v1 : Int32) (n : Nat) (v2 : Int32) (D : S_D) (P : S_P) (H : Heap) (locs : List Loc) (ls : Array Slot), lv_has ls 3 [(0, .ref (q 0)), (1, .int v1), (2, .int v2)] → va_P (dC, dI) clZ (wN cI cL cZ q A D G K N P T) H → va_S (aN q) s.heap H locs → wp_N_victimOfCircle_L15 A K T v1 Kx n v2 D P → (∀ (D1 : S_D) (P1 : S_P) (H : Heap) (locs : List Loc) (ls : Array Slot), lv_has ls 3 [(0, .ref (q 0)), (1, .int v1)] → va_P (dC, dI) clZ (wN cI cL cZ q A D1 G K N P1 T) H → va_S (aN q) s.heap H locs → Kx D1 P1 → W p l e (headSpec ws_N_victimOfCircle rm_N_victimOfCircle).room s m ([.ref (q 0), .int a1]).toArray below meth c H locs 0 0 Q (F0 m 46 ls [])) → W p l e (headSpec ws_N_victimOfCircle rm_N_victimOfCircle).room s m ([.ref (q 0), .int a1]).toArray below meth c H locs 0 0 Q (F0 m 15 ls []) := by
    intro Kx v1 n
    induction n with
    | zero =>
      intros
      rename_i hwp _
      exact hwp.elim
    | succ n15 ih =>
      intro v2 D P H locs ls hl hP hS hwp hX
      rw [wp_N_victimOfCircle_L15] at hwp
      refine lv_iload_n hx hb d_N_victimOfCircle_15 rfl (lv_at hl 2 rfl) ?_
      refine lv_aload_n hx hb d_N_victimOfCircle_16 rfl (lv_at hl 0 rfl) ?_
      refine va_get (D := (dC, dI)) (ci := 0) (v := .ref (q 1)) (C := R_N) (T := F_N) (N := 7) hx hb hts hiN hown hK hP 0 rfl rfl 0 (by decide) lk12 (fun _ h9 => h9) rfl d_N_victimOfCircle_17 ?_
      refine va_get (D := (dC, dI)) (ci := 1) (v := .int (T_count T)) (C := R_T) (T := F_T) (N := 11) hx hb hts hiT hown hK hP 1 rfl rfl 0 (by decide) lk70 (fun _ h9 => h9) rfl d_N_victimOfCircle_20 ?_
      refine lv_icmp_ge (tgt := 46) hx hb d_N_victimOfCircle_23 (by decide) (fun hc => ?_) (fun hc => ?_)
      · rw [if_pos hc] at hwp
        exact hX (D) (P) _ _ _ (lv_sub hl [0, 1] rfl) hP hS hwp
      · rw [if_neg hc] at hwp
        refine lv_aload_n hx hb d_N_victimOfCircle_26 rfl (lv_at hl 0 rfl) ?_
        refine va_get (D := (dC, dI)) (ci := 0) (v := .ref (q 4)) (C := R_N) (T := F_N) (N := 7) hx hb hts hiN hown hK hP 0 rfl rfl 3 (by decide) lk33 (fun _ h9 => h9) rfl d_N_victimOfCircle_27 ?_
        refine va_get (D := (dC, dI)) (ci := 4) (v := .ref (q 20)) (C := R_D) (T := F_D) (N := 1) hx hb hts hiD hown hK hP 4 rfl rfl 0 (by decide) lk340 (fun _ h9 => h9) rfl d_N_victimOfCircle_30 ?_
        refine lv_iload_n hx hb d_N_victimOfCircle_33 rfl (lv_at hl 2 rfl) ?_
        refine lv_aload_n hx hb d_N_victimOfCircle_34 rfl (lv_at hl 0 rfl) ?_
        refine lv_iload_n hx hb d_N_victimOfCircle_35 rfl (lv_at hl 2 rfl) ?_
        refine ncn_l (As := [.int v2]) (c_N_leadsOf hq (A) (D) (G) (K) (N) (P) (T) (v2) _ hwp) (cwV 1 hts g_N_343 rfl rfl rfl hd_N_leadsOf ⟨Nat.le_of_ble_eq_true rfl, Nat.le_of_ble_eq_true rfl⟩) hx hb hml hown hts hK hP hS hl.1 d_N_victimOfCircle_36 (va_recv (q := (R_N, F_N, 7)) hK hP (ci := 0) (q0 := 0) rfl rfl) rfl (lv_room (Nat.le_of_ble_eq_true rfl)) (Nat.zero_le _) (Nat.zero_le _) rfl (fun r2 P3 H locs hwp hP hS => ?_)
        have hP : va_P (dC, dI) clZ (wN cI cL cZ q A D G K N P3 T) H := hP
        refine va_last hx hb hK hP (dN hq) hS 20 1 rfl rfl hwp.1 d_N_victimOfCircle_39 (fun H locs hP _ hS => ?_)
        have hwp := hwp.2
        have hP : va_P (dC, dI) clZ (wN cI cL cZ q A (D_from' D (vp_updL (D_from D) (Int32.toNatClampNeg v2) r2)) G K N P3 T) H := hP
        refine lv_iinc (k := 2) (v := (v2 + 1)) (lv' := [(2, .int (v2 + 1)), (0, .ref (q 0)), (1, .int v1)]) hx hb d_N_victimOfCircle_40 hl rfl (ii_1 _) (by decide) rfl (fun ls hl => ?_)
        refine lv_goto hx hb d_N_victimOfCircle_43 (tgt := 15) (by decide) ?_
        exact ih ((v2 + 1)) ((D_from' D (vp_updL (D_from D) (Int32.toNatClampNeg v2) r2))) (P3) _ _ _ (lv_sub hl [1, 2, 0] rfl) hP hS hwp hX
  rw [wp_N_victimOfCircle] at hwp
  refine lv_aload_n hx hb d_N_victimOfCircle_0 rfl (lv_at hl 0 rfl) ?_
  refine va_get (D := (dC, dI)) (ci := 0) (v := .ref (q 1)) (C := R_N) (T := F_N) (N := 7) hx hb hts hiN hown hK hP 0 rfl rfl 0 (by decide) lk12 (fun _ h9 => h9) rfl d_N_victimOfCircle_1 ?_
  refine lv_iload_n hx hb d_N_victimOfCircle_4 rfl (lv_at hl 1 rfl) ?_
  refine ncn_i (As := [.int a1]) (c_T_isLive hq (A) (D) (G) (K) (N) (P) (T) (a1) _ hwp) (cwV 1 hts g_N_122 rfl rfl rfl hd_T_isLive ⟨Nat.le_of_ble_eq_true rfl, Nat.le_of_ble_eq_true rfl⟩) hx hb hml hown hts hK hP hS hl.1 d_N_victimOfCircle_5 (va_recv (q := (R_T, F_T, 11)) hK hP (ci := 1) (q0 := 1) rfl rfl) rfl (lv_room (Nat.le_of_ble_eq_true rfl)) (Nat.zero_le _) (Nat.zero_le _) rfl (fun r1 u H locs hwp hP hS => ?_)
  have hP : va_P (dC, dI) clZ (wN cI cL cZ q A D G K N P T) H := hP
  refine lv_if_ne (tgt := 13) hx hb d_N_victimOfCircle_8 (by decide) (fun hc => ?_) (fun hc => ?_)
  · rw [if_neg hc] at hwp
    refine lv_iconst (v := 0) hx hb d_N_victimOfCircle_13 (by decide) ?_
    refine lv_istore_n (lv' := [(2, .int 0), (0, .ref (q 0)), (1, .int a1)]) hx hb d_N_victimOfCircle_14 rfl hl (by decide) rfl (fun ls hl => ?_)
    obtain ⟨e15, hwp⟩ := hwp
    refine L15 _ (a1) e15 (0) (D) (P) _ _ _ (lv_sub hl [1, 2, 0] rfl) hP hS hwp (fun D4 P5 H locs ls hl hP hS hwp => ?_)
    refine lv_aload_n hx hb d_N_victimOfCircle_46 rfl (lv_at hl 0 rfl) ?_
    refine va_get (D := (dC, dI)) (ci := 0) (v := .ref (q 4)) (C := R_N) (T := F_N) (N := 7) hx hb hts hiN hown hK hP 0 rfl rfl 3 (by decide) lk33 (fun _ h9 => h9) rfl d_N_victimOfCircle_47 ?_
    refine lv_iload_n hx hb d_N_victimOfCircle_50 rfl (lv_at hl 1 rfl) ?_
    refine lv_aload_n hx hb d_N_victimOfCircle_51 rfl (lv_at hl 0 rfl) ?_
    refine va_get (D := (dC, dI)) (ci := 0) (v := .ref (q 1)) (C := R_N) (T := F_N) (N := 7) hx hb hts hiN hown hK hP 0 rfl rfl 0 (by decide) lk12 (fun _ h9 => h9) rfl d_N_victimOfCircle_52 ?_
    refine va_get (D := (dC, dI)) (ci := 1) (v := .int (T_count T)) (C := R_T) (T := F_T) (N := 11) hx hb hts hiT hown hK hP 1 rfl rfl 0 (by decide) lk70 (fun _ h9 => h9) rfl d_N_victimOfCircle_55 ?_
    refine ncn_i (As := [.int a1, .int (T_count T)]) (c_D_greatestInCircle hq (A) (D4) (G) (K) (N) (P5) (T) (a1) ((T_count T)) _ hwp) (cwV 2 hts g_N_346 rfl rfl rfl hd_D_greatestInCircle ⟨Nat.le_of_ble_eq_true rfl, Nat.le_of_ble_eq_true rfl⟩) hx hb hml hown hts hK hP hS hl.1 d_N_victimOfCircle_58 (va_recv (q := (R_D, F_D, 1)) hK hP (ci := 4) (q0 := 4) rfl rfl) rfl (lv_room (Nat.le_of_ble_eq_true rfl)) (Nat.zero_le _) (Nat.zero_le _) rfl (fun r6 u H locs hwp hP hS => ?_)
    have hP : va_P (dC, dI) clZ (wN cI cL cZ q A D4 G K N P5 T) H := hP
    rw [hQ]
    exact W.iret (v := r6) hx hb hr (fun t ht hW => ⟨⟨r6, (D4, P5), rfl, hwp, hp_of ht hP⟩, hS.F ht⟩) hS.2.2 d_N_victimOfCircle_61
  · rw [if_pos hc] at hwp
    refine lv_iconst (v := (-1)) hx hb d_N_victimOfCircle_11 (by decide) ?_
    rw [hQ]
    exact W.iret (v := (-1)) hx hb hr (fun t ht hW => ⟨⟨(-1), (D, P), rfl, hwp, hp_of ht hP⟩, hS.F ht⟩) hS.2.2 d_N_victimOfCircle_12

set_option maxHeartbeats 4000000 in
set_option maxRecDepth 100000 in
theorem c_N_undo {l : Launch} {dC : Nat → ClassId} {dI : Nat → Nat → Nat} {cI cL cZ : ClassId} {q : Nat → Nat} (hq : iN q) (A : S_A) (D : S_D) (G : S_G) (K : S_K) (N : S_N) (P : S_P) (T : S_T) (a1 : Int32) (a2 : Int32) (post : S_A → S_G → Prop) (hwp : wp_N_undo A G a1 a2 post) : Met l y_N_undo ws_N_undo rm_N_undo (va_Pc [.ref (q 0), .int a1, .int a2] (bN dC dI cI cL cZ q A D G K N P T)) (va_Qv (fun (u : S_A × S_G) => post u.1 u.2) (fun u t => va_P (dC, dI) clZ (wN cI cL cZ q (u.1) D (u.2) K N P T) t.heap) (aN q)) 0 0 (aN q) := by
  refine Met.ofW (cc := b_N_undo) (maxL := 7) (ret := none) (by decide) rfl ?_
  intro p e s m args below meth c s₁ B hml hv
  obtain ⟨rfl, hP, hK⟩ := hv
  have hx := B.exec
  have hb := B.bytes
  have hr := B.returns
  have hts := atoms_spec (ws := ws_N_undo) B.pre
  have hown : s.vm.findClass R_N = some m.cls := findClass_of_methodNamed B.named
  have hlocks := B.notSynchronized
  have hiN : ∀ w ∈ u_ws R_N F_N 7, w ∈ ws_N_undo := fun w h => List.mem_cons_of_mem _ (in_N w h)
  have hiG : ∀ w ∈ u_ws R_G F_G 12, w ∈ ws_N_undo := fun w h => List.mem_cons_of_mem _ (in_G w h)
  have lk40 := hts _ (List.mem_cons_of_mem _ k_N_40)
  have lk58 := hts _ (List.mem_cons_of_mem _ k_N_58)
  have lk194 := hts _ (List.mem_cons_of_mem _ k_N_194)
  have lk197 := hts _ (List.mem_cons_of_mem _ k_N_197)
  have lk200 := hts _ (List.mem_cons_of_mem _ k_N_200)
  have lk321 := hts _ (List.mem_cons_of_mem _ k_N_321)
  have lk324 := hts _ (List.mem_cons_of_mem _ k_N_324)
  have hS : va_S (aN q) s.heap s.heap [] := va_S.rf
  have hl := lv_entry ([.ref (q 0), .int a1, .int a2]) (n := 7) (Nat.le_of_ble_eq_true rfl)
  rw [lg_entry_eq]
  generalize (lg_sl ([.ref (q 0), .int a1, .int a2]) ++ List.replicate (7 - (lg_sl ([.ref (q 0), .int a1, .int a2])).length) Slot.unset).toArray = ls at hl ⊢
  have hl : lv_has ls 7 [(0, .ref (q 0)), (1, .int a1), (2, .int a2)] := hl
  obtain ⟨Q, hQ⟩ : ∃ Q, Q = MQ below (va_Qv (fun (u : S_A × S_G) => post u.1 u.2) (fun u t => va_P (dC, dI) clZ (wN cI cL cZ q (u.1) D (u.2) K N P T) t.heap) (aN q)) ([.ref (q 0), .int a1, .int a2]).toArray s 0 0 (aN q) := ⟨_, rfl⟩
  rw [← hQ]
  rw [wp_N_undo] at hwp
  refine lv_aload_n hx hb d_N_undo_0 rfl (lv_at hl 0 rfl) ?_
  refine va_get (D := (dC, dI)) (ci := 0) (v := .ref (q 5)) (C := R_N) (T := F_N) (N := 7) hx hb hts hiN hown hK hP 0 rfl rfl 4 (by decide) lk40 (fun _ h9 => h9) rfl d_N_undo_1 ?_
  refine va_get (D := (dC, dI)) (ci := 5) (v := .ref (q 23)) (C := R_G) (T := F_G) (N := 12) hx hb hts hiG hown hK hP 5 rfl rfl 5 (by decide) lk194 (fun _ h9 => h9) rfl d_N_undo_4 ?_
  refine lv_iload_n hx hb d_N_undo_7 rfl (lv_at hl 1 rfl) ?_
  refine va_iald hx hb hK hP 23 0 rfl rfl hwp.1 d_N_undo_8 ?_
  have hwp := hwp.2
  refine lv_istore_n (lv' := [(3, .int ((G_subject G) (Int32.toNatClampNeg a1))), (0, .ref (q 0)), (1, .int a1), (2, .int a2)]) hx hb d_N_undo_9 rfl hl (by decide) rfl (fun ls hl => ?_)
  refine lv_aload_n hx hb d_N_undo_10 rfl (lv_at hl 1 rfl) ?_
  refine va_get (D := (dC, dI)) (ci := 0) (v := .ref (q 5)) (C := R_N) (T := F_N) (N := 7) hx hb hts hiN hown hK hP 0 rfl rfl 4 (by decide) lk40 (fun _ h9 => h9) rfl d_N_undo_11 ?_
  refine va_get (D := (dC, dI)) (ci := 5) (v := .ref (q 24)) (C := R_G) (T := F_G) (N := 12) hx hb hts hiG hown hK hP 5 rfl rfl 6 (by decide) lk200 (fun _ h9 => h9) rfl d_N_undo_14 ?_
  refine lv_iload_n hx hb d_N_undo_17 rfl (lv_at hl 2 rfl) ?_
  refine va_zald hx hb hK hP 24 2 rfl rfl hwp.1 d_N_undo_18 ?_
  have hwp := hwp.2
  refine lv_istore (lv' := [(4, .int ((G_wasThere G) (Int32.toNatClampNeg a1))), (3, .int ((G_subject G) (Int32.toNatClampNeg a1))), (0, .ref (q 0)), (1, .int a1), (2, .int a2)]) hx hb d_N_undo_19 hl (by decide) rfl (fun ls hl => ?_)
  refine lv_aload_n hx hb d_N_undo_21 rfl (lv_at hl 2 rfl) ?_
  refine va_get (D := (dC, dI)) (ci := 0) (v := .ref (q 5)) (C := R_N) (T := F_N) (N := 7) hx hb hts hiN hown hK hP 0 rfl rfl 4 (by decide) lk40 (fun _ h9 => h9) rfl d_N_undo_22 ?_
  refine va_get (D := (dC, dI)) (ci := 5) (v := .ref (q 25)) (C := R_G) (T := F_G) (N := 12) hx hb hts hiG hown hK hP 5 rfl rfl 7 (by decide) lk321 (fun _ h9 => h9) rfl d_N_undo_25 ?_
  refine lv_iload_n hx hb d_N_undo_28 rfl (lv_at hl 3 rfl) ?_
  refine va_iald hx hb hK hP 25 0 rfl rfl hwp.1 d_N_undo_29 ?_
  have hwp := hwp.2
  refine lv_istore (lv' := [(5, .int ((G_oldValue G) (Int32.toNatClampNeg a1))), (4, .int ((G_wasThere G) (Int32.toNatClampNeg a1))), (3, .int ((G_subject G) (Int32.toNatClampNeg a1))), (0, .ref (q 0)), (1, .int a1), (2, .int a2)]) hx hb d_N_undo_30 hl (by decide) rfl (fun ls hl => ?_)
  refine lv_aload_n hx hb d_N_undo_32 rfl (lv_at hl 3 rfl) ?_
  refine va_get (D := (dC, dI)) (ci := 0) (v := .ref (q 5)) (C := R_N) (T := F_N) (N := 7) hx hb hts hiN hown hK hP 0 rfl rfl 4 (by decide) lk40 (fun _ h9 => h9) rfl d_N_undo_33 ?_
  refine lv_iconst (v := 3) hx hb d_N_undo_36 (by decide) ?_
  refine lv_iload_n hx hb d_N_undo_37 rfl (lv_at hl 5 rfl) ?_
  refine lv_iload_n hx hb d_N_undo_38 rfl (lv_at hl 2 rfl) ?_
  refine ncn_i (As := [.int 3, .int a2, .int ((G_subject G) (Int32.toNatClampNeg a1))]) (c_G_append hq (A) (D) (G) (K) (N) (P) (T) (3) (a2) (((G_subject G) (Int32.toNatClampNeg a1))) _ hwp) (cwV 3 hts g_N_85 rfl rfl rfl hd_G_append ⟨Nat.le_of_ble_eq_true rfl, Nat.le_of_ble_eq_true rfl⟩) hx hb hml hown hts hK hP hS hl.1 d_N_undo_39 (va_recv (q := (R_G, F_G, 12)) hK hP (ci := 5) (q0 := 5) rfl rfl) rfl (lv_room (Nat.le_of_ble_eq_true rfl)) (Nat.zero_le _) (Nat.zero_le _) rfl (fun r1 G2 H locs hwp hP hS => ?_)
  have hP : va_P (dC, dI) clZ (wN cI cL cZ q A D G2 K N P T) H := hP
  refine lv_istore (lv' := [(6, .int r1), (5, .int ((G_oldValue G) (Int32.toNatClampNeg a1))), (4, .int ((G_wasThere G) (Int32.toNatClampNeg a1))), (3, .int ((G_subject G) (Int32.toNatClampNeg a1))), (0, .ref (q 0)), (1, .int a1), (2, .int a2)]) hx hb d_N_undo_42 hl (by decide) rfl (fun ls hl => ?_)
  refine lv_aload_n hx hb d_N_undo_44 rfl (lv_at hl 4 rfl) ?_
  refine va_get (D := (dC, dI)) (ci := 0) (v := .ref (q 5)) (C := R_N) (T := F_N) (N := 7) hx hb hts hiN hown hK hP 0 rfl rfl 4 (by decide) lk40 (fun _ h9 => h9) rfl d_N_undo_45 ?_
  refine lv_iload hx hb d_N_undo_48 (lv_at hl 0 rfl) ?_
  refine lv_iload hx hb d_N_undo_50 (lv_at hl 2 rfl) ?_
  refine lv_iload hx hb d_N_undo_52 (lv_at hl 1 rfl) ?_
  refine ncn_v (As := [.int r1, .int ((G_wasThere G) (Int32.toNatClampNeg a1)), .int ((G_oldValue G) (Int32.toNatClampNeg a1))]) (c_G_setAfter hq (A) (D) (G2) (K) (N) (P) (T) (r1) (((G_wasThere G) (Int32.toNatClampNeg a1))) (((G_oldValue G) (Int32.toNatClampNeg a1))) _ hwp) (cwV 3 hts g_N_311 rfl rfl rfl hd_G_setAfter ⟨Nat.le_of_ble_eq_true rfl, Nat.le_of_ble_eq_true rfl⟩) hx hb hml hown hts hK hP hS hl.1 d_N_undo_54 (va_recv (q := (R_G, F_G, 12)) hK hP (ci := 5) (q0 := 5) rfl rfl) rfl (lv_room (Nat.le_of_ble_eq_true rfl)) (Nat.zero_le _) (Nat.zero_le _) rfl (fun G3 H locs hwp hP hS => ?_)
  have hP : va_P (dC, dI) clZ (wN cI cL cZ q A D G3 K N P T) H := hP
  refine lv_aload_n hx hb d_N_undo_57 rfl (lv_at hl 4 rfl) ?_
  refine va_get (D := (dC, dI)) (ci := 0) (v := .ref (q 5)) (C := R_N) (T := F_N) (N := 7) hx hb hts hiN hown hK hP 0 rfl rfl 4 (by decide) lk40 (fun _ h9 => h9) rfl d_N_undo_58 ?_
  refine va_get (D := (dC, dI)) (ci := 5) (v := .ref (q 28)) (C := R_G) (T := F_G) (N := 12) hx hb hts hiG hown hK hP 5 rfl rfl 10 (by decide) lk197 (fun _ h9 => h9) rfl d_N_undo_61 ?_
  refine lv_iload hx hb d_N_undo_64 (lv_at hl 0 rfl) ?_
  refine lv_aload_n hx hb d_N_undo_66 rfl (lv_at hl 4 rfl) ?_
  refine va_get (D := (dC, dI)) (ci := 0) (v := .ref (q 5)) (C := R_N) (T := F_N) (N := 7) hx hb hts hiN hown hK hP 0 rfl rfl 4 (by decide) lk40 (fun _ h9 => h9) rfl d_N_undo_67 ?_
  refine lv_iload_n hx hb d_N_undo_70 rfl (lv_at hl 5 rfl) ?_
  refine ncn_i (As := [.int a1]) (c_G_lsnOf hq (A) (D) (G3) (K) (N) (P) (T) (a1) _ hwp) (cwV 1 hts g_N_314 rfl rfl rfl hd_G_lsnOf ⟨Nat.le_of_ble_eq_true rfl, Nat.le_of_ble_eq_true rfl⟩) hx hb hml hown hts hK hP hS hl.1 d_N_undo_71 (va_recv (q := (R_G, F_G, 12)) hK hP (ci := 5) (q0 := 5) rfl rfl) rfl (lv_room (Nat.le_of_ble_eq_true rfl)) (Nat.zero_le _) (Nat.zero_le _) rfl (fun r4 u H locs hwp hP hS => ?_)
  have hP : va_P (dC, dI) clZ (wN cI cL cZ q A D G3 K N P T) H := hP
  refine va_iast hx hb hK hP (dN hq) hS 28 0 rfl rfl hwp.1 d_N_undo_74 (fun H locs hP _ hS => ?_)
  have hwp := hwp.2
  have hP : va_P (dC, dI) clZ (wN cI cL cZ q A D (G_undoes' G3 (upd (G_undoes G3) (Int32.toNatClampNeg r1) r4)) K N P T) H := hP
  refine lv_aload_n hx hb d_N_undo_75 rfl (lv_at hl 4 rfl) ?_
  refine va_get (D := (dC, dI)) (ci := 0) (v := .ref (q 5)) (C := R_N) (T := F_N) (N := 7) hx hb hts hiN hown hK hP 0 rfl rfl 4 (by decide) lk40 (fun _ h9 => h9) rfl d_N_undo_76 ?_
  refine va_get (D := (dC, dI)) (ci := 5) (v := .ref (q 29)) (C := R_G) (T := F_G) (N := 12) hx hb hts hiG hown hK hP 5 rfl rfl 11 (by decide) lk324 (fun _ h9 => h9) rfl d_N_undo_79 ?_
  refine lv_iload_n hx hb d_N_undo_82 rfl (lv_at hl 5 rfl) ?_
  refine lv_iconst (v := 1) hx hb d_N_undo_83 (by decide) ?_
  refine va_zast hx hb hK hP (dN hq) hS 29 2 rfl rfl hwp.1 d_N_undo_84 (fun H locs hP _ hS => ?_)
  have hwp := hwp.2
  have hP : va_P (dC, dI) clZ (wN cI cL cZ q A D (G_undone' (G_undoes' G3 (upd (G_undoes G3) (Int32.toNatClampNeg r1) r4)) (upd (G_undone G3) (Int32.toNatClampNeg a1) (vp_nar .boolean 1))) K N P T) H := hP
  refine lv_aload_n hx hb d_N_undo_85 rfl (lv_at hl 4 rfl) ?_
  refine va_get (D := (dC, dI)) (ci := 0) (v := .ref (q 6)) (C := R_N) (T := F_N) (N := 7) hx hb hts hiN hown hK hP 0 rfl rfl 5 (by decide) lk58 (fun _ h9 => h9) rfl d_N_undo_86 ?_
  refine lv_iload_n hx hb d_N_undo_89 rfl (lv_at hl 3 rfl) ?_
  refine lv_iconst (v := 4) hx hb d_N_undo_90 (by decide) ?_
  refine lv_idiv hx hb d_N_undo_91 (by decide) ?_
  refine lv_aload_n hx hb d_N_undo_92 rfl (lv_at hl 4 rfl) ?_
  refine va_get (D := (dC, dI)) (ci := 0) (v := .ref (q 5)) (C := R_N) (T := F_N) (N := 7) hx hb hts hiN hown hK hP 0 rfl rfl 4 (by decide) lk40 (fun _ h9 => h9) rfl d_N_undo_93 ?_
  refine ncn_v (As := [.int (((G_subject G) (Int32.toNatClampNeg a1)) / 4), .ref (q 5)]) (c_A_touch hq (A) (D) ((G_undone' (G_undoes' G3 (upd (G_undoes G3) (Int32.toNatClampNeg r1) r4)) (upd (G_undone G3) (Int32.toNatClampNeg a1) (vp_nar .boolean 1)))) (K) (N) (P) (T) ((((G_subject G) (Int32.toNatClampNeg a1)) / 4)) _ hwp) (cwV 2 hts g_N_296 rfl rfl rfl hd_A_touch ⟨Nat.le_of_ble_eq_true rfl, Nat.le_of_ble_eq_true rfl⟩) hx hb hml hown hts hK hP hS hl.1 d_N_undo_96 (va_recv (q := (R_A, F_A, 10)) hK hP (ci := 6) (q0 := 6) rfl rfl) rfl (lv_room (Nat.le_of_ble_eq_true rfl)) (Nat.zero_le _) (Nat.zero_le _) rfl (fun u H locs hwp hP hS => ?_)
  obtain ⟨A5, G6⟩ := u
  have hP : va_P (dC, dI) clZ (wN cI cL cZ q A5 D G6 K N P T) H := hP
  refine lv_aload_n hx hb d_N_undo_99 rfl (lv_at hl 4 rfl) ?_
  refine va_get (D := (dC, dI)) (ci := 0) (v := .ref (q 6)) (C := R_N) (T := F_N) (N := 7) hx hb hts hiN hown hK hP 0 rfl rfl 5 (by decide) lk58 (fun _ h9 => h9) rfl d_N_undo_100 ?_
  refine lv_iload_n hx hb d_N_undo_103 rfl (lv_at hl 3 rfl) ?_
  refine lv_iload hx hb d_N_undo_104 (lv_at hl 2 rfl) ?_
  refine lv_iload hx hb d_N_undo_106 (lv_at hl 1 rfl) ?_
  refine lv_aload_n hx hb d_N_undo_108 rfl (lv_at hl 4 rfl) ?_
  refine va_get (D := (dC, dI)) (ci := 0) (v := .ref (q 5)) (C := R_N) (T := F_N) (N := 7) hx hb hts hiN hown hK hP 0 rfl rfl 4 (by decide) lk40 (fun _ h9 => h9) rfl d_N_undo_109 ?_
  refine lv_iload hx hb d_N_undo_112 (lv_at hl 0 rfl) ?_
  refine ncn_i (As := [.int r1]) (c_G_lsnOf hq (A5) (D) (G6) (K) (N) (P) (T) (r1) _ hwp) (cwV 1 hts g_N_314 rfl rfl rfl hd_G_lsnOf ⟨Nat.le_of_ble_eq_true rfl, Nat.le_of_ble_eq_true rfl⟩) hx hb hml hown hts hK hP hS hl.1 d_N_undo_114 (va_recv (q := (R_G, F_G, 12)) hK hP (ci := 5) (q0 := 5) rfl rfl) rfl (lv_room (Nat.le_of_ble_eq_true rfl)) (Nat.zero_le _) (Nat.zero_le _) rfl (fun r7 u H locs hwp hP hS => ?_)
  have hP : va_P (dC, dI) clZ (wN cI cL cZ q A5 D G6 K N P T) H := hP
  refine ncn_v (As := [.int ((G_subject G) (Int32.toNatClampNeg a1)), .int ((G_wasThere G) (Int32.toNatClampNeg a1)), .int ((G_oldValue G) (Int32.toNatClampNeg a1)), .int r7]) (c_A_change hq (A5) (D) (G6) (K) (N) (P) (T) (((G_subject G) (Int32.toNatClampNeg a1))) (((G_wasThere G) (Int32.toNatClampNeg a1))) (((G_oldValue G) (Int32.toNatClampNeg a1))) (r7) _ hwp) (cwV 4 hts g_N_317 rfl rfl rfl hd_A_change ⟨Nat.le_of_ble_eq_true rfl, Nat.le_of_ble_eq_true rfl⟩) hx hb hml hown hts hK hP hS hl.1 d_N_undo_117 (va_recv (q := (R_A, F_A, 10)) hK hP (ci := 6) (q0 := 6) rfl rfl) rfl (lv_room (Nat.le_of_ble_eq_true rfl)) (Nat.zero_le _) (Nat.zero_le _) rfl (fun A8 H locs hwp hP hS => ?_)
  have hP : va_P (dC, dI) clZ (wN cI cL cZ q A8 D G6 K N P T) H := hP
  rw [hQ]
  exact W.vret hx hb hr (fun t ht hW => ⟨⟨(A8, G6), rfl, hwp, hp_of ht hP⟩, hS.F ht⟩) hS.2.2 d_N_undo_120

set_option maxHeartbeats 4000000 in
set_option maxRecDepth 100000 in
theorem c_N_undoOpenUpdates {l : Launch} {dC : Nat → ClassId} {dI : Nat → Nat → Nat} {cI cL cZ : ClassId} {q : Nat → Nat} (hq : iN q) (A : S_A) (D : S_D) (G : S_G) (K : S_K) (N : S_N) (P : S_P) (T : S_T) (a1 : Int32) (a2 : Int32) (post : Int32 → S_A → S_G → Prop) (hwp : wp_N_undoOpenUpdates A G T a1 a2 post) : Met l y_N_undoOpenUpdates ws_N_undoOpenUpdates rm_N_undoOpenUpdates (va_Pc [.ref (q 0), .int a1, .int a2] (bN dC dI cI cL cZ q A D G K N P T)) (va_Qi (fun (r : Int32) (u : S_A × S_G) => post r u.1 u.2) (fun u t => va_P (dC, dI) clZ (wN cI cL cZ q (u.1) D (u.2) K N P T) t.heap) (aN q)) 0 0 (aN q) := by
  refine Met.ofW (cc := b_N_undoOpenUpdates) (maxL := 5) (ret := (some .int)) (by decide) rfl ?_
  intro p e s m args below meth c s₁ B hml hv
  obtain ⟨rfl, hP, hK⟩ := hv
  have hx := B.exec
  have hb := B.bytes
  have hr := B.returns
  have hts := atoms_spec (ws := ws_N_undoOpenUpdates) B.pre
  have hown : s.vm.findClass R_N = some m.cls := findClass_of_methodNamed B.named
  have hlocks := B.notSynchronized
  have hiN : ∀ w ∈ u_ws R_N F_N 7, w ∈ ws_N_undoOpenUpdates := fun w h => List.mem_cons_of_mem _ (in_N w h)
  have hiG : ∀ w ∈ u_ws R_G F_G 12, w ∈ ws_N_undoOpenUpdates := fun w h => List.mem_cons_of_mem _ (in_G w h)
  have lk12 := hts _ (List.mem_cons_of_mem _ k_N_12)
  have lk40 := hts _ (List.mem_cons_of_mem _ k_N_40)
  have lk191 := hts _ (List.mem_cons_of_mem _ k_N_191)
  have lk213 := hts _ (List.mem_cons_of_mem _ k_N_213)
  have hS : va_S (aN q) s.heap s.heap [] := va_S.rf
  have hl := lv_entry ([.ref (q 0), .int a1, .int a2]) (n := 5) (Nat.le_of_ble_eq_true rfl)
  rw [lg_entry_eq]
  generalize (lg_sl ([.ref (q 0), .int a1, .int a2]) ++ List.replicate (5 - (lg_sl ([.ref (q 0), .int a1, .int a2])).length) Slot.unset).toArray = ls at hl ⊢
  have hl : lv_has ls 5 [(0, .ref (q 0)), (1, .int a1), (2, .int a2)] := hl
  obtain ⟨Q, hQ⟩ : ∃ Q, Q = MQ below (va_Qi (fun (r : Int32) (u : S_A × S_G) => post r u.1 u.2) (fun u t => va_P (dC, dI) clZ (wN cI cL cZ q (u.1) D (u.2) K N P T) t.heap) (aN q)) ([.ref (q 0), .int a1, .int a2]).toArray s 0 0 (aN q) := ⟨_, rfl⟩
  rw [← hQ]
  have L13 : ∀ (Kx : Int32 → S_A → S_G → Prop) (v1 : Int32) (v2 : Int32) (n : Nat) (v3 : Int32) (v4 : Int32) (A : S_A) (G : S_G) (H : Heap) (locs : List Loc) (ls : Array Slot), lv_has ls 5 [(0, .ref (q 0)), (1, .int v1), (2, .int v2), (3, .int v3), (4, .int v4)] → va_P (dC, dI) clZ (wN cI cL cZ q A D G K N P T) H → va_S (aN q) s.heap H locs → wp_N_undoOpenUpdates_L13 T v1 v2 Kx n v3 v4 A G → (∀ (x3 : Int32) (A1 : S_A) (G1 : S_G) (H : Heap) (locs : List Loc) (ls : Array Slot), lv_has ls 5 [(3, .int x3)] → va_P (dC, dI) clZ (wN cI cL cZ q A1 D G1 K N P T) H → va_S (aN q) s.heap H locs → Kx x3 A1 G1 → W p l e (headSpec ws_N_undoOpenUpdates rm_N_undoOpenUpdates).room s m ([.ref (q 0), .int a1, .int a2]).toArray below meth c H locs 0 0 Q (F0 m 77 ls [])) → W p l e (headSpec ws_N_undoOpenUpdates rm_N_undoOpenUpdates).room s m ([.ref (q 0), .int a1, .int a2]).toArray below meth c H locs 0 0 Q (F0 m 13 ls []) := by
    intro Kx v1 v2 n
    induction n with
    | zero =>
      intros
      rename_i hwp _
      exact hwp.elim
    | succ n13 ih =>
      intro v3 v4 A G H locs ls hl hP hS hwp hX
      rw [wp_N_undoOpenUpdates_L13] at hwp
      refine lv_iload hx hb d_N_undoOpenUpdates_13 (lv_at hl 4 rfl) ?_
      refine lv_if_lt (tgt := 77) hx hb d_N_undoOpenUpdates_15 (by decide) (fun hc => ?_) (fun hc => ?_)
      · rw [if_pos hc] at hwp
        exact hX (v3) (A) (G) _ _ _ (lv_sub hl [3] rfl) hP hS hwp
      · rw [if_neg hc] at hwp
        refine lv_aload_n hx hb d_N_undoOpenUpdates_18 rfl (lv_at hl 0 rfl) ?_
        refine va_get (D := (dC, dI)) (ci := 0) (v := .ref (q 5)) (C := R_N) (T := F_N) (N := 7) hx hb hts hiN hown hK hP 0 rfl rfl 4 (by decide) lk40 (fun _ h9 => h9) rfl d_N_undoOpenUpdates_19 ?_
        refine lv_iload hx hb d_N_undoOpenUpdates_22 (lv_at hl 4 rfl) ?_
        refine ncn_i (As := [.int v4]) (c_G_lsnOf hq (A) (D) (G) (K) (N) (P) (T) (v4) _ hwp) (cwV 1 hts g_N_314 rfl rfl rfl hd_G_lsnOf ⟨Nat.le_of_ble_eq_true rfl, Nat.le_of_ble_eq_true rfl⟩) hx hb hml hown hts hK hP hS hl.1 d_N_undoOpenUpdates_24 (va_recv (q := (R_G, F_G, 12)) hK hP (ci := 5) (q0 := 5) rfl rfl) rfl (lv_room (Nat.le_of_ble_eq_true rfl)) (Nat.zero_le _) (Nat.zero_le _) rfl (fun r1 u H locs hwp hP hS => ?_)
        have hP : va_P (dC, dI) clZ (wN cI cL cZ q A D G K N P T) H := hP
        refine lv_iload_n hx hb d_N_undoOpenUpdates_27 rfl (lv_at hl 2 rfl) ?_
        refine lv_icmp_le (tgt := 77) hx hb d_N_undoOpenUpdates_28 (by decide) (fun hc => ?_) (fun hc => ?_)
        · rw [if_pos hc] at hwp
          exact hX (v3) (A) (G) _ _ _ (lv_sub hl [3] rfl) hP hS hwp
        · rw [if_neg hc] at hwp
          refine lv_aload_n hx hb d_N_undoOpenUpdates_31 rfl (lv_at hl 0 rfl) ?_
          refine lv_iload hx hb d_N_undoOpenUpdates_32 (lv_at hl 4 rfl) ?_
          refine ncn_i (As := [.int v4]) (c_N_isOpen hq (A) (D) (G) (K) (N) (P) (T) (v4) _ hwp) (cwV 1 hts g_N_330 rfl rfl rfl hd_N_isOpen ⟨Nat.le_of_ble_eq_true rfl, Nat.le_of_ble_eq_true rfl⟩) hx hb hml hown hts hK hP hS hl.1 d_N_undoOpenUpdates_34 (va_recv (q := (R_N, F_N, 7)) hK hP (ci := 0) (q0 := 0) rfl rfl) rfl (lv_room (Nat.le_of_ble_eq_true rfl)) (Nat.zero_le _) (Nat.zero_le _) rfl (fun r2 u H locs hwp hP hS => ?_)
          have hP : va_P (dC, dI) clZ (wN cI cL cZ q A D G K N P T) H := hP
          refine lv_if_eq (tgt := 71) hx hb d_N_undoOpenUpdates_37 (by decide) (fun hc => ?_) (fun hc => ?_)
          · rw [if_pos hc] at hwp
            refine lv_iinc (k := 4) (v := (v4 + (-1))) (lv' := [(4, .int (v4 + (-1))), (0, .ref (q 0)), (1, .int v1), (2, .int v2), (3, .int v3)]) hx hb d_N_undoOpenUpdates_71 hl rfl (ii_m1 _) (by decide) rfl (fun ls hl => ?_)
            refine lv_goto hx hb d_N_undoOpenUpdates_74 (tgt := 13) (by decide) ?_
            exact ih (v3) ((v4 + (-1))) (A) (G) _ _ _ (lv_sub hl [1, 2, 3, 4, 0] rfl) hP hS hwp hX
          · rw [if_neg hc] at hwp
            refine lv_aload_n hx hb d_N_undoOpenUpdates_40 rfl (lv_at hl 0 rfl) ?_
            refine va_get (D := (dC, dI)) (ci := 0) (v := .ref (q 1)) (C := R_N) (T := F_N) (N := 7) hx hb hts hiN hown hK hP 0 rfl rfl 0 (by decide) lk12 (fun _ h9 => h9) rfl d_N_undoOpenUpdates_41 ?_
            refine lv_aload_n hx hb d_N_undoOpenUpdates_44 rfl (lv_at hl 0 rfl) ?_
            refine va_get (D := (dC, dI)) (ci := 0) (v := .ref (q 5)) (C := R_N) (T := F_N) (N := 7) hx hb hts hiN hown hK hP 0 rfl rfl 4 (by decide) lk40 (fun _ h9 => h9) rfl d_N_undoOpenUpdates_45 ?_
            refine va_get (D := (dC, dI)) (ci := 5) (v := .ref (q 22)) (C := R_G) (T := F_G) (N := 12) hx hb hts hiG hown hK hP 5 rfl rfl 4 (by decide) lk191 (fun _ h9 => h9) rfl d_N_undoOpenUpdates_48 ?_
            refine lv_iload hx hb d_N_undoOpenUpdates_51 (lv_at hl 4 rfl) ?_
            refine va_iald hx hb hK hP 22 0 rfl rfl hwp.1 d_N_undoOpenUpdates_53 ?_
            have hwp := hwp.2
            refine lv_iload_n hx hb d_N_undoOpenUpdates_54 rfl (lv_at hl 1 rfl) ?_
            refine ncn_i (As := [.int ((G_transaction G) (Int32.toNatClampNeg v4)), .int v1]) (c_T_isWithin hq (A) (D) (G) (K) (N) (P) (T) (((G_transaction G) (Int32.toNatClampNeg v4))) (v1) _ hwp) (cwV 2 hts g_N_333 rfl rfl rfl hd_T_isWithin ⟨Nat.le_of_ble_eq_true rfl, Nat.le_of_ble_eq_true rfl⟩) hx hb hml hown hts hK hP hS hl.1 d_N_undoOpenUpdates_55 (va_recv (q := (R_T, F_T, 11)) hK hP (ci := 1) (q0 := 1) rfl rfl) rfl (lv_room (Nat.le_of_ble_eq_true rfl)) (Nat.zero_le _) (Nat.zero_le _) rfl (fun r3 u H locs hwp hP hS => ?_)
            have hP : va_P (dC, dI) clZ (wN cI cL cZ q A D G K N P T) H := hP
            refine lv_if_eq (tgt := 71) hx hb d_N_undoOpenUpdates_58 (by decide) (fun hc => ?_) (fun hc => ?_)
            · rw [if_pos hc] at hwp
              refine lv_iinc (k := 4) (v := (v4 + (-1))) (lv' := [(4, .int (v4 + (-1))), (0, .ref (q 0)), (1, .int v1), (2, .int v2), (3, .int v3)]) hx hb d_N_undoOpenUpdates_71 hl rfl (ii_m1 _) (by decide) rfl (fun ls hl => ?_)
              refine lv_goto hx hb d_N_undoOpenUpdates_74 (tgt := 13) (by decide) ?_
              exact ih (v3) ((v4 + (-1))) (A) (G) _ _ _ (lv_sub hl [1, 2, 3, 4, 0] rfl) hP hS hwp hX
            · rw [if_neg hc] at hwp
              refine lv_aload_n hx hb d_N_undoOpenUpdates_61 rfl (lv_at hl 0 rfl) ?_
              refine lv_iload hx hb d_N_undoOpenUpdates_62 (lv_at hl 4 rfl) ?_
              refine lv_iload_n hx hb d_N_undoOpenUpdates_64 rfl (lv_at hl 1 rfl) ?_
              refine ncn_v (As := [.int v4, .int v1]) (c_N_undo hq (A) (D) (G) (K) (N) (P) (T) (v4) (v1) _ hwp) (cwV 2 hts g_N_337 rfl rfl rfl hd_N_undo ⟨Nat.le_of_ble_eq_true rfl, Nat.le_of_ble_eq_true rfl⟩) hx hb hml hown hts hK hP hS hl.1 d_N_undoOpenUpdates_65 (va_recv (q := (R_N, F_N, 7)) hK hP (ci := 0) (q0 := 0) rfl rfl) rfl (lv_room (Nat.le_of_ble_eq_true rfl)) (Nat.zero_le _) (Nat.zero_le _) rfl (fun u H locs hwp hP hS => ?_)
              obtain ⟨A4, G5⟩ := u
              have hP : va_P (dC, dI) clZ (wN cI cL cZ q A4 D G5 K N P T) H := hP
              refine lv_iinc (k := 3) (v := (v3 + 1)) (lv' := [(3, .int (v3 + 1)), (0, .ref (q 0)), (1, .int v1), (2, .int v2), (4, .int v4)]) hx hb d_N_undoOpenUpdates_68 hl rfl (ii_1 _) (by decide) rfl (fun ls hl => ?_)
              refine lv_iinc (k := 4) (v := (v4 + (-1))) (lv' := [(4, .int (v4 + (-1))), (3, .int (v3 + 1)), (0, .ref (q 0)), (1, .int v1), (2, .int v2)]) hx hb d_N_undoOpenUpdates_71 hl rfl (ii_m1 _) (by decide) rfl (fun ls hl => ?_)
              refine lv_goto hx hb d_N_undoOpenUpdates_74 (tgt := 13) (by decide) ?_
              exact ih ((v3 + 1)) ((v4 + (-1))) (A4) (G5) _ _ _ (lv_sub hl [2, 3, 4, 1, 0] rfl) hP hS hwp hX
  rw [wp_N_undoOpenUpdates] at hwp
  refine lv_iconst (v := 0) hx hb d_N_undoOpenUpdates_0 (by decide) ?_
  refine lv_istore_n (lv' := [(3, .int 0), (0, .ref (q 0)), (1, .int a1), (2, .int a2)]) hx hb d_N_undoOpenUpdates_1 rfl hl (by decide) rfl (fun ls hl => ?_)
  refine lv_aload_n hx hb d_N_undoOpenUpdates_2 rfl (lv_at hl 1 rfl) ?_
  refine va_get (D := (dC, dI)) (ci := 0) (v := .ref (q 5)) (C := R_N) (T := F_N) (N := 7) hx hb hts hiN hown hK hP 0 rfl rfl 4 (by decide) lk40 (fun _ h9 => h9) rfl d_N_undoOpenUpdates_3 ?_
  refine va_get (D := (dC, dI)) (ci := 5) (v := .int (G_size G)) (C := R_G) (T := F_G) (N := 12) hx hb hts hiG hown hK hP 5 rfl rfl 1 (by decide) lk213 (fun _ h9 => h9) rfl d_N_undoOpenUpdates_6 ?_
  refine lv_iconst (v := 1) hx hb d_N_undoOpenUpdates_9 (by decide) ?_
  refine lv_isub hx hb d_N_undoOpenUpdates_10 ?_
  refine lv_istore (lv' := [(4, .int ((G_size G) - 1)), (3, .int 0), (0, .ref (q 0)), (1, .int a1), (2, .int a2)]) hx hb d_N_undoOpenUpdates_11 hl (by decide) rfl (fun ls hl => ?_)
  obtain ⟨e13, hwp⟩ := hwp
  refine L13 _ (a1) (a2) e13 (0) (((G_size G) - 1)) (A) (G) _ _ _ (lv_sub hl [2, 3, 4, 1, 0] rfl) hP hS hwp (fun x6 A7 G8 H locs ls hl hP hS hwp => ?_)
  refine lv_iload_n hx hb d_N_undoOpenUpdates_77 rfl (lv_at hl 0 rfl) ?_
  rw [hQ]
  exact W.iret (v := x6) hx hb hr (fun t ht hW => ⟨⟨x6, (A7, G8), rfl, hwp, hp_of ht hP⟩, hS.F ht⟩) hS.2.2 d_N_undoOpenUpdates_78

set_option maxHeartbeats 4000000 in
set_option maxRecDepth 100000 in
theorem c_N_abortWithDescendants {l : Launch} {dC : Nat → ClassId} {dI : Nat → Nat → Nat} {cI cL cZ : ClassId} {q : Nat → Nat} (hq : iN q) (A : S_A) (D : S_D) (G : S_G) (K : S_K) (N : S_N) (P : S_P) (T : S_T) (a1 : Int32) (post : Int32 → S_A → S_G → S_K → S_T → Prop) (hwp : wp_N_abortWithDescendants A G K T a1 post) : Met l y_N_abortWithDescendants ws_N_abortWithDescendants rm_N_abortWithDescendants (va_Pc [.ref (q 0), .int a1] (bN dC dI cI cL cZ q A D G K N P T)) (va_Qi (fun (r : Int32) (u : S_A × S_G × S_K × S_T) => post r u.1 u.2.1 u.2.2.1 u.2.2.2) (fun u t => va_P (dC, dI) clZ (wN cI cL cZ q (u.1) D (u.2.1) (u.2.2.1) N P (u.2.2.2)) t.heap) (aN q)) 0 0 (aN q) := by
  refine Met.ofW (cc := b_N_abortWithDescendants) (maxL := 4) (ret := (some .int)) (by decide) rfl ?_
  intro p e s m args below meth c s₁ B hml hv
  obtain ⟨rfl, hP, hK⟩ := hv
  have hx := B.exec
  have hb := B.bytes
  have hr := B.returns
  have hts := atoms_spec (ws := ws_N_abortWithDescendants) B.pre
  have hown : s.vm.findClass R_N = some m.cls := findClass_of_methodNamed B.named
  have hlocks := B.notSynchronized
  have hiN : ∀ w ∈ u_ws R_N F_N 7, w ∈ ws_N_abortWithDescendants := fun w h => List.mem_cons_of_mem _ (in_N w h)
  have hiT : ∀ w ∈ u_ws R_T F_T 11, w ∈ ws_N_abortWithDescendants := fun w h => List.mem_cons_of_mem _ (in_T w h)
  have lk12 := hts _ (List.mem_cons_of_mem _ k_N_12)
  have lk19 := hts _ (List.mem_cons_of_mem _ k_N_19)
  have lk40 := hts _ (List.mem_cons_of_mem _ k_N_40)
  have lk70 := hts _ (List.mem_cons_of_mem _ k_N_70)
  have lk106 := hts _ (List.mem_cons_of_mem _ k_N_106)
  have lk128 := hts _ (List.mem_cons_of_mem _ k_N_128)
  have hS : va_S (aN q) s.heap s.heap [] := va_S.rf
  have hl := lv_entry ([.ref (q 0), .int a1]) (n := 4) (Nat.le_of_ble_eq_true rfl)
  rw [lg_entry_eq]
  generalize (lg_sl ([.ref (q 0), .int a1]) ++ List.replicate (4 - (lg_sl ([.ref (q 0), .int a1])).length) Slot.unset).toArray = ls at hl ⊢
  have hl : lv_has ls 4 [(0, .ref (q 0)), (1, .int a1)] := hl
  obtain ⟨Q, hQ⟩ : ∃ Q, Q = MQ below (va_Qi (fun (r : Int32) (u : S_A × S_G × S_K × S_T) => post r u.1 u.2.1 u.2.2.1 u.2.2.2) (fun u t => va_P (dC, dI) clZ (wN cI cL cZ q (u.1) D (u.2.1) (u.2.2.1) N P (u.2.2.2)) t.heap) (aN q)) ([.ref (q 0), .int a1]).toArray s 0 0 (aN q) := ⟨_, rfl⟩
  rw [← hQ]
  have L25 : ∀ (Kx : S_G → S_K → S_T → Prop) (A : S_A) (v1 : Int32) (v2 : Int32) (n : Nat) (v3 : Int32) (G : S_G) (K : S_K) (T : S_T) (H : Heap) (locs : List Loc) (ls : Array Slot), lv_has ls 4 [(0, .ref (q 0)), (1, .int v1), (2, .int v2), (3, .int v3)] → va_P (dC, dI) clZ (wN cI cL cZ q A D G K N P T) H → va_S (aN q) s.heap H locs → wp_N_abortWithDescendants_L25 v1 v2 Kx n v3 G K T → (∀ (G1 : S_G) (K1 : S_K) (T1 : S_T) (H : Heap) (locs : List Loc) (ls : Array Slot), lv_has ls 4 [(2, .int v2)] → va_P (dC, dI) clZ (wN cI cL cZ q A D G1 K1 N P T1) H → va_S (aN q) s.heap H locs → Kx G1 K1 T1 → W p l e (headSpec ws_N_abortWithDescendants rm_N_abortWithDescendants).room s m ([.ref (q 0), .int a1]).toArray below meth c H locs 0 0 Q (F0 m 88 ls [])) → W p l e (headSpec ws_N_abortWithDescendants rm_N_abortWithDescendants).room s m ([.ref (q 0), .int a1]).toArray below meth c H locs 0 0 Q (F0 m 25 ls []) := by
    intro Kx A v1 v2 n
    induction n with
    | zero =>
      intros
      rename_i hwp _
      exact hwp.elim
    | succ n25 ih =>
      intro v3 G K T H locs ls hl hP hS hwp hX
      rw [wp_N_abortWithDescendants_L25] at hwp
      refine lv_iload_n hx hb d_N_abortWithDescendants_25 rfl (lv_at hl 3 rfl) ?_
      refine lv_iload_n hx hb d_N_abortWithDescendants_26 rfl (lv_at hl 1 rfl) ?_
      refine lv_icmp_lt (tgt := 88) hx hb d_N_abortWithDescendants_27 (by decide) (fun hc => ?_) (fun hc => ?_)
      · rw [if_pos hc] at hwp
        exact hX (G) (K) (T) _ _ _ (lv_sub hl [2] rfl) hP hS hwp
      · rw [if_neg hc] at hwp
        refine lv_aload_n hx hb d_N_abortWithDescendants_30 rfl (lv_at hl 0 rfl) ?_
        refine va_get (D := (dC, dI)) (ci := 0) (v := .ref (q 1)) (C := R_N) (T := F_N) (N := 7) hx hb hts hiN hown hK hP 0 rfl rfl 0 (by decide) lk12 (fun _ h9 => h9) rfl d_N_abortWithDescendants_31 ?_
        refine lv_iload_n hx hb d_N_abortWithDescendants_34 rfl (lv_at hl 3 rfl) ?_
        refine ncn_i (As := [.int v3]) (c_T_isLive hq (A) (D) (G) (K) (N) (P) (T) (v3) _ hwp) (cwV 1 hts g_N_122 rfl rfl rfl hd_T_isLive ⟨Nat.le_of_ble_eq_true rfl, Nat.le_of_ble_eq_true rfl⟩) hx hb hml hown hts hK hP hS hl.1 d_N_abortWithDescendants_35 (va_recv (q := (R_T, F_T, 11)) hK hP (ci := 1) (q0 := 1) rfl rfl) rfl (lv_room (Nat.le_of_ble_eq_true rfl)) (Nat.zero_le _) (Nat.zero_le _) rfl (fun r4 u H locs hwp hP hS => ?_)
        have hP : va_P (dC, dI) clZ (wN cI cL cZ q A D G K N P T) H := hP
        refine lv_if_eq (tgt := 82) hx hb d_N_abortWithDescendants_38 (by decide) (fun hc => ?_) (fun hc => ?_)
        · rw [if_pos hc] at hwp
          refine lv_iinc (k := 3) (v := (v3 + (-1))) (lv' := [(3, .int (v3 + (-1))), (0, .ref (q 0)), (1, .int v1), (2, .int v2)]) hx hb d_N_abortWithDescendants_82 hl rfl (ii_m1 _) (by decide) rfl (fun ls hl => ?_)
          refine lv_goto hx hb d_N_abortWithDescendants_85 (tgt := 25) (by decide) ?_
          exact ih ((v3 + (-1))) (G) (K) (T) _ _ _ (lv_sub hl [1, 2, 3, 0] rfl) hP hS hwp hX
        · rw [if_neg hc] at hwp
          refine lv_aload_n hx hb d_N_abortWithDescendants_41 rfl (lv_at hl 0 rfl) ?_
          refine va_get (D := (dC, dI)) (ci := 0) (v := .ref (q 1)) (C := R_N) (T := F_N) (N := 7) hx hb hts hiN hown hK hP 0 rfl rfl 0 (by decide) lk12 (fun _ h9 => h9) rfl d_N_abortWithDescendants_42 ?_
          refine lv_iload_n hx hb d_N_abortWithDescendants_45 rfl (lv_at hl 3 rfl) ?_
          refine lv_iload_n hx hb d_N_abortWithDescendants_46 rfl (lv_at hl 1 rfl) ?_
          refine ncn_i (As := [.int v3, .int v1]) (c_T_isWithin hq (A) (D) (G) (K) (N) (P) (T) (v3) (v1) _ hwp) (cwV 2 hts g_N_333 rfl rfl rfl hd_T_isWithin ⟨Nat.le_of_ble_eq_true rfl, Nat.le_of_ble_eq_true rfl⟩) hx hb hml hown hts hK hP hS hl.1 d_N_abortWithDescendants_47 (va_recv (q := (R_T, F_T, 11)) hK hP (ci := 1) (q0 := 1) rfl rfl) rfl (lv_room (Nat.le_of_ble_eq_true rfl)) (Nat.zero_le _) (Nat.zero_le _) rfl (fun r5 u H locs hwp hP hS => ?_)
          have hP : va_P (dC, dI) clZ (wN cI cL cZ q A D G K N P T) H := hP
          refine lv_if_eq (tgt := 82) hx hb d_N_abortWithDescendants_50 (by decide) (fun hc => ?_) (fun hc => ?_)
          · rw [if_pos hc] at hwp
            refine lv_iinc (k := 3) (v := (v3 + (-1))) (lv' := [(3, .int (v3 + (-1))), (0, .ref (q 0)), (1, .int v1), (2, .int v2)]) hx hb d_N_abortWithDescendants_82 hl rfl (ii_m1 _) (by decide) rfl (fun ls hl => ?_)
            refine lv_goto hx hb d_N_abortWithDescendants_85 (tgt := 25) (by decide) ?_
            exact ih ((v3 + (-1))) (G) (K) (T) _ _ _ (lv_sub hl [1, 2, 3, 0] rfl) hP hS hwp hX
          · rw [if_neg hc] at hwp
            refine lv_aload_n hx hb d_N_abortWithDescendants_53 rfl (lv_at hl 0 rfl) ?_
            refine va_get (D := (dC, dI)) (ci := 0) (v := .ref (q 1)) (C := R_N) (T := F_N) (N := 7) hx hb hts hiN hown hK hP 0 rfl rfl 0 (by decide) lk12 (fun _ h9 => h9) rfl d_N_abortWithDescendants_54 ?_
            refine va_get (D := (dC, dI)) (ci := 1) (v := .ref (q 10)) (C := R_T) (T := F_T) (N := 11) hx hb hts hiT hown hK hP 1 rfl rfl 4 (by decide) lk106 (fun _ h9 => h9) rfl d_N_abortWithDescendants_57 ?_
            refine lv_iload_n hx hb d_N_abortWithDescendants_60 rfl (lv_at hl 3 rfl) ?_
            refine lv_iconst (v := 4) hx hb d_N_abortWithDescendants_61 (by decide) ?_
            refine va_iast hx hb hK hP (dN hq) hS 10 0 rfl rfl hwp.1 d_N_abortWithDescendants_62 (fun H locs hP _ hS => ?_)
            have hwp := hwp.2
            have hP : va_P (dC, dI) clZ (wN cI cL cZ q A D G K N P (T_state' T (upd (T_state T) (Int32.toNatClampNeg v3) 4))) H := hP
            refine lv_aload_n hx hb d_N_abortWithDescendants_63 rfl (lv_at hl 0 rfl) ?_
            refine va_get (D := (dC, dI)) (ci := 0) (v := .ref (q 5)) (C := R_N) (T := F_N) (N := 7) hx hb hts hiN hown hK hP 0 rfl rfl 4 (by decide) lk40 (fun _ h9 => h9) rfl d_N_abortWithDescendants_64 ?_
            refine lv_iconst (v := 5) hx hb d_N_abortWithDescendants_67 (by decide) ?_
            refine lv_iload_n hx hb d_N_abortWithDescendants_68 rfl (lv_at hl 3 rfl) ?_
            refine lv_iconst (v := 0) hx hb d_N_abortWithDescendants_69 (by decide) ?_
            refine ncn_i (As := [.int 5, .int v3, .int 0]) (c_G_append hq (A) (D) (G) (K) (N) (P) ((T_state' T (upd (T_state T) (Int32.toNatClampNeg v3) 4))) (5) (v3) (0) _ hwp) (cwV 3 hts g_N_85 rfl rfl rfl hd_G_append ⟨Nat.le_of_ble_eq_true rfl, Nat.le_of_ble_eq_true rfl⟩) hx hb hml hown hts hK hP hS hl.1 d_N_abortWithDescendants_70 (va_recv (q := (R_G, F_G, 12)) hK hP (ci := 5) (q0 := 5) rfl rfl) rfl (lv_room (Nat.le_of_ble_eq_true rfl)) (Nat.zero_le _) (Nat.zero_le _) rfl (fun r6 G7 H locs hwp hP hS => ?_)
            have hP : va_P (dC, dI) clZ (wN cI cL cZ q A D G7 K N P (T_state' T (upd (T_state T) (Int32.toNatClampNeg v3) 4))) H := hP
            refine lv_pop hx hb d_N_abortWithDescendants_73 rfl ?_
            refine lv_aload_n hx hb d_N_abortWithDescendants_74 rfl (lv_at hl 0 rfl) ?_
            refine va_get (D := (dC, dI)) (ci := 0) (v := .ref (q 2)) (C := R_N) (T := F_N) (N := 7) hx hb hts hiN hown hK hP 0 rfl rfl 1 (by decide) lk19 (fun _ h9 => h9) rfl d_N_abortWithDescendants_75 ?_
            refine lv_iload_n hx hb d_N_abortWithDescendants_78 rfl (lv_at hl 3 rfl) ?_
            refine ncn_v (As := [.int v3]) (c_K_release hq (A) (D) (G7) (K) (N) (P) ((T_state' T (upd (T_state T) (Int32.toNatClampNeg v3) 4))) (v3) _ hwp) (cwV 1 hts g_N_119 rfl rfl rfl hd_K_release ⟨Nat.le_of_ble_eq_true rfl, Nat.le_of_ble_eq_true rfl⟩) hx hb hml hown hts hK hP hS hl.1 d_N_abortWithDescendants_79 (va_recv (q := (R_K, F_K, 2)) hK hP (ci := 2) (q0 := 2) rfl rfl) rfl (lv_room (Nat.le_of_ble_eq_true rfl)) (Nat.zero_le _) (Nat.zero_le _) rfl (fun K8 H locs hwp hP hS => ?_)
            have hP : va_P (dC, dI) clZ (wN cI cL cZ q A D G7 K8 N P (T_state' T (upd (T_state T) (Int32.toNatClampNeg v3) 4))) H := hP
            refine lv_iinc (k := 3) (v := (v3 + (-1))) (lv' := [(3, .int (v3 + (-1))), (0, .ref (q 0)), (1, .int v1), (2, .int v2)]) hx hb d_N_abortWithDescendants_82 hl rfl (ii_m1 _) (by decide) rfl (fun ls hl => ?_)
            refine lv_goto hx hb d_N_abortWithDescendants_85 (tgt := 25) (by decide) ?_
            exact ih ((v3 + (-1))) (G7) (K8) ((T_state' T (upd (T_state T) (Int32.toNatClampNeg v3) 4))) _ _ _ (lv_sub hl [1, 2, 3, 0] rfl) hP hS hwp hX
  rw [wp_N_abortWithDescendants] at hwp
  refine lv_aload_n hx hb d_N_abortWithDescendants_0 rfl (lv_at hl 0 rfl) ?_
  refine lv_iload_n hx hb d_N_abortWithDescendants_1 rfl (lv_at hl 1 rfl) ?_
  refine lv_aload_n hx hb d_N_abortWithDescendants_2 rfl (lv_at hl 0 rfl) ?_
  refine va_get (D := (dC, dI)) (ci := 0) (v := .ref (q 1)) (C := R_N) (T := F_N) (N := 7) hx hb hts hiN hown hK hP 0 rfl rfl 0 (by decide) lk12 (fun _ h9 => h9) rfl d_N_abortWithDescendants_3 ?_
  refine va_get (D := (dC, dI)) (ci := 1) (v := .ref (q 11)) (C := R_T) (T := F_T) (N := 11) hx hb hts hiT hown hK hP 1 rfl rfl 5 (by decide) lk128 (fun _ h9 => h9) rfl d_N_abortWithDescendants_6 ?_
  refine lv_iload_n hx hb d_N_abortWithDescendants_9 rfl (lv_at hl 1 rfl) ?_
  refine va_iald hx hb hK hP 11 0 rfl rfl hwp.1 d_N_abortWithDescendants_10 ?_
  have hwp := hwp.2
  refine ncn_i (As := [.int a1, .int ((T_begun T) (Int32.toNatClampNeg a1))]) (c_N_undoOpenUpdates hq (A) (D) (G) (K) (N) (P) (T) (a1) (((T_begun T) (Int32.toNatClampNeg a1))) _ hwp) (cwV 2 hts g_N_134 rfl rfl rfl hd_N_undoOpenUpdates ⟨Nat.le_of_ble_eq_true rfl, Nat.le_of_ble_eq_true rfl⟩) hx hb hml hown hts hK hP hS hl.1 d_N_abortWithDescendants_11 (va_recv (q := (R_N, F_N, 7)) hK hP (ci := 0) (q0 := 0) rfl rfl) rfl (lv_room (Nat.le_of_ble_eq_true rfl)) (Nat.zero_le _) (Nat.zero_le _) rfl (fun r1 u H locs hwp hP hS => ?_)
  obtain ⟨A2, G3⟩ := u
  have hP : va_P (dC, dI) clZ (wN cI cL cZ q A2 D G3 K N P T) H := hP
  refine lv_istore_n (lv' := [(2, .int r1), (0, .ref (q 0)), (1, .int a1)]) hx hb d_N_abortWithDescendants_14 rfl hl (by decide) rfl (fun ls hl => ?_)
  refine lv_aload_n hx hb d_N_abortWithDescendants_15 rfl (lv_at hl 1 rfl) ?_
  refine va_get (D := (dC, dI)) (ci := 0) (v := .ref (q 1)) (C := R_N) (T := F_N) (N := 7) hx hb hts hiN hown hK hP 0 rfl rfl 0 (by decide) lk12 (fun _ h9 => h9) rfl d_N_abortWithDescendants_16 ?_
  refine va_get (D := (dC, dI)) (ci := 1) (v := .int (T_count T)) (C := R_T) (T := F_T) (N := 11) hx hb hts hiT hown hK hP 1 rfl rfl 0 (by decide) lk70 (fun _ h9 => h9) rfl d_N_abortWithDescendants_19 ?_
  refine lv_iconst (v := 1) hx hb d_N_abortWithDescendants_22 (by decide) ?_
  refine lv_isub hx hb d_N_abortWithDescendants_23 ?_
  refine lv_istore_n (lv' := [(3, .int ((T_count T) - 1)), (2, .int r1), (0, .ref (q 0)), (1, .int a1)]) hx hb d_N_abortWithDescendants_24 rfl hl (by decide) rfl (fun ls hl => ?_)
  obtain ⟨e25, hwp⟩ := hwp
  refine L25 _ (A2) (a1) (r1) e25 (((T_count T) - 1)) (G3) (K) (T) _ _ _ (lv_sub hl [2, 3, 1, 0] rfl) hP hS hwp (fun G9 K10 T11 H locs ls hl hP hS hwp => ?_)
  refine lv_iload_n hx hb d_N_abortWithDescendants_88 rfl (lv_at hl 0 rfl) ?_
  rw [hQ]
  exact W.iret (v := r1) hx hb hr (fun t ht hW => ⟨⟨r1, (A2, G9, K10, T11), rfl, hwp, hp_of ht hP⟩, hS.F ht⟩) hS.2.2 d_N_abortWithDescendants_89

set_option maxHeartbeats 4000000 in
set_option maxRecDepth 100000 in
theorem c_N_request {l : Launch} {dC : Nat → ClassId} {dI : Nat → Nat → Nat} {cI cL cZ : ClassId} {q : Nat → Nat} (hq : iN q) (A : S_A) (D : S_D) (G : S_G) (K : S_K) (N : S_N) (P : S_P) (T : S_T) (a1 : Int32) (post : Int32 → S_A → S_D → S_G → S_K → S_N → S_P → S_T → Prop) (hwp : wp_N_request A D G K N P T a1 post) : Met l y_N_request ws_N_request rm_N_request (va_Pc [.ref (q 0), .int a1] (bN dC dI cI cL cZ q A D G K N P T)) (va_Qi (fun (r : Int32) (u : S_A × S_D × S_G × S_K × S_N × S_P × S_T) => post r u.1 u.2.1 u.2.2.1 u.2.2.2.1 u.2.2.2.2.1 u.2.2.2.2.2.1 u.2.2.2.2.2.2) (fun u t => va_P (dC, dI) clZ (wN cI cL cZ q (u.1) (u.2.1) (u.2.2.1) (u.2.2.2.1) (u.2.2.2.2.1) (u.2.2.2.2.2.1) (u.2.2.2.2.2.2)) t.heap) (aN q)) 0 0 (aN q) := by
  refine Met.ofW (cc := b_N_request) (maxL := 4) (ret := (some .int)) (by decide) rfl ?_
  intro p e s m args below meth c s₁ B hml hv
  obtain ⟨rfl, hP, hK⟩ := hv
  have hx := B.exec
  have hb := B.bytes
  have hr := B.returns
  have hts := atoms_spec (ws := ws_N_request) B.pre
  have hown : s.vm.findClass R_N = some m.cls := findClass_of_methodNamed B.named
  have hlocks := B.notSynchronized
  have hiN : ∀ w ∈ u_ws R_N F_N 7, w ∈ ws_N_request := fun w h => List.mem_cons_of_mem _ (in_N w h)
  have hiT : ∀ w ∈ u_ws R_T F_T 11, w ∈ ws_N_request := fun w h => List.mem_cons_of_mem _ (in_T w h)
  have lk12 := hts _ (List.mem_cons_of_mem _ k_N_12)
  have lk106 := hts _ (List.mem_cons_of_mem _ k_N_106)
  have hS : va_S (aN q) s.heap s.heap [] := va_S.rf
  have hl := lv_entry ([.ref (q 0), .int a1]) (n := 4) (Nat.le_of_ble_eq_true rfl)
  rw [lg_entry_eq]
  generalize (lg_sl ([.ref (q 0), .int a1]) ++ List.replicate (4 - (lg_sl ([.ref (q 0), .int a1])).length) Slot.unset).toArray = ls at hl ⊢
  have hl : lv_has ls 4 [(0, .ref (q 0)), (1, .int a1)] := hl
  obtain ⟨Q, hQ⟩ : ∃ Q, Q = MQ below (va_Qi (fun (r : Int32) (u : S_A × S_D × S_G × S_K × S_N × S_P × S_T) => post r u.1 u.2.1 u.2.2.1 u.2.2.2.1 u.2.2.2.2.1 u.2.2.2.2.2.1 u.2.2.2.2.2.2) (fun u t => va_P (dC, dI) clZ (wN cI cL cZ q (u.1) (u.2.1) (u.2.2.1) (u.2.2.2.1) (u.2.2.2.2.1) (u.2.2.2.2.2.1) (u.2.2.2.2.2.2)) t.heap) (aN q)) ([.ref (q 0), .int a1]).toArray s 0 0 (aN q) := ⟨_, rfl⟩
  rw [← hQ]
  have L42 : ∀ (Kx : S_A → S_D → S_G → S_K → S_P → S_T → Prop) (N : S_N) (v1 : Int32) (n : Nat) (v2 : Int32) (v3 : Int32) (A : S_A) (D : S_D) (G : S_G) (K : S_K) (P : S_P) (T : S_T) (H : Heap) (locs : List Loc) (ls : Array Slot), lv_has ls 4 [(0, .ref (q 0)), (1, .int v1), (2, .int v2), (3, .int v3)] → va_P (dC, dI) clZ (wN cI cL cZ q A D G K N P T) H → va_S (aN q) s.heap H locs → wp_N_request_L42 v1 Kx n v2 v3 A D G K P T → (∀ (A1 : S_A) (D1 : S_D) (G1 : S_G) (K1 : S_K) (P1 : S_P) (T1 : S_T) (H : Heap) (locs : List Loc) (ls : Array Slot), lv_has ls 4 [(0, .ref (q 0)), (1, .int v1)] → va_P (dC, dI) clZ (wN cI cL cZ q A1 D1 G1 K1 N P1 T1) H → va_S (aN q) s.heap H locs → Kx A1 D1 G1 K1 P1 T1 → W p l e (headSpec ws_N_request rm_N_request).room s m ([.ref (q 0), .int a1]).toArray below meth c H locs 0 0 Q (F0 m 71 ls [])) → W p l e (headSpec ws_N_request rm_N_request).room s m ([.ref (q 0), .int a1]).toArray below meth c H locs 0 0 Q (F0 m 42 ls []) := by
    intro Kx N v1 n
    induction n with
    | zero =>
      intros
      rename_i hwp _
      exact hwp.elim
    | succ n42 ih =>
      intro v2 v3 A D G K P T H locs ls hl hP hS hwp hX
      rw [wp_N_request_L42] at hwp
      refine lv_iload_n hx hb d_N_request_42 rfl (lv_at hl 3 rfl) ?_
      refine lv_bipush (v := 60) hx hb d_N_request_43 (by decide) ?_
      refine lv_icmp_ge (tgt := 71) hx hb d_N_request_45 (by decide) (fun hc => ?_) (fun hc => ?_)
      · rw [if_pos hc] at hwp
        exact hX (A) (D) (G) (K) (P) (T) _ _ _ (lv_sub hl [0, 1] rfl) hP hS hwp
      · rw [if_neg hc] at hwp
        refine lv_iload_n hx hb d_N_request_48 rfl (lv_at hl 2 rfl) ?_
        refine lv_iconst (v := (-1)) hx hb d_N_request_49 (by decide) ?_
        refine lv_icmp_eq (tgt := 71) hx hb d_N_request_50 (by decide) (fun hc => ?_) (fun hc => ?_)
        · rw [if_pos hc] at hwp
          exact hX (A) (D) (G) (K) (P) (T) _ _ _ (lv_sub hl [0, 1] rfl) hP hS hwp
        · rw [if_neg hc] at hwp
          refine lv_aload_n hx hb d_N_request_53 rfl (lv_at hl 0 rfl) ?_
          refine lv_iload_n hx hb d_N_request_54 rfl (lv_at hl 2 rfl) ?_
          refine ncn_i (As := [.int v2]) (c_N_abortWithDescendants hq (A) (D) (G) (K) (N) (P) (T) (v2) _ hwp) (cwV 1 hts g_N_125 rfl rfl rfl hd_N_abortWithDescendants ⟨Nat.le_of_ble_eq_true rfl, Nat.le_of_ble_eq_true rfl⟩) hx hb hml hown hts hK hP hS hl.1 d_N_request_55 (va_recv (q := (R_N, F_N, 7)) hK hP (ci := 0) (q0 := 0) rfl rfl) rfl (lv_room (Nat.le_of_ble_eq_true rfl)) (Nat.zero_le _) (Nat.zero_le _) rfl (fun r7 u H locs hwp hP hS => ?_)
          obtain ⟨A8, G9, K10, T11⟩ := u
          have hP : va_P (dC, dI) clZ (wN cI cL cZ q A8 D G9 K10 N P T11) H := hP
          refine lv_pop hx hb d_N_request_58 rfl ?_
          refine lv_aload_n hx hb d_N_request_59 rfl (lv_at hl 0 rfl) ?_
          refine lv_iload_n hx hb d_N_request_60 rfl (lv_at hl 1 rfl) ?_
          refine ncn_i (As := [.int v1]) (c_N_victimOfCircle hq (A8) (D) (G9) (K10) (N) (P) (T11) (v1) _ hwp) (cwV 1 hts g_N_253 rfl rfl rfl hd_N_victimOfCircle ⟨Nat.le_of_ble_eq_true rfl, Nat.le_of_ble_eq_true rfl⟩) hx hb hml hown hts hK hP hS hl.1 d_N_request_61 (va_recv (q := (R_N, F_N, 7)) hK hP (ci := 0) (q0 := 0) rfl rfl) rfl (lv_room (Nat.le_of_ble_eq_true rfl)) (Nat.zero_le _) (Nat.zero_le _) rfl (fun r12 u H locs hwp hP hS => ?_)
          obtain ⟨D13, P14⟩ := u
          have hP : va_P (dC, dI) clZ (wN cI cL cZ q A8 D13 G9 K10 N P14 T11) H := hP
          refine lv_istore_n (lv' := [(2, .int r12), (0, .ref (q 0)), (1, .int v1), (3, .int v3)]) hx hb d_N_request_64 rfl hl (by decide) rfl (fun ls hl => ?_)
          refine lv_iinc (k := 3) (v := (v3 + 1)) (lv' := [(3, .int (v3 + 1)), (2, .int r12), (0, .ref (q 0)), (1, .int v1)]) hx hb d_N_request_65 hl rfl (ii_1 _) (by decide) rfl (fun ls hl => ?_)
          refine lv_goto hx hb d_N_request_68 (tgt := 42) (by decide) ?_
          exact ih (r12) ((v3 + 1)) (A8) (D13) (G9) (K10) (P14) (T11) _ _ _ (lv_sub hl [2, 3, 1, 0] rfl) hP hS hwp hX
  rw [wp_N_request] at hwp
  refine lv_aload_n hx hb d_N_request_0 rfl (lv_at hl 0 rfl) ?_
  refine lv_iload_n hx hb d_N_request_1 rfl (lv_at hl 1 rfl) ?_
  refine ncn_i (As := [.int a1]) (c_N_takeLocks hq (A) (D) (G) (K) (N) (P) (T) (a1) _ hwp) (cwV 1 hts g_N_247 rfl rfl rfl hd_N_takeLocks ⟨Nat.le_of_ble_eq_true rfl, Nat.le_of_ble_eq_true rfl⟩) hx hb hml hown hts hK hP hS hl.1 d_N_request_2 (va_recv (q := (R_N, F_N, 7)) hK hP (ci := 0) (q0 := 0) rfl rfl) rfl (lv_room (Nat.le_of_ble_eq_true rfl)) (Nat.zero_le _) (Nat.zero_le _) rfl (fun r1 u H locs hwp hP hS => ?_)
  obtain ⟨K2, P3⟩ := u
  have hP : va_P (dC, dI) clZ (wN cI cL cZ q A D G K2 N P3 T) H := hP
  refine lv_if_eq (tgt := 24) hx hb d_N_request_5 (by decide) (fun hc => ?_) (fun hc => ?_)
  · rw [if_pos hc] at hwp
    refine lv_aload_n hx hb d_N_request_24 rfl (lv_at hl 0 rfl) ?_
    refine va_get (D := (dC, dI)) (ci := 0) (v := .ref (q 1)) (C := R_N) (T := F_N) (N := 7) hx hb hts hiN hown hK hP 0 rfl rfl 0 (by decide) lk12 (fun _ h9 => h9) rfl d_N_request_25 ?_
    refine va_get (D := (dC, dI)) (ci := 1) (v := .ref (q 10)) (C := R_T) (T := F_T) (N := 11) hx hb hts hiT hown hK hP 1 rfl rfl 4 (by decide) lk106 (fun _ h9 => h9) rfl d_N_request_28 ?_
    refine lv_iload_n hx hb d_N_request_31 rfl (lv_at hl 1 rfl) ?_
    refine lv_iconst (v := 2) hx hb d_N_request_32 (by decide) ?_
    refine va_iast hx hb hK hP (dN hq) hS 10 0 rfl rfl hwp.1 d_N_request_33 (fun H locs hP _ hS => ?_)
    have hwp := hwp.2
    have hP : va_P (dC, dI) clZ (wN cI cL cZ q A D G K2 N P3 (T_state' T (upd (T_state T) (Int32.toNatClampNeg a1) 2))) H := hP
    refine lv_aload_n hx hb d_N_request_34 rfl (lv_at hl 0 rfl) ?_
    refine lv_iload_n hx hb d_N_request_35 rfl (lv_at hl 1 rfl) ?_
    refine ncn_i (As := [.int a1]) (c_N_victimOfCircle hq (A) (D) (G) (K2) (N) (P3) ((T_state' T (upd (T_state T) (Int32.toNatClampNeg a1) 2))) (a1) _ hwp) (cwV 1 hts g_N_253 rfl rfl rfl hd_N_victimOfCircle ⟨Nat.le_of_ble_eq_true rfl, Nat.le_of_ble_eq_true rfl⟩) hx hb hml hown hts hK hP hS hl.1 d_N_request_36 (va_recv (q := (R_N, F_N, 7)) hK hP (ci := 0) (q0 := 0) rfl rfl) rfl (lv_room (Nat.le_of_ble_eq_true rfl)) (Nat.zero_le _) (Nat.zero_le _) rfl (fun r4 u H locs hwp hP hS => ?_)
    obtain ⟨D5, P6⟩ := u
    have hP : va_P (dC, dI) clZ (wN cI cL cZ q A D5 G K2 N P6 (T_state' T (upd (T_state T) (Int32.toNatClampNeg a1) 2))) H := hP
    refine lv_istore_n (lv' := [(2, .int r4), (0, .ref (q 0)), (1, .int a1)]) hx hb d_N_request_39 rfl hl (by decide) rfl (fun ls hl => ?_)
    refine lv_iconst (v := 0) hx hb d_N_request_40 (by decide) ?_
    refine lv_istore_n (lv' := [(3, .int 0), (2, .int r4), (0, .ref (q 0)), (1, .int a1)]) hx hb d_N_request_41 rfl hl (by decide) rfl (fun ls hl => ?_)
    obtain ⟨e42, hwp⟩ := hwp
    refine L42 _ (N) (a1) e42 (r4) (0) (A) (D5) (G) (K2) (P6) ((T_state' T (upd (T_state T) (Int32.toNatClampNeg a1) 2))) _ _ _ (lv_sub hl [2, 3, 1, 0] rfl) hP hS hwp (fun A15 D16 G17 K18 P19 T20 H locs ls hl hP hS hwp => ?_)
    refine lv_aload_n hx hb d_N_request_71 rfl (lv_at hl 0 rfl) ?_
    refine va_get (D := (dC, dI)) (ci := 0) (v := .ref (q 1)) (C := R_N) (T := F_N) (N := 7) hx hb hts hiN hown hK hP 0 rfl rfl 0 (by decide) lk12 (fun _ h9 => h9) rfl d_N_request_72 ?_
    refine lv_iload_n hx hb d_N_request_75 rfl (lv_at hl 1 rfl) ?_
    refine ncn_i (As := [.int a1]) (c_T_isLive hq (A15) (D16) (G17) (K18) (N) (P19) (T20) (a1) _ hwp) (cwV 1 hts g_N_122 rfl rfl rfl hd_T_isLive ⟨Nat.le_of_ble_eq_true rfl, Nat.le_of_ble_eq_true rfl⟩) hx hb hml hown hts hK hP hS hl.1 d_N_request_76 (va_recv (q := (R_T, F_T, 11)) hK hP (ci := 1) (q0 := 1) rfl rfl) rfl (lv_room (Nat.le_of_ble_eq_true rfl)) (Nat.zero_le _) (Nat.zero_le _) rfl (fun r21 u H locs hwp hP hS => ?_)
    have hP : va_P (dC, dI) clZ (wN cI cL cZ q A15 D16 G17 K18 N P19 T20) H := hP
    refine lv_if_eq (tgt := 87) hx hb d_N_request_79 (by decide) (fun hc => ?_) (fun hc => ?_)
    · rw [if_pos hc] at hwp
      refine lv_bipush (v := (-3)) hx hb d_N_request_87 (by decide) ?_
      rw [hQ]
      exact W.iret (v := (-3)) hx hb hr (fun t ht hW => ⟨⟨(-3), (A15, D16, G17, K18, N, P19, T20), rfl, hwp, hp_of ht hP⟩, hS.F ht⟩) hS.2.2 d_N_request_89
    · rw [if_neg hc] at hwp
      refine lv_bipush (v := (-2)) hx hb d_N_request_82 (by decide) ?_
      refine lv_goto hx hb d_N_request_84 (tgt := 89) (by decide) ?_
      rw [hQ]
      exact W.iret (v := (-2)) hx hb hr (fun t ht hW => ⟨⟨(-2), (A15, D16, G17, K18, N, P19, T20), rfl, hwp, hp_of ht hP⟩, hS.F ht⟩) hS.2.2 d_N_request_89
  · rw [if_neg hc] at hwp
    refine lv_aload_n hx hb d_N_request_8 rfl (lv_at hl 0 rfl) ?_
    refine va_get (D := (dC, dI)) (ci := 0) (v := .ref (q 1)) (C := R_N) (T := F_N) (N := 7) hx hb hts hiN hown hK hP 0 rfl rfl 0 (by decide) lk12 (fun _ h9 => h9) rfl d_N_request_9 ?_
    refine va_get (D := (dC, dI)) (ci := 1) (v := .ref (q 10)) (C := R_T) (T := F_T) (N := 11) hx hb hts hiT hown hK hP 1 rfl rfl 4 (by decide) lk106 (fun _ h9 => h9) rfl d_N_request_12 ?_
    refine lv_iload_n hx hb d_N_request_15 rfl (lv_at hl 1 rfl) ?_
    refine lv_iconst (v := 1) hx hb d_N_request_16 (by decide) ?_
    refine va_iast hx hb hK hP (dN hq) hS 10 0 rfl rfl hwp.1 d_N_request_17 (fun H locs hP _ hS => ?_)
    have hwp := hwp.2
    have hP : va_P (dC, dI) clZ (wN cI cL cZ q A D G K2 N P3 (T_state' T (upd (T_state T) (Int32.toNatClampNeg a1) 1))) H := hP
    refine lv_aload_n hx hb d_N_request_18 rfl (lv_at hl 0 rfl) ?_
    refine lv_iload_n hx hb d_N_request_19 rfl (lv_at hl 1 rfl) ?_
    refine ncn_i (As := [.int a1]) (c_N_carryOut hq (A) (D) (G) (K2) (N) (P3) ((T_state' T (upd (T_state T) (Int32.toNatClampNeg a1) 1))) (a1) _ hwp) (cwV 1 hts g_N_250 rfl rfl rfl hd_N_carryOut ⟨Nat.le_of_ble_eq_true rfl, Nat.le_of_ble_eq_true rfl⟩) hx hb hml hown hts hK hP hS hl.1 d_N_request_20 (va_recv (q := (R_N, F_N, 7)) hK hP (ci := 0) (q0 := 0) rfl rfl) rfl (lv_room (Nat.le_of_ble_eq_true rfl)) (Nat.zero_le _) (Nat.zero_le _) rfl (fun r22 u H locs hwp hP hS => ?_)
    obtain ⟨A23, G24, N25⟩ := u
    have hP : va_P (dC, dI) clZ (wN cI cL cZ q A23 D G24 K2 N25 P3 (T_state' T (upd (T_state T) (Int32.toNatClampNeg a1) 1))) H := hP
    rw [hQ]
    exact W.iret (v := r22) hx hb hr (fun t ht hW => ⟨⟨r22, (A23, D, G24, K2, N25, P3, (T_state' T (upd (T_state T) (Int32.toNatClampNeg a1) 1))), rfl, hwp, hp_of ht hP⟩, hS.F ht⟩) hS.2.2 d_N_request_23

set_option maxHeartbeats 4000000 in
set_option maxRecDepth 100000 in
theorem c_N_get {l : Launch} {dC : Nat → ClassId} {dI : Nat → Nat → Nat} {cI cL cZ : ClassId} {q : Nat → Nat} (hq : iN q) (A : S_A) (D : S_D) (G : S_G) (K : S_K) (N : S_N) (P : S_P) (T : S_T) (a1 : Int32) (a2 : Int32) (post : Int32 → S_A → S_D → S_G → S_K → S_N → S_P → S_T → Prop) (hwp : wp_N_get A D G K N P T a1 a2 post) : Met l y_N_get ws_N_get rm_N_get (va_Pc [.ref (q 0), .int a1, .int a2] (bN dC dI cI cL cZ q A D G K N P T)) (va_Qi (fun (r : Int32) (u : S_A × S_D × S_G × S_K × S_N × S_P × S_T) => post r u.1 u.2.1 u.2.2.1 u.2.2.2.1 u.2.2.2.2.1 u.2.2.2.2.2.1 u.2.2.2.2.2.2) (fun u t => va_P (dC, dI) clZ (wN cI cL cZ q (u.1) (u.2.1) (u.2.2.1) (u.2.2.2.1) (u.2.2.2.2.1) (u.2.2.2.2.2.1) (u.2.2.2.2.2.2)) t.heap) (aN q)) 0 0 (aN q) := by
  refine Met.ofW (cc := b_N_get) (maxL := 4) (ret := (some .int)) (by decide) rfl ?_
  intro p e s m args below meth c s₁ B hml hv
  obtain ⟨rfl, hP, hK⟩ := hv
  have hx := B.exec
  have hb := B.bytes
  have hr := B.returns
  have hts := atoms_spec (ws := ws_N_get) B.pre
  have hown : s.vm.findClass R_N = some m.cls := findClass_of_methodNamed B.named
  have hlocks := B.notSynchronized
  have hS : va_S (aN q) s.heap s.heap [] := va_S.rf
  have hl := lv_entry ([.ref (q 0), .int a1, .int a2]) (n := 4) (Nat.le_of_ble_eq_true rfl)
  rw [lg_entry_eq]
  generalize (lg_sl ([.ref (q 0), .int a1, .int a2]) ++ List.replicate (4 - (lg_sl ([.ref (q 0), .int a1, .int a2])).length) Slot.unset).toArray = ls at hl ⊢
  have hl : lv_has ls 4 [(0, .ref (q 0)), (1, .int a1), (2, .int a2)] := hl
  obtain ⟨Q, hQ⟩ : ∃ Q, Q = MQ below (va_Qi (fun (r : Int32) (u : S_A × S_D × S_G × S_K × S_N × S_P × S_T) => post r u.1 u.2.1 u.2.2.1 u.2.2.2.1 u.2.2.2.2.1 u.2.2.2.2.2.1 u.2.2.2.2.2.2) (fun u t => va_P (dC, dI) clZ (wN cI cL cZ q (u.1) (u.2.1) (u.2.2.1) (u.2.2.2.1) (u.2.2.2.2.1) (u.2.2.2.2.2.1) (u.2.2.2.2.2.2)) t.heap) (aN q)) ([.ref (q 0), .int a1, .int a2]).toArray s 0 0 (aN q) := ⟨_, rfl⟩
  rw [← hQ]
  rw [wp_N_get] at hwp
  refine lv_aload_n hx hb d_N_get_0 rfl (lv_at hl 0 rfl) ?_
  refine lv_iload_n hx hb d_N_get_1 rfl (lv_at hl 1 rfl) ?_
  refine lv_iconst (v := 0) hx hb d_N_get_2 (by decide) ?_
  refine lv_iload_n hx hb d_N_get_3 rfl (lv_at hl 2 rfl) ?_
  refine lv_iload_n hx hb d_N_get_4 rfl (lv_at hl 2 rfl) ?_
  refine lv_iconst (v := 0) hx hb d_N_get_5 (by decide) ?_
  refine ncn_i (As := [.int a1, .int 0, .int a2, .int a2, .int 0]) (c_N_prepare hq (A) (D) (G) (K) (N) (P) (T) (a1) (0) (a2) (a2) (0) _ hwp) (cwV 5 hts g_N_89 rfl rfl rfl hd_N_prepare ⟨Nat.le_of_ble_eq_true rfl, Nat.le_of_ble_eq_true rfl⟩) hx hb hml hown hts hK hP hS hl.1 d_N_get_6 (va_recv (q := (R_N, F_N, 7)) hK hP (ci := 0) (q0 := 0) rfl rfl) rfl (lv_room (Nat.le_of_ble_eq_true rfl)) (Nat.zero_le _) (Nat.zero_le _) rfl (fun r1 T2 H locs hwp hP hS => ?_)
  have hP : va_P (dC, dI) clZ (wN cI cL cZ q A D G K N P T2) H := hP
  refine lv_istore_n (lv' := [(3, .int r1), (0, .ref (q 0)), (1, .int a1), (2, .int a2)]) hx hb d_N_get_9 rfl hl (by decide) rfl (fun ls hl => ?_)
  refine lv_iload_n hx hb d_N_get_10 rfl (lv_at hl 0 rfl) ?_
  refine lv_if_eq (tgt := 18) hx hb d_N_get_11 (by decide) (fun hc => ?_) (fun hc => ?_)
  · rw [if_pos hc] at hwp
    refine lv_aload_n hx hb d_N_get_18 rfl (lv_at hl 1 rfl) ?_
    refine lv_iload_n hx hb d_N_get_19 rfl (lv_at hl 2 rfl) ?_
    refine ncn_i (As := [.int a1]) (c_N_request hq (A) (D) (G) (K) (N) (P) (T2) (a1) _ hwp) (cwV 1 hts g_N_93 rfl rfl rfl hd_N_request ⟨Nat.le_of_ble_eq_true rfl, Nat.le_of_ble_eq_true rfl⟩) hx hb hml hown hts hK hP hS hl.1 d_N_get_20 (va_recv (q := (R_N, F_N, 7)) hK hP (ci := 0) (q0 := 0) rfl rfl) rfl (lv_room (Nat.le_of_ble_eq_true rfl)) (Nat.zero_le _) (Nat.zero_le _) rfl (fun r3 u H locs hwp hP hS => ?_)
    obtain ⟨A4, D5, G6, K7, N8, P9, T10⟩ := u
    have hP : va_P (dC, dI) clZ (wN cI cL cZ q A4 D5 G6 K7 N8 P9 T10) H := hP
    rw [hQ]
    exact W.iret (v := r3) hx hb hr (fun t ht hW => ⟨⟨r3, (A4, D5, G6, K7, N8, P9, T10), rfl, hwp, hp_of ht hP⟩, hS.F ht⟩) hS.2.2 d_N_get_23
  · rw [if_neg hc] at hwp
    refine lv_iload_n hx hb d_N_get_14 rfl (lv_at hl 0 rfl) ?_
    refine lv_goto hx hb d_N_get_15 (tgt := 23) (by decide) ?_
    rw [hQ]
    exact W.iret (v := r1) hx hb hr (fun t ht hW => ⟨⟨r1, (A, D, G, K, N, P, T2), rfl, hwp, hp_of ht hP⟩, hS.F ht⟩) hS.2.2 d_N_get_23

set_option maxHeartbeats 4000000 in
set_option maxRecDepth 100000 in
theorem c_N_put {l : Launch} {dC : Nat → ClassId} {dI : Nat → Nat → Nat} {cI cL cZ : ClassId} {q : Nat → Nat} (hq : iN q) (A : S_A) (D : S_D) (G : S_G) (K : S_K) (N : S_N) (P : S_P) (T : S_T) (a1 : Int32) (a2 : Int32) (a3 : Int32) (post : Int32 → S_A → S_D → S_G → S_K → S_N → S_P → S_T → Prop) (hwp : wp_N_put A D G K N P T a1 a2 a3 post) : Met l y_N_put ws_N_put rm_N_put (va_Pc [.ref (q 0), .int a1, .int a2, .int a3] (bN dC dI cI cL cZ q A D G K N P T)) (va_Qi (fun (r : Int32) (u : S_A × S_D × S_G × S_K × S_N × S_P × S_T) => post r u.1 u.2.1 u.2.2.1 u.2.2.2.1 u.2.2.2.2.1 u.2.2.2.2.2.1 u.2.2.2.2.2.2) (fun u t => va_P (dC, dI) clZ (wN cI cL cZ q (u.1) (u.2.1) (u.2.2.1) (u.2.2.2.1) (u.2.2.2.2.1) (u.2.2.2.2.2.1) (u.2.2.2.2.2.2)) t.heap) (aN q)) 0 0 (aN q) := by
  refine Met.ofW (cc := b_N_put) (maxL := 5) (ret := (some .int)) (by decide) rfl ?_
  intro p e s m args below meth c s₁ B hml hv
  obtain ⟨rfl, hP, hK⟩ := hv
  have hx := B.exec
  have hb := B.bytes
  have hr := B.returns
  have hts := atoms_spec (ws := ws_N_put) B.pre
  have hown : s.vm.findClass R_N = some m.cls := findClass_of_methodNamed B.named
  have hlocks := B.notSynchronized
  have hS : va_S (aN q) s.heap s.heap [] := va_S.rf
  have hl := lv_entry ([.ref (q 0), .int a1, .int a2, .int a3]) (n := 5) (Nat.le_of_ble_eq_true rfl)
  rw [lg_entry_eq]
  generalize (lg_sl ([.ref (q 0), .int a1, .int a2, .int a3]) ++ List.replicate (5 - (lg_sl ([.ref (q 0), .int a1, .int a2, .int a3])).length) Slot.unset).toArray = ls at hl ⊢
  have hl : lv_has ls 5 [(0, .ref (q 0)), (1, .int a1), (2, .int a2), (3, .int a3)] := hl
  obtain ⟨Q, hQ⟩ : ∃ Q, Q = MQ below (va_Qi (fun (r : Int32) (u : S_A × S_D × S_G × S_K × S_N × S_P × S_T) => post r u.1 u.2.1 u.2.2.1 u.2.2.2.1 u.2.2.2.2.1 u.2.2.2.2.2.1 u.2.2.2.2.2.2) (fun u t => va_P (dC, dI) clZ (wN cI cL cZ q (u.1) (u.2.1) (u.2.2.1) (u.2.2.2.1) (u.2.2.2.2.1) (u.2.2.2.2.2.1) (u.2.2.2.2.2.2)) t.heap) (aN q)) ([.ref (q 0), .int a1, .int a2, .int a3]).toArray s 0 0 (aN q) := ⟨_, rfl⟩
  rw [← hQ]
  rw [wp_N_put] at hwp
  refine lv_aload_n hx hb d_N_put_0 rfl (lv_at hl 0 rfl) ?_
  refine lv_iload_n hx hb d_N_put_1 rfl (lv_at hl 1 rfl) ?_
  refine lv_iconst (v := 1) hx hb d_N_put_2 (by decide) ?_
  refine lv_iload_n hx hb d_N_put_3 rfl (lv_at hl 2 rfl) ?_
  refine lv_iload_n hx hb d_N_put_4 rfl (lv_at hl 2 rfl) ?_
  refine lv_iload_n hx hb d_N_put_5 rfl (lv_at hl 3 rfl) ?_
  refine ncn_i (As := [.int a1, .int 1, .int a2, .int a2, .int a3]) (c_N_prepare hq (A) (D) (G) (K) (N) (P) (T) (a1) (1) (a2) (a2) (a3) _ hwp) (cwV 5 hts g_N_89 rfl rfl rfl hd_N_prepare ⟨Nat.le_of_ble_eq_true rfl, Nat.le_of_ble_eq_true rfl⟩) hx hb hml hown hts hK hP hS hl.1 d_N_put_6 (va_recv (q := (R_N, F_N, 7)) hK hP (ci := 0) (q0 := 0) rfl rfl) rfl (lv_room (Nat.le_of_ble_eq_true rfl)) (Nat.zero_le _) (Nat.zero_le _) rfl (fun r1 T2 H locs hwp hP hS => ?_)
  have hP : va_P (dC, dI) clZ (wN cI cL cZ q A D G K N P T2) H := hP
  refine lv_istore (lv' := [(4, .int r1), (0, .ref (q 0)), (1, .int a1), (2, .int a2), (3, .int a3)]) hx hb d_N_put_9 hl (by decide) rfl (fun ls hl => ?_)
  refine lv_iload hx hb d_N_put_11 (lv_at hl 0 rfl) ?_
  refine lv_if_eq (tgt := 21) hx hb d_N_put_13 (by decide) (fun hc => ?_) (fun hc => ?_)
  · rw [if_pos hc] at hwp
    refine lv_aload_n hx hb d_N_put_21 rfl (lv_at hl 1 rfl) ?_
    refine lv_iload_n hx hb d_N_put_22 rfl (lv_at hl 2 rfl) ?_
    refine ncn_i (As := [.int a1]) (c_N_request hq (A) (D) (G) (K) (N) (P) (T2) (a1) _ hwp) (cwV 1 hts g_N_93 rfl rfl rfl hd_N_request ⟨Nat.le_of_ble_eq_true rfl, Nat.le_of_ble_eq_true rfl⟩) hx hb hml hown hts hK hP hS hl.1 d_N_put_23 (va_recv (q := (R_N, F_N, 7)) hK hP (ci := 0) (q0 := 0) rfl rfl) rfl (lv_room (Nat.le_of_ble_eq_true rfl)) (Nat.zero_le _) (Nat.zero_le _) rfl (fun r3 u H locs hwp hP hS => ?_)
    obtain ⟨A4, D5, G6, K7, N8, P9, T10⟩ := u
    have hP : va_P (dC, dI) clZ (wN cI cL cZ q A4 D5 G6 K7 N8 P9 T10) H := hP
    rw [hQ]
    exact W.iret (v := r3) hx hb hr (fun t ht hW => ⟨⟨r3, (A4, D5, G6, K7, N8, P9, T10), rfl, hwp, hp_of ht hP⟩, hS.F ht⟩) hS.2.2 d_N_put_26
  · rw [if_neg hc] at hwp
    refine lv_iload hx hb d_N_put_16 (lv_at hl 0 rfl) ?_
    refine lv_goto hx hb d_N_put_18 (tgt := 26) (by decide) ?_
    rw [hQ]
    exact W.iret (v := r1) hx hb hr (fun t ht hW => ⟨⟨r1, (A, D, G, K, N, P, T2), rfl, hwp, hp_of ht hP⟩, hS.F ht⟩) hS.2.2 d_N_put_26

set_option maxHeartbeats 4000000 in
set_option maxRecDepth 100000 in
theorem c_N_delete {l : Launch} {dC : Nat → ClassId} {dI : Nat → Nat → Nat} {cI cL cZ : ClassId} {q : Nat → Nat} (hq : iN q) (A : S_A) (D : S_D) (G : S_G) (K : S_K) (N : S_N) (P : S_P) (T : S_T) (a1 : Int32) (a2 : Int32) (post : Int32 → S_A → S_D → S_G → S_K → S_N → S_P → S_T → Prop) (hwp : wp_N_delete A D G K N P T a1 a2 post) : Met l y_N_delete ws_N_delete rm_N_delete (va_Pc [.ref (q 0), .int a1, .int a2] (bN dC dI cI cL cZ q A D G K N P T)) (va_Qi (fun (r : Int32) (u : S_A × S_D × S_G × S_K × S_N × S_P × S_T) => post r u.1 u.2.1 u.2.2.1 u.2.2.2.1 u.2.2.2.2.1 u.2.2.2.2.2.1 u.2.2.2.2.2.2) (fun u t => va_P (dC, dI) clZ (wN cI cL cZ q (u.1) (u.2.1) (u.2.2.1) (u.2.2.2.1) (u.2.2.2.2.1) (u.2.2.2.2.2.1) (u.2.2.2.2.2.2)) t.heap) (aN q)) 0 0 (aN q) := by
  refine Met.ofW (cc := b_N_delete) (maxL := 4) (ret := (some .int)) (by decide) rfl ?_
  intro p e s m args below meth c s₁ B hml hv
  obtain ⟨rfl, hP, hK⟩ := hv
  have hx := B.exec
  have hb := B.bytes
  have hr := B.returns
  have hts := atoms_spec (ws := ws_N_delete) B.pre
  have hown : s.vm.findClass R_N = some m.cls := findClass_of_methodNamed B.named
  have hlocks := B.notSynchronized
  have hS : va_S (aN q) s.heap s.heap [] := va_S.rf
  have hl := lv_entry ([.ref (q 0), .int a1, .int a2]) (n := 4) (Nat.le_of_ble_eq_true rfl)
  rw [lg_entry_eq]
  generalize (lg_sl ([.ref (q 0), .int a1, .int a2]) ++ List.replicate (4 - (lg_sl ([.ref (q 0), .int a1, .int a2])).length) Slot.unset).toArray = ls at hl ⊢
  have hl : lv_has ls 4 [(0, .ref (q 0)), (1, .int a1), (2, .int a2)] := hl
  obtain ⟨Q, hQ⟩ : ∃ Q, Q = MQ below (va_Qi (fun (r : Int32) (u : S_A × S_D × S_G × S_K × S_N × S_P × S_T) => post r u.1 u.2.1 u.2.2.1 u.2.2.2.1 u.2.2.2.2.1 u.2.2.2.2.2.1 u.2.2.2.2.2.2) (fun u t => va_P (dC, dI) clZ (wN cI cL cZ q (u.1) (u.2.1) (u.2.2.1) (u.2.2.2.1) (u.2.2.2.2.1) (u.2.2.2.2.2.1) (u.2.2.2.2.2.2)) t.heap) (aN q)) ([.ref (q 0), .int a1, .int a2]).toArray s 0 0 (aN q) := ⟨_, rfl⟩
  rw [← hQ]
  rw [wp_N_delete] at hwp
  refine lv_aload_n hx hb d_N_delete_0 rfl (lv_at hl 0 rfl) ?_
  refine lv_iload_n hx hb d_N_delete_1 rfl (lv_at hl 1 rfl) ?_
  refine lv_iconst (v := 2) hx hb d_N_delete_2 (by decide) ?_
  refine lv_iload_n hx hb d_N_delete_3 rfl (lv_at hl 2 rfl) ?_
  refine lv_iload_n hx hb d_N_delete_4 rfl (lv_at hl 2 rfl) ?_
  refine lv_iconst (v := 0) hx hb d_N_delete_5 (by decide) ?_
  refine ncn_i (As := [.int a1, .int 2, .int a2, .int a2, .int 0]) (c_N_prepare hq (A) (D) (G) (K) (N) (P) (T) (a1) (2) (a2) (a2) (0) _ hwp) (cwV 5 hts g_N_89 rfl rfl rfl hd_N_prepare ⟨Nat.le_of_ble_eq_true rfl, Nat.le_of_ble_eq_true rfl⟩) hx hb hml hown hts hK hP hS hl.1 d_N_delete_6 (va_recv (q := (R_N, F_N, 7)) hK hP (ci := 0) (q0 := 0) rfl rfl) rfl (lv_room (Nat.le_of_ble_eq_true rfl)) (Nat.zero_le _) (Nat.zero_le _) rfl (fun r1 T2 H locs hwp hP hS => ?_)
  have hP : va_P (dC, dI) clZ (wN cI cL cZ q A D G K N P T2) H := hP
  refine lv_istore_n (lv' := [(3, .int r1), (0, .ref (q 0)), (1, .int a1), (2, .int a2)]) hx hb d_N_delete_9 rfl hl (by decide) rfl (fun ls hl => ?_)
  refine lv_iload_n hx hb d_N_delete_10 rfl (lv_at hl 0 rfl) ?_
  refine lv_if_eq (tgt := 18) hx hb d_N_delete_11 (by decide) (fun hc => ?_) (fun hc => ?_)
  · rw [if_pos hc] at hwp
    refine lv_aload_n hx hb d_N_delete_18 rfl (lv_at hl 1 rfl) ?_
    refine lv_iload_n hx hb d_N_delete_19 rfl (lv_at hl 2 rfl) ?_
    refine ncn_i (As := [.int a1]) (c_N_request hq (A) (D) (G) (K) (N) (P) (T2) (a1) _ hwp) (cwV 1 hts g_N_93 rfl rfl rfl hd_N_request ⟨Nat.le_of_ble_eq_true rfl, Nat.le_of_ble_eq_true rfl⟩) hx hb hml hown hts hK hP hS hl.1 d_N_delete_20 (va_recv (q := (R_N, F_N, 7)) hK hP (ci := 0) (q0 := 0) rfl rfl) rfl (lv_room (Nat.le_of_ble_eq_true rfl)) (Nat.zero_le _) (Nat.zero_le _) rfl (fun r3 u H locs hwp hP hS => ?_)
    obtain ⟨A4, D5, G6, K7, N8, P9, T10⟩ := u
    have hP : va_P (dC, dI) clZ (wN cI cL cZ q A4 D5 G6 K7 N8 P9 T10) H := hP
    rw [hQ]
    exact W.iret (v := r3) hx hb hr (fun t ht hW => ⟨⟨r3, (A4, D5, G6, K7, N8, P9, T10), rfl, hwp, hp_of ht hP⟩, hS.F ht⟩) hS.2.2 d_N_delete_23
  · rw [if_neg hc] at hwp
    refine lv_iload_n hx hb d_N_delete_14 rfl (lv_at hl 0 rfl) ?_
    refine lv_goto hx hb d_N_delete_15 (tgt := 23) (by decide) ?_
    rw [hQ]
    exact W.iret (v := r1) hx hb hr (fun t ht hW => ⟨⟨r1, (A, D, G, K, N, P, T2), rfl, hwp, hp_of ht hP⟩, hS.F ht⟩) hS.2.2 d_N_delete_23

set_option maxHeartbeats 4000000 in
set_option maxRecDepth 100000 in
theorem c_N_scan {l : Launch} {dC : Nat → ClassId} {dI : Nat → Nat → Nat} {cI cL cZ : ClassId} {q : Nat → Nat} (hq : iN q) (A : S_A) (D : S_D) (G : S_G) (K : S_K) (N : S_N) (P : S_P) (T : S_T) (a1 : Int32) (a2 : Int32) (a3 : Int32) (post : Int32 → S_A → S_D → S_G → S_K → S_N → S_P → S_T → Prop) (hwp : wp_N_scan A D G K N P T a1 a2 a3 post) : Met l y_N_scan ws_N_scan rm_N_scan (va_Pc [.ref (q 0), .int a1, .int a2, .int a3] (bN dC dI cI cL cZ q A D G K N P T)) (va_Qi (fun (r : Int32) (u : S_A × S_D × S_G × S_K × S_N × S_P × S_T) => post r u.1 u.2.1 u.2.2.1 u.2.2.2.1 u.2.2.2.2.1 u.2.2.2.2.2.1 u.2.2.2.2.2.2) (fun u t => va_P (dC, dI) clZ (wN cI cL cZ q (u.1) (u.2.1) (u.2.2.1) (u.2.2.2.1) (u.2.2.2.2.1) (u.2.2.2.2.2.1) (u.2.2.2.2.2.2)) t.heap) (aN q)) 0 0 (aN q) := by
  refine Met.ofW (cc := b_N_scan) (maxL := 5) (ret := (some .int)) (by decide) rfl ?_
  intro p e s m args below meth c s₁ B hml hv
  obtain ⟨rfl, hP, hK⟩ := hv
  have hx := B.exec
  have hb := B.bytes
  have hr := B.returns
  have hts := atoms_spec (ws := ws_N_scan) B.pre
  have hown : s.vm.findClass R_N = some m.cls := findClass_of_methodNamed B.named
  have hlocks := B.notSynchronized
  have hS : va_S (aN q) s.heap s.heap [] := va_S.rf
  have hl := lv_entry ([.ref (q 0), .int a1, .int a2, .int a3]) (n := 5) (Nat.le_of_ble_eq_true rfl)
  rw [lg_entry_eq]
  generalize (lg_sl ([.ref (q 0), .int a1, .int a2, .int a3]) ++ List.replicate (5 - (lg_sl ([.ref (q 0), .int a1, .int a2, .int a3])).length) Slot.unset).toArray = ls at hl ⊢
  have hl : lv_has ls 5 [(0, .ref (q 0)), (1, .int a1), (2, .int a2), (3, .int a3)] := hl
  obtain ⟨Q, hQ⟩ : ∃ Q, Q = MQ below (va_Qi (fun (r : Int32) (u : S_A × S_D × S_G × S_K × S_N × S_P × S_T) => post r u.1 u.2.1 u.2.2.1 u.2.2.2.1 u.2.2.2.2.1 u.2.2.2.2.2.1 u.2.2.2.2.2.2) (fun u t => va_P (dC, dI) clZ (wN cI cL cZ q (u.1) (u.2.1) (u.2.2.1) (u.2.2.2.1) (u.2.2.2.2.1) (u.2.2.2.2.2.1) (u.2.2.2.2.2.2)) t.heap) (aN q)) ([.ref (q 0), .int a1, .int a2, .int a3]).toArray s 0 0 (aN q) := ⟨_, rfl⟩
  rw [← hQ]
  rw [wp_N_scan] at hwp
  refine lv_aload_n hx hb d_N_scan_0 rfl (lv_at hl 0 rfl) ?_
  refine lv_iload_n hx hb d_N_scan_1 rfl (lv_at hl 1 rfl) ?_
  refine lv_iconst (v := 3) hx hb d_N_scan_2 (by decide) ?_
  refine lv_iload_n hx hb d_N_scan_3 rfl (lv_at hl 2 rfl) ?_
  refine lv_iload_n hx hb d_N_scan_4 rfl (lv_at hl 3 rfl) ?_
  refine lv_iconst (v := 0) hx hb d_N_scan_5 (by decide) ?_
  refine ncn_i (As := [.int a1, .int 3, .int a2, .int a3, .int 0]) (c_N_prepare hq (A) (D) (G) (K) (N) (P) (T) (a1) (3) (a2) (a3) (0) _ hwp) (cwV 5 hts g_N_89 rfl rfl rfl hd_N_prepare ⟨Nat.le_of_ble_eq_true rfl, Nat.le_of_ble_eq_true rfl⟩) hx hb hml hown hts hK hP hS hl.1 d_N_scan_6 (va_recv (q := (R_N, F_N, 7)) hK hP (ci := 0) (q0 := 0) rfl rfl) rfl (lv_room (Nat.le_of_ble_eq_true rfl)) (Nat.zero_le _) (Nat.zero_le _) rfl (fun r1 T2 H locs hwp hP hS => ?_)
  have hP : va_P (dC, dI) clZ (wN cI cL cZ q A D G K N P T2) H := hP
  refine lv_istore (lv' := [(4, .int r1), (0, .ref (q 0)), (1, .int a1), (2, .int a2), (3, .int a3)]) hx hb d_N_scan_9 hl (by decide) rfl (fun ls hl => ?_)
  refine lv_iload hx hb d_N_scan_11 (lv_at hl 0 rfl) ?_
  refine lv_if_eq (tgt := 21) hx hb d_N_scan_13 (by decide) (fun hc => ?_) (fun hc => ?_)
  · rw [if_pos hc] at hwp
    refine lv_aload_n hx hb d_N_scan_21 rfl (lv_at hl 1 rfl) ?_
    refine lv_iload_n hx hb d_N_scan_22 rfl (lv_at hl 2 rfl) ?_
    refine ncn_i (As := [.int a1]) (c_N_request hq (A) (D) (G) (K) (N) (P) (T2) (a1) _ hwp) (cwV 1 hts g_N_93 rfl rfl rfl hd_N_request ⟨Nat.le_of_ble_eq_true rfl, Nat.le_of_ble_eq_true rfl⟩) hx hb hml hown hts hK hP hS hl.1 d_N_scan_23 (va_recv (q := (R_N, F_N, 7)) hK hP (ci := 0) (q0 := 0) rfl rfl) rfl (lv_room (Nat.le_of_ble_eq_true rfl)) (Nat.zero_le _) (Nat.zero_le _) rfl (fun r3 u H locs hwp hP hS => ?_)
    obtain ⟨A4, D5, G6, K7, N8, P9, T10⟩ := u
    have hP : va_P (dC, dI) clZ (wN cI cL cZ q A4 D5 G6 K7 N8 P9 T10) H := hP
    rw [hQ]
    exact W.iret (v := r3) hx hb hr (fun t ht hW => ⟨⟨r3, (A4, D5, G6, K7, N8, P9, T10), rfl, hwp, hp_of ht hP⟩, hS.F ht⟩) hS.2.2 d_N_scan_26
  · rw [if_neg hc] at hwp
    refine lv_iload hx hb d_N_scan_16 (lv_at hl 0 rfl) ?_
    refine lv_goto hx hb d_N_scan_18 (tgt := 26) (by decide) ?_
    rw [hQ]
    exact W.iret (v := r1) hx hb hr (fun t ht hW => ⟨⟨r1, (A, D, G, K, N, P, T2), rfl, hwp, hp_of ht hP⟩, hS.F ht⟩) hS.2.2 d_N_scan_26

set_option maxHeartbeats 4000000 in
set_option maxRecDepth 100000 in
theorem c_N_resume {l : Launch} {dC : Nat → ClassId} {dI : Nat → Nat → Nat} {cI cL cZ : ClassId} {q : Nat → Nat} (hq : iN q) (A : S_A) (D : S_D) (G : S_G) (K : S_K) (N : S_N) (P : S_P) (T : S_T) (a1 : Int32) (post : Int32 → S_A → S_D → S_G → S_K → S_N → S_P → S_T → Prop) (hwp : wp_N_resume A D G K N P T a1 post) : Met l y_N_resume ws_N_resume rm_N_resume (va_Pc [.ref (q 0), .int a1] (bN dC dI cI cL cZ q A D G K N P T)) (va_Qi (fun (r : Int32) (u : S_A × S_D × S_G × S_K × S_N × S_P × S_T) => post r u.1 u.2.1 u.2.2.1 u.2.2.2.1 u.2.2.2.2.1 u.2.2.2.2.2.1 u.2.2.2.2.2.2) (fun u t => va_P (dC, dI) clZ (wN cI cL cZ q (u.1) (u.2.1) (u.2.2.1) (u.2.2.2.1) (u.2.2.2.2.1) (u.2.2.2.2.2.1) (u.2.2.2.2.2.2)) t.heap) (aN q)) 0 0 (aN q) := by
  refine Met.ofW (cc := b_N_resume) (maxL := 2) (ret := (some .int)) (by decide) rfl ?_
  intro p e s m args below meth c s₁ B hml hv
  obtain ⟨rfl, hP, hK⟩ := hv
  have hx := B.exec
  have hb := B.bytes
  have hr := B.returns
  have hts := atoms_spec (ws := ws_N_resume) B.pre
  have hown : s.vm.findClass R_N = some m.cls := findClass_of_methodNamed B.named
  have hlocks := B.notSynchronized
  have hiN : ∀ w ∈ u_ws R_N F_N 7, w ∈ ws_N_resume := fun w h => List.mem_cons_of_mem _ (in_N w h)
  have lk12 := hts _ (List.mem_cons_of_mem _ k_N_12)
  have hS : va_S (aN q) s.heap s.heap [] := va_S.rf
  have hl := lv_entry ([.ref (q 0), .int a1]) (n := 2) (Nat.le_of_ble_eq_true rfl)
  rw [lg_entry_eq]
  generalize (lg_sl ([.ref (q 0), .int a1]) ++ List.replicate (2 - (lg_sl ([.ref (q 0), .int a1])).length) Slot.unset).toArray = ls at hl ⊢
  have hl : lv_has ls 2 [(0, .ref (q 0)), (1, .int a1)] := hl
  obtain ⟨Q, hQ⟩ : ∃ Q, Q = MQ below (va_Qi (fun (r : Int32) (u : S_A × S_D × S_G × S_K × S_N × S_P × S_T) => post r u.1 u.2.1 u.2.2.1 u.2.2.2.1 u.2.2.2.2.1 u.2.2.2.2.2.1 u.2.2.2.2.2.2) (fun u t => va_P (dC, dI) clZ (wN cI cL cZ q (u.1) (u.2.1) (u.2.2.1) (u.2.2.2.1) (u.2.2.2.2.1) (u.2.2.2.2.2.1) (u.2.2.2.2.2.2)) t.heap) (aN q)) ([.ref (q 0), .int a1]).toArray s 0 0 (aN q) := ⟨_, rfl⟩
  rw [← hQ]
  rw [wp_N_resume] at hwp
  refine lv_aload_n hx hb d_N_resume_0 rfl (lv_at hl 0 rfl) ?_
  refine va_get (D := (dC, dI)) (ci := 0) (v := .ref (q 1)) (C := R_N) (T := F_N) (N := 7) hx hb hts hiN hown hK hP 0 rfl rfl 0 (by decide) lk12 (fun _ h9 => h9) rfl d_N_resume_1 ?_
  refine lv_iload_n hx hb d_N_resume_4 rfl (lv_at hl 1 rfl) ?_
  refine ncn_i (As := [.int a1]) (c_T_isWaiting hq (A) (D) (G) (K) (N) (P) (T) (a1) _ hwp) (cwV 1 hts g_N_97 rfl rfl rfl hd_T_isWaiting ⟨Nat.le_of_ble_eq_true rfl, Nat.le_of_ble_eq_true rfl⟩) hx hb hml hown hts hK hP hS hl.1 d_N_resume_5 (va_recv (q := (R_T, F_T, 11)) hK hP (ci := 1) (q0 := 1) rfl rfl) rfl (lv_room (Nat.le_of_ble_eq_true rfl)) (Nat.zero_le _) (Nat.zero_le _) rfl (fun r1 u H locs hwp hP hS => ?_)
  have hP : va_P (dC, dI) clZ (wN cI cL cZ q A D G K N P T) H := hP
  refine lv_if_ne (tgt := 13) hx hb d_N_resume_8 (by decide) (fun hc => ?_) (fun hc => ?_)
  · rw [if_neg hc] at hwp
    refine lv_aload_n hx hb d_N_resume_13 rfl (lv_at hl 0 rfl) ?_
    refine lv_iload_n hx hb d_N_resume_14 rfl (lv_at hl 1 rfl) ?_
    refine ncn_i (As := [.int a1]) (c_N_request hq (A) (D) (G) (K) (N) (P) (T) (a1) _ hwp) (cwV 1 hts g_N_93 rfl rfl rfl hd_N_request ⟨Nat.le_of_ble_eq_true rfl, Nat.le_of_ble_eq_true rfl⟩) hx hb hml hown hts hK hP hS hl.1 d_N_resume_15 (va_recv (q := (R_N, F_N, 7)) hK hP (ci := 0) (q0 := 0) rfl rfl) rfl (lv_room (Nat.le_of_ble_eq_true rfl)) (Nat.zero_le _) (Nat.zero_le _) rfl (fun r2 u H locs hwp hP hS => ?_)
    obtain ⟨A3, D4, G5, K6, N7, P8, T9⟩ := u
    have hP : va_P (dC, dI) clZ (wN cI cL cZ q A3 D4 G5 K6 N7 P8 T9) H := hP
    rw [hQ]
    exact W.iret (v := r2) hx hb hr (fun t ht hW => ⟨⟨r2, (A3, D4, G5, K6, N7, P8, T9), rfl, hwp, hp_of ht hP⟩, hS.F ht⟩) hS.2.2 d_N_resume_18
  · rw [if_pos hc] at hwp
    refine lv_iconst (v := (-1)) hx hb d_N_resume_11 (by decide) ?_
    rw [hQ]
    exact W.iret (v := (-1)) hx hb hr (fun t ht hW => ⟨⟨(-1), (A, D, G, K, N, P, T), rfl, hwp, hp_of ht hP⟩, hS.F ht⟩) hS.2.2 d_N_resume_12

set_option maxHeartbeats 4000000 in
set_option maxRecDepth 100000 in
theorem c_N_value {l : Launch} {dC : Nat → ClassId} {dI : Nat → Nat → Nat} {cI cL cZ : ClassId} {q : Nat → Nat} (hq : iN q) (A : S_A) (D : S_D) (G : S_G) (K : S_K) (N : S_N) (P : S_P) (T : S_T)  (post : Int32 → Prop) (hwp : wp_N_value N post) : Met l y_N_value ws_N_value rm_N_value (va_Pc [.ref (q 0)] (bN dC dI cI cL cZ q A D G K N P T)) (va_Qi (fun (r : Int32) (u : Unit) => post r) (fun u t => va_P (dC, dI) clZ (wN cI cL cZ q A D G K N P T) t.heap) (aN q)) 0 0 (aN q) := by
  refine Met.ofW (cc := b_N_value) (maxL := 1) (ret := (some .int)) (by decide) rfl ?_
  intro p e s m args below meth c s₁ B hml hv
  obtain ⟨rfl, hP, hK⟩ := hv
  have hx := B.exec
  have hb := B.bytes
  have hr := B.returns
  have hts := atoms_spec (ws := ws_N_value) B.pre
  have hown : s.vm.findClass R_N = some m.cls := findClass_of_methodNamed B.named
  have hlocks := B.notSynchronized
  have hiN : ∀ w ∈ u_ws R_N F_N 7, w ∈ ws_N_value := fun w h => List.mem_cons_of_mem _ (in_N w h)
  have lk100 := hts _ (List.mem_cons_of_mem _ k_N_100)
  have hS : va_S (aN q) s.heap s.heap [] := va_S.rf
  have hl := lv_entry ([.ref (q 0)]) (n := 1) (Nat.le_of_ble_eq_true rfl)
  rw [lg_entry_eq]
  generalize (lg_sl ([.ref (q 0)]) ++ List.replicate (1 - (lg_sl ([.ref (q 0)])).length) Slot.unset).toArray = ls at hl ⊢
  have hl : lv_has ls 1 [(0, .ref (q 0))] := hl
  obtain ⟨Q, hQ⟩ : ∃ Q, Q = MQ below (va_Qi (fun (r : Int32) (u : Unit) => post r) (fun u t => va_P (dC, dI) clZ (wN cI cL cZ q A D G K N P T) t.heap) (aN q)) ([.ref (q 0)]).toArray s 0 0 (aN q) := ⟨_, rfl⟩
  rw [← hQ]
  rw [wp_N_value] at hwp
  refine lv_aload_n hx hb d_N_value_0 rfl (lv_at hl 0 rfl) ?_
  refine va_get (D := (dC, dI)) (ci := 0) (v := .int (N_latestValue N)) (C := R_N) (T := F_N) (N := 7) hx hb hts hiN hown hK hP 0 rfl rfl 6 (by decide) lk100 (fun _ h9 => h9) rfl d_N_value_1 ?_
  rw [hQ]
  exact W.iret (v := (N_latestValue N)) hx hb hr (fun t ht hW => ⟨⟨(N_latestValue N), (), rfl, hwp, hp_of ht hP⟩, hS.F ht⟩) hS.2.2 d_N_value_4

set_option maxHeartbeats 4000000 in
set_option maxRecDepth 100000 in
theorem c_N_commit {l : Launch} {dC : Nat → ClassId} {dI : Nat → Nat → Nat} {cI cL cZ : ClassId} {q : Nat → Nat} (hq : iN q) (A : S_A) (D : S_D) (G : S_G) (K : S_K) (N : S_N) (P : S_P) (T : S_T) (a1 : Int32) (post : Int32 → S_G → S_K → S_T → Prop) (hwp : wp_N_commit G K T a1 post) : Met l y_N_commit ws_N_commit rm_N_commit (va_Pc [.ref (q 0), .int a1] (bN dC dI cI cL cZ q A D G K N P T)) (va_Qi (fun (r : Int32) (u : S_G × S_K × S_T) => post r u.1 u.2.1 u.2.2) (fun u t => va_P (dC, dI) clZ (wN cI cL cZ q A D (u.1) (u.2.1) N P (u.2.2)) t.heap) (aN q)) 0 0 (aN q) := by
  refine Met.ofW (cc := b_N_commit) (maxL := 4) (ret := (some .int)) (by decide) rfl ?_
  intro p e s m args below meth c s₁ B hml hv
  obtain ⟨rfl, hP, hK⟩ := hv
  have hx := B.exec
  have hb := B.bytes
  have hr := B.returns
  have hts := atoms_spec (ws := ws_N_commit) B.pre
  have hown : s.vm.findClass R_N = some m.cls := findClass_of_methodNamed B.named
  have hlocks := B.notSynchronized
  have hiN : ∀ w ∈ u_ws R_N F_N 7, w ∈ ws_N_commit := fun w h => List.mem_cons_of_mem _ (in_N w h)
  have hiG : ∀ w ∈ u_ws R_G F_G 12, w ∈ ws_N_commit := fun w h => List.mem_cons_of_mem _ (in_G w h)
  have hiT : ∀ w ∈ u_ws R_T F_T 11, w ∈ ws_N_commit := fun w h => List.mem_cons_of_mem _ (in_T w h)
  have lk12 := hts _ (List.mem_cons_of_mem _ k_N_12)
  have lk19 := hts _ (List.mem_cons_of_mem _ k_N_19)
  have lk40 := hts _ (List.mem_cons_of_mem _ k_N_40)
  have lk106 := hts _ (List.mem_cons_of_mem _ k_N_106)
  have lk109 := hts _ (List.mem_cons_of_mem _ k_N_109)
  have lk112 := hts _ (List.mem_cons_of_mem _ k_N_112)
  have hS : va_S (aN q) s.heap s.heap [] := va_S.rf
  have hl := lv_entry ([.ref (q 0), .int a1]) (n := 4) (Nat.le_of_ble_eq_true rfl)
  rw [lg_entry_eq]
  generalize (lg_sl ([.ref (q 0), .int a1]) ++ List.replicate (4 - (lg_sl ([.ref (q 0), .int a1])).length) Slot.unset).toArray = ls at hl ⊢
  have hl : lv_has ls 4 [(0, .ref (q 0)), (1, .int a1)] := hl
  obtain ⟨Q, hQ⟩ : ∃ Q, Q = MQ below (va_Qi (fun (r : Int32) (u : S_G × S_K × S_T) => post r u.1 u.2.1 u.2.2) (fun u t => va_P (dC, dI) clZ (wN cI cL cZ q A D (u.1) (u.2.1) N P (u.2.2)) t.heap) (aN q)) ([.ref (q 0), .int a1]).toArray s 0 0 (aN q) := ⟨_, rfl⟩
  rw [← hQ]
  rw [wp_N_commit] at hwp
  refine lv_aload_n hx hb d_N_commit_0 rfl (lv_at hl 0 rfl) ?_
  refine lv_iload_n hx hb d_N_commit_1 rfl (lv_at hl 1 rfl) ?_
  refine ncn_i (As := [.int a1]) (c_N_refusalOf hq (A) (D) (G) (K) (N) (P) (T) (a1) _ hwp) (cwV 1 hts g_N_103 rfl rfl rfl hd_N_refusalOf ⟨Nat.le_of_ble_eq_true rfl, Nat.le_of_ble_eq_true rfl⟩) hx hb hml hown hts hK hP hS hl.1 d_N_commit_2 (va_recv (q := (R_N, F_N, 7)) hK hP (ci := 0) (q0 := 0) rfl rfl) rfl (lv_room (Nat.le_of_ble_eq_true rfl)) (Nat.zero_le _) (Nat.zero_le _) rfl (fun r1 u H locs hwp hP hS => ?_)
  have hP : va_P (dC, dI) clZ (wN cI cL cZ q A D G K N P T) H := hP
  refine lv_istore_n (lv' := [(2, .int r1), (0, .ref (q 0)), (1, .int a1)]) hx hb d_N_commit_5 rfl hl (by decide) rfl (fun ls hl => ?_)
  refine lv_iload_n hx hb d_N_commit_6 rfl (lv_at hl 0 rfl) ?_
  refine lv_if_eq (tgt := 12) hx hb d_N_commit_7 (by decide) (fun hc => ?_) (fun hc => ?_)
  · rw [if_pos hc] at hwp
    refine lv_aload_n hx hb d_N_commit_12 rfl (lv_at hl 1 rfl) ?_
    refine va_get (D := (dC, dI)) (ci := 0) (v := .ref (q 5)) (C := R_N) (T := F_N) (N := 7) hx hb hts hiN hown hK hP 0 rfl rfl 4 (by decide) lk40 (fun _ h9 => h9) rfl d_N_commit_13 ?_
    refine lv_iconst (v := 4) hx hb d_N_commit_16 (by decide) ?_
    refine lv_iload_n hx hb d_N_commit_17 rfl (lv_at hl 2 rfl) ?_
    refine lv_iconst (v := 0) hx hb d_N_commit_18 (by decide) ?_
    refine ncn_i (As := [.int 4, .int a1, .int 0]) (c_G_append hq (A) (D) (G) (K) (N) (P) (T) (4) (a1) (0) _ hwp) (cwV 3 hts g_N_85 rfl rfl rfl hd_G_append ⟨Nat.le_of_ble_eq_true rfl, Nat.le_of_ble_eq_true rfl⟩) hx hb hml hown hts hK hP hS hl.1 d_N_commit_19 (va_recv (q := (R_G, F_G, 12)) hK hP (ci := 5) (q0 := 5) rfl rfl) rfl (lv_room (Nat.le_of_ble_eq_true rfl)) (Nat.zero_le _) (Nat.zero_le _) rfl (fun r2 G3 H locs hwp hP hS => ?_)
    have hP : va_P (dC, dI) clZ (wN cI cL cZ q A D G3 K N P T) H := hP
    refine lv_pop hx hb d_N_commit_22 rfl ?_
    refine lv_aload_n hx hb d_N_commit_23 rfl (lv_at hl 1 rfl) ?_
    refine va_get (D := (dC, dI)) (ci := 0) (v := .ref (q 1)) (C := R_N) (T := F_N) (N := 7) hx hb hts hiN hown hK hP 0 rfl rfl 0 (by decide) lk12 (fun _ h9 => h9) rfl d_N_commit_24 ?_
    refine va_get (D := (dC, dI)) (ci := 1) (v := .ref (q 10)) (C := R_T) (T := F_T) (N := 11) hx hb hts hiT hown hK hP 1 rfl rfl 4 (by decide) lk106 (fun _ h9 => h9) rfl d_N_commit_27 ?_
    refine lv_iload_n hx hb d_N_commit_30 rfl (lv_at hl 2 rfl) ?_
    refine lv_iconst (v := 3) hx hb d_N_commit_31 (by decide) ?_
    refine va_iast hx hb hK hP (dN hq) hS 10 0 rfl rfl hwp.1 d_N_commit_32 (fun H locs hP _ hS => ?_)
    have hwp := hwp.2
    have hP : va_P (dC, dI) clZ (wN cI cL cZ q A D G3 K N P (T_state' T (upd (T_state T) (Int32.toNatClampNeg a1) 3))) H := hP
    refine lv_aload_n hx hb d_N_commit_33 rfl (lv_at hl 1 rfl) ?_
    refine va_get (D := (dC, dI)) (ci := 0) (v := .ref (q 1)) (C := R_N) (T := F_N) (N := 7) hx hb hts hiN hown hK hP 0 rfl rfl 0 (by decide) lk12 (fun _ h9 => h9) rfl d_N_commit_34 ?_
    refine va_get (D := (dC, dI)) (ci := 1) (v := .ref (q 7)) (C := R_T) (T := F_T) (N := 11) hx hb hts hiT hown hK hP 1 rfl rfl 1 (by decide) lk109 (fun _ h9 => h9) rfl d_N_commit_37 ?_
    refine lv_iload_n hx hb d_N_commit_40 rfl (lv_at hl 2 rfl) ?_
    refine va_iald hx hb hK hP 7 0 rfl rfl hwp.1 d_N_commit_41 ?_
    have hwp := hwp.2
    refine lv_istore_n (lv' := [(3, .int ((T_parent T) (Int32.toNatClampNeg a1))), (2, .int r1), (0, .ref (q 0)), (1, .int a1)]) hx hb d_N_commit_42 rfl hl (by decide) rfl (fun ls hl => ?_)
    refine lv_iload_n hx hb d_N_commit_43 rfl (lv_at hl 0 rfl) ?_
    refine lv_iconst (v := (-1)) hx hb d_N_commit_44 (by decide) ?_
    refine lv_icmp_ne (tgt := 65) hx hb d_N_commit_45 (by decide) (fun hc => ?_) (fun hc => ?_)
    · rw [if_neg hc] at hwp
      refine lv_aload_n hx hb d_N_commit_65 rfl (lv_at hl 2 rfl) ?_
      refine va_get (D := (dC, dI)) (ci := 0) (v := .ref (q 2)) (C := R_N) (T := F_N) (N := 7) hx hb hts hiN hown hK hP 0 rfl rfl 1 (by decide) lk19 (fun _ h9 => h9) rfl d_N_commit_66 ?_
      refine lv_iload_n hx hb d_N_commit_69 rfl (lv_at hl 3 rfl) ?_
      refine lv_iload_n hx hb d_N_commit_70 rfl (lv_at hl 0 rfl) ?_
      refine ncn_v (As := [.int a1, .int ((T_parent T) (Int32.toNatClampNeg a1))]) (c_K_passOn hq (A) (D) (G3) (K) (N) (P) ((T_state' T (upd (T_state T) (Int32.toNatClampNeg a1) 3))) (a1) (((T_parent T) (Int32.toNatClampNeg a1))) _ hwp) (cwV 2 hts g_N_115 rfl rfl rfl hd_K_passOn ⟨Nat.le_of_ble_eq_true rfl, Nat.le_of_ble_eq_true rfl⟩) hx hb hml hown hts hK hP hS hl.1 d_N_commit_71 (va_recv (q := (R_K, F_K, 2)) hK hP (ci := 2) (q0 := 2) rfl rfl) rfl (lv_room (Nat.le_of_ble_eq_true rfl)) (Nat.zero_le _) (Nat.zero_le _) rfl (fun K4 H locs hwp hP hS => ?_)
      have hP : va_P (dC, dI) clZ (wN cI cL cZ q A D G3 K4 N P (T_state' T (upd (T_state T) (Int32.toNatClampNeg a1) 3))) H := hP
      refine lv_aload_n hx hb d_N_commit_74 rfl (lv_at hl 2 rfl) ?_
      refine va_get (D := (dC, dI)) (ci := 0) (v := .ref (q 2)) (C := R_N) (T := F_N) (N := 7) hx hb hts hiN hown hK hP 0 rfl rfl 1 (by decide) lk19 (fun _ h9 => h9) rfl d_N_commit_75 ?_
      refine lv_iload_n hx hb d_N_commit_78 rfl (lv_at hl 3 rfl) ?_
      refine ncn_v (As := [.int a1]) (c_K_release hq (A) (D) (G3) (K4) (N) (P) ((T_state' T (upd (T_state T) (Int32.toNatClampNeg a1) 3))) (a1) _ hwp) (cwV 1 hts g_N_119 rfl rfl rfl hd_K_release ⟨Nat.le_of_ble_eq_true rfl, Nat.le_of_ble_eq_true rfl⟩) hx hb hml hown hts hK hP hS hl.1 d_N_commit_79 (va_recv (q := (R_K, F_K, 2)) hK hP (ci := 2) (q0 := 2) rfl rfl) rfl (lv_room (Nat.le_of_ble_eq_true rfl)) (Nat.zero_le _) (Nat.zero_le _) rfl (fun K5 H locs hwp hP hS => ?_)
      have hP : va_P (dC, dI) clZ (wN cI cL cZ q A D G3 K5 N P (T_state' T (upd (T_state T) (Int32.toNatClampNeg a1) 3))) H := hP
      refine lv_iconst (v := 0) hx hb d_N_commit_82 (by decide) ?_
      rw [hQ]
      exact W.iret (v := 0) hx hb hr (fun t ht hW => ⟨⟨0, (G3, K5, (T_state' T (upd (T_state T) (Int32.toNatClampNeg a1) 3))), rfl, hwp, hp_of ht hP⟩, hS.F ht⟩) hS.2.2 d_N_commit_83
    · rw [if_pos hc] at hwp
      refine lv_aload_n hx hb d_N_commit_48 rfl (lv_at hl 2 rfl) ?_
      refine va_get (D := (dC, dI)) (ci := 0) (v := .ref (q 5)) (C := R_N) (T := F_N) (N := 7) hx hb hts hiN hown hK hP 0 rfl rfl 4 (by decide) lk40 (fun _ h9 => h9) rfl d_N_commit_49 ?_
      refine lv_aload_n hx hb d_N_commit_52 rfl (lv_at hl 2 rfl) ?_
      refine va_get (D := (dC, dI)) (ci := 0) (v := .ref (q 5)) (C := R_N) (T := F_N) (N := 7) hx hb hts hiN hown hK hP 0 rfl rfl 4 (by decide) lk40 (fun _ h9 => h9) rfl d_N_commit_53 ?_
      refine ncn_i (As := []) (c_G_last hq (A) (D) (G3) (K) (N) (P) ((T_state' T (upd (T_state T) (Int32.toNatClampNeg a1) 3)))  _ hwp) (cwV 0 hts g_N_78 rfl rfl rfl hd_G_last ⟨Nat.le_of_ble_eq_true rfl, Nat.le_of_ble_eq_true rfl⟩) hx hb hml hown hts hK hP hS hl.1 d_N_commit_56 (va_recv (q := (R_G, F_G, 12)) hK hP (ci := 5) (q0 := 5) rfl rfl) rfl (lv_room (Nat.le_of_ble_eq_true rfl)) (Nat.zero_le _) (Nat.zero_le _) rfl (fun r6 u H locs hwp hP hS => ?_)
      have hP : va_P (dC, dI) clZ (wN cI cL cZ q A D G3 K N P (T_state' T (upd (T_state T) (Int32.toNatClampNeg a1) 3))) H := hP
      refine va_put (D := (dC, dI)) (ci := 5) (v := .int r6) (ty := .int) (C := R_G) (T := F_G) (N := 12) hx hb hts hiG ty_G ty_G_ok nmx_G hown hK hP (dN hq) hS 5 rfl rfl 2 (by decide) lk112 (fun _ h9 => h9) rfl (by decide +kernel) rfl rfl (Nat.le_of_ble_eq_true rfl) d_N_commit_59 (fun H locs hP _ hS => ?_)
      have hP : va_P (dC, dI) clZ (wN cI cL cZ q A D (G_flushed' G3 r6) K N P (T_state' T (upd (T_state T) (Int32.toNatClampNeg a1) 3))) H := hP
      refine lv_goto hx hb d_N_commit_62 (tgt := 74) (by decide) ?_
      refine lv_aload_n hx hb d_N_commit_74 rfl (lv_at hl 2 rfl) ?_
      refine va_get (D := (dC, dI)) (ci := 0) (v := .ref (q 2)) (C := R_N) (T := F_N) (N := 7) hx hb hts hiN hown hK hP 0 rfl rfl 1 (by decide) lk19 (fun _ h9 => h9) rfl d_N_commit_75 ?_
      refine lv_iload_n hx hb d_N_commit_78 rfl (lv_at hl 3 rfl) ?_
      refine ncn_v (As := [.int a1]) (c_K_release hq (A) (D) ((G_flushed' G3 r6)) (K) (N) (P) ((T_state' T (upd (T_state T) (Int32.toNatClampNeg a1) 3))) (a1) _ hwp) (cwV 1 hts g_N_119 rfl rfl rfl hd_K_release ⟨Nat.le_of_ble_eq_true rfl, Nat.le_of_ble_eq_true rfl⟩) hx hb hml hown hts hK hP hS hl.1 d_N_commit_79 (va_recv (q := (R_K, F_K, 2)) hK hP (ci := 2) (q0 := 2) rfl rfl) rfl (lv_room (Nat.le_of_ble_eq_true rfl)) (Nat.zero_le _) (Nat.zero_le _) rfl (fun K7 H locs hwp hP hS => ?_)
      have hP : va_P (dC, dI) clZ (wN cI cL cZ q A D (G_flushed' G3 r6) K7 N P (T_state' T (upd (T_state T) (Int32.toNatClampNeg a1) 3))) H := hP
      refine lv_iconst (v := 0) hx hb d_N_commit_82 (by decide) ?_
      rw [hQ]
      exact W.iret (v := 0) hx hb hr (fun t ht hW => ⟨⟨0, ((G_flushed' G3 r6), K7, (T_state' T (upd (T_state T) (Int32.toNatClampNeg a1) 3))), rfl, hwp, hp_of ht hP⟩, hS.F ht⟩) hS.2.2 d_N_commit_83
  · rw [if_neg hc] at hwp
    refine lv_iload_n hx hb d_N_commit_10 rfl (lv_at hl 0 rfl) ?_
    rw [hQ]
    exact W.iret (v := r1) hx hb hr (fun t ht hW => ⟨⟨r1, (G, K, T), rfl, hwp, hp_of ht hP⟩, hS.F ht⟩) hS.2.2 d_N_commit_11

set_option maxHeartbeats 4000000 in
set_option maxRecDepth 100000 in
theorem c_N_abort {l : Launch} {dC : Nat → ClassId} {dI : Nat → Nat → Nat} {cI cL cZ : ClassId} {q : Nat → Nat} (hq : iN q) (A : S_A) (D : S_D) (G : S_G) (K : S_K) (N : S_N) (P : S_P) (T : S_T) (a1 : Int32) (post : Int32 → S_A → S_G → S_K → S_T → Prop) (hwp : wp_N_abort A G K T a1 post) : Met l y_N_abort ws_N_abort rm_N_abort (va_Pc [.ref (q 0), .int a1] (bN dC dI cI cL cZ q A D G K N P T)) (va_Qi (fun (r : Int32) (u : S_A × S_G × S_K × S_T) => post r u.1 u.2.1 u.2.2.1 u.2.2.2) (fun u t => va_P (dC, dI) clZ (wN cI cL cZ q (u.1) D (u.2.1) (u.2.2.1) N P (u.2.2.2)) t.heap) (aN q)) 0 0 (aN q) := by
  refine Met.ofW (cc := b_N_abort) (maxL := 2) (ret := (some .int)) (by decide) rfl ?_
  intro p e s m args below meth c s₁ B hml hv
  obtain ⟨rfl, hP, hK⟩ := hv
  have hx := B.exec
  have hb := B.bytes
  have hr := B.returns
  have hts := atoms_spec (ws := ws_N_abort) B.pre
  have hown : s.vm.findClass R_N = some m.cls := findClass_of_methodNamed B.named
  have hlocks := B.notSynchronized
  have hiN : ∀ w ∈ u_ws R_N F_N 7, w ∈ ws_N_abort := fun w h => List.mem_cons_of_mem _ (in_N w h)
  have lk12 := hts _ (List.mem_cons_of_mem _ k_N_12)
  have hS : va_S (aN q) s.heap s.heap [] := va_S.rf
  have hl := lv_entry ([.ref (q 0), .int a1]) (n := 2) (Nat.le_of_ble_eq_true rfl)
  rw [lg_entry_eq]
  generalize (lg_sl ([.ref (q 0), .int a1]) ++ List.replicate (2 - (lg_sl ([.ref (q 0), .int a1])).length) Slot.unset).toArray = ls at hl ⊢
  have hl : lv_has ls 2 [(0, .ref (q 0)), (1, .int a1)] := hl
  obtain ⟨Q, hQ⟩ : ∃ Q, Q = MQ below (va_Qi (fun (r : Int32) (u : S_A × S_G × S_K × S_T) => post r u.1 u.2.1 u.2.2.1 u.2.2.2) (fun u t => va_P (dC, dI) clZ (wN cI cL cZ q (u.1) D (u.2.1) (u.2.2.1) N P (u.2.2.2)) t.heap) (aN q)) ([.ref (q 0), .int a1]).toArray s 0 0 (aN q) := ⟨_, rfl⟩
  rw [← hQ]
  rw [wp_N_abort] at hwp
  refine lv_aload_n hx hb d_N_abort_0 rfl (lv_at hl 0 rfl) ?_
  refine va_get (D := (dC, dI)) (ci := 0) (v := .ref (q 1)) (C := R_N) (T := F_N) (N := 7) hx hb hts hiN hown hK hP 0 rfl rfl 0 (by decide) lk12 (fun _ h9 => h9) rfl d_N_abort_1 ?_
  refine lv_iload_n hx hb d_N_abort_4 rfl (lv_at hl 1 rfl) ?_
  refine ncn_i (As := [.int a1]) (c_T_isLive hq (A) (D) (G) (K) (N) (P) (T) (a1) _ hwp) (cwV 1 hts g_N_122 rfl rfl rfl hd_T_isLive ⟨Nat.le_of_ble_eq_true rfl, Nat.le_of_ble_eq_true rfl⟩) hx hb hml hown hts hK hP hS hl.1 d_N_abort_5 (va_recv (q := (R_T, F_T, 11)) hK hP (ci := 1) (q0 := 1) rfl rfl) rfl (lv_room (Nat.le_of_ble_eq_true rfl)) (Nat.zero_le _) (Nat.zero_le _) rfl (fun r1 u H locs hwp hP hS => ?_)
  have hP : va_P (dC, dI) clZ (wN cI cL cZ q A D G K N P T) H := hP
  refine lv_if_ne (tgt := 13) hx hb d_N_abort_8 (by decide) (fun hc => ?_) (fun hc => ?_)
  · rw [if_neg hc] at hwp
    refine lv_aload_n hx hb d_N_abort_13 rfl (lv_at hl 0 rfl) ?_
    refine lv_iload_n hx hb d_N_abort_14 rfl (lv_at hl 1 rfl) ?_
    refine ncn_i (As := [.int a1]) (c_N_abortWithDescendants hq (A) (D) (G) (K) (N) (P) (T) (a1) _ hwp) (cwV 1 hts g_N_125 rfl rfl rfl hd_N_abortWithDescendants ⟨Nat.le_of_ble_eq_true rfl, Nat.le_of_ble_eq_true rfl⟩) hx hb hml hown hts hK hP hS hl.1 d_N_abort_15 (va_recv (q := (R_N, F_N, 7)) hK hP (ci := 0) (q0 := 0) rfl rfl) rfl (lv_room (Nat.le_of_ble_eq_true rfl)) (Nat.zero_le _) (Nat.zero_le _) rfl (fun r2 u H locs hwp hP hS => ?_)
    obtain ⟨A3, G4, K5, T6⟩ := u
    have hP : va_P (dC, dI) clZ (wN cI cL cZ q A3 D G4 K5 N P T6) H := hP
    rw [hQ]
    exact W.iret (v := r2) hx hb hr (fun t ht hW => ⟨⟨r2, (A3, G4, K5, T6), rfl, hwp, hp_of ht hP⟩, hS.F ht⟩) hS.2.2 d_N_abort_18
  · rw [if_pos hc] at hwp
    refine lv_iconst (v := (-1)) hx hb d_N_abort_11 (by decide) ?_
    rw [hQ]
    exact W.iret (v := (-1)) hx hb hr (fun t ht hW => ⟨⟨(-1), (A, G, K, T), rfl, hwp, hp_of ht hP⟩, hS.F ht⟩) hS.2.2 d_N_abort_12

set_option maxHeartbeats 4000000 in
set_option maxRecDepth 100000 in
theorem c_N_save {l : Launch} {dC : Nat → ClassId} {dI : Nat → Nat → Nat} {cI cL cZ : ClassId} {q : Nat → Nat} (hq : iN q) (A : S_A) (D : S_D) (G : S_G) (K : S_K) (N : S_N) (P : S_P) (T : S_T) (a1 : Int32) (post : Int32 → Prop) (hwp : wp_N_save G T a1 post) : Met l y_N_save ws_N_save rm_N_save (va_Pc [.ref (q 0), .int a1] (bN dC dI cI cL cZ q A D G K N P T)) (va_Qi (fun (r : Int32) (u : Unit) => post r) (fun u t => va_P (dC, dI) clZ (wN cI cL cZ q A D G K N P T) t.heap) (aN q)) 0 0 (aN q) := by
  refine Met.ofW (cc := b_N_save) (maxL := 3) (ret := (some .int)) (by decide) rfl ?_
  intro p e s m args below meth c s₁ B hml hv
  obtain ⟨rfl, hP, hK⟩ := hv
  have hx := B.exec
  have hb := B.bytes
  have hr := B.returns
  have hts := atoms_spec (ws := ws_N_save) B.pre
  have hown : s.vm.findClass R_N = some m.cls := findClass_of_methodNamed B.named
  have hlocks := B.notSynchronized
  have hiN : ∀ w ∈ u_ws R_N F_N 7, w ∈ ws_N_save := fun w h => List.mem_cons_of_mem _ (in_N w h)
  have lk40 := hts _ (List.mem_cons_of_mem _ k_N_40)
  have hS : va_S (aN q) s.heap s.heap [] := va_S.rf
  have hl := lv_entry ([.ref (q 0), .int a1]) (n := 3) (Nat.le_of_ble_eq_true rfl)
  rw [lg_entry_eq]
  generalize (lg_sl ([.ref (q 0), .int a1]) ++ List.replicate (3 - (lg_sl ([.ref (q 0), .int a1])).length) Slot.unset).toArray = ls at hl ⊢
  have hl : lv_has ls 3 [(0, .ref (q 0)), (1, .int a1)] := hl
  obtain ⟨Q, hQ⟩ : ∃ Q, Q = MQ below (va_Qi (fun (r : Int32) (u : Unit) => post r) (fun u t => va_P (dC, dI) clZ (wN cI cL cZ q A D G K N P T) t.heap) (aN q)) ([.ref (q 0), .int a1]).toArray s 0 0 (aN q) := ⟨_, rfl⟩
  rw [← hQ]
  rw [wp_N_save] at hwp
  refine lv_aload_n hx hb d_N_save_0 rfl (lv_at hl 0 rfl) ?_
  refine lv_iload_n hx hb d_N_save_1 rfl (lv_at hl 1 rfl) ?_
  refine ncn_i (As := [.int a1]) (c_N_refusalOf hq (A) (D) (G) (K) (N) (P) (T) (a1) _ hwp) (cwV 1 hts g_N_103 rfl rfl rfl hd_N_refusalOf ⟨Nat.le_of_ble_eq_true rfl, Nat.le_of_ble_eq_true rfl⟩) hx hb hml hown hts hK hP hS hl.1 d_N_save_2 (va_recv (q := (R_N, F_N, 7)) hK hP (ci := 0) (q0 := 0) rfl rfl) rfl (lv_room (Nat.le_of_ble_eq_true rfl)) (Nat.zero_le _) (Nat.zero_le _) rfl (fun r1 u H locs hwp hP hS => ?_)
  have hP : va_P (dC, dI) clZ (wN cI cL cZ q A D G K N P T) H := hP
  refine lv_istore_n (lv' := [(2, .int r1), (0, .ref (q 0)), (1, .int a1)]) hx hb d_N_save_5 rfl hl (by decide) rfl (fun ls hl => ?_)
  refine lv_iload_n hx hb d_N_save_6 rfl (lv_at hl 0 rfl) ?_
  refine lv_if_eq (tgt := 14) hx hb d_N_save_7 (by decide) (fun hc => ?_) (fun hc => ?_)
  · rw [if_pos hc] at hwp
    refine lv_aload_n hx hb d_N_save_14 rfl (lv_at hl 1 rfl) ?_
    refine va_get (D := (dC, dI)) (ci := 0) (v := .ref (q 5)) (C := R_N) (T := F_N) (N := 7) hx hb hts hiN hown hK hP 0 rfl rfl 4 (by decide) lk40 (fun _ h9 => h9) rfl d_N_save_15 ?_
    refine ncn_i (As := []) (c_G_last hq (A) (D) (G) (K) (N) (P) (T)  _ hwp) (cwV 0 hts g_N_78 rfl rfl rfl hd_G_last ⟨Nat.le_of_ble_eq_true rfl, Nat.le_of_ble_eq_true rfl⟩) hx hb hml hown hts hK hP hS hl.1 d_N_save_18 (va_recv (q := (R_G, F_G, 12)) hK hP (ci := 5) (q0 := 5) rfl rfl) rfl (lv_room (Nat.le_of_ble_eq_true rfl)) (Nat.zero_le _) (Nat.zero_le _) rfl (fun r2 u H locs hwp hP hS => ?_)
    have hP : va_P (dC, dI) clZ (wN cI cL cZ q A D G K N P T) H := hP
    rw [hQ]
    exact W.iret (v := r2) hx hb hr (fun t ht hW => ⟨⟨r2, (), rfl, hwp, hp_of ht hP⟩, hS.F ht⟩) hS.2.2 d_N_save_21
  · rw [if_neg hc] at hwp
    refine lv_iload_n hx hb d_N_save_10 rfl (lv_at hl 0 rfl) ?_
    refine lv_goto hx hb d_N_save_11 (tgt := 21) (by decide) ?_
    rw [hQ]
    exact W.iret (v := r1) hx hb hr (fun t ht hW => ⟨⟨r1, (), rfl, hwp, hp_of ht hP⟩, hS.F ht⟩) hS.2.2 d_N_save_21

set_option maxHeartbeats 4000000 in
set_option maxRecDepth 100000 in
theorem c_N_rollback {l : Launch} {dC : Nat → ClassId} {dI : Nat → Nat → Nat} {cI cL cZ : ClassId} {q : Nat → Nat} (hq : iN q) (A : S_A) (D : S_D) (G : S_G) (K : S_K) (N : S_N) (P : S_P) (T : S_T) (a1 : Int32) (a2 : Int32) (post : Int32 → S_A → S_G → Prop) (hwp : wp_N_rollback A G T a1 a2 post) : Met l y_N_rollback ws_N_rollback rm_N_rollback (va_Pc [.ref (q 0), .int a1, .int a2] (bN dC dI cI cL cZ q A D G K N P T)) (va_Qi (fun (r : Int32) (u : S_A × S_G) => post r u.1 u.2) (fun u t => va_P (dC, dI) clZ (wN cI cL cZ q (u.1) D (u.2) K N P T) t.heap) (aN q)) 0 0 (aN q) := by
  refine Met.ofW (cc := b_N_rollback) (maxL := 3) (ret := (some .int)) (by decide) rfl ?_
  intro p e s m args below meth c s₁ B hml hv
  obtain ⟨rfl, hP, hK⟩ := hv
  have hx := B.exec
  have hb := B.bytes
  have hr := B.returns
  have hts := atoms_spec (ws := ws_N_rollback) B.pre
  have hown : s.vm.findClass R_N = some m.cls := findClass_of_methodNamed B.named
  have hlocks := B.notSynchronized
  have hiN : ∀ w ∈ u_ws R_N F_N 7, w ∈ ws_N_rollback := fun w h => List.mem_cons_of_mem _ (in_N w h)
  have hiT : ∀ w ∈ u_ws R_T F_T 11, w ∈ ws_N_rollback := fun w h => List.mem_cons_of_mem _ (in_T w h)
  have lk12 := hts _ (List.mem_cons_of_mem _ k_N_12)
  have lk40 := hts _ (List.mem_cons_of_mem _ k_N_40)
  have lk128 := hts _ (List.mem_cons_of_mem _ k_N_128)
  have hS : va_S (aN q) s.heap s.heap [] := va_S.rf
  have hl := lv_entry ([.ref (q 0), .int a1, .int a2]) (n := 3) (Nat.le_of_ble_eq_true rfl)
  rw [lg_entry_eq]
  generalize (lg_sl ([.ref (q 0), .int a1, .int a2]) ++ List.replicate (3 - (lg_sl ([.ref (q 0), .int a1, .int a2])).length) Slot.unset).toArray = ls at hl ⊢
  have hl : lv_has ls 3 [(0, .ref (q 0)), (1, .int a1), (2, .int a2)] := hl
  obtain ⟨Q, hQ⟩ : ∃ Q, Q = MQ below (va_Qi (fun (r : Int32) (u : S_A × S_G) => post r u.1 u.2) (fun u t => va_P (dC, dI) clZ (wN cI cL cZ q (u.1) D (u.2) K N P T) t.heap) (aN q)) ([.ref (q 0), .int a1, .int a2]).toArray s 0 0 (aN q) := ⟨_, rfl⟩
  rw [← hQ]
  rw [wp_N_rollback] at hwp
  refine lv_aload_n hx hb d_N_rollback_0 rfl (lv_at hl 0 rfl) ?_
  refine va_get (D := (dC, dI)) (ci := 0) (v := .ref (q 1)) (C := R_N) (T := F_N) (N := 7) hx hb hts hiN hown hK hP 0 rfl rfl 0 (by decide) lk12 (fun _ h9 => h9) rfl d_N_rollback_1 ?_
  refine lv_iload_n hx hb d_N_rollback_4 rfl (lv_at hl 1 rfl) ?_
  refine ncn_i (As := [.int a1]) (c_T_isActive hq (A) (D) (G) (K) (N) (P) (T) (a1) _ hwp) (cwV 1 hts g_N_62 rfl rfl rfl hd_T_isActive ⟨Nat.le_of_ble_eq_true rfl, Nat.le_of_ble_eq_true rfl⟩) hx hb hml hown hts hK hP hS hl.1 d_N_rollback_5 (va_recv (q := (R_T, F_T, 11)) hK hP (ci := 1) (q0 := 1) rfl rfl) rfl (lv_room (Nat.le_of_ble_eq_true rfl)) (Nat.zero_le _) (Nat.zero_le _) rfl (fun r1 u H locs hwp hP hS => ?_)
  have hP : va_P (dC, dI) clZ (wN cI cL cZ q A D G K N P T) H := hP
  refine lv_if_eq (tgt := 35) hx hb d_N_rollback_8 (by decide) (fun hc => ?_) (fun hc => ?_)
  · rw [if_pos hc] at hwp
    refine lv_iconst (v := (-1)) hx hb d_N_rollback_35 (by decide) ?_
    rw [hQ]
    exact W.iret (v := (-1)) hx hb hr (fun t ht hW => ⟨⟨(-1), (A, G), rfl, hwp, hp_of ht hP⟩, hS.F ht⟩) hS.2.2 d_N_rollback_36
  · rw [if_neg hc] at hwp
    refine lv_iload_n hx hb d_N_rollback_11 rfl (lv_at hl 2 rfl) ?_
    refine lv_aload_n hx hb d_N_rollback_12 rfl (lv_at hl 0 rfl) ?_
    refine va_get (D := (dC, dI)) (ci := 0) (v := .ref (q 1)) (C := R_N) (T := F_N) (N := 7) hx hb hts hiN hown hK hP 0 rfl rfl 0 (by decide) lk12 (fun _ h9 => h9) rfl d_N_rollback_13 ?_
    refine va_get (D := (dC, dI)) (ci := 1) (v := .ref (q 11)) (C := R_T) (T := F_T) (N := 11) hx hb hts hiT hown hK hP 1 rfl rfl 5 (by decide) lk128 (fun _ h9 => h9) rfl d_N_rollback_16 ?_
    refine lv_iload_n hx hb d_N_rollback_19 rfl (lv_at hl 1 rfl) ?_
    refine va_iald hx hb hK hP 11 0 rfl rfl hwp.1 d_N_rollback_20 ?_
    have hwp := hwp.2
    refine lv_icmp_lt (tgt := 35) hx hb d_N_rollback_21 (by decide) (fun hc => ?_) (fun hc => ?_)
    · rw [if_pos hc] at hwp
      refine lv_iconst (v := (-1)) hx hb d_N_rollback_35 (by decide) ?_
      rw [hQ]
      exact W.iret (v := (-1)) hx hb hr (fun t ht hW => ⟨⟨(-1), (A, G), rfl, hwp, hp_of ht hP⟩, hS.F ht⟩) hS.2.2 d_N_rollback_36
    · rw [if_neg hc] at hwp
      refine lv_iload_n hx hb d_N_rollback_24 rfl (lv_at hl 2 rfl) ?_
      refine lv_aload_n hx hb d_N_rollback_25 rfl (lv_at hl 0 rfl) ?_
      refine va_get (D := (dC, dI)) (ci := 0) (v := .ref (q 5)) (C := R_N) (T := F_N) (N := 7) hx hb hts hiN hown hK hP 0 rfl rfl 4 (by decide) lk40 (fun _ h9 => h9) rfl d_N_rollback_26 ?_
      refine ncn_i (As := []) (c_G_last hq (A) (D) (G) (K) (N) (P) (T)  _ hwp) (cwV 0 hts g_N_78 rfl rfl rfl hd_G_last ⟨Nat.le_of_ble_eq_true rfl, Nat.le_of_ble_eq_true rfl⟩) hx hb hml hown hts hK hP hS hl.1 d_N_rollback_29 (va_recv (q := (R_G, F_G, 12)) hK hP (ci := 5) (q0 := 5) rfl rfl) rfl (lv_room (Nat.le_of_ble_eq_true rfl)) (Nat.zero_le _) (Nat.zero_le _) rfl (fun r2 u H locs hwp hP hS => ?_)
      have hP : va_P (dC, dI) clZ (wN cI cL cZ q A D G K N P T) H := hP
      refine lv_icmp_le (tgt := 37) hx hb d_N_rollback_32 (by decide) (fun hc => ?_) (fun hc => ?_)
      · rw [if_pos hc] at hwp
        refine lv_aload_n hx hb d_N_rollback_37 rfl (lv_at hl 0 rfl) ?_
        refine va_get (D := (dC, dI)) (ci := 0) (v := .ref (q 1)) (C := R_N) (T := F_N) (N := 7) hx hb hts hiN hown hK hP 0 rfl rfl 0 (by decide) lk12 (fun _ h9 => h9) rfl d_N_rollback_38 ?_
        refine lv_iload_n hx hb d_N_rollback_41 rfl (lv_at hl 1 rfl) ?_
        refine ncn_i (As := [.int a1]) (c_T_isBusy hq (A) (D) (G) (K) (N) (P) (T) (a1) _ hwp) (cwV 1 hts g_N_131 rfl rfl rfl hd_T_isBusy ⟨Nat.le_of_ble_eq_true rfl, Nat.le_of_ble_eq_true rfl⟩) hx hb hml hown hts hK hP hS hl.1 d_N_rollback_42 (va_recv (q := (R_T, F_T, 11)) hK hP (ci := 1) (q0 := 1) rfl rfl) rfl (lv_room (Nat.le_of_ble_eq_true rfl)) (Nat.zero_le _) (Nat.zero_le _) rfl (fun r3 u H locs hwp hP hS => ?_)
        have hP : va_P (dC, dI) clZ (wN cI cL cZ q A D G K N P T) H := hP
        refine lv_if_eq (tgt := 51) hx hb d_N_rollback_45 (by decide) (fun hc => ?_) (fun hc => ?_)
        · rw [if_pos hc] at hwp
          refine lv_aload_n hx hb d_N_rollback_51 rfl (lv_at hl 0 rfl) ?_
          refine lv_iload_n hx hb d_N_rollback_52 rfl (lv_at hl 1 rfl) ?_
          refine lv_iload_n hx hb d_N_rollback_53 rfl (lv_at hl 2 rfl) ?_
          refine ncn_i (As := [.int a1, .int a2]) (c_N_undoOpenUpdates hq (A) (D) (G) (K) (N) (P) (T) (a1) (a2) _ hwp) (cwV 2 hts g_N_134 rfl rfl rfl hd_N_undoOpenUpdates ⟨Nat.le_of_ble_eq_true rfl, Nat.le_of_ble_eq_true rfl⟩) hx hb hml hown hts hK hP hS hl.1 d_N_rollback_54 (va_recv (q := (R_N, F_N, 7)) hK hP (ci := 0) (q0 := 0) rfl rfl) rfl (lv_room (Nat.le_of_ble_eq_true rfl)) (Nat.zero_le _) (Nat.zero_le _) rfl (fun r4 u H locs hwp hP hS => ?_)
          obtain ⟨A5, G6⟩ := u
          have hP : va_P (dC, dI) clZ (wN cI cL cZ q A5 D G6 K N P T) H := hP
          rw [hQ]
          exact W.iret (v := r4) hx hb hr (fun t ht hW => ⟨⟨r4, (A5, G6), rfl, hwp, hp_of ht hP⟩, hS.F ht⟩) hS.2.2 d_N_rollback_57
        · rw [if_neg hc] at hwp
          refine lv_bipush (v := (-4)) hx hb d_N_rollback_48 (by decide) ?_
          rw [hQ]
          exact W.iret (v := (-4)) hx hb hr (fun t ht hW => ⟨⟨(-4), (A, G), rfl, hwp, hp_of ht hP⟩, hS.F ht⟩) hS.2.2 d_N_rollback_50
      · rw [if_neg hc] at hwp
        refine lv_iconst (v := (-1)) hx hb d_N_rollback_35 (by decide) ?_
        rw [hQ]
        exact W.iret (v := (-1)) hx hb hr (fun t ht hW => ⟨⟨(-1), (A, G), rfl, hwp, hp_of ht hP⟩, hS.F ht⟩) hS.2.2 d_N_rollback_36

set_option maxHeartbeats 4000000 in
set_option maxRecDepth 100000 in
theorem c_N_isPage {l : Launch} {dC : Nat → ClassId} {dI : Nat → Nat → Nat} {cI cL cZ : ClassId} {q : Nat → Nat} (hq : iN q) (A : S_A) (D : S_D) (G : S_G) (K : S_K) (N : S_N) (P : S_P) (T : S_T) (a0 : Int32) (post : Int32 → Prop) (hwp : wp_N_isPage a0 post) : Met l y_N_isPage ws_N_isPage rm_N_isPage (va_Pc [.int a0] (bN dC dI cI cL cZ q A D G K N P T)) (va_Qi (fun (r : Int32) (u : Unit) => post r) (fun u t => va_P (dC, dI) clZ (wN cI cL cZ q A D G K N P T) t.heap) (aN q)) 0 0 (aN q) := by
  refine Met.ofW (cc := b_N_isPage) (maxL := 1) (ret := (some .boolean)) (by decide) rfl ?_
  intro p e s m args below meth c s₁ B hml hv
  obtain ⟨rfl, hP, hK⟩ := hv
  have hx := B.exec
  have hb := B.bytes
  have hr := B.returns
  have hts := atoms_spec (ws := ws_N_isPage) B.pre
  have hown : s.vm.findClass R_N = some m.cls := findClass_of_methodNamed B.named
  have hlocks := B.notSynchronized
  have hS : va_S (aN q) s.heap s.heap [] := va_S.rf
  have hl := lv_entry ([.int a0]) (n := 1) (Nat.le_of_ble_eq_true rfl)
  rw [lg_entry_eq]
  generalize (lg_sl ([.int a0]) ++ List.replicate (1 - (lg_sl ([.int a0])).length) Slot.unset).toArray = ls at hl ⊢
  have hl : lv_has ls 1 [(0, .int a0)] := hl
  obtain ⟨Q, hQ⟩ : ∃ Q, Q = MQ below (va_Qi (fun (r : Int32) (u : Unit) => post r) (fun u t => va_P (dC, dI) clZ (wN cI cL cZ q A D G K N P T) t.heap) (aN q)) ([.int a0]).toArray s 0 0 (aN q) := ⟨_, rfl⟩
  rw [← hQ]
  rw [wp_N_isPage] at hwp
  refine lv_iload_n hx hb d_N_isPage_0 rfl (lv_at hl 0 rfl) ?_
  refine lv_if_lt (tgt := 14) hx hb d_N_isPage_1 (by decide) (fun hc => ?_) (fun hc => ?_)
  · rw [if_pos hc] at hwp
    refine lv_iconst (v := 0) hx hb d_N_isPage_14 (by decide) ?_
    rw [hQ]
    exact W.zret (v := 0) hx hb hr rfl (fun t ht hW => ⟨⟨0, (), rfl, hwp, hp_of ht hP⟩, hS.F ht⟩) hS.2.2 d_N_isPage_15
  · rw [if_neg hc] at hwp
    refine lv_iload_n hx hb d_N_isPage_4 rfl (lv_at hl 0 rfl) ?_
    refine lv_bipush (v := 8) hx hb d_N_isPage_5 (by decide) ?_
    refine lv_icmp_ge (tgt := 14) hx hb d_N_isPage_7 (by decide) (fun hc => ?_) (fun hc => ?_)
    · rw [if_pos hc] at hwp
      refine lv_iconst (v := 0) hx hb d_N_isPage_14 (by decide) ?_
      rw [hQ]
      exact W.zret (v := 0) hx hb hr rfl (fun t ht hW => ⟨⟨0, (), rfl, hwp, hp_of ht hP⟩, hS.F ht⟩) hS.2.2 d_N_isPage_15
    · rw [if_neg hc] at hwp
      refine lv_iconst (v := 1) hx hb d_N_isPage_10 (by decide) ?_
      refine lv_goto hx hb d_N_isPage_11 (tgt := 15) (by decide) ?_
      rw [hQ]
      exact W.zret (v := 1) hx hb hr rfl (fun t ht hW => ⟨⟨1, (), rfl, hwp, hp_of ht hP⟩, hS.F ht⟩) hS.2.2 d_N_isPage_15

set_option maxHeartbeats 4000000 in
set_option maxRecDepth 100000 in
theorem c_N_write {l : Launch} {dC : Nat → ClassId} {dI : Nat → Nat → Nat} {cI cL cZ : ClassId} {q : Nat → Nat} (hq : iN q) (A : S_A) (D : S_D) (G : S_G) (K : S_K) (N : S_N) (P : S_P) (T : S_T) (a1 : Int32) (post : Int32 → S_A → S_G → Prop) (hwp : wp_N_write A G a1 post) : Met l y_N_write ws_N_write rm_N_write (va_Pc [.ref (q 0), .int a1] (bN dC dI cI cL cZ q A D G K N P T)) (va_Qi (fun (r : Int32) (u : S_A × S_G) => post r u.1 u.2) (fun u t => va_P (dC, dI) clZ (wN cI cL cZ q (u.1) D (u.2) K N P T) t.heap) (aN q)) 0 0 (aN q) := by
  refine Met.ofW (cc := b_N_write) (maxL := 2) (ret := (some .boolean)) (by decide) rfl ?_
  intro p e s m args below meth c s₁ B hml hv
  obtain ⟨rfl, hP, hK⟩ := hv
  have hx := B.exec
  have hb := B.bytes
  have hr := B.returns
  have hts := atoms_spec (ws := ws_N_write) B.pre
  have hown : s.vm.findClass R_N = some m.cls := findClass_of_methodNamed B.named
  have hlocks := B.notSynchronized
  have hiN : ∀ w ∈ u_ws R_N F_N 7, w ∈ ws_N_write := fun w h => List.mem_cons_of_mem _ (in_N w h)
  have hiA : ∀ w ∈ u_ws R_A F_A 10, w ∈ ws_N_write := fun w h => List.mem_cons_of_mem _ (in_A w h)
  have lk40 := hts _ (List.mem_cons_of_mem _ k_N_40)
  have lk58 := hts _ (List.mem_cons_of_mem _ k_N_58)
  have lk140 := hts _ (List.mem_cons_of_mem _ k_N_140)
  have hS : va_S (aN q) s.heap s.heap [] := va_S.rf
  have hl := lv_entry ([.ref (q 0), .int a1]) (n := 2) (Nat.le_of_ble_eq_true rfl)
  rw [lg_entry_eq]
  generalize (lg_sl ([.ref (q 0), .int a1]) ++ List.replicate (2 - (lg_sl ([.ref (q 0), .int a1])).length) Slot.unset).toArray = ls at hl ⊢
  have hl : lv_has ls 2 [(0, .ref (q 0)), (1, .int a1)] := hl
  obtain ⟨Q, hQ⟩ : ∃ Q, Q = MQ below (va_Qi (fun (r : Int32) (u : S_A × S_G) => post r u.1 u.2) (fun u t => va_P (dC, dI) clZ (wN cI cL cZ q (u.1) D (u.2) K N P T) t.heap) (aN q)) ([.ref (q 0), .int a1]).toArray s 0 0 (aN q) := ⟨_, rfl⟩
  rw [← hQ]
  rw [wp_N_write] at hwp
  refine lv_iload_n hx hb d_N_write_0 rfl (lv_at hl 1 rfl) ?_
  refine ncs_i (As := [.int a1]) (c_N_isPage hq (A) (D) (G) (K) (N) (P) (T) (a1) _ hwp) (cwS 1 hts g_N_137 rfl rfl rfl hd_N_isPage ⟨Nat.le_of_ble_eq_true rfl, Nat.le_of_ble_eq_true rfl⟩) hx hb hml hown hts hK hP hS hl.1 d_N_write_1 rfl (lv_room (Nat.le_of_ble_eq_true rfl)) (Nat.zero_le _) (Nat.zero_le _) rfl (fun r1 u H locs hwp hP hS => ?_)
  have hP : va_P (dC, dI) clZ (wN cI cL cZ q A D G K N P T) H := hP
  refine lv_if_eq (tgt := 19) hx hb d_N_write_4 (by decide) (fun hc => ?_) (fun hc => ?_)
  · rw [if_pos hc] at hwp
    refine lv_iconst (v := 0) hx hb d_N_write_19 (by decide) ?_
    rw [hQ]
    exact W.zret (v := 0) hx hb hr rfl (fun t ht hW => ⟨⟨0, (A, G), rfl, hwp, hp_of ht hP⟩, hS.F ht⟩) hS.2.2 d_N_write_20
  · rw [if_neg hc] at hwp
    refine lv_aload_n hx hb d_N_write_7 rfl (lv_at hl 0 rfl) ?_
    refine va_get (D := (dC, dI)) (ci := 0) (v := .ref (q 6)) (C := R_N) (T := F_N) (N := 7) hx hb hts hiN hown hK hP 0 rfl rfl 5 (by decide) lk58 (fun _ h9 => h9) rfl d_N_write_8 ?_
    refine va_get (D := (dC, dI)) (ci := 6) (v := .ref (q 31)) (C := R_A) (T := F_A) (N := 10) hx hb hts hiA hown hK hP 6 rfl rfl 3 (by decide) lk140 (fun _ h9 => h9) rfl d_N_write_11 ?_
    refine lv_iload_n hx hb d_N_write_14 rfl (lv_at hl 1 rfl) ?_
    refine va_zald hx hb hK hP 31 2 rfl rfl hwp.1 d_N_write_15 ?_
    have hwp := hwp.2
    refine lv_if_ne (tgt := 21) hx hb d_N_write_16 (by decide) (fun hc => ?_) (fun hc => ?_)
    · rw [if_neg hc] at hwp
      refine lv_aload_n hx hb d_N_write_21 rfl (lv_at hl 0 rfl) ?_
      refine va_get (D := (dC, dI)) (ci := 0) (v := .ref (q 6)) (C := R_N) (T := F_N) (N := 7) hx hb hts hiN hown hK hP 0 rfl rfl 5 (by decide) lk58 (fun _ h9 => h9) rfl d_N_write_22 ?_
      refine lv_iload_n hx hb d_N_write_25 rfl (lv_at hl 1 rfl) ?_
      refine lv_aload_n hx hb d_N_write_26 rfl (lv_at hl 0 rfl) ?_
      refine va_get (D := (dC, dI)) (ci := 0) (v := .ref (q 5)) (C := R_N) (T := F_N) (N := 7) hx hb hts hiN hown hK hP 0 rfl rfl 4 (by decide) lk40 (fun _ h9 => h9) rfl d_N_write_27 ?_
      refine ncn_v (As := [.int a1, .ref (q 5)]) (c_A_putOnDisk hq (A) (D) (G) (K) (N) (P) (T) (a1) _ hwp) (cwV 2 hts g_N_144 rfl rfl rfl hd_A_putOnDisk ⟨Nat.le_of_ble_eq_true rfl, Nat.le_of_ble_eq_true rfl⟩) hx hb hml hown hts hK hP hS hl.1 d_N_write_30 (va_recv (q := (R_A, F_A, 10)) hK hP (ci := 6) (q0 := 6) rfl rfl) rfl (lv_room (Nat.le_of_ble_eq_true rfl)) (Nat.zero_le _) (Nat.zero_le _) rfl (fun u H locs hwp hP hS => ?_)
      obtain ⟨A2, G3⟩ := u
      have hP : va_P (dC, dI) clZ (wN cI cL cZ q A2 D G3 K N P T) H := hP
      refine lv_iconst (v := 1) hx hb d_N_write_33 (by decide) ?_
      rw [hQ]
      exact W.zret (v := 1) hx hb hr rfl (fun t ht hW => ⟨⟨1, (A2, G3), rfl, hwp, hp_of ht hP⟩, hS.F ht⟩) hS.2.2 d_N_write_34
    · rw [if_pos hc] at hwp
      refine lv_iconst (v := 0) hx hb d_N_write_19 (by decide) ?_
      rw [hQ]
      exact W.zret (v := 0) hx hb hr rfl (fun t ht hW => ⟨⟨0, (A, G), rfl, hwp, hp_of ht hP⟩, hS.F ht⟩) hS.2.2 d_N_write_20

set_option maxHeartbeats 4000000 in
set_option maxRecDepth 100000 in
theorem c_N_archive {l : Launch} {dC : Nat → ClassId} {dI : Nat → Nat → Nat} {cI cL cZ : ClassId} {q : Nat → Nat} (hq : iN q) (A : S_A) (D : S_D) (G : S_G) (K : S_K) (N : S_N) (P : S_P) (T : S_T)  (post : Int32 → S_A → S_G → Prop) (hwp : wp_N_archive A G T post) : Met l y_N_archive ws_N_archive rm_N_archive (va_Pc [.ref (q 0)] (bN dC dI cI cL cZ q A D G K N P T)) (va_Qi (fun (r : Int32) (u : S_A × S_G) => post r u.1 u.2) (fun u t => va_P (dC, dI) clZ (wN cI cL cZ q (u.1) D (u.2) K N P T) t.heap) (aN q)) 0 0 (aN q) := by
  refine Met.ofW (cc := b_N_archive) (maxL := 3) (ret := (some .int)) (by decide) rfl ?_
  intro p e s m args below meth c s₁ B hml hv
  obtain ⟨rfl, hP, hK⟩ := hv
  have hx := B.exec
  have hb := B.bytes
  have hr := B.returns
  have hts := atoms_spec (ws := ws_N_archive) B.pre
  have hown : s.vm.findClass R_N = some m.cls := findClass_of_methodNamed B.named
  have hlocks := B.notSynchronized
  have hiN : ∀ w ∈ u_ws R_N F_N 7, w ∈ ws_N_archive := fun w h => List.mem_cons_of_mem _ (in_N w h)
  have hiA : ∀ w ∈ u_ws R_A F_A 10, w ∈ ws_N_archive := fun w h => List.mem_cons_of_mem _ (in_A w h)
  have lk12 := hts _ (List.mem_cons_of_mem _ k_N_12)
  have lk40 := hts _ (List.mem_cons_of_mem _ k_N_40)
  have lk58 := hts _ (List.mem_cons_of_mem _ k_N_58)
  have lk140 := hts _ (List.mem_cons_of_mem _ k_N_140)
  have hS : va_S (aN q) s.heap s.heap [] := va_S.rf
  have hl := lv_entry ([.ref (q 0)]) (n := 3) (Nat.le_of_ble_eq_true rfl)
  rw [lg_entry_eq]
  generalize (lg_sl ([.ref (q 0)]) ++ List.replicate (3 - (lg_sl ([.ref (q 0)])).length) Slot.unset).toArray = ls at hl ⊢
  have hl : lv_has ls 3 [(0, .ref (q 0))] := hl
  obtain ⟨Q, hQ⟩ : ∃ Q, Q = MQ below (va_Qi (fun (r : Int32) (u : S_A × S_G) => post r u.1 u.2) (fun u t => va_P (dC, dI) clZ (wN cI cL cZ q (u.1) D (u.2) K N P T) t.heap) (aN q)) ([.ref (q 0)]).toArray s 0 0 (aN q) := ⟨_, rfl⟩
  rw [← hQ]
  have L16 : ∀ (Kx : Int32 → S_A → S_G → Prop) (n : Nat) (v1 : Int32) (v2 : Int32) (A : S_A) (G : S_G) (H : Heap) (locs : List Loc) (ls : Array Slot), lv_has ls 3 [(0, .ref (q 0)), (1, .int v1), (2, .int v2)] → va_P (dC, dI) clZ (wN cI cL cZ q A D G K N P T) H → va_S (aN q) s.heap H locs → wp_N_archive_L16 Kx n v1 v2 A G → (∀ (x1 : Int32) (A1 : S_A) (G1 : S_G) (H : Heap) (locs : List Loc) (ls : Array Slot), lv_has ls 3 [(0, .ref (q 0)), (1, .int x1)] → va_P (dC, dI) clZ (wN cI cL cZ q A1 D G1 K N P T) H → va_S (aN q) s.heap H locs → Kx x1 A1 G1 → W p l e (headSpec ws_N_archive rm_N_archive).room s m ([.ref (q 0)]).toArray below meth c H locs 0 0 Q (F0 m 55 ls [])) → W p l e (headSpec ws_N_archive rm_N_archive).room s m ([.ref (q 0)]).toArray below meth c H locs 0 0 Q (F0 m 16 ls []) := by
    intro Kx  n
    induction n with
    | zero =>
      intros
      rename_i hwp _
      exact hwp.elim
    | succ n16 ih =>
      intro v1 v2 A G H locs ls hl hP hS hwp hX
      rw [wp_N_archive_L16] at hwp
      refine lv_iload_n hx hb d_N_archive_16 rfl (lv_at hl 2 rfl) ?_
      refine lv_bipush (v := 8) hx hb d_N_archive_17 (by decide) ?_
      refine lv_icmp_ge (tgt := 55) hx hb d_N_archive_19 (by decide) (fun hc => ?_) (fun hc => ?_)
      · rw [if_pos hc] at hwp
        exact hX (v1) (A) (G) _ _ _ (lv_sub hl [0, 1] rfl) hP hS hwp
      · rw [if_neg hc] at hwp
        refine lv_aload_n hx hb d_N_archive_22 rfl (lv_at hl 0 rfl) ?_
        refine va_get (D := (dC, dI)) (ci := 0) (v := .ref (q 6)) (C := R_N) (T := F_N) (N := 7) hx hb hts hiN hown hK hP 0 rfl rfl 5 (by decide) lk58 (fun _ h9 => h9) rfl d_N_archive_23 ?_
        refine va_get (D := (dC, dI)) (ci := 6) (v := .ref (q 31)) (C := R_A) (T := F_A) (N := 10) hx hb hts hiA hown hK hP 6 rfl rfl 3 (by decide) lk140 (fun _ h9 => h9) rfl d_N_archive_26 ?_
        refine lv_iload_n hx hb d_N_archive_29 rfl (lv_at hl 2 rfl) ?_
        refine va_zald hx hb hK hP 31 2 rfl rfl hwp.1 d_N_archive_30 ?_
        have hwp := hwp.2
        refine lv_if_eq (tgt := 49) hx hb d_N_archive_31 (by decide) (fun hc => ?_) (fun hc => ?_)
        · rw [if_pos hc] at hwp
          refine lv_iinc (k := 2) (v := (v2 + 1)) (lv' := [(2, .int (v2 + 1)), (0, .ref (q 0)), (1, .int v1)]) hx hb d_N_archive_49 hl rfl (ii_1 _) (by decide) rfl (fun ls hl => ?_)
          refine lv_goto hx hb d_N_archive_52 (tgt := 16) (by decide) ?_
          exact ih (v1) ((v2 + 1)) (A) (G) _ _ _ (lv_sub hl [1, 2, 0] rfl) hP hS hwp hX
        · rw [if_neg hc] at hwp
          refine lv_aload_n hx hb d_N_archive_34 rfl (lv_at hl 0 rfl) ?_
          refine va_get (D := (dC, dI)) (ci := 0) (v := .ref (q 6)) (C := R_N) (T := F_N) (N := 7) hx hb hts hiN hown hK hP 0 rfl rfl 5 (by decide) lk58 (fun _ h9 => h9) rfl d_N_archive_35 ?_
          refine lv_iload_n hx hb d_N_archive_38 rfl (lv_at hl 2 rfl) ?_
          refine lv_aload_n hx hb d_N_archive_39 rfl (lv_at hl 0 rfl) ?_
          refine va_get (D := (dC, dI)) (ci := 0) (v := .ref (q 5)) (C := R_N) (T := F_N) (N := 7) hx hb hts hiN hown hK hP 0 rfl rfl 4 (by decide) lk40 (fun _ h9 => h9) rfl d_N_archive_40 ?_
          refine ncn_v (As := [.int v2, .ref (q 5)]) (c_A_putOnDisk hq (A) (D) (G) (K) (N) (P) (T) (v2) _ hwp) (cwV 2 hts g_N_144 rfl rfl rfl hd_A_putOnDisk ⟨Nat.le_of_ble_eq_true rfl, Nat.le_of_ble_eq_true rfl⟩) hx hb hml hown hts hK hP hS hl.1 d_N_archive_43 (va_recv (q := (R_A, F_A, 10)) hK hP (ci := 6) (q0 := 6) rfl rfl) rfl (lv_room (Nat.le_of_ble_eq_true rfl)) (Nat.zero_le _) (Nat.zero_le _) rfl (fun u H locs hwp hP hS => ?_)
          obtain ⟨A2, G3⟩ := u
          have hP : va_P (dC, dI) clZ (wN cI cL cZ q A2 D G3 K N P T) H := hP
          refine lv_iinc (k := 1) (v := (v1 + 1)) (lv' := [(1, .int (v1 + 1)), (0, .ref (q 0)), (2, .int v2)]) hx hb d_N_archive_46 hl rfl (ii_1 _) (by decide) rfl (fun ls hl => ?_)
          refine lv_iinc (k := 2) (v := (v2 + 1)) (lv' := [(2, .int (v2 + 1)), (1, .int (v1 + 1)), (0, .ref (q 0))]) hx hb d_N_archive_49 hl rfl (ii_1 _) (by decide) rfl (fun ls hl => ?_)
          refine lv_goto hx hb d_N_archive_52 (tgt := 16) (by decide) ?_
          exact ih ((v1 + 1)) ((v2 + 1)) (A2) (G3) _ _ _ (lv_sub hl [2, 1, 0] rfl) hP hS hwp hX
  rw [wp_N_archive] at hwp
  refine lv_aload_n hx hb d_N_archive_0 rfl (lv_at hl 0 rfl) ?_
  refine va_get (D := (dC, dI)) (ci := 0) (v := .ref (q 1)) (C := R_N) (T := F_N) (N := 7) hx hb hts hiN hown hK hP 0 rfl rfl 0 (by decide) lk12 (fun _ h9 => h9) rfl d_N_archive_1 ?_
  refine ncn_i (As := []) (c_T_liveCount hq (A) (D) (G) (K) (N) (P) (T)  _ hwp) (cwV 0 hts g_N_148 rfl rfl rfl hd_T_liveCount ⟨Nat.le_of_ble_eq_true rfl, Nat.le_of_ble_eq_true rfl⟩) hx hb hml hown hts hK hP hS hl.1 d_N_archive_4 (va_recv (q := (R_T, F_T, 11)) hK hP (ci := 1) (q0 := 1) rfl rfl) rfl (lv_room (Nat.le_of_ble_eq_true rfl)) (Nat.zero_le _) (Nat.zero_le _) rfl (fun r1 u H locs hwp hP hS => ?_)
  have hP : va_P (dC, dI) clZ (wN cI cL cZ q A D G K N P T) H := hP
  refine lv_if_le (tgt := 12) hx hb d_N_archive_7 (by decide) (fun hc => ?_) (fun hc => ?_)
  · rw [if_pos hc] at hwp
    refine lv_iconst (v := 0) hx hb d_N_archive_12 (by decide) ?_
    refine lv_istore_n (lv' := [(1, .int 0), (0, .ref (q 0))]) hx hb d_N_archive_13 rfl hl (by decide) rfl (fun ls hl => ?_)
    refine lv_iconst (v := 0) hx hb d_N_archive_14 (by decide) ?_
    refine lv_istore_n (lv' := [(2, .int 0), (1, .int 0), (0, .ref (q 0))]) hx hb d_N_archive_15 rfl hl (by decide) rfl (fun ls hl => ?_)
    obtain ⟨e16, hwp⟩ := hwp
    refine L16 _  e16 (0) (0) (A) (G) _ _ _ (lv_sub hl [2, 1, 0] rfl) hP hS hwp (fun x4 A5 G6 H locs ls hl hP hS hwp => ?_)
    refine lv_aload_n hx hb d_N_archive_55 rfl (lv_at hl 0 rfl) ?_
    refine va_get (D := (dC, dI)) (ci := 0) (v := .ref (q 5)) (C := R_N) (T := F_N) (N := 7) hx hb hts hiN hown hK hP 0 rfl rfl 4 (by decide) lk40 (fun _ h9 => h9) rfl d_N_archive_56 ?_
    refine ncn_v (As := []) (c_G_empty hq (A5) (D) (G6) (K) (N) (P) (T)  _ hwp) (cwV 0 hts g_N_151 rfl rfl rfl hd_G_empty ⟨Nat.le_of_ble_eq_true rfl, Nat.le_of_ble_eq_true rfl⟩) hx hb hml hown hts hK hP hS hl.1 d_N_archive_59 (va_recv (q := (R_G, F_G, 12)) hK hP (ci := 5) (q0 := 5) rfl rfl) rfl (lv_room (Nat.le_of_ble_eq_true rfl)) (Nat.zero_le _) (Nat.zero_le _) rfl (fun G7 H locs hwp hP hS => ?_)
    have hP : va_P (dC, dI) clZ (wN cI cL cZ q A5 D G7 K N P T) H := hP
    refine lv_iload_n hx hb d_N_archive_62 rfl (lv_at hl 1 rfl) ?_
    rw [hQ]
    exact W.iret (v := x4) hx hb hr (fun t ht hW => ⟨⟨x4, (A5, G7), rfl, hwp, hp_of ht hP⟩, hS.F ht⟩) hS.2.2 d_N_archive_63
  · rw [if_neg hc] at hwp
    refine lv_iconst (v := (-1)) hx hb d_N_archive_10 (by decide) ?_
    rw [hQ]
    exact W.iret (v := (-1)) hx hb hr (fun t ht hW => ⟨⟨(-1), (A, G), rfl, hwp, hp_of ht hP⟩, hS.F ht⟩) hS.2.2 d_N_archive_11

set_option maxHeartbeats 4000000 in
set_option maxRecDepth 100000 in
theorem c_N_redo {l : Launch} {dC : Nat → ClassId} {dI : Nat → Nat → Nat} {cI cL cZ : ClassId} {q : Nat → Nat} (hq : iN q) (A : S_A) (D : S_D) (G : S_G) (K : S_K) (N : S_N) (P : S_P) (T : S_T) (a1 : Int32) (post : S_A → S_G → Prop) (hwp : wp_N_redo A G a1 post) : Met l y_N_redo ws_N_redo rm_N_redo (va_Pc [.ref (q 0), .int a1] (bN dC dI cI cL cZ q A D G K N P T)) (va_Qv (fun (u : S_A × S_G) => post u.1 u.2) (fun u t => va_P (dC, dI) clZ (wN cI cL cZ q (u.1) D (u.2) K N P T) t.heap) (aN q)) 0 0 (aN q) := by
  refine Met.ofW (cc := b_N_redo) (maxL := 4) (ret := none) (by decide) rfl ?_
  intro p e s m args below meth c s₁ B hml hv
  obtain ⟨rfl, hP, hK⟩ := hv
  have hx := B.exec
  have hb := B.bytes
  have hr := B.returns
  have hts := atoms_spec (ws := ws_N_redo) B.pre
  have hown : s.vm.findClass R_N = some m.cls := findClass_of_methodNamed B.named
  have hlocks := B.notSynchronized
  have hiN : ∀ w ∈ u_ws R_N F_N 7, w ∈ ws_N_redo := fun w h => List.mem_cons_of_mem _ (in_N w h)
  have hiG : ∀ w ∈ u_ws R_G F_G 12, w ∈ ws_N_redo := fun w h => List.mem_cons_of_mem _ (in_G w h)
  have hiA : ∀ w ∈ u_ws R_A F_A 10, w ∈ ws_N_redo := fun w h => List.mem_cons_of_mem _ (in_A w h)
  have lk40 := hts _ (List.mem_cons_of_mem _ k_N_40)
  have lk58 := hts _ (List.mem_cons_of_mem _ k_N_58)
  have lk194 := hts _ (List.mem_cons_of_mem _ k_N_194)
  have lk207 := hts _ (List.mem_cons_of_mem _ k_N_207)
  have lk210 := hts _ (List.mem_cons_of_mem _ k_N_210)
  have lk240 := hts _ (List.mem_cons_of_mem _ k_N_240)
  have hS : va_S (aN q) s.heap s.heap [] := va_S.rf
  have hl := lv_entry ([.ref (q 0), .int a1]) (n := 4) (Nat.le_of_ble_eq_true rfl)
  rw [lg_entry_eq]
  generalize (lg_sl ([.ref (q 0), .int a1]) ++ List.replicate (4 - (lg_sl ([.ref (q 0), .int a1])).length) Slot.unset).toArray = ls at hl ⊢
  have hl : lv_has ls 4 [(0, .ref (q 0)), (1, .int a1)] := hl
  obtain ⟨Q, hQ⟩ : ∃ Q, Q = MQ below (va_Qv (fun (u : S_A × S_G) => post u.1 u.2) (fun u t => va_P (dC, dI) clZ (wN cI cL cZ q (u.1) D (u.2) K N P T) t.heap) (aN q)) ([.ref (q 0), .int a1]).toArray s 0 0 (aN q) := ⟨_, rfl⟩
  rw [← hQ]
  rw [wp_N_redo] at hwp
  refine lv_aload_n hx hb d_N_redo_0 rfl (lv_at hl 0 rfl) ?_
  refine va_get (D := (dC, dI)) (ci := 0) (v := .ref (q 5)) (C := R_N) (T := F_N) (N := 7) hx hb hts hiN hown hK hP 0 rfl rfl 4 (by decide) lk40 (fun _ h9 => h9) rfl d_N_redo_1 ?_
  refine va_get (D := (dC, dI)) (ci := 5) (v := .ref (q 23)) (C := R_G) (T := F_G) (N := 12) hx hb hts hiG hown hK hP 5 rfl rfl 5 (by decide) lk194 (fun _ h9 => h9) rfl d_N_redo_4 ?_
  refine lv_iload_n hx hb d_N_redo_7 rfl (lv_at hl 1 rfl) ?_
  refine va_iald hx hb hK hP 23 0 rfl rfl hwp.1 d_N_redo_8 ?_
  have hwp := hwp.2
  refine lv_istore_n (lv' := [(2, .int ((G_subject G) (Int32.toNatClampNeg a1))), (0, .ref (q 0)), (1, .int a1)]) hx hb d_N_redo_9 rfl hl (by decide) rfl (fun ls hl => ?_)
  refine lv_iload_n hx hb d_N_redo_10 rfl (lv_at hl 0 rfl) ?_
  refine lv_iconst (v := 4) hx hb d_N_redo_11 (by decide) ?_
  refine lv_idiv hx hb d_N_redo_12 (by decide) ?_
  refine lv_istore_n (lv' := [(3, .int (((G_subject G) (Int32.toNatClampNeg a1)) / 4)), (2, .int ((G_subject G) (Int32.toNatClampNeg a1))), (0, .ref (q 0)), (1, .int a1)]) hx hb d_N_redo_13 rfl hl (by decide) rfl (fun ls hl => ?_)
  refine lv_aload_n hx hb d_N_redo_14 rfl (lv_at hl 2 rfl) ?_
  refine va_get (D := (dC, dI)) (ci := 0) (v := .ref (q 6)) (C := R_N) (T := F_N) (N := 7) hx hb hts hiN hown hK hP 0 rfl rfl 5 (by decide) lk58 (fun _ h9 => h9) rfl d_N_redo_15 ?_
  refine lv_iload_n hx hb d_N_redo_18 rfl (lv_at hl 0 rfl) ?_
  refine lv_aload_n hx hb d_N_redo_19 rfl (lv_at hl 2 rfl) ?_
  refine va_get (D := (dC, dI)) (ci := 0) (v := .ref (q 5)) (C := R_N) (T := F_N) (N := 7) hx hb hts hiN hown hK hP 0 rfl rfl 4 (by decide) lk40 (fun _ h9 => h9) rfl d_N_redo_20 ?_
  refine ncn_v (As := [.int (((G_subject G) (Int32.toNatClampNeg a1)) / 4), .ref (q 5)]) (c_A_touch hq (A) (D) (G) (K) (N) (P) (T) ((((G_subject G) (Int32.toNatClampNeg a1)) / 4)) _ hwp) (cwV 2 hts g_N_296 rfl rfl rfl hd_A_touch ⟨Nat.le_of_ble_eq_true rfl, Nat.le_of_ble_eq_true rfl⟩) hx hb hml hown hts hK hP hS hl.1 d_N_redo_23 (va_recv (q := (R_A, F_A, 10)) hK hP (ci := 6) (q0 := 6) rfl rfl) rfl (lv_room (Nat.le_of_ble_eq_true rfl)) (Nat.zero_le _) (Nat.zero_le _) rfl (fun u H locs hwp hP hS => ?_)
  obtain ⟨A1, G2⟩ := u
  have hP : va_P (dC, dI) clZ (wN cI cL cZ q A1 D G2 K N P T) H := hP
  refine lv_aload_n hx hb d_N_redo_26 rfl (lv_at hl 2 rfl) ?_
  refine va_get (D := (dC, dI)) (ci := 0) (v := .ref (q 6)) (C := R_N) (T := F_N) (N := 7) hx hb hts hiN hown hK hP 0 rfl rfl 5 (by decide) lk58 (fun _ h9 => h9) rfl d_N_redo_27 ?_
  refine va_get (D := (dC, dI)) (ci := 6) (v := .ref (q 32)) (C := R_A) (T := F_A) (N := 10) hx hb hts hiA hown hK hP 6 rfl rfl 4 (by decide) lk240 (fun _ h9 => h9) rfl d_N_redo_30 ?_
  refine lv_iload_n hx hb d_N_redo_33 rfl (lv_at hl 0 rfl) ?_
  refine va_iald hx hb hK hP 32 0 rfl rfl hwp.1 d_N_redo_34 ?_
  have hwp := hwp.2
  refine lv_aload_n hx hb d_N_redo_35 rfl (lv_at hl 2 rfl) ?_
  refine va_get (D := (dC, dI)) (ci := 0) (v := .ref (q 5)) (C := R_N) (T := F_N) (N := 7) hx hb hts hiN hown hK hP 0 rfl rfl 4 (by decide) lk40 (fun _ h9 => h9) rfl d_N_redo_36 ?_
  refine lv_iload_n hx hb d_N_redo_39 rfl (lv_at hl 3 rfl) ?_
  refine ncn_i (As := [.int a1]) (c_G_lsnOf hq (A1) (D) (G2) (K) (N) (P) (T) (a1) _ hwp) (cwV 1 hts g_N_314 rfl rfl rfl hd_G_lsnOf ⟨Nat.le_of_ble_eq_true rfl, Nat.le_of_ble_eq_true rfl⟩) hx hb hml hown hts hK hP hS hl.1 d_N_redo_40 (va_recv (q := (R_G, F_G, 12)) hK hP (ci := 5) (q0 := 5) rfl rfl) rfl (lv_room (Nat.le_of_ble_eq_true rfl)) (Nat.zero_le _) (Nat.zero_le _) rfl (fun r3 u H locs hwp hP hS => ?_)
  have hP : va_P (dC, dI) clZ (wN cI cL cZ q A1 D G2 K N P T) H := hP
  refine lv_icmp_ge (tgt := 80) hx hb d_N_redo_43 (by decide) (fun hc => ?_) (fun hc => ?_)
  · rw [if_pos hc] at hwp
    rw [hQ]
    exact W.vret hx hb hr (fun t ht hW => ⟨⟨(A1, G2), rfl, hwp, hp_of ht hP⟩, hS.F ht⟩) hS.2.2 d_N_redo_80
  · rw [if_neg hc] at hwp
    refine lv_aload_n hx hb d_N_redo_46 rfl (lv_at hl 2 rfl) ?_
    refine va_get (D := (dC, dI)) (ci := 0) (v := .ref (q 6)) (C := R_N) (T := F_N) (N := 7) hx hb hts hiN hown hK hP 0 rfl rfl 5 (by decide) lk58 (fun _ h9 => h9) rfl d_N_redo_47 ?_
    refine lv_iload_n hx hb d_N_redo_50 rfl (lv_at hl 1 rfl) ?_
    refine lv_aload_n hx hb d_N_redo_51 rfl (lv_at hl 2 rfl) ?_
    refine va_get (D := (dC, dI)) (ci := 0) (v := .ref (q 5)) (C := R_N) (T := F_N) (N := 7) hx hb hts hiN hown hK hP 0 rfl rfl 4 (by decide) lk40 (fun _ h9 => h9) rfl d_N_redo_52 ?_
    refine va_get (D := (dC, dI)) (ci := 5) (v := .ref (q 26)) (C := R_G) (T := F_G) (N := 12) hx hb hts hiG hown hK hP 5 rfl rfl 8 (by decide) lk207 (fun _ h9 => h9) rfl d_N_redo_55 ?_
    refine lv_iload_n hx hb d_N_redo_58 rfl (lv_at hl 3 rfl) ?_
    refine va_zald hx hb hK hP 26 2 rfl rfl hwp.1 d_N_redo_59 ?_
    have hwp := hwp.2
    refine lv_aload_n hx hb d_N_redo_60 rfl (lv_at hl 2 rfl) ?_
    refine va_get (D := (dC, dI)) (ci := 0) (v := .ref (q 5)) (C := R_N) (T := F_N) (N := 7) hx hb hts hiN hown hK hP 0 rfl rfl 4 (by decide) lk40 (fun _ h9 => h9) rfl d_N_redo_61 ?_
    refine va_get (D := (dC, dI)) (ci := 5) (v := .ref (q 27)) (C := R_G) (T := F_G) (N := 12) hx hb hts hiG hown hK hP 5 rfl rfl 9 (by decide) lk210 (fun _ h9 => h9) rfl d_N_redo_64 ?_
    refine lv_iload_n hx hb d_N_redo_67 rfl (lv_at hl 3 rfl) ?_
    refine va_iald hx hb hK hP 27 0 rfl rfl hwp.1 d_N_redo_68 ?_
    have hwp := hwp.2
    refine lv_aload_n hx hb d_N_redo_69 rfl (lv_at hl 2 rfl) ?_
    refine va_get (D := (dC, dI)) (ci := 0) (v := .ref (q 5)) (C := R_N) (T := F_N) (N := 7) hx hb hts hiN hown hK hP 0 rfl rfl 4 (by decide) lk40 (fun _ h9 => h9) rfl d_N_redo_70 ?_
    refine lv_iload_n hx hb d_N_redo_73 rfl (lv_at hl 3 rfl) ?_
    refine ncn_i (As := [.int a1]) (c_G_lsnOf hq (A1) (D) (G2) (K) (N) (P) (T) (a1) _ hwp) (cwV 1 hts g_N_314 rfl rfl rfl hd_G_lsnOf ⟨Nat.le_of_ble_eq_true rfl, Nat.le_of_ble_eq_true rfl⟩) hx hb hml hown hts hK hP hS hl.1 d_N_redo_74 (va_recv (q := (R_G, F_G, 12)) hK hP (ci := 5) (q0 := 5) rfl rfl) rfl (lv_room (Nat.le_of_ble_eq_true rfl)) (Nat.zero_le _) (Nat.zero_le _) rfl (fun r4 u H locs hwp hP hS => ?_)
    have hP : va_P (dC, dI) clZ (wN cI cL cZ q A1 D G2 K N P T) H := hP
    refine ncn_v (As := [.int ((G_subject G) (Int32.toNatClampNeg a1)), .int ((G_isThere G2) (Int32.toNatClampNeg a1)), .int ((G_newValue G2) (Int32.toNatClampNeg a1)), .int r4]) (c_A_change hq (A1) (D) (G2) (K) (N) (P) (T) (((G_subject G) (Int32.toNatClampNeg a1))) (((G_isThere G2) (Int32.toNatClampNeg a1))) (((G_newValue G2) (Int32.toNatClampNeg a1))) (r4) _ hwp) (cwV 4 hts g_N_317 rfl rfl rfl hd_A_change ⟨Nat.le_of_ble_eq_true rfl, Nat.le_of_ble_eq_true rfl⟩) hx hb hml hown hts hK hP hS hl.1 d_N_redo_77 (va_recv (q := (R_A, F_A, 10)) hK hP (ci := 6) (q0 := 6) rfl rfl) rfl (lv_room (Nat.le_of_ble_eq_true rfl)) (Nat.zero_le _) (Nat.zero_le _) rfl (fun A5 H locs hwp hP hS => ?_)
    have hP : va_P (dC, dI) clZ (wN cI cL cZ q A5 D G2 K N P T) H := hP
    rw [hQ]
    exact W.vret hx hb hr (fun t ht hW => ⟨⟨(A5, G2), rfl, hwp, hp_of ht hP⟩, hS.F ht⟩) hS.2.2 d_N_redo_80

set_option maxHeartbeats 4000000 in
set_option maxRecDepth 100000 in
theorem c_N_redoLog {l : Launch} {dC : Nat → ClassId} {dI : Nat → Nat → Nat} {cI cL cZ : ClassId} {q : Nat → Nat} (hq : iN q) (A : S_A) (D : S_D) (G : S_G) (K : S_K) (N : S_N) (P : S_P) (T : S_T)  (post : S_A → S_G → Prop) (hwp : wp_N_redoLog A G post) : Met l y_N_redoLog ws_N_redoLog rm_N_redoLog (va_Pc [.ref (q 0)] (bN dC dI cI cL cZ q A D G K N P T)) (va_Qv (fun (u : S_A × S_G) => post u.1 u.2) (fun u t => va_P (dC, dI) clZ (wN cI cL cZ q (u.1) D (u.2) K N P T) t.heap) (aN q)) 0 0 (aN q) := by
  refine Met.ofW (cc := b_N_redoLog) (maxL := 2) (ret := none) (by decide) rfl ?_
  intro p e s m args below meth c s₁ B hml hv
  obtain ⟨rfl, hP, hK⟩ := hv
  have hx := B.exec
  have hb := B.bytes
  have hr := B.returns
  have hts := atoms_spec (ws := ws_N_redoLog) B.pre
  have hown : s.vm.findClass R_N = some m.cls := findClass_of_methodNamed B.named
  have hlocks := B.notSynchronized
  have hiN : ∀ w ∈ u_ws R_N F_N 7, w ∈ ws_N_redoLog := fun w h => List.mem_cons_of_mem _ (in_N w h)
  have hiG : ∀ w ∈ u_ws R_G F_G 12, w ∈ ws_N_redoLog := fun w h => List.mem_cons_of_mem _ (in_G w h)
  have lk40 := hts _ (List.mem_cons_of_mem _ k_N_40)
  have lk188 := hts _ (List.mem_cons_of_mem _ k_N_188)
  have lk213 := hts _ (List.mem_cons_of_mem _ k_N_213)
  have hS : va_S (aN q) s.heap s.heap [] := va_S.rf
  have hl := lv_entry ([.ref (q 0)]) (n := 2) (Nat.le_of_ble_eq_true rfl)
  rw [lg_entry_eq]
  generalize (lg_sl ([.ref (q 0)]) ++ List.replicate (2 - (lg_sl ([.ref (q 0)])).length) Slot.unset).toArray = ls at hl ⊢
  have hl : lv_has ls 2 [(0, .ref (q 0))] := hl
  obtain ⟨Q, hQ⟩ : ∃ Q, Q = MQ below (va_Qv (fun (u : S_A × S_G) => post u.1 u.2) (fun u t => va_P (dC, dI) clZ (wN cI cL cZ q (u.1) D (u.2) K N P T) t.heap) (aN q)) ([.ref (q 0)]).toArray s 0 0 (aN q) := ⟨_, rfl⟩
  rw [← hQ]
  have L2 : ∀ (Kx : S_A → S_G → Prop) (n : Nat) (v1 : Int32) (A : S_A) (G : S_G) (H : Heap) (locs : List Loc) (ls : Array Slot), lv_has ls 2 [(0, .ref (q 0)), (1, .int v1)] → va_P (dC, dI) clZ (wN cI cL cZ q A D G K N P T) H → va_S (aN q) s.heap H locs → wp_N_redoLog_L2 Kx n v1 A G → (∀ (A1 : S_A) (G1 : S_G) (H : Heap) (locs : List Loc) (ls : Array Slot), lv_has ls 2 [] → va_P (dC, dI) clZ (wN cI cL cZ q A1 D G1 K N P T) H → va_S (aN q) s.heap H locs → Kx A1 G1 → W p l e (headSpec ws_N_redoLog rm_N_redoLog).room s m ([.ref (q 0)]).toArray below meth c H locs 0 0 Q (F0 m 50 ls [])) → W p l e (headSpec ws_N_redoLog rm_N_redoLog).room s m ([.ref (q 0)]).toArray below meth c H locs 0 0 Q (F0 m 2 ls []) := by
    intro Kx  n
    induction n with
    | zero =>
      intros
      rename_i hwp _
      exact hwp.elim
    | succ n2 ih =>
      intro v1 A G H locs ls hl hP hS hwp hX
      rw [wp_N_redoLog_L2] at hwp
      refine lv_iload_n hx hb d_N_redoLog_2 rfl (lv_at hl 1 rfl) ?_
      refine lv_aload_n hx hb d_N_redoLog_3 rfl (lv_at hl 0 rfl) ?_
      refine va_get (D := (dC, dI)) (ci := 0) (v := .ref (q 5)) (C := R_N) (T := F_N) (N := 7) hx hb hts hiN hown hK hP 0 rfl rfl 4 (by decide) lk40 (fun _ h9 => h9) rfl d_N_redoLog_4 ?_
      refine va_get (D := (dC, dI)) (ci := 5) (v := .int (G_size G)) (C := R_G) (T := F_G) (N := 12) hx hb hts hiG hown hK hP 5 rfl rfl 1 (by decide) lk213 (fun _ h9 => h9) rfl d_N_redoLog_7 ?_
      refine lv_icmp_ge (tgt := 50) hx hb d_N_redoLog_10 (by decide) (fun hc => ?_) (fun hc => ?_)
      · rw [if_pos hc] at hwp
        exact hX (A) (G) _ _ _ (lv_sub hl [] rfl) hP hS hwp
      · rw [if_neg hc] at hwp
        refine lv_aload_n hx hb d_N_redoLog_13 rfl (lv_at hl 0 rfl) ?_
        refine va_get (D := (dC, dI)) (ci := 0) (v := .ref (q 5)) (C := R_N) (T := F_N) (N := 7) hx hb hts hiN hown hK hP 0 rfl rfl 4 (by decide) lk40 (fun _ h9 => h9) rfl d_N_redoLog_14 ?_
        refine va_get (D := (dC, dI)) (ci := 5) (v := .ref (q 21)) (C := R_G) (T := F_G) (N := 12) hx hb hts hiG hown hK hP 5 rfl rfl 3 (by decide) lk188 (fun _ h9 => h9) rfl d_N_redoLog_17 ?_
        refine lv_iload_n hx hb d_N_redoLog_20 rfl (lv_at hl 1 rfl) ?_
        refine va_iald hx hb hK hP 21 0 rfl rfl hwp.1 d_N_redoLog_21 ?_
        have hwp := hwp.2
        refine lv_iconst (v := 2) hx hb d_N_redoLog_22 (by decide) ?_
        refine lv_icmp_eq (tgt := 39) hx hb d_N_redoLog_23 (by decide) (fun hc => ?_) (fun hc => ?_)
        · rw [if_pos hc] at hwp
          refine lv_aload_n hx hb d_N_redoLog_39 rfl (lv_at hl 0 rfl) ?_
          refine lv_iload_n hx hb d_N_redoLog_40 rfl (lv_at hl 1 rfl) ?_
          refine ncn_v (As := [.int v1]) (c_N_redo hq (A) (D) (G) (K) (N) (P) (T) (v1) _ hwp) (cwV 1 hts g_N_352 rfl rfl rfl hd_N_redo ⟨Nat.le_of_ble_eq_true rfl, Nat.le_of_ble_eq_true rfl⟩) hx hb hml hown hts hK hP hS hl.1 d_N_redoLog_41 (va_recv (q := (R_N, F_N, 7)) hK hP (ci := 0) (q0 := 0) rfl rfl) rfl (lv_room (Nat.le_of_ble_eq_true rfl)) (Nat.zero_le _) (Nat.zero_le _) rfl (fun u H locs hwp hP hS => ?_)
          obtain ⟨A1, G2⟩ := u
          have hP : va_P (dC, dI) clZ (wN cI cL cZ q A1 D G2 K N P T) H := hP
          refine lv_iinc (k := 1) (v := (v1 + 1)) (lv' := [(1, .int (v1 + 1)), (0, .ref (q 0))]) hx hb d_N_redoLog_44 hl rfl (ii_1 _) (by decide) rfl (fun ls hl => ?_)
          refine lv_goto hx hb d_N_redoLog_47 (tgt := 2) (by decide) ?_
          exact ih ((v1 + 1)) (A1) (G2) _ _ _ (lv_sub hl [1, 0] rfl) hP hS hwp hX
        · rw [if_neg hc] at hwp
          refine lv_aload_n hx hb d_N_redoLog_26 rfl (lv_at hl 0 rfl) ?_
          refine va_get (D := (dC, dI)) (ci := 0) (v := .ref (q 5)) (C := R_N) (T := F_N) (N := 7) hx hb hts hiN hown hK hP 0 rfl rfl 4 (by decide) lk40 (fun _ h9 => h9) rfl d_N_redoLog_27 ?_
          refine va_get (D := (dC, dI)) (ci := 5) (v := .ref (q 21)) (C := R_G) (T := F_G) (N := 12) hx hb hts hiG hown hK hP 5 rfl rfl 3 (by decide) lk188 (fun _ h9 => h9) rfl d_N_redoLog_30 ?_
          refine lv_iload_n hx hb d_N_redoLog_33 rfl (lv_at hl 1 rfl) ?_
          refine va_iald hx hb hK hP 21 0 rfl rfl hwp.1 d_N_redoLog_34 ?_
          have hwp := hwp.2
          refine lv_iconst (v := 3) hx hb d_N_redoLog_35 (by decide) ?_
          refine lv_icmp_ne (tgt := 44) hx hb d_N_redoLog_36 (by decide) (fun hc => ?_) (fun hc => ?_)
          · rw [if_neg hc] at hwp
            refine lv_iinc (k := 1) (v := (v1 + 1)) (lv' := [(1, .int (v1 + 1)), (0, .ref (q 0))]) hx hb d_N_redoLog_44 hl rfl (ii_1 _) (by decide) rfl (fun ls hl => ?_)
            refine lv_goto hx hb d_N_redoLog_47 (tgt := 2) (by decide) ?_
            exact ih ((v1 + 1)) (A) (G) _ _ _ (lv_sub hl [1, 0] rfl) hP hS hwp hX
          · rw [if_pos hc] at hwp
            refine lv_aload_n hx hb d_N_redoLog_39 rfl (lv_at hl 0 rfl) ?_
            refine lv_iload_n hx hb d_N_redoLog_40 rfl (lv_at hl 1 rfl) ?_
            refine ncn_v (As := [.int v1]) (c_N_redo hq (A) (D) (G) (K) (N) (P) (T) (v1) _ hwp) (cwV 1 hts g_N_352 rfl rfl rfl hd_N_redo ⟨Nat.le_of_ble_eq_true rfl, Nat.le_of_ble_eq_true rfl⟩) hx hb hml hown hts hK hP hS hl.1 d_N_redoLog_41 (va_recv (q := (R_N, F_N, 7)) hK hP (ci := 0) (q0 := 0) rfl rfl) rfl (lv_room (Nat.le_of_ble_eq_true rfl)) (Nat.zero_le _) (Nat.zero_le _) rfl (fun u H locs hwp hP hS => ?_)
            obtain ⟨A3, G4⟩ := u
            have hP : va_P (dC, dI) clZ (wN cI cL cZ q A3 D G4 K N P T) H := hP
            refine lv_iinc (k := 1) (v := (v1 + 1)) (lv' := [(1, .int (v1 + 1)), (0, .ref (q 0))]) hx hb d_N_redoLog_44 hl rfl (ii_1 _) (by decide) rfl (fun ls hl => ?_)
            refine lv_goto hx hb d_N_redoLog_47 (tgt := 2) (by decide) ?_
            exact ih ((v1 + 1)) (A3) (G4) _ _ _ (lv_sub hl [1, 0] rfl) hP hS hwp hX
  rw [wp_N_redoLog] at hwp
  refine lv_iconst (v := 0) hx hb d_N_redoLog_0 (by decide) ?_
  refine lv_istore_n (lv' := [(1, .int 0), (0, .ref (q 0))]) hx hb d_N_redoLog_1 rfl hl (by decide) rfl (fun ls hl => ?_)
  obtain ⟨e2, hwp⟩ := hwp
  refine L2 _  e2 (0) (A) (G) _ _ _ (lv_sub hl [1, 0] rfl) hP hS hwp (fun A5 G6 H locs ls hl hP hS hwp => ?_)
  rw [hQ]
  exact W.vret hx hb hr (fun t ht hW => ⟨⟨(A5, G6), rfl, hwp, hp_of ht hP⟩, hS.F ht⟩) hS.2.2 d_N_redoLog_50

set_option maxHeartbeats 4000000 in
set_option maxRecDepth 100000 in
theorem c_N_undoUncommitted {l : Launch} {dC : Nat → ClassId} {dI : Nat → Nat → Nat} {cI cL cZ : ClassId} {q : Nat → Nat} (hq : iN q) (A : S_A) (D : S_D) (G : S_G) (K : S_K) (N : S_N) (P : S_P) (T : S_T)  (post : Int32 → S_A → S_G → Prop) (hwp : wp_N_undoUncommitted A G T post) : Met l y_N_undoUncommitted ws_N_undoUncommitted rm_N_undoUncommitted (va_Pc [.ref (q 0)] (bN dC dI cI cL cZ q A D G K N P T)) (va_Qi (fun (r : Int32) (u : S_A × S_G) => post r u.1 u.2) (fun u t => va_P (dC, dI) clZ (wN cI cL cZ q (u.1) D (u.2) K N P T) t.heap) (aN q)) 0 0 (aN q) := by
  refine Met.ofW (cc := b_N_undoUncommitted) (maxL := 4) (ret := (some .int)) (by decide) rfl ?_
  intro p e s m args below meth c s₁ B hml hv
  obtain ⟨rfl, hP, hK⟩ := hv
  have hx := B.exec
  have hb := B.bytes
  have hr := B.returns
  have hts := atoms_spec (ws := ws_N_undoUncommitted) B.pre
  have hown : s.vm.findClass R_N = some m.cls := findClass_of_methodNamed B.named
  have hlocks := B.notSynchronized
  have hiN : ∀ w ∈ u_ws R_N F_N 7, w ∈ ws_N_undoUncommitted := fun w h => List.mem_cons_of_mem _ (in_N w h)
  have hiG : ∀ w ∈ u_ws R_G F_G 12, w ∈ ws_N_undoUncommitted := fun w h => List.mem_cons_of_mem _ (in_G w h)
  have hiT : ∀ w ∈ u_ws R_T F_T 11, w ∈ ws_N_undoUncommitted := fun w h => List.mem_cons_of_mem _ (in_T w h)
  have lk12 := hts _ (List.mem_cons_of_mem _ k_N_12)
  have lk40 := hts _ (List.mem_cons_of_mem _ k_N_40)
  have lk106 := hts _ (List.mem_cons_of_mem _ k_N_106)
  have lk188 := hts _ (List.mem_cons_of_mem _ k_N_188)
  have lk191 := hts _ (List.mem_cons_of_mem _ k_N_191)
  have lk213 := hts _ (List.mem_cons_of_mem _ k_N_213)
  have lk324 := hts _ (List.mem_cons_of_mem _ k_N_324)
  have lk355 := hts _ (List.mem_cons_of_mem _ k_N_355)
  have hS : va_S (aN q) s.heap s.heap [] := va_S.rf
  have hl := lv_entry ([.ref (q 0)]) (n := 4) (Nat.le_of_ble_eq_true rfl)
  rw [lg_entry_eq]
  generalize (lg_sl ([.ref (q 0)]) ++ List.replicate (4 - (lg_sl ([.ref (q 0)])).length) Slot.unset).toArray = ls at hl ⊢
  have hl : lv_has ls 4 [(0, .ref (q 0))] := hl
  obtain ⟨Q, hQ⟩ : ∃ Q, Q = MQ below (va_Qi (fun (r : Int32) (u : S_A × S_G) => post r u.1 u.2) (fun u t => va_P (dC, dI) clZ (wN cI cL cZ q (u.1) D (u.2) K N P T) t.heap) (aN q)) ([.ref (q 0)]).toArray s 0 0 (aN q) := ⟨_, rfl⟩
  rw [← hQ]
  have L12 : ∀ (Kx : Int32 → S_A → S_G → Prop) (n : Nat) (v1 : Int32) (v2 : Int32) (A : S_A) (G : S_G) (H : Heap) (locs : List Loc) (ls : Array Slot), lv_has ls 4 [(0, .ref (q 0)), (1, .int v1), (2, .int v2)] → va_P (dC, dI) clZ (wN cI cL cZ q A D G K N P T) H → va_S (aN q) s.heap H locs → wp_N_undoUncommitted_L12 T Kx n v1 v2 A G → (∀ (x1 : Int32) (A1 : S_A) (G1 : S_G) (H : Heap) (locs : List Loc) (ls : Array Slot), lv_has ls 4 [(1, .int x1)] → va_P (dC, dI) clZ (wN cI cL cZ q A1 D G1 K N P T) H → va_S (aN q) s.heap H locs → Kx x1 A1 G1 → W p l e (headSpec ws_N_undoUncommitted rm_N_undoUncommitted).room s m ([.ref (q 0)]).toArray below meth c H locs 0 0 Q (F0 m 87 ls [])) → W p l e (headSpec ws_N_undoUncommitted rm_N_undoUncommitted).room s m ([.ref (q 0)]).toArray below meth c H locs 0 0 Q (F0 m 12 ls []) := by
    intro Kx  n
    induction n with
    | zero =>
      intros
      rename_i hwp _
      exact hwp.elim
    | succ n12 ih =>
      intro v1 v2 A G H locs ls hl hP hS hwp hX
      rw [wp_N_undoUncommitted_L12] at hwp
      refine lv_iload_n hx hb d_N_undoUncommitted_12 rfl (lv_at hl 2 rfl) ?_
      refine lv_if_lt (tgt := 87) hx hb d_N_undoUncommitted_13 (by decide) (fun hc => ?_) (fun hc => ?_)
      · rw [if_pos hc] at hwp
        exact hX (v1) (A) (G) _ _ _ (lv_sub hl [1] rfl) hP hS hwp
      · rw [if_neg hc] at hwp
        refine lv_aload_n hx hb d_N_undoUncommitted_16 rfl (lv_at hl 0 rfl) ?_
        refine va_get (D := (dC, dI)) (ci := 0) (v := .ref (q 1)) (C := R_N) (T := F_N) (N := 7) hx hb hts hiN hown hK hP 0 rfl rfl 0 (by decide) lk12 (fun _ h9 => h9) rfl d_N_undoUncommitted_17 ?_
        refine va_get (D := (dC, dI)) (ci := 1) (v := .ref (q 8)) (C := R_T) (T := F_T) (N := 11) hx hb hts hiT hown hK hP 1 rfl rfl 2 (by decide) lk355 (fun _ h9 => h9) rfl d_N_undoUncommitted_20 ?_
        refine lv_aload_n hx hb d_N_undoUncommitted_23 rfl (lv_at hl 0 rfl) ?_
        refine va_get (D := (dC, dI)) (ci := 0) (v := .ref (q 5)) (C := R_N) (T := F_N) (N := 7) hx hb hts hiN hown hK hP 0 rfl rfl 4 (by decide) lk40 (fun _ h9 => h9) rfl d_N_undoUncommitted_24 ?_
        refine va_get (D := (dC, dI)) (ci := 5) (v := .ref (q 22)) (C := R_G) (T := F_G) (N := 12) hx hb hts hiG hown hK hP 5 rfl rfl 4 (by decide) lk191 (fun _ h9 => h9) rfl d_N_undoUncommitted_27 ?_
        refine lv_iload_n hx hb d_N_undoUncommitted_30 rfl (lv_at hl 2 rfl) ?_
        refine va_iald hx hb hK hP 22 0 rfl rfl hwp.1 d_N_undoUncommitted_31 ?_
        have hwp := hwp.2
        refine va_iald hx hb hK hP 8 0 rfl rfl hwp.1 d_N_undoUncommitted_32 ?_
        have hwp := hwp.2
        refine lv_istore_n (lv' := [(3, .int ((T_top T) (Int32.toNatClampNeg ((G_transaction G) (Int32.toNatClampNeg v2))))), (0, .ref (q 0)), (1, .int v1), (2, .int v2)]) hx hb d_N_undoUncommitted_33 rfl hl (by decide) rfl (fun ls hl => ?_)
        refine lv_aload_n hx hb d_N_undoUncommitted_34 rfl (lv_at hl 1 rfl) ?_
        refine va_get (D := (dC, dI)) (ci := 0) (v := .ref (q 5)) (C := R_N) (T := F_N) (N := 7) hx hb hts hiN hown hK hP 0 rfl rfl 4 (by decide) lk40 (fun _ h9 => h9) rfl d_N_undoUncommitted_35 ?_
        refine va_get (D := (dC, dI)) (ci := 5) (v := .ref (q 21)) (C := R_G) (T := F_G) (N := 12) hx hb hts hiG hown hK hP 5 rfl rfl 3 (by decide) lk188 (fun _ h9 => h9) rfl d_N_undoUncommitted_38 ?_
        refine lv_iload_n hx hb d_N_undoUncommitted_41 rfl (lv_at hl 3 rfl) ?_
        refine va_iald hx hb hK hP 21 0 rfl rfl hwp.1 d_N_undoUncommitted_42 ?_
        have hwp := hwp.2
        refine lv_iconst (v := 2) hx hb d_N_undoUncommitted_43 (by decide) ?_
        refine lv_icmp_ne (tgt := 81) hx hb d_N_undoUncommitted_44 (by decide) (fun hc => ?_) (fun hc => ?_)
        · rw [if_neg hc] at hwp
          refine lv_iinc (k := 3) (v := (v2 + (-1))) (lv' := [(2, .int (v2 + (-1))), (3, .int ((T_top T) (Int32.toNatClampNeg ((G_transaction G) (Int32.toNatClampNeg v2))))), (0, .ref (q 0)), (1, .int v1)]) hx hb d_N_undoUncommitted_81 hl rfl (ii_m1 _) (by decide) rfl (fun ls hl => ?_)
          refine lv_goto hx hb d_N_undoUncommitted_84 (tgt := 12) (by decide) ?_
          exact ih (v1) ((v2 + (-1))) (A) (G) _ _ _ (lv_sub hl [2, 3, 0] rfl) hP hS hwp hX
        · rw [if_pos hc] at hwp
          refine lv_aload_n hx hb d_N_undoUncommitted_47 rfl (lv_at hl 1 rfl) ?_
          refine va_get (D := (dC, dI)) (ci := 0) (v := .ref (q 5)) (C := R_N) (T := F_N) (N := 7) hx hb hts hiN hown hK hP 0 rfl rfl 4 (by decide) lk40 (fun _ h9 => h9) rfl d_N_undoUncommitted_48 ?_
          refine va_get (D := (dC, dI)) (ci := 5) (v := .ref (q 29)) (C := R_G) (T := F_G) (N := 12) hx hb hts hiG hown hK hP 5 rfl rfl 11 (by decide) lk324 (fun _ h9 => h9) rfl d_N_undoUncommitted_51 ?_
          refine lv_iload_n hx hb d_N_undoUncommitted_54 rfl (lv_at hl 3 rfl) ?_
          refine va_zald hx hb hK hP 29 2 rfl rfl hwp.1 d_N_undoUncommitted_55 ?_
          have hwp := hwp.2
          refine lv_if_ne (tgt := 81) hx hb d_N_undoUncommitted_56 (by decide) (fun hc => ?_) (fun hc => ?_)
          · rw [if_neg hc] at hwp
            refine lv_iinc (k := 3) (v := (v2 + (-1))) (lv' := [(2, .int (v2 + (-1))), (3, .int ((T_top T) (Int32.toNatClampNeg ((G_transaction G) (Int32.toNatClampNeg v2))))), (0, .ref (q 0)), (1, .int v1)]) hx hb d_N_undoUncommitted_81 hl rfl (ii_m1 _) (by decide) rfl (fun ls hl => ?_)
            refine lv_goto hx hb d_N_undoUncommitted_84 (tgt := 12) (by decide) ?_
            exact ih (v1) ((v2 + (-1))) (A) (G) _ _ _ (lv_sub hl [2, 3, 0] rfl) hP hS hwp hX
          · rw [if_pos hc] at hwp
            refine lv_aload_n hx hb d_N_undoUncommitted_59 rfl (lv_at hl 1 rfl) ?_
            refine va_get (D := (dC, dI)) (ci := 0) (v := .ref (q 1)) (C := R_N) (T := F_N) (N := 7) hx hb hts hiN hown hK hP 0 rfl rfl 0 (by decide) lk12 (fun _ h9 => h9) rfl d_N_undoUncommitted_60 ?_
            refine va_get (D := (dC, dI)) (ci := 1) (v := .ref (q 10)) (C := R_T) (T := F_T) (N := 11) hx hb hts hiT hown hK hP 1 rfl rfl 4 (by decide) lk106 (fun _ h9 => h9) rfl d_N_undoUncommitted_63 ?_
            refine lv_iload_n hx hb d_N_undoUncommitted_66 rfl (lv_at hl 0 rfl) ?_
            refine va_iald hx hb hK hP 10 0 rfl rfl hwp.1 d_N_undoUncommitted_67 ?_
            have hwp := hwp.2
            refine lv_iconst (v := 3) hx hb d_N_undoUncommitted_68 (by decide) ?_
            refine lv_icmp_eq (tgt := 81) hx hb d_N_undoUncommitted_69 (by decide) (fun hc => ?_) (fun hc => ?_)
            · rw [if_pos hc] at hwp
              refine lv_iinc (k := 3) (v := (v2 + (-1))) (lv' := [(2, .int (v2 + (-1))), (3, .int ((T_top T) (Int32.toNatClampNeg ((G_transaction G) (Int32.toNatClampNeg v2))))), (0, .ref (q 0)), (1, .int v1)]) hx hb d_N_undoUncommitted_81 hl rfl (ii_m1 _) (by decide) rfl (fun ls hl => ?_)
              refine lv_goto hx hb d_N_undoUncommitted_84 (tgt := 12) (by decide) ?_
              exact ih (v1) ((v2 + (-1))) (A) (G) _ _ _ (lv_sub hl [2, 3, 0] rfl) hP hS hwp hX
            · rw [if_neg hc] at hwp
              refine lv_aload_n hx hb d_N_undoUncommitted_72 rfl (lv_at hl 1 rfl) ?_
              refine lv_iload_n hx hb d_N_undoUncommitted_73 rfl (lv_at hl 3 rfl) ?_
              refine lv_iload_n hx hb d_N_undoUncommitted_74 rfl (lv_at hl 0 rfl) ?_
              refine ncn_v (As := [.int v2, .int ((T_top T) (Int32.toNatClampNeg ((G_transaction G) (Int32.toNatClampNeg v2))))]) (c_N_undo hq (A) (D) (G) (K) (N) (P) (T) (v2) (((T_top T) (Int32.toNatClampNeg ((G_transaction G) (Int32.toNatClampNeg v2))))) _ hwp) (cwV 2 hts g_N_337 rfl rfl rfl hd_N_undo ⟨Nat.le_of_ble_eq_true rfl, Nat.le_of_ble_eq_true rfl⟩) hx hb hml hown hts hK hP hS hl.1 d_N_undoUncommitted_75 (va_recv (q := (R_N, F_N, 7)) hK hP (ci := 0) (q0 := 0) rfl rfl) rfl (lv_room (Nat.le_of_ble_eq_true rfl)) (Nat.zero_le _) (Nat.zero_le _) rfl (fun u H locs hwp hP hS => ?_)
              obtain ⟨A1, G2⟩ := u
              have hP : va_P (dC, dI) clZ (wN cI cL cZ q A1 D G2 K N P T) H := hP
              refine lv_iinc (k := 2) (v := (v1 + 1)) (lv' := [(1, .int (v1 + 1)), (3, .int ((T_top T) (Int32.toNatClampNeg ((G_transaction G) (Int32.toNatClampNeg v2))))), (0, .ref (q 0)), (2, .int v2)]) hx hb d_N_undoUncommitted_78 hl rfl (ii_1 _) (by decide) rfl (fun ls hl => ?_)
              refine lv_iinc (k := 3) (v := (v2 + (-1))) (lv' := [(2, .int (v2 + (-1))), (1, .int (v1 + 1)), (3, .int ((T_top T) (Int32.toNatClampNeg ((G_transaction G) (Int32.toNatClampNeg v2))))), (0, .ref (q 0))]) hx hb d_N_undoUncommitted_81 hl rfl (ii_m1 _) (by decide) rfl (fun ls hl => ?_)
              refine lv_goto hx hb d_N_undoUncommitted_84 (tgt := 12) (by decide) ?_
              exact ih ((v1 + 1)) ((v2 + (-1))) (A1) (G2) _ _ _ (lv_sub hl [3, 1, 0] rfl) hP hS hwp hX
  rw [wp_N_undoUncommitted] at hwp
  refine lv_iconst (v := 0) hx hb d_N_undoUncommitted_0 (by decide) ?_
  refine lv_istore_n (lv' := [(1, .int 0), (0, .ref (q 0))]) hx hb d_N_undoUncommitted_1 rfl hl (by decide) rfl (fun ls hl => ?_)
  refine lv_aload_n hx hb d_N_undoUncommitted_2 rfl (lv_at hl 1 rfl) ?_
  refine va_get (D := (dC, dI)) (ci := 0) (v := .ref (q 5)) (C := R_N) (T := F_N) (N := 7) hx hb hts hiN hown hK hP 0 rfl rfl 4 (by decide) lk40 (fun _ h9 => h9) rfl d_N_undoUncommitted_3 ?_
  refine va_get (D := (dC, dI)) (ci := 5) (v := .int (G_size G)) (C := R_G) (T := F_G) (N := 12) hx hb hts hiG hown hK hP 5 rfl rfl 1 (by decide) lk213 (fun _ h9 => h9) rfl d_N_undoUncommitted_6 ?_
  refine lv_iconst (v := 1) hx hb d_N_undoUncommitted_9 (by decide) ?_
  refine lv_isub hx hb d_N_undoUncommitted_10 ?_
  refine lv_istore_n (lv' := [(2, .int ((G_size G) - 1)), (1, .int 0), (0, .ref (q 0))]) hx hb d_N_undoUncommitted_11 rfl hl (by decide) rfl (fun ls hl => ?_)
  obtain ⟨e12, hwp⟩ := hwp
  refine L12 _  e12 (0) (((G_size G) - 1)) (A) (G) _ _ _ (lv_sub hl [2, 1, 0] rfl) hP hS hwp (fun x3 A4 G5 H locs ls hl hP hS hwp => ?_)
  refine lv_iload_n hx hb d_N_undoUncommitted_87 rfl (lv_at hl 0 rfl) ?_
  rw [hQ]
  exact W.iret (v := x3) hx hb hr (fun t ht hW => ⟨⟨x3, (A4, G5), rfl, hwp, hp_of ht hP⟩, hS.F ht⟩) hS.2.2 d_N_undoUncommitted_88

set_option maxHeartbeats 4000000 in
set_option maxRecDepth 100000 in
theorem c_N_crash {l : Launch} {dC : Nat → ClassId} {dI : Nat → Nat → Nat} {cI cL cZ : ClassId} {q : Nat → Nat} (hq : iN q) (A : S_A) (D : S_D) (G : S_G) (K : S_K) (N : S_N) (P : S_P) (T : S_T) (a1 : Int32) (post : Int32 → S_A → S_G → S_K → S_T → Prop) (hwp : wp_N_crash A G K T a1 post) : Met l y_N_crash ws_N_crash rm_N_crash (va_Pc [.ref (q 0), .int a1] (bN dC dI cI cL cZ q A D G K N P T)) (va_Qi (fun (r : Int32) (u : S_A × S_G × S_K × S_T) => post r u.1 u.2.1 u.2.2.1 u.2.2.2) (fun u t => va_P (dC, dI) clZ (wN cI cL cZ q (u.1) D (u.2.1) (u.2.2.1) N P (u.2.2.2)) t.heap) (aN q)) 0 0 (aN q) := by
  refine Met.ofW (cc := b_N_crash) (maxL := 3) (ret := (some .int)) (by decide) rfl ?_
  intro p e s m args below meth c s₁ B hml hv
  obtain ⟨rfl, hP, hK⟩ := hv
  have hx := B.exec
  have hb := B.bytes
  have hr := B.returns
  have hts := atoms_spec (ws := ws_N_crash) B.pre
  have hown : s.vm.findClass R_N = some m.cls := findClass_of_methodNamed B.named
  have hlocks := B.notSynchronized
  have hiN : ∀ w ∈ u_ws R_N F_N 7, w ∈ ws_N_crash := fun w h => List.mem_cons_of_mem _ (in_N w h)
  have hiG : ∀ w ∈ u_ws R_G F_G 12, w ∈ ws_N_crash := fun w h => List.mem_cons_of_mem _ (in_G w h)
  have lk12 := hts _ (List.mem_cons_of_mem _ k_N_12)
  have lk19 := hts _ (List.mem_cons_of_mem _ k_N_19)
  have lk40 := hts _ (List.mem_cons_of_mem _ k_N_40)
  have lk58 := hts _ (List.mem_cons_of_mem _ k_N_58)
  have lk112 := hts _ (List.mem_cons_of_mem _ k_N_112)
  have hS : va_S (aN q) s.heap s.heap [] := va_S.rf
  have hl := lv_entry ([.ref (q 0), .int a1]) (n := 3) (Nat.le_of_ble_eq_true rfl)
  rw [lg_entry_eq]
  generalize (lg_sl ([.ref (q 0), .int a1]) ++ List.replicate (3 - (lg_sl ([.ref (q 0), .int a1])).length) Slot.unset).toArray = ls at hl ⊢
  have hl : lv_has ls 3 [(0, .ref (q 0)), (1, .int a1)] := hl
  obtain ⟨Q, hQ⟩ : ∃ Q, Q = MQ below (va_Qi (fun (r : Int32) (u : S_A × S_G × S_K × S_T) => post r u.1 u.2.1 u.2.2.1 u.2.2.2) (fun u t => va_P (dC, dI) clZ (wN cI cL cZ q (u.1) D (u.2.1) (u.2.2.1) N P (u.2.2.2)) t.heap) (aN q)) ([.ref (q 0), .int a1]).toArray s 0 0 (aN q) := ⟨_, rfl⟩
  rw [← hQ]
  rw [wp_N_crash] at hwp
  refine lv_iload_n hx hb d_N_crash_0 rfl (lv_at hl 1 rfl) ?_
  refine lv_if_lt (tgt := 23) hx hb d_N_crash_1 (by decide) (fun hc => ?_) (fun hc => ?_)
  · rw [if_pos hc] at hwp
    refine lv_iconst (v := (-1)) hx hb d_N_crash_23 (by decide) ?_
    rw [hQ]
    exact W.iret (v := (-1)) hx hb hr (fun t ht hW => ⟨⟨(-1), (A, G, K, T), rfl, hwp, hp_of ht hP⟩, hS.F ht⟩) hS.2.2 d_N_crash_24
  · rw [if_neg hc] at hwp
    refine lv_iload_n hx hb d_N_crash_4 rfl (lv_at hl 1 rfl) ?_
    refine lv_aload_n hx hb d_N_crash_5 rfl (lv_at hl 0 rfl) ?_
    refine va_get (D := (dC, dI)) (ci := 0) (v := .ref (q 5)) (C := R_N) (T := F_N) (N := 7) hx hb hts hiN hown hK hP 0 rfl rfl 4 (by decide) lk40 (fun _ h9 => h9) rfl d_N_crash_6 ?_
    refine ncn_i (As := []) (c_G_last hq (A) (D) (G) (K) (N) (P) (T)  _ hwp) (cwV 0 hts g_N_78 rfl rfl rfl hd_G_last ⟨Nat.le_of_ble_eq_true rfl, Nat.le_of_ble_eq_true rfl⟩) hx hb hml hown hts hK hP hS hl.1 d_N_crash_9 (va_recv (q := (R_G, F_G, 12)) hK hP (ci := 5) (q0 := 5) rfl rfl) rfl (lv_room (Nat.le_of_ble_eq_true rfl)) (Nat.zero_le _) (Nat.zero_le _) rfl (fun r1 u H locs hwp hP hS => ?_)
    have hP : va_P (dC, dI) clZ (wN cI cL cZ q A D G K N P T) H := hP
    refine lv_aload_n hx hb d_N_crash_12 rfl (lv_at hl 0 rfl) ?_
    refine va_get (D := (dC, dI)) (ci := 0) (v := .ref (q 5)) (C := R_N) (T := F_N) (N := 7) hx hb hts hiN hown hK hP 0 rfl rfl 4 (by decide) lk40 (fun _ h9 => h9) rfl d_N_crash_13 ?_
    refine va_get (D := (dC, dI)) (ci := 5) (v := .int (G_flushed G)) (C := R_G) (T := F_G) (N := 12) hx hb hts hiG hown hK hP 5 rfl rfl 2 (by decide) lk112 (fun _ h9 => h9) rfl d_N_crash_16 ?_
    refine lv_isub hx hb d_N_crash_19 ?_
    refine lv_icmp_le (tgt := 25) hx hb d_N_crash_20 (by decide) (fun hc => ?_) (fun hc => ?_)
    · rw [if_pos hc] at hwp
      refine lv_aload_n hx hb d_N_crash_25 rfl (lv_at hl 0 rfl) ?_
      refine va_get (D := (dC, dI)) (ci := 0) (v := .ref (q 5)) (C := R_N) (T := F_N) (N := 7) hx hb hts hiN hown hK hP 0 rfl rfl 4 (by decide) lk40 (fun _ h9 => h9) rfl d_N_crash_26 ?_
      refine lv_dup hx hb d_N_crash_29 rfl ?_
      refine va_get (D := (dC, dI)) (ci := 5) (v := .int (G_flushed G)) (C := R_G) (T := F_G) (N := 12) hx hb hts hiG hown hK hP 5 rfl rfl 2 (by decide) lk112 (fun _ h9 => h9) rfl d_N_crash_30 ?_
      refine lv_iload_n hx hb d_N_crash_33 rfl (lv_at hl 1 rfl) ?_
      refine lv_iadd hx hb d_N_crash_34 ?_
      refine va_put (D := (dC, dI)) (ci := 5) (v := .int ((G_flushed G) + a1)) (ty := .int) (C := R_G) (T := F_G) (N := 12) hx hb hts hiG ty_G ty_G_ok nmx_G hown hK hP (dN hq) hS 5 rfl rfl 2 (by decide) lk112 (fun _ h9 => h9) rfl (by decide +kernel) rfl rfl (Nat.le_of_ble_eq_true rfl) d_N_crash_35 (fun H locs hP _ hS => ?_)
      have hP : va_P (dC, dI) clZ (wN cI cL cZ q A D (G_flushed' G ((G_flushed G) + a1)) K N P T) H := hP
      refine lv_aload_n hx hb d_N_crash_38 rfl (lv_at hl 0 rfl) ?_
      refine va_get (D := (dC, dI)) (ci := 0) (v := .ref (q 5)) (C := R_N) (T := F_N) (N := 7) hx hb hts hiN hown hK hP 0 rfl rfl 4 (by decide) lk40 (fun _ h9 => h9) rfl d_N_crash_39 ?_
      refine ncn_v (As := []) (c_G_loseUnflushed hq (A) (D) ((G_flushed' G ((G_flushed G) + a1))) (K) (N) (P) (T)  _ hwp) (cwV 0 hts g_N_154 rfl rfl rfl hd_G_loseUnflushed ⟨Nat.le_of_ble_eq_true rfl, Nat.le_of_ble_eq_true rfl⟩) hx hb hml hown hts hK hP hS hl.1 d_N_crash_42 (va_recv (q := (R_G, F_G, 12)) hK hP (ci := 5) (q0 := 5) rfl rfl) rfl (lv_room (Nat.le_of_ble_eq_true rfl)) (Nat.zero_le _) (Nat.zero_le _) rfl (fun G2 H locs hwp hP hS => ?_)
      have hP : va_P (dC, dI) clZ (wN cI cL cZ q A D G2 K N P T) H := hP
      refine lv_aload_n hx hb d_N_crash_45 rfl (lv_at hl 0 rfl) ?_
      refine va_get (D := (dC, dI)) (ci := 0) (v := .ref (q 6)) (C := R_N) (T := F_N) (N := 7) hx hb hts hiN hown hK hP 0 rfl rfl 5 (by decide) lk58 (fun _ h9 => h9) rfl d_N_crash_46 ?_
      refine ncn_v (As := []) (c_A_loseFrames hq (A) (D) (G2) (K) (N) (P) (T)  _ hwp) (cwV 0 hts g_N_157 rfl rfl rfl hd_A_loseFrames ⟨Nat.le_of_ble_eq_true rfl, Nat.le_of_ble_eq_true rfl⟩) hx hb hml hown hts hK hP hS hl.1 d_N_crash_49 (va_recv (q := (R_A, F_A, 10)) hK hP (ci := 6) (q0 := 6) rfl rfl) rfl (lv_room (Nat.le_of_ble_eq_true rfl)) (Nat.zero_le _) (Nat.zero_le _) rfl (fun A3 H locs hwp hP hS => ?_)
      have hP : va_P (dC, dI) clZ (wN cI cL cZ q A3 D G2 K N P T) H := hP
      refine lv_aload_n hx hb d_N_crash_52 rfl (lv_at hl 0 rfl) ?_
      refine va_get (D := (dC, dI)) (ci := 0) (v := .ref (q 2)) (C := R_N) (T := F_N) (N := 7) hx hb hts hiN hown hK hP 0 rfl rfl 1 (by decide) lk19 (fun _ h9 => h9) rfl d_N_crash_53 ?_
      refine ncn_v (As := []) (c_K_releaseAll hq (A3) (D) (G2) (K) (N) (P) (T)  _ hwp) (cwV 0 hts g_N_160 rfl rfl rfl hd_K_releaseAll ⟨Nat.le_of_ble_eq_true rfl, Nat.le_of_ble_eq_true rfl⟩) hx hb hml hown hts hK hP hS hl.1 d_N_crash_56 (va_recv (q := (R_K, F_K, 2)) hK hP (ci := 2) (q0 := 2) rfl rfl) rfl (lv_room (Nat.le_of_ble_eq_true rfl)) (Nat.zero_le _) (Nat.zero_le _) rfl (fun K4 H locs hwp hP hS => ?_)
      have hP : va_P (dC, dI) clZ (wN cI cL cZ q A3 D G2 K4 N P T) H := hP
      refine lv_aload_n hx hb d_N_crash_59 rfl (lv_at hl 0 rfl) ?_
      refine va_get (D := (dC, dI)) (ci := 0) (v := .ref (q 1)) (C := R_N) (T := F_N) (N := 7) hx hb hts hiN hown hK hP 0 rfl rfl 0 (by decide) lk12 (fun _ h9 => h9) rfl d_N_crash_60 ?_
      refine ncn_v (As := []) (c_T_abortUncommitted hq (A3) (D) (G2) (K4) (N) (P) (T)  _ hwp) (cwV 0 hts g_N_163 rfl rfl rfl hd_T_abortUncommitted ⟨Nat.le_of_ble_eq_true rfl, Nat.le_of_ble_eq_true rfl⟩) hx hb hml hown hts hK hP hS hl.1 d_N_crash_63 (va_recv (q := (R_T, F_T, 11)) hK hP (ci := 1) (q0 := 1) rfl rfl) rfl (lv_room (Nat.le_of_ble_eq_true rfl)) (Nat.zero_le _) (Nat.zero_le _) rfl (fun T5 H locs hwp hP hS => ?_)
      have hP : va_P (dC, dI) clZ (wN cI cL cZ q A3 D G2 K4 N P T5) H := hP
      refine lv_aload_n hx hb d_N_crash_66 rfl (lv_at hl 0 rfl) ?_
      refine ncn_v (As := []) (c_N_redoLog hq (A3) (D) (G2) (K4) (N) (P) (T5)  _ hwp) (cwV 0 hts g_N_166 rfl rfl rfl hd_N_redoLog ⟨Nat.le_of_ble_eq_true rfl, Nat.le_of_ble_eq_true rfl⟩) hx hb hml hown hts hK hP hS hl.1 d_N_crash_67 (va_recv (q := (R_N, F_N, 7)) hK hP (ci := 0) (q0 := 0) rfl rfl) rfl (lv_room (Nat.le_of_ble_eq_true rfl)) (Nat.zero_le _) (Nat.zero_le _) rfl (fun u H locs hwp hP hS => ?_)
      obtain ⟨A6, G7⟩ := u
      have hP : va_P (dC, dI) clZ (wN cI cL cZ q A6 D G7 K4 N P T5) H := hP
      refine lv_aload_n hx hb d_N_crash_70 rfl (lv_at hl 0 rfl) ?_
      refine ncn_i (As := []) (c_N_undoUncommitted hq (A6) (D) (G7) (K4) (N) (P) (T5)  _ hwp) (cwV 0 hts g_N_169 rfl rfl rfl hd_N_undoUncommitted ⟨Nat.le_of_ble_eq_true rfl, Nat.le_of_ble_eq_true rfl⟩) hx hb hml hown hts hK hP hS hl.1 d_N_crash_71 (va_recv (q := (R_N, F_N, 7)) hK hP (ci := 0) (q0 := 0) rfl rfl) rfl (lv_room (Nat.le_of_ble_eq_true rfl)) (Nat.zero_le _) (Nat.zero_le _) rfl (fun r8 u H locs hwp hP hS => ?_)
      obtain ⟨A9, G10⟩ := u
      have hP : va_P (dC, dI) clZ (wN cI cL cZ q A9 D G10 K4 N P T5) H := hP
      refine lv_istore_n (lv' := [(2, .int r8), (0, .ref (q 0)), (1, .int a1)]) hx hb d_N_crash_74 rfl hl (by decide) rfl (fun ls hl => ?_)
      refine lv_aload_n hx hb d_N_crash_75 rfl (lv_at hl 1 rfl) ?_
      refine va_get (D := (dC, dI)) (ci := 0) (v := .ref (q 5)) (C := R_N) (T := F_N) (N := 7) hx hb hts hiN hown hK hP 0 rfl rfl 4 (by decide) lk40 (fun _ h9 => h9) rfl d_N_crash_76 ?_
      refine lv_aload_n hx hb d_N_crash_79 rfl (lv_at hl 1 rfl) ?_
      refine va_get (D := (dC, dI)) (ci := 0) (v := .ref (q 5)) (C := R_N) (T := F_N) (N := 7) hx hb hts hiN hown hK hP 0 rfl rfl 4 (by decide) lk40 (fun _ h9 => h9) rfl d_N_crash_80 ?_
      refine ncn_i (As := []) (c_G_last hq (A9) (D) (G10) (K4) (N) (P) (T5)  _ hwp) (cwV 0 hts g_N_78 rfl rfl rfl hd_G_last ⟨Nat.le_of_ble_eq_true rfl, Nat.le_of_ble_eq_true rfl⟩) hx hb hml hown hts hK hP hS hl.1 d_N_crash_83 (va_recv (q := (R_G, F_G, 12)) hK hP (ci := 5) (q0 := 5) rfl rfl) rfl (lv_room (Nat.le_of_ble_eq_true rfl)) (Nat.zero_le _) (Nat.zero_le _) rfl (fun r11 u H locs hwp hP hS => ?_)
      have hP : va_P (dC, dI) clZ (wN cI cL cZ q A9 D G10 K4 N P T5) H := hP
      refine va_put (D := (dC, dI)) (ci := 5) (v := .int r11) (ty := .int) (C := R_G) (T := F_G) (N := 12) hx hb hts hiG ty_G ty_G_ok nmx_G hown hK hP (dN hq) hS 5 rfl rfl 2 (by decide) lk112 (fun _ h9 => h9) rfl (by decide +kernel) rfl rfl (Nat.le_of_ble_eq_true rfl) d_N_crash_86 (fun H locs hP _ hS => ?_)
      have hP : va_P (dC, dI) clZ (wN cI cL cZ q A9 D (G_flushed' G10 r11) K4 N P T5) H := hP
      refine lv_iload_n hx hb d_N_crash_89 rfl (lv_at hl 0 rfl) ?_
      rw [hQ]
      exact W.iret (v := r8) hx hb hr (fun t ht hW => ⟨⟨r8, (A9, (G_flushed' G10 r11), K4, T5), rfl, hwp, hp_of ht hP⟩, hS.F ht⟩) hS.2.2 d_N_crash_90
    · rw [if_neg hc] at hwp
      refine lv_iconst (v := (-1)) hx hb d_N_crash_23 (by decide) ?_
      rw [hQ]
      exact W.iret (v := (-1)) hx hb hr (fun t ht hW => ⟨⟨(-1), (A, G, K, T), rfl, hwp, hp_of ht hP⟩, hS.F ht⟩) hS.2.2 d_N_crash_24

set_option maxHeartbeats 4000000 in
set_option maxRecDepth 100000 in
theorem c_N_state {l : Launch} {dC : Nat → ClassId} {dI : Nat → Nat → Nat} {cI cL cZ : ClassId} {q : Nat → Nat} (hq : iN q) (A : S_A) (D : S_D) (G : S_G) (K : S_K) (N : S_N) (P : S_P) (T : S_T) (a1 : Int32) (post : Int32 → Prop) (hwp : wp_N_state T a1 post) : Met l y_N_state ws_N_state rm_N_state (va_Pc [.ref (q 0), .int a1] (bN dC dI cI cL cZ q A D G K N P T)) (va_Qi (fun (r : Int32) (u : Unit) => post r) (fun u t => va_P (dC, dI) clZ (wN cI cL cZ q A D G K N P T) t.heap) (aN q)) 0 0 (aN q) := by
  refine Met.ofW (cc := b_N_state) (maxL := 2) (ret := (some .int)) (by decide) rfl ?_
  intro p e s m args below meth c s₁ B hml hv
  obtain ⟨rfl, hP, hK⟩ := hv
  have hx := B.exec
  have hb := B.bytes
  have hr := B.returns
  have hts := atoms_spec (ws := ws_N_state) B.pre
  have hown : s.vm.findClass R_N = some m.cls := findClass_of_methodNamed B.named
  have hlocks := B.notSynchronized
  have hiN : ∀ w ∈ u_ws R_N F_N 7, w ∈ ws_N_state := fun w h => List.mem_cons_of_mem _ (in_N w h)
  have hiT : ∀ w ∈ u_ws R_T F_T 11, w ∈ ws_N_state := fun w h => List.mem_cons_of_mem _ (in_T w h)
  have lk12 := hts _ (List.mem_cons_of_mem _ k_N_12)
  have lk106 := hts _ (List.mem_cons_of_mem _ k_N_106)
  have hS : va_S (aN q) s.heap s.heap [] := va_S.rf
  have hl := lv_entry ([.ref (q 0), .int a1]) (n := 2) (Nat.le_of_ble_eq_true rfl)
  rw [lg_entry_eq]
  generalize (lg_sl ([.ref (q 0), .int a1]) ++ List.replicate (2 - (lg_sl ([.ref (q 0), .int a1])).length) Slot.unset).toArray = ls at hl ⊢
  have hl : lv_has ls 2 [(0, .ref (q 0)), (1, .int a1)] := hl
  obtain ⟨Q, hQ⟩ : ∃ Q, Q = MQ below (va_Qi (fun (r : Int32) (u : Unit) => post r) (fun u t => va_P (dC, dI) clZ (wN cI cL cZ q A D G K N P T) t.heap) (aN q)) ([.ref (q 0), .int a1]).toArray s 0 0 (aN q) := ⟨_, rfl⟩
  rw [← hQ]
  rw [wp_N_state] at hwp
  refine lv_aload_n hx hb d_N_state_0 rfl (lv_at hl 0 rfl) ?_
  refine va_get (D := (dC, dI)) (ci := 0) (v := .ref (q 1)) (C := R_N) (T := F_N) (N := 7) hx hb hts hiN hown hK hP 0 rfl rfl 0 (by decide) lk12 (fun _ h9 => h9) rfl d_N_state_1 ?_
  refine lv_iload_n hx hb d_N_state_4 rfl (lv_at hl 1 rfl) ?_
  refine ncn_i (As := [.int a1]) (c_T_exists hq (A) (D) (G) (K) (N) (P) (T) (a1) _ hwp) (cwV 1 hts g_N_172 rfl rfl rfl hd_T_exists ⟨Nat.le_of_ble_eq_true rfl, Nat.le_of_ble_eq_true rfl⟩) hx hb hml hown hts hK hP hS hl.1 d_N_state_5 (va_recv (q := (R_T, F_T, 11)) hK hP (ci := 1) (q0 := 1) rfl rfl) rfl (lv_room (Nat.le_of_ble_eq_true rfl)) (Nat.zero_le _) (Nat.zero_le _) rfl (fun r1 u H locs hwp hP hS => ?_)
  have hP : va_P (dC, dI) clZ (wN cI cL cZ q A D G K N P T) H := hP
  refine lv_if_eq (tgt := 23) hx hb d_N_state_8 (by decide) (fun hc => ?_) (fun hc => ?_)
  · rw [if_pos hc] at hwp
    refine lv_iconst (v := (-1)) hx hb d_N_state_23 (by decide) ?_
    rw [hQ]
    exact W.iret (v := (-1)) hx hb hr (fun t ht hW => ⟨⟨(-1), (), rfl, hwp, hp_of ht hP⟩, hS.F ht⟩) hS.2.2 d_N_state_24
  · rw [if_neg hc] at hwp
    refine lv_aload_n hx hb d_N_state_11 rfl (lv_at hl 0 rfl) ?_
    refine va_get (D := (dC, dI)) (ci := 0) (v := .ref (q 1)) (C := R_N) (T := F_N) (N := 7) hx hb hts hiN hown hK hP 0 rfl rfl 0 (by decide) lk12 (fun _ h9 => h9) rfl d_N_state_12 ?_
    refine va_get (D := (dC, dI)) (ci := 1) (v := .ref (q 10)) (C := R_T) (T := F_T) (N := 11) hx hb hts hiT hown hK hP 1 rfl rfl 4 (by decide) lk106 (fun _ h9 => h9) rfl d_N_state_15 ?_
    refine lv_iload_n hx hb d_N_state_18 rfl (lv_at hl 1 rfl) ?_
    refine va_iald hx hb hK hP 10 0 rfl rfl hwp.1 d_N_state_19 ?_
    have hwp := hwp.2
    refine lv_goto hx hb d_N_state_20 (tgt := 24) (by decide) ?_
    rw [hQ]
    exact W.iret (v := ((T_state T) (Int32.toNatClampNeg a1))) hx hb hr (fun t ht hW => ⟨⟨((T_state T) (Int32.toNatClampNeg a1)), (), rfl, hwp, hp_of ht hP⟩, hS.F ht⟩) hS.2.2 d_N_state_24

set_option maxHeartbeats 4000000 in
set_option maxRecDepth 100000 in
theorem c_N_parent {l : Launch} {dC : Nat → ClassId} {dI : Nat → Nat → Nat} {cI cL cZ : ClassId} {q : Nat → Nat} (hq : iN q) (A : S_A) (D : S_D) (G : S_G) (K : S_K) (N : S_N) (P : S_P) (T : S_T) (a1 : Int32) (post : Int32 → Prop) (hwp : wp_N_parent T a1 post) : Met l y_N_parent ws_N_parent rm_N_parent (va_Pc [.ref (q 0), .int a1] (bN dC dI cI cL cZ q A D G K N P T)) (va_Qi (fun (r : Int32) (u : Unit) => post r) (fun u t => va_P (dC, dI) clZ (wN cI cL cZ q A D G K N P T) t.heap) (aN q)) 0 0 (aN q) := by
  refine Met.ofW (cc := b_N_parent) (maxL := 2) (ret := (some .int)) (by decide) rfl ?_
  intro p e s m args below meth c s₁ B hml hv
  obtain ⟨rfl, hP, hK⟩ := hv
  have hx := B.exec
  have hb := B.bytes
  have hr := B.returns
  have hts := atoms_spec (ws := ws_N_parent) B.pre
  have hown : s.vm.findClass R_N = some m.cls := findClass_of_methodNamed B.named
  have hlocks := B.notSynchronized
  have hiN : ∀ w ∈ u_ws R_N F_N 7, w ∈ ws_N_parent := fun w h => List.mem_cons_of_mem _ (in_N w h)
  have hiT : ∀ w ∈ u_ws R_T F_T 11, w ∈ ws_N_parent := fun w h => List.mem_cons_of_mem _ (in_T w h)
  have lk12 := hts _ (List.mem_cons_of_mem _ k_N_12)
  have lk109 := hts _ (List.mem_cons_of_mem _ k_N_109)
  have hS : va_S (aN q) s.heap s.heap [] := va_S.rf
  have hl := lv_entry ([.ref (q 0), .int a1]) (n := 2) (Nat.le_of_ble_eq_true rfl)
  rw [lg_entry_eq]
  generalize (lg_sl ([.ref (q 0), .int a1]) ++ List.replicate (2 - (lg_sl ([.ref (q 0), .int a1])).length) Slot.unset).toArray = ls at hl ⊢
  have hl : lv_has ls 2 [(0, .ref (q 0)), (1, .int a1)] := hl
  obtain ⟨Q, hQ⟩ : ∃ Q, Q = MQ below (va_Qi (fun (r : Int32) (u : Unit) => post r) (fun u t => va_P (dC, dI) clZ (wN cI cL cZ q A D G K N P T) t.heap) (aN q)) ([.ref (q 0), .int a1]).toArray s 0 0 (aN q) := ⟨_, rfl⟩
  rw [← hQ]
  rw [wp_N_parent] at hwp
  refine lv_aload_n hx hb d_N_parent_0 rfl (lv_at hl 0 rfl) ?_
  refine va_get (D := (dC, dI)) (ci := 0) (v := .ref (q 1)) (C := R_N) (T := F_N) (N := 7) hx hb hts hiN hown hK hP 0 rfl rfl 0 (by decide) lk12 (fun _ h9 => h9) rfl d_N_parent_1 ?_
  refine lv_iload_n hx hb d_N_parent_4 rfl (lv_at hl 1 rfl) ?_
  refine ncn_i (As := [.int a1]) (c_T_exists hq (A) (D) (G) (K) (N) (P) (T) (a1) _ hwp) (cwV 1 hts g_N_172 rfl rfl rfl hd_T_exists ⟨Nat.le_of_ble_eq_true rfl, Nat.le_of_ble_eq_true rfl⟩) hx hb hml hown hts hK hP hS hl.1 d_N_parent_5 (va_recv (q := (R_T, F_T, 11)) hK hP (ci := 1) (q0 := 1) rfl rfl) rfl (lv_room (Nat.le_of_ble_eq_true rfl)) (Nat.zero_le _) (Nat.zero_le _) rfl (fun r1 u H locs hwp hP hS => ?_)
  have hP : va_P (dC, dI) clZ (wN cI cL cZ q A D G K N P T) H := hP
  refine lv_if_eq (tgt := 23) hx hb d_N_parent_8 (by decide) (fun hc => ?_) (fun hc => ?_)
  · rw [if_pos hc] at hwp
    refine lv_iconst (v := (-1)) hx hb d_N_parent_23 (by decide) ?_
    rw [hQ]
    exact W.iret (v := (-1)) hx hb hr (fun t ht hW => ⟨⟨(-1), (), rfl, hwp, hp_of ht hP⟩, hS.F ht⟩) hS.2.2 d_N_parent_24
  · rw [if_neg hc] at hwp
    refine lv_aload_n hx hb d_N_parent_11 rfl (lv_at hl 0 rfl) ?_
    refine va_get (D := (dC, dI)) (ci := 0) (v := .ref (q 1)) (C := R_N) (T := F_N) (N := 7) hx hb hts hiN hown hK hP 0 rfl rfl 0 (by decide) lk12 (fun _ h9 => h9) rfl d_N_parent_12 ?_
    refine va_get (D := (dC, dI)) (ci := 1) (v := .ref (q 7)) (C := R_T) (T := F_T) (N := 11) hx hb hts hiT hown hK hP 1 rfl rfl 1 (by decide) lk109 (fun _ h9 => h9) rfl d_N_parent_15 ?_
    refine lv_iload_n hx hb d_N_parent_18 rfl (lv_at hl 1 rfl) ?_
    refine va_iald hx hb hK hP 7 0 rfl rfl hwp.1 d_N_parent_19 ?_
    have hwp := hwp.2
    refine lv_goto hx hb d_N_parent_20 (tgt := 24) (by decide) ?_
    rw [hQ]
    exact W.iret (v := ((T_parent T) (Int32.toNatClampNeg a1))) hx hb hr (fun t ht hW => ⟨⟨((T_parent T) (Int32.toNatClampNeg a1)), (), rfl, hwp, hp_of ht hP⟩, hS.F ht⟩) hS.2.2 d_N_parent_24

set_option maxHeartbeats 4000000 in
set_option maxRecDepth 100000 in
theorem c_N_lock {l : Launch} {dC : Nat → ClassId} {dI : Nat → Nat → Nat} {cI cL cZ : ClassId} {q : Nat → Nat} (hq : iN q) (A : S_A) (D : S_D) (G : S_G) (K : S_K) (N : S_N) (P : S_P) (T : S_T) (a1 : Int32) (a2 : Int32) (post : Int32 → Prop) (hwp : wp_N_lock K T a1 a2 post) : Met l y_N_lock ws_N_lock rm_N_lock (va_Pc [.ref (q 0), .int a1, .int a2] (bN dC dI cI cL cZ q A D G K N P T)) (va_Qi (fun (r : Int32) (u : Unit) => post r) (fun u t => va_P (dC, dI) clZ (wN cI cL cZ q A D G K N P T) t.heap) (aN q)) 0 0 (aN q) := by
  refine Met.ofW (cc := b_N_lock) (maxL := 3) (ret := (some .int)) (by decide) rfl ?_
  intro p e s m args below meth c s₁ B hml hv
  obtain ⟨rfl, hP, hK⟩ := hv
  have hx := B.exec
  have hb := B.bytes
  have hr := B.returns
  have hts := atoms_spec (ws := ws_N_lock) B.pre
  have hown : s.vm.findClass R_N = some m.cls := findClass_of_methodNamed B.named
  have hlocks := B.notSynchronized
  have hiN : ∀ w ∈ u_ws R_N F_N 7, w ∈ ws_N_lock := fun w h => List.mem_cons_of_mem _ (in_N w h)
  have lk12 := hts _ (List.mem_cons_of_mem _ k_N_12)
  have lk19 := hts _ (List.mem_cons_of_mem _ k_N_19)
  have hS : va_S (aN q) s.heap s.heap [] := va_S.rf
  have hl := lv_entry ([.ref (q 0), .int a1, .int a2]) (n := 3) (Nat.le_of_ble_eq_true rfl)
  rw [lg_entry_eq]
  generalize (lg_sl ([.ref (q 0), .int a1, .int a2]) ++ List.replicate (3 - (lg_sl ([.ref (q 0), .int a1, .int a2])).length) Slot.unset).toArray = ls at hl ⊢
  have hl : lv_has ls 3 [(0, .ref (q 0)), (1, .int a1), (2, .int a2)] := hl
  obtain ⟨Q, hQ⟩ : ∃ Q, Q = MQ below (va_Qi (fun (r : Int32) (u : Unit) => post r) (fun u t => va_P (dC, dI) clZ (wN cI cL cZ q A D G K N P T) t.heap) (aN q)) ([.ref (q 0), .int a1, .int a2]).toArray s 0 0 (aN q) := ⟨_, rfl⟩
  rw [← hQ]
  rw [wp_N_lock] at hwp
  refine lv_aload_n hx hb d_N_lock_0 rfl (lv_at hl 0 rfl) ?_
  refine va_get (D := (dC, dI)) (ci := 0) (v := .ref (q 1)) (C := R_N) (T := F_N) (N := 7) hx hb hts hiN hown hK hP 0 rfl rfl 0 (by decide) lk12 (fun _ h9 => h9) rfl d_N_lock_1 ?_
  refine lv_iload_n hx hb d_N_lock_4 rfl (lv_at hl 1 rfl) ?_
  refine ncn_i (As := [.int a1]) (c_T_exists hq (A) (D) (G) (K) (N) (P) (T) (a1) _ hwp) (cwV 1 hts g_N_172 rfl rfl rfl hd_T_exists ⟨Nat.le_of_ble_eq_true rfl, Nat.le_of_ble_eq_true rfl⟩) hx hb hml hown hts hK hP hS hl.1 d_N_lock_5 (va_recv (q := (R_T, F_T, 11)) hK hP (ci := 1) (q0 := 1) rfl rfl) rfl (lv_room (Nat.le_of_ble_eq_true rfl)) (Nat.zero_le _) (Nat.zero_le _) rfl (fun r1 u H locs hwp hP hS => ?_)
  have hP : va_P (dC, dI) clZ (wN cI cL cZ q A D G K N P T) H := hP
  refine lv_if_eq (tgt := 21) hx hb d_N_lock_8 (by decide) (fun hc => ?_) (fun hc => ?_)
  · rw [if_pos hc] at hwp
    refine lv_iconst (v := (-1)) hx hb d_N_lock_21 (by decide) ?_
    rw [hQ]
    exact W.iret (v := (-1)) hx hb hr (fun t ht hW => ⟨⟨(-1), (), rfl, hwp, hp_of ht hP⟩, hS.F ht⟩) hS.2.2 d_N_lock_22
  · rw [if_neg hc] at hwp
    refine lv_iload_n hx hb d_N_lock_11 rfl (lv_at hl 2 rfl) ?_
    refine lv_if_lt (tgt := 21) hx hb d_N_lock_12 (by decide) (fun hc => ?_) (fun hc => ?_)
    · rw [if_pos hc] at hwp
      refine lv_iconst (v := (-1)) hx hb d_N_lock_21 (by decide) ?_
      rw [hQ]
      exact W.iret (v := (-1)) hx hb hr (fun t ht hW => ⟨⟨(-1), (), rfl, hwp, hp_of ht hP⟩, hS.F ht⟩) hS.2.2 d_N_lock_22
    · rw [if_neg hc] at hwp
      refine lv_iload_n hx hb d_N_lock_15 rfl (lv_at hl 2 rfl) ?_
      refine lv_bipush (v := 33) hx hb d_N_lock_16 (by decide) ?_
      refine lv_icmp_lt (tgt := 23) hx hb d_N_lock_18 (by decide) (fun hc => ?_) (fun hc => ?_)
      · rw [if_pos hc] at hwp
        refine lv_aload_n hx hb d_N_lock_23 rfl (lv_at hl 0 rfl) ?_
        refine va_get (D := (dC, dI)) (ci := 0) (v := .ref (q 2)) (C := R_N) (T := F_N) (N := 7) hx hb hts hiN hown hK hP 0 rfl rfl 1 (by decide) lk19 (fun _ h9 => h9) rfl d_N_lock_24 ?_
        refine lv_iload_n hx hb d_N_lock_27 rfl (lv_at hl 1 rfl) ?_
        refine lv_iload_n hx hb d_N_lock_28 rfl (lv_at hl 2 rfl) ?_
        refine ncn_i (As := [.int a1, .int a2]) (c_K_heldBy hq (A) (D) (G) (K) (N) (P) (T) (a1) (a2) _ hwp) (cwV 2 hts g_N_175 rfl rfl rfl hd_K_heldBy ⟨Nat.le_of_ble_eq_true rfl, Nat.le_of_ble_eq_true rfl⟩) hx hb hml hown hts hK hP hS hl.1 d_N_lock_29 (va_recv (q := (R_K, F_K, 2)) hK hP (ci := 2) (q0 := 2) rfl rfl) rfl (lv_room (Nat.le_of_ble_eq_true rfl)) (Nat.zero_le _) (Nat.zero_le _) rfl (fun r2 u H locs hwp hP hS => ?_)
        have hP : va_P (dC, dI) clZ (wN cI cL cZ q A D G K N P T) H := hP
        rw [hQ]
        exact W.iret (v := r2) hx hb hr (fun t ht hW => ⟨⟨r2, (), rfl, hwp, hp_of ht hP⟩, hS.F ht⟩) hS.2.2 d_N_lock_32
      · rw [if_neg hc] at hwp
        refine lv_iconst (v := (-1)) hx hb d_N_lock_21 (by decide) ?_
        rw [hQ]
        exact W.iret (v := (-1)) hx hb hr (fun t ht hW => ⟨⟨(-1), (), rfl, hwp, hp_of ht hP⟩, hS.F ht⟩) hS.2.2 d_N_lock_22

set_option maxHeartbeats 4000000 in
set_option maxRecDepth 100000 in
theorem c_N_waits {l : Launch} {dC : Nat → ClassId} {dI : Nat → Nat → Nat} {cI cL cZ : ClassId} {q : Nat → Nat} (hq : iN q) (A : S_A) (D : S_D) (G : S_G) (K : S_K) (N : S_N) (P : S_P) (T : S_T) (a1 : Int32) (a2 : Int32) (post : Int32 → S_P → Prop) (hwp : wp_N_waits A K P T a1 a2 post) : Met l y_N_waits ws_N_waits rm_N_waits (va_Pc [.ref (q 0), .int a1, .int a2] (bN dC dI cI cL cZ q A D G K N P T)) (va_Qi (fun (r : Int32) (u : S_P) => post r u) (fun u t => va_P (dC, dI) clZ (wN cI cL cZ q A D G K N (u) T) t.heap) (aN q)) 0 0 (aN q) := by
  refine Met.ofW (cc := b_N_waits) (maxL := 3) (ret := (some .boolean)) (by decide) rfl ?_
  intro p e s m args below meth c s₁ B hml hv
  obtain ⟨rfl, hP, hK⟩ := hv
  have hx := B.exec
  have hb := B.bytes
  have hr := B.returns
  have hts := atoms_spec (ws := ws_N_waits) B.pre
  have hown : s.vm.findClass R_N = some m.cls := findClass_of_methodNamed B.named
  have hlocks := B.notSynchronized
  have hiN : ∀ w ∈ u_ws R_N F_N 7, w ∈ ws_N_waits := fun w h => List.mem_cons_of_mem _ (in_N w h)
  have lk12 := hts _ (List.mem_cons_of_mem _ k_N_12)
  have hS : va_S (aN q) s.heap s.heap [] := va_S.rf
  have hl := lv_entry ([.ref (q 0), .int a1, .int a2]) (n := 3) (Nat.le_of_ble_eq_true rfl)
  rw [lg_entry_eq]
  generalize (lg_sl ([.ref (q 0), .int a1, .int a2]) ++ List.replicate (3 - (lg_sl ([.ref (q 0), .int a1, .int a2])).length) Slot.unset).toArray = ls at hl ⊢
  have hl : lv_has ls 3 [(0, .ref (q 0)), (1, .int a1), (2, .int a2)] := hl
  obtain ⟨Q, hQ⟩ : ∃ Q, Q = MQ below (va_Qi (fun (r : Int32) (u : S_P) => post r u) (fun u t => va_P (dC, dI) clZ (wN cI cL cZ q A D G K N (u) T) t.heap) (aN q)) ([.ref (q 0), .int a1, .int a2]).toArray s 0 0 (aN q) := ⟨_, rfl⟩
  rw [← hQ]
  rw [wp_N_waits] at hwp
  refine lv_aload_n hx hb d_N_waits_0 rfl (lv_at hl 0 rfl) ?_
  refine va_get (D := (dC, dI)) (ci := 0) (v := .ref (q 1)) (C := R_N) (T := F_N) (N := 7) hx hb hts hiN hown hK hP 0 rfl rfl 0 (by decide) lk12 (fun _ h9 => h9) rfl d_N_waits_1 ?_
  refine lv_iload_n hx hb d_N_waits_4 rfl (lv_at hl 1 rfl) ?_
  refine ncn_i (As := [.int a1]) (c_T_isWaiting hq (A) (D) (G) (K) (N) (P) (T) (a1) _ hwp) (cwV 1 hts g_N_97 rfl rfl rfl hd_T_isWaiting ⟨Nat.le_of_ble_eq_true rfl, Nat.le_of_ble_eq_true rfl⟩) hx hb hml hown hts hK hP hS hl.1 d_N_waits_5 (va_recv (q := (R_T, F_T, 11)) hK hP (ci := 1) (q0 := 1) rfl rfl) rfl (lv_room (Nat.le_of_ble_eq_true rfl)) (Nat.zero_le _) (Nat.zero_le _) rfl (fun r1 u H locs hwp hP hS => ?_)
  have hP : va_P (dC, dI) clZ (wN cI cL cZ q A D G K N P T) H := hP
  refine lv_if_eq (tgt := 22) hx hb d_N_waits_8 (by decide) (fun hc => ?_) (fun hc => ?_)
  · rw [if_pos hc] at hwp
    refine lv_iconst (v := 0) hx hb d_N_waits_22 (by decide) ?_
    rw [hQ]
    exact W.zret (v := 0) hx hb hr rfl (fun t ht hW => ⟨⟨0, P, rfl, hwp, hp_of ht hP⟩, hS.F ht⟩) hS.2.2 d_N_waits_23
  · rw [if_neg hc] at hwp
    refine lv_aload_n hx hb d_N_waits_11 rfl (lv_at hl 0 rfl) ?_
    refine va_get (D := (dC, dI)) (ci := 0) (v := .ref (q 1)) (C := R_N) (T := F_N) (N := 7) hx hb hts hiN hown hK hP 0 rfl rfl 0 (by decide) lk12 (fun _ h9 => h9) rfl d_N_waits_12 ?_
    refine lv_iload_n hx hb d_N_waits_15 rfl (lv_at hl 2 rfl) ?_
    refine ncn_i (As := [.int a2]) (c_T_exists hq (A) (D) (G) (K) (N) (P) (T) (a2) _ hwp) (cwV 1 hts g_N_172 rfl rfl rfl hd_T_exists ⟨Nat.le_of_ble_eq_true rfl, Nat.le_of_ble_eq_true rfl⟩) hx hb hml hown hts hK hP hS hl.1 d_N_waits_16 (va_recv (q := (R_T, F_T, 11)) hK hP (ci := 1) (q0 := 1) rfl rfl) rfl (lv_room (Nat.le_of_ble_eq_true rfl)) (Nat.zero_le _) (Nat.zero_le _) rfl (fun r2 u H locs hwp hP hS => ?_)
    have hP : va_P (dC, dI) clZ (wN cI cL cZ q A D G K N P T) H := hP
    refine lv_if_ne (tgt := 24) hx hb d_N_waits_19 (by decide) (fun hc => ?_) (fun hc => ?_)
    · rw [if_neg hc] at hwp
      refine lv_aload_n hx hb d_N_waits_24 rfl (lv_at hl 0 rfl) ?_
      refine lv_iload_n hx hb d_N_waits_25 rfl (lv_at hl 1 rfl) ?_
      refine ncn_l (As := [.int a1]) (c_N_blockersOf hq (A) (D) (G) (K) (N) (P) (T) (a1) _ hwp) (cwV 1 hts g_N_178 rfl rfl rfl hd_N_blockersOf ⟨Nat.le_of_ble_eq_true rfl, Nat.le_of_ble_eq_true rfl⟩) hx hb hml hown hts hK hP hS hl.1 d_N_waits_26 (va_recv (q := (R_N, F_N, 7)) hK hP (ci := 0) (q0 := 0) rfl rfl) rfl (lv_room (Nat.le_of_ble_eq_true rfl)) (Nat.zero_le _) (Nat.zero_le _) rfl (fun r3 P4 H locs hwp hP hS => ?_)
      have hP : va_P (dC, dI) clZ (wN cI cL cZ q A D G K N P4 T) H := hP
      refine lv_lconst (v := (1 : Int64)) hx hb d_N_waits_29 (by decide) ?_
      refine lv_iload_n hx hb d_N_waits_30 rfl (lv_at hl 2 rfl) ?_
      refine lv_lshl hx hb d_N_waits_31 rfl ?_
      refine lv_land hx hb d_N_waits_32 ?_
      refine lv_lconst (v := (0 : Int64)) hx hb d_N_waits_33 (by decide) ?_
      refine W.lcmp hx hb d_N_waits_34 ?_
      refine lv_if_eq (tgt := 42) hx hb d_N_waits_35 (by decide) (fun hc => ?_) (fun hc => ?_)
      · rw [if_pos hc] at hwp
        refine lv_iconst (v := 0) hx hb d_N_waits_42 (by decide) ?_
        rw [hQ]
        exact W.zret (v := 0) hx hb hr rfl (fun t ht hW => ⟨⟨0, P4, rfl, hwp, hp_of ht hP⟩, hS.F ht⟩) hS.2.2 d_N_waits_43
      · rw [if_neg hc] at hwp
        refine lv_iconst (v := 1) hx hb d_N_waits_38 (by decide) ?_
        refine lv_goto hx hb d_N_waits_39 (tgt := 43) (by decide) ?_
        rw [hQ]
        exact W.zret (v := 1) hx hb hr rfl (fun t ht hW => ⟨⟨1, P4, rfl, hwp, hp_of ht hP⟩, hS.F ht⟩) hS.2.2 d_N_waits_43
    · rw [if_pos hc] at hwp
      refine lv_iconst (v := 0) hx hb d_N_waits_22 (by decide) ?_
      rw [hQ]
      exact W.zret (v := 0) hx hb hr rfl (fun t ht hW => ⟨⟨0, P, rfl, hwp, hp_of ht hP⟩, hS.F ht⟩) hS.2.2 d_N_waits_23

set_option maxHeartbeats 4000000 in
set_option maxRecDepth 100000 in
theorem c_N_entry {l : Launch} {dC : Nat → ClassId} {dI : Nat → Nat → Nat} {cI cL cZ : ClassId} {q : Nat → Nat} (hq : iN q) (A : S_A) (D : S_D) (G : S_G) (K : S_K) (N : S_N) (P : S_P) (T : S_T) (a1 : Int32) (a2 : Int32) (post : Int32 → Prop) (hwp : wp_N_entry G a1 a2 post) : Met l y_N_entry ws_N_entry rm_N_entry (va_Pc [.ref (q 0), .int a1, .int a2] (bN dC dI cI cL cZ q A D G K N P T)) (va_Qi (fun (r : Int32) (u : Unit) => post r) (fun u t => va_P (dC, dI) clZ (wN cI cL cZ q A D G K N P T) t.heap) (aN q)) 0 0 (aN q) := by
  refine Met.ofW (cc := b_N_entry) (maxL := 4) (ret := (some .int)) (by decide) rfl ?_
  intro p e s m args below meth c s₁ B hml hv
  obtain ⟨rfl, hP, hK⟩ := hv
  have hx := B.exec
  have hb := B.bytes
  have hr := B.returns
  have hts := atoms_spec (ws := ws_N_entry) B.pre
  have hown : s.vm.findClass R_N = some m.cls := findClass_of_methodNamed B.named
  have hlocks := B.notSynchronized
  have hiN : ∀ w ∈ u_ws R_N F_N 7, w ∈ ws_N_entry := fun w h => List.mem_cons_of_mem _ (in_N w h)
  have hiG : ∀ w ∈ u_ws R_G F_G 12, w ∈ ws_N_entry := fun w h => List.mem_cons_of_mem _ (in_G w h)
  have lk40 := hts _ (List.mem_cons_of_mem _ k_N_40)
  have lk182 := hts _ (List.mem_cons_of_mem _ k_N_182)
  have lk188 := hts _ (List.mem_cons_of_mem _ k_N_188)
  have lk191 := hts _ (List.mem_cons_of_mem _ k_N_191)
  have lk194 := hts _ (List.mem_cons_of_mem _ k_N_194)
  have lk197 := hts _ (List.mem_cons_of_mem _ k_N_197)
  have lk200 := hts _ (List.mem_cons_of_mem _ k_N_200)
  have lk207 := hts _ (List.mem_cons_of_mem _ k_N_207)
  have lk210 := hts _ (List.mem_cons_of_mem _ k_N_210)
  have hS : va_S (aN q) s.heap s.heap [] := va_S.rf
  have hl := lv_entry ([.ref (q 0), .int a1, .int a2]) (n := 4) (Nat.le_of_ble_eq_true rfl)
  rw [lg_entry_eq]
  generalize (lg_sl ([.ref (q 0), .int a1, .int a2]) ++ List.replicate (4 - (lg_sl ([.ref (q 0), .int a1, .int a2])).length) Slot.unset).toArray = ls at hl ⊢
  have hl : lv_has ls 4 [(0, .ref (q 0)), (1, .int a1), (2, .int a2)] := hl
  obtain ⟨Q, hQ⟩ : ∃ Q, Q = MQ below (va_Qi (fun (r : Int32) (u : Unit) => post r) (fun u t => va_P (dC, dI) clZ (wN cI cL cZ q A D G K N P T) t.heap) (aN q)) ([.ref (q 0), .int a1, .int a2]).toArray s 0 0 (aN q) := ⟨_, rfl⟩
  rw [← hQ]
  rw [wp_N_entry] at hwp
  refine lv_iload_n hx hb d_N_entry_0 rfl (lv_at hl 1 rfl) ?_
  refine lv_aload_n hx hb d_N_entry_1 rfl (lv_at hl 0 rfl) ?_
  refine va_get (D := (dC, dI)) (ci := 0) (v := .ref (q 5)) (C := R_N) (T := F_N) (N := 7) hx hb hts hiN hown hK hP 0 rfl rfl 4 (by decide) lk40 (fun _ h9 => h9) rfl d_N_entry_2 ?_
  refine va_get (D := (dC, dI)) (ci := 5) (v := .int (G_base G)) (C := R_G) (T := F_G) (N := 12) hx hb hts hiG hown hK hP 5 rfl rfl 0 (by decide) lk182 (fun _ h9 => h9) rfl d_N_entry_5 ?_
  refine lv_icmp_le (tgt := 22) hx hb d_N_entry_8 (by decide) (fun hc => ?_) (fun hc => ?_)
  · rw [if_pos hc] at hwp
    refine lv_iconst (v := (-1)) hx hb d_N_entry_22 (by decide) ?_
    rw [hQ]
    exact W.iret (v := (-1)) hx hb hr (fun t ht hW => ⟨⟨(-1), (), rfl, hwp, hp_of ht hP⟩, hS.F ht⟩) hS.2.2 d_N_entry_23
  · rw [if_neg hc] at hwp
    refine lv_iload_n hx hb d_N_entry_11 rfl (lv_at hl 1 rfl) ?_
    refine lv_aload_n hx hb d_N_entry_12 rfl (lv_at hl 0 rfl) ?_
    refine va_get (D := (dC, dI)) (ci := 0) (v := .ref (q 5)) (C := R_N) (T := F_N) (N := 7) hx hb hts hiN hown hK hP 0 rfl rfl 4 (by decide) lk40 (fun _ h9 => h9) rfl d_N_entry_13 ?_
    refine ncn_i (As := []) (c_G_last hq (A) (D) (G) (K) (N) (P) (T)  _ hwp) (cwV 0 hts g_N_78 rfl rfl rfl hd_G_last ⟨Nat.le_of_ble_eq_true rfl, Nat.le_of_ble_eq_true rfl⟩) hx hb hml hown hts hK hP hS hl.1 d_N_entry_16 (va_recv (q := (R_G, F_G, 12)) hK hP (ci := 5) (q0 := 5) rfl rfl) rfl (lv_room (Nat.le_of_ble_eq_true rfl)) (Nat.zero_le _) (Nat.zero_le _) rfl (fun r1 u H locs hwp hP hS => ?_)
    have hP : va_P (dC, dI) clZ (wN cI cL cZ q A D G K N P T) H := hP
    refine lv_icmp_le (tgt := 24) hx hb d_N_entry_19 (by decide) (fun hc => ?_) (fun hc => ?_)
    · rw [if_pos hc] at hwp
      refine lv_aload_n hx hb d_N_entry_24 rfl (lv_at hl 0 rfl) ?_
      refine va_get (D := (dC, dI)) (ci := 0) (v := .ref (q 5)) (C := R_N) (T := F_N) (N := 7) hx hb hts hiN hown hK hP 0 rfl rfl 4 (by decide) lk40 (fun _ h9 => h9) rfl d_N_entry_25 ?_
      refine lv_iload_n hx hb d_N_entry_28 rfl (lv_at hl 1 rfl) ?_
      refine ncn_i (As := [.int a1]) (c_G_rowOf hq (A) (D) (G) (K) (N) (P) (T) (a1) _ hwp) (cwV 1 hts g_N_185 rfl rfl rfl hd_G_rowOf ⟨Nat.le_of_ble_eq_true rfl, Nat.le_of_ble_eq_true rfl⟩) hx hb hml hown hts hK hP hS hl.1 d_N_entry_29 (va_recv (q := (R_G, F_G, 12)) hK hP (ci := 5) (q0 := 5) rfl rfl) rfl (lv_room (Nat.le_of_ble_eq_true rfl)) (Nat.zero_le _) (Nat.zero_le _) rfl (fun r2 u H locs hwp hP hS => ?_)
      have hP : va_P (dC, dI) clZ (wN cI cL cZ q A D G K N P T) H := hP
      refine lv_istore_n (lv' := [(3, .int r2), (0, .ref (q 0)), (1, .int a1), (2, .int a2)]) hx hb d_N_entry_32 rfl hl (by decide) rfl (fun ls hl => ?_)
      refine lv_iload_n hx hb d_N_entry_33 rfl (lv_at hl 3 rfl) ?_
      by_cases hc0 : a2 = 0
      · rw [if_pos hc0] at hwp
        refine lv_tableIn (tgt := 72) hx hb d_N_entry_34 (by rw [hc0]; decide) (by rw [hc0]; decide) (by rw [hc0]; rfl) (by decide) ?_
        refine lv_aload_n hx hb d_N_entry_72 rfl (lv_at hl 1 rfl) ?_
        refine va_get (D := (dC, dI)) (ci := 0) (v := .ref (q 5)) (C := R_N) (T := F_N) (N := 7) hx hb hts hiN hown hK hP 0 rfl rfl 4 (by decide) lk40 (fun _ h9 => h9) rfl d_N_entry_73 ?_
        refine va_get (D := (dC, dI)) (ci := 5) (v := .ref (q 21)) (C := R_G) (T := F_G) (N := 12) hx hb hts hiG hown hK hP 5 rfl rfl 3 (by decide) lk188 (fun _ h9 => h9) rfl d_N_entry_76 ?_
        refine lv_iload_n hx hb d_N_entry_79 rfl (lv_at hl 0 rfl) ?_
        refine va_iald hx hb hK hP 21 0 rfl rfl hwp.1 d_N_entry_80 ?_
        have hwp := hwp.2
        rw [hQ]
        exact W.iret (v := ((G_kind G) (Int32.toNatClampNeg r2))) hx hb hr (fun t ht hW => ⟨⟨((G_kind G) (Int32.toNatClampNeg r2)), (), rfl, hwp, hp_of ht hP⟩, hS.F ht⟩) hS.2.2 d_N_entry_81
      rw [if_neg hc0] at hwp
      by_cases hc1 : a2 = 1
      · rw [if_pos hc1] at hwp
        refine lv_tableIn (tgt := 82) hx hb d_N_entry_34 (by rw [hc1]; decide) (by rw [hc1]; decide) (by rw [hc1]; rfl) (by decide) ?_
        refine lv_aload_n hx hb d_N_entry_82 rfl (lv_at hl 1 rfl) ?_
        refine va_get (D := (dC, dI)) (ci := 0) (v := .ref (q 5)) (C := R_N) (T := F_N) (N := 7) hx hb hts hiN hown hK hP 0 rfl rfl 4 (by decide) lk40 (fun _ h9 => h9) rfl d_N_entry_83 ?_
        refine va_get (D := (dC, dI)) (ci := 5) (v := .ref (q 22)) (C := R_G) (T := F_G) (N := 12) hx hb hts hiG hown hK hP 5 rfl rfl 4 (by decide) lk191 (fun _ h9 => h9) rfl d_N_entry_86 ?_
        refine lv_iload_n hx hb d_N_entry_89 rfl (lv_at hl 0 rfl) ?_
        refine va_iald hx hb hK hP 22 0 rfl rfl hwp.1 d_N_entry_90 ?_
        have hwp := hwp.2
        rw [hQ]
        exact W.iret (v := ((G_transaction G) (Int32.toNatClampNeg r2))) hx hb hr (fun t ht hW => ⟨⟨((G_transaction G) (Int32.toNatClampNeg r2)), (), rfl, hwp, hp_of ht hP⟩, hS.F ht⟩) hS.2.2 d_N_entry_91
      rw [if_neg hc1] at hwp
      by_cases hc2 : a2 = 2
      · rw [if_pos hc2] at hwp
        refine lv_tableIn (tgt := 92) hx hb d_N_entry_34 (by rw [hc2]; decide) (by rw [hc2]; decide) (by rw [hc2]; rfl) (by decide) ?_
        refine lv_aload_n hx hb d_N_entry_92 rfl (lv_at hl 1 rfl) ?_
        refine va_get (D := (dC, dI)) (ci := 0) (v := .ref (q 5)) (C := R_N) (T := F_N) (N := 7) hx hb hts hiN hown hK hP 0 rfl rfl 4 (by decide) lk40 (fun _ h9 => h9) rfl d_N_entry_93 ?_
        refine va_get (D := (dC, dI)) (ci := 5) (v := .ref (q 23)) (C := R_G) (T := F_G) (N := 12) hx hb hts hiG hown hK hP 5 rfl rfl 5 (by decide) lk194 (fun _ h9 => h9) rfl d_N_entry_96 ?_
        refine lv_iload_n hx hb d_N_entry_99 rfl (lv_at hl 0 rfl) ?_
        refine va_iald hx hb hK hP 23 0 rfl rfl hwp.1 d_N_entry_100 ?_
        have hwp := hwp.2
        rw [hQ]
        exact W.iret (v := ((G_subject G) (Int32.toNatClampNeg r2))) hx hb hr (fun t ht hW => ⟨⟨((G_subject G) (Int32.toNatClampNeg r2)), (), rfl, hwp, hp_of ht hP⟩, hS.F ht⟩) hS.2.2 d_N_entry_101
      rw [if_neg hc2] at hwp
      by_cases hc3 : a2 = 3
      · rw [if_pos hc3] at hwp
        refine lv_tableIn (tgt := 102) hx hb d_N_entry_34 (by rw [hc3]; decide) (by rw [hc3]; decide) (by rw [hc3]; rfl) (by decide) ?_
        refine lv_aload_n hx hb d_N_entry_102 rfl (lv_at hl 1 rfl) ?_
        refine va_get (D := (dC, dI)) (ci := 0) (v := .ref (q 5)) (C := R_N) (T := F_N) (N := 7) hx hb hts hiN hown hK hP 0 rfl rfl 4 (by decide) lk40 (fun _ h9 => h9) rfl d_N_entry_103 ?_
        refine va_get (D := (dC, dI)) (ci := 5) (v := .ref (q 21)) (C := R_G) (T := F_G) (N := 12) hx hb hts hiG hown hK hP 5 rfl rfl 3 (by decide) lk188 (fun _ h9 => h9) rfl d_N_entry_106 ?_
        refine lv_iload_n hx hb d_N_entry_109 rfl (lv_at hl 0 rfl) ?_
        refine va_iald hx hb hK hP 21 0 rfl rfl hwp.1 d_N_entry_110 ?_
        have hwp := hwp.2
        refine lv_iconst (v := 3) hx hb d_N_entry_111 (by decide) ?_
        refine lv_icmp_ne (tgt := 127) hx hb d_N_entry_112 (by decide) (fun hc => ?_) (fun hc => ?_)
        · rw [if_neg hc] at hwp
          refine lv_aload_n hx hb d_N_entry_127 rfl (lv_at hl 1 rfl) ?_
          refine va_get (D := (dC, dI)) (ci := 0) (v := .ref (q 5)) (C := R_N) (T := F_N) (N := 7) hx hb hts hiN hown hK hP 0 rfl rfl 4 (by decide) lk40 (fun _ h9 => h9) rfl d_N_entry_128 ?_
          refine va_get (D := (dC, dI)) (ci := 5) (v := .ref (q 24)) (C := R_G) (T := F_G) (N := 12) hx hb hts hiG hown hK hP 5 rfl rfl 6 (by decide) lk200 (fun _ h9 => h9) rfl d_N_entry_131 ?_
          refine lv_iload_n hx hb d_N_entry_134 rfl (lv_at hl 0 rfl) ?_
          refine va_zald hx hb hK hP 24 2 rfl rfl hwp.1 d_N_entry_135 ?_
          have hwp := hwp.2
          refine ncs_i (As := [.int ((G_wasThere G) (Int32.toNatClampNeg r2))]) (c_N_asNumber hq (A) (D) (G) (K) (N) (P) (T) (((G_wasThere G) (Int32.toNatClampNeg r2))) _ hwp) (cwS 1 hts g_N_203 rfl rfl rfl hd_N_asNumber ⟨Nat.le_of_ble_eq_true rfl, Nat.le_of_ble_eq_true rfl⟩) hx hb hml hown hts hK hP hS hl.1 d_N_entry_136 rfl (lv_room (Nat.le_of_ble_eq_true rfl)) (Nat.zero_le _) (Nat.zero_le _) rfl (fun r3 u H locs hwp hP hS => ?_)
          have hP : va_P (dC, dI) clZ (wN cI cL cZ q A D G K N P T) H := hP
          rw [hQ]
          exact W.iret (v := r3) hx hb hr (fun t ht hW => ⟨⟨r3, (), rfl, hwp, hp_of ht hP⟩, hS.F ht⟩) hS.2.2 d_N_entry_139
        · rw [if_pos hc] at hwp
          refine lv_aload_n hx hb d_N_entry_115 rfl (lv_at hl 1 rfl) ?_
          refine va_get (D := (dC, dI)) (ci := 0) (v := .ref (q 5)) (C := R_N) (T := F_N) (N := 7) hx hb hts hiN hown hK hP 0 rfl rfl 4 (by decide) lk40 (fun _ h9 => h9) rfl d_N_entry_116 ?_
          refine va_get (D := (dC, dI)) (ci := 5) (v := .ref (q 28)) (C := R_G) (T := F_G) (N := 12) hx hb hts hiG hown hK hP 5 rfl rfl 10 (by decide) lk197 (fun _ h9 => h9) rfl d_N_entry_119 ?_
          refine lv_iload_n hx hb d_N_entry_122 rfl (lv_at hl 0 rfl) ?_
          refine va_iald hx hb hK hP 28 0 rfl rfl hwp.1 d_N_entry_123 ?_
          have hwp := hwp.2
          refine lv_goto hx hb d_N_entry_124 (tgt := 139) (by decide) ?_
          rw [hQ]
          exact W.iret (v := ((G_undoes G) (Int32.toNatClampNeg r2))) hx hb hr (fun t ht hW => ⟨⟨((G_undoes G) (Int32.toNatClampNeg r2)), (), rfl, hwp, hp_of ht hP⟩, hS.F ht⟩) hS.2.2 d_N_entry_139
      rw [if_neg hc3] at hwp
      by_cases hc4 : a2 = 4
      · rw [if_pos hc4] at hwp
        refine lv_tableIn (tgt := 140) hx hb d_N_entry_34 (by rw [hc4]; decide) (by rw [hc4]; decide) (by rw [hc4]; rfl) (by decide) ?_
        refine lv_aload_n hx hb d_N_entry_140 rfl (lv_at hl 1 rfl) ?_
        refine va_get (D := (dC, dI)) (ci := 0) (v := .ref (q 5)) (C := R_N) (T := F_N) (N := 7) hx hb hts hiN hown hK hP 0 rfl rfl 4 (by decide) lk40 (fun _ h9 => h9) rfl d_N_entry_141 ?_
        refine va_get (D := (dC, dI)) (ci := 5) (v := .ref (q 26)) (C := R_G) (T := F_G) (N := 12) hx hb hts hiG hown hK hP 5 rfl rfl 8 (by decide) lk207 (fun _ h9 => h9) rfl d_N_entry_144 ?_
        refine lv_iload_n hx hb d_N_entry_147 rfl (lv_at hl 0 rfl) ?_
        refine va_zald hx hb hK hP 26 2 rfl rfl hwp.1 d_N_entry_148 ?_
        have hwp := hwp.2
        refine ncs_i (As := [.int ((G_isThere G) (Int32.toNatClampNeg r2))]) (c_N_asNumber hq (A) (D) (G) (K) (N) (P) (T) (((G_isThere G) (Int32.toNatClampNeg r2))) _ hwp) (cwS 1 hts g_N_203 rfl rfl rfl hd_N_asNumber ⟨Nat.le_of_ble_eq_true rfl, Nat.le_of_ble_eq_true rfl⟩) hx hb hml hown hts hK hP hS hl.1 d_N_entry_149 rfl (lv_room (Nat.le_of_ble_eq_true rfl)) (Nat.zero_le _) (Nat.zero_le _) rfl (fun r4 u H locs hwp hP hS => ?_)
        have hP : va_P (dC, dI) clZ (wN cI cL cZ q A D G K N P T) H := hP
        rw [hQ]
        exact W.iret (v := r4) hx hb hr (fun t ht hW => ⟨⟨r4, (), rfl, hwp, hp_of ht hP⟩, hS.F ht⟩) hS.2.2 d_N_entry_152
      rw [if_neg hc4] at hwp
      by_cases hc5 : a2 = 5
      · rw [if_pos hc5] at hwp
        refine lv_tableIn (tgt := 153) hx hb d_N_entry_34 (by rw [hc5]; decide) (by rw [hc5]; decide) (by rw [hc5]; rfl) (by decide) ?_
        refine lv_aload_n hx hb d_N_entry_153 rfl (lv_at hl 1 rfl) ?_
        refine va_get (D := (dC, dI)) (ci := 0) (v := .ref (q 5)) (C := R_N) (T := F_N) (N := 7) hx hb hts hiN hown hK hP 0 rfl rfl 4 (by decide) lk40 (fun _ h9 => h9) rfl d_N_entry_154 ?_
        refine va_get (D := (dC, dI)) (ci := 5) (v := .ref (q 27)) (C := R_G) (T := F_G) (N := 12) hx hb hts hiG hown hK hP 5 rfl rfl 9 (by decide) lk210 (fun _ h9 => h9) rfl d_N_entry_157 ?_
        refine lv_iload_n hx hb d_N_entry_160 rfl (lv_at hl 0 rfl) ?_
        refine va_iald hx hb hK hP 27 0 rfl rfl hwp.1 d_N_entry_161 ?_
        have hwp := hwp.2
        rw [hQ]
        exact W.iret (v := ((G_newValue G) (Int32.toNatClampNeg r2))) hx hb hr (fun t ht hW => ⟨⟨((G_newValue G) (Int32.toNatClampNeg r2)), (), rfl, hwp, hp_of ht hP⟩, hS.F ht⟩) hS.2.2 d_N_entry_162
      rw [if_neg hc5] at hwp
      refine lv_tableOut (tgt := 163) hx hb d_N_entry_34 (by have h0 := lv_neT hc0 (a := 0) rfl; have h1 := lv_neT hc1 (a := 1) rfl; have h2 := lv_neT hc2 (a := 2) rfl; have h3 := lv_neT hc3 (a := 3) rfl; have h4 := lv_neT hc4 (a := 4) rfl; have h5 := lv_neT hc5 (a := 5) rfl; omega) (by decide) ?_
      refine lv_iconst (v := (-1)) hx hb d_N_entry_163 (by decide) ?_
      rw [hQ]
      exact W.iret (v := (-1)) hx hb hr (fun t ht hW => ⟨⟨(-1), (), rfl, hwp, hp_of ht hP⟩, hS.F ht⟩) hS.2.2 d_N_entry_164
    · rw [if_neg hc] at hwp
      refine lv_iconst (v := (-1)) hx hb d_N_entry_22 (by decide) ?_
      rw [hQ]
      exact W.iret (v := (-1)) hx hb hr (fun t ht hW => ⟨⟨(-1), (), rfl, hwp, hp_of ht hP⟩, hS.F ht⟩) hS.2.2 d_N_entry_23

set_option maxHeartbeats 4000000 in
set_option maxRecDepth 100000 in
theorem c_N_log {l : Launch} {dC : Nat → ClassId} {dI : Nat → Nat → Nat} {cI cL cZ : ClassId} {q : Nat → Nat} (hq : iN q) (A : S_A) (D : S_D) (G : S_G) (K : S_K) (N : S_N) (P : S_P) (T : S_T) (a1 : Int32) (post : Int32 → Prop) (hwp : wp_N_log G T a1 post) : Met l y_N_log ws_N_log rm_N_log (va_Pc [.ref (q 0), .int a1] (bN dC dI cI cL cZ q A D G K N P T)) (va_Qi (fun (r : Int32) (u : Unit) => post r) (fun u t => va_P (dC, dI) clZ (wN cI cL cZ q A D G K N P T) t.heap) (aN q)) 0 0 (aN q) := by
  refine Met.ofW (cc := b_N_log) (maxL := 2) (ret := (some .int)) (by decide) rfl ?_
  intro p e s m args below meth c s₁ B hml hv
  obtain ⟨rfl, hP, hK⟩ := hv
  have hx := B.exec
  have hb := B.bytes
  have hr := B.returns
  have hts := atoms_spec (ws := ws_N_log) B.pre
  have hown : s.vm.findClass R_N = some m.cls := findClass_of_methodNamed B.named
  have hlocks := B.notSynchronized
  have hiN : ∀ w ∈ u_ws R_N F_N 7, w ∈ ws_N_log := fun w h => List.mem_cons_of_mem _ (in_N w h)
  have hiG : ∀ w ∈ u_ws R_G F_G 12, w ∈ ws_N_log := fun w h => List.mem_cons_of_mem _ (in_G w h)
  have lk12 := hts _ (List.mem_cons_of_mem _ k_N_12)
  have lk40 := hts _ (List.mem_cons_of_mem _ k_N_40)
  have lk112 := hts _ (List.mem_cons_of_mem _ k_N_112)
  have lk213 := hts _ (List.mem_cons_of_mem _ k_N_213)
  have hS : va_S (aN q) s.heap s.heap [] := va_S.rf
  have hl := lv_entry ([.ref (q 0), .int a1]) (n := 2) (Nat.le_of_ble_eq_true rfl)
  rw [lg_entry_eq]
  generalize (lg_sl ([.ref (q 0), .int a1]) ++ List.replicate (2 - (lg_sl ([.ref (q 0), .int a1])).length) Slot.unset).toArray = ls at hl ⊢
  have hl : lv_has ls 2 [(0, .ref (q 0)), (1, .int a1)] := hl
  obtain ⟨Q, hQ⟩ : ∃ Q, Q = MQ below (va_Qi (fun (r : Int32) (u : Unit) => post r) (fun u t => va_P (dC, dI) clZ (wN cI cL cZ q A D G K N P T) t.heap) (aN q)) ([.ref (q 0), .int a1]).toArray s 0 0 (aN q) := ⟨_, rfl⟩
  rw [← hQ]
  rw [wp_N_log] at hwp
  refine lv_iload_n hx hb d_N_log_0 rfl (lv_at hl 1 rfl) ?_
  by_cases hc0 : a1 = 0
  · rw [if_pos hc0] at hwp
    refine lv_tableIn (tgt := 36) hx hb d_N_log_1 (by rw [hc0]; decide) (by rw [hc0]; decide) (by rw [hc0]; rfl) (by decide) ?_
    refine lv_aload_n hx hb d_N_log_36 rfl (lv_at hl 0 rfl) ?_
    refine va_get (D := (dC, dI)) (ci := 0) (v := .ref (q 5)) (C := R_N) (T := F_N) (N := 7) hx hb hts hiN hown hK hP 0 rfl rfl 4 (by decide) lk40 (fun _ h9 => h9) rfl d_N_log_37 ?_
    refine ncn_i (As := []) (c_G_last hq (A) (D) (G) (K) (N) (P) (T)  _ hwp) (cwV 0 hts g_N_78 rfl rfl rfl hd_G_last ⟨Nat.le_of_ble_eq_true rfl, Nat.le_of_ble_eq_true rfl⟩) hx hb hml hown hts hK hP hS hl.1 d_N_log_40 (va_recv (q := (R_G, F_G, 12)) hK hP (ci := 5) (q0 := 5) rfl rfl) rfl (lv_room (Nat.le_of_ble_eq_true rfl)) (Nat.zero_le _) (Nat.zero_le _) rfl (fun r1 u H locs hwp hP hS => ?_)
    have hP : va_P (dC, dI) clZ (wN cI cL cZ q A D G K N P T) H := hP
    rw [hQ]
    exact W.iret (v := r1) hx hb hr (fun t ht hW => ⟨⟨r1, (), rfl, hwp, hp_of ht hP⟩, hS.F ht⟩) hS.2.2 d_N_log_43
  rw [if_neg hc0] at hwp
  by_cases hc1 : a1 = 1
  · rw [if_pos hc1] at hwp
    refine lv_tableIn (tgt := 44) hx hb d_N_log_1 (by rw [hc1]; decide) (by rw [hc1]; decide) (by rw [hc1]; rfl) (by decide) ?_
    refine lv_aload_n hx hb d_N_log_44 rfl (lv_at hl 0 rfl) ?_
    refine va_get (D := (dC, dI)) (ci := 0) (v := .ref (q 5)) (C := R_N) (T := F_N) (N := 7) hx hb hts hiN hown hK hP 0 rfl rfl 4 (by decide) lk40 (fun _ h9 => h9) rfl d_N_log_45 ?_
    refine va_get (D := (dC, dI)) (ci := 5) (v := .int (G_flushed G)) (C := R_G) (T := F_G) (N := 12) hx hb hts hiG hown hK hP 5 rfl rfl 2 (by decide) lk112 (fun _ h9 => h9) rfl d_N_log_48 ?_
    rw [hQ]
    exact W.iret (v := (G_flushed G)) hx hb hr (fun t ht hW => ⟨⟨(G_flushed G), (), rfl, hwp, hp_of ht hP⟩, hS.F ht⟩) hS.2.2 d_N_log_51
  rw [if_neg hc1] at hwp
  by_cases hc2 : a1 = 2
  · rw [if_pos hc2] at hwp
    refine lv_tableIn (tgt := 52) hx hb d_N_log_1 (by rw [hc2]; decide) (by rw [hc2]; decide) (by rw [hc2]; rfl) (by decide) ?_
    refine lv_aload_n hx hb d_N_log_52 rfl (lv_at hl 0 rfl) ?_
    refine va_get (D := (dC, dI)) (ci := 0) (v := .ref (q 5)) (C := R_N) (T := F_N) (N := 7) hx hb hts hiN hown hK hP 0 rfl rfl 4 (by decide) lk40 (fun _ h9 => h9) rfl d_N_log_53 ?_
    refine va_get (D := (dC, dI)) (ci := 5) (v := .int (G_size G)) (C := R_G) (T := F_G) (N := 12) hx hb hts hiG hown hK hP 5 rfl rfl 1 (by decide) lk213 (fun _ h9 => h9) rfl d_N_log_56 ?_
    rw [hQ]
    exact W.iret (v := (G_size G)) hx hb hr (fun t ht hW => ⟨⟨(G_size G), (), rfl, hwp, hp_of ht hP⟩, hS.F ht⟩) hS.2.2 d_N_log_59
  rw [if_neg hc2] at hwp
  by_cases hc3 : a1 = 3
  · rw [if_pos hc3] at hwp
    refine lv_tableIn (tgt := 60) hx hb d_N_log_1 (by rw [hc3]; decide) (by rw [hc3]; decide) (by rw [hc3]; rfl) (by decide) ?_
    refine lv_aload_n hx hb d_N_log_60 rfl (lv_at hl 0 rfl) ?_
    refine ncn_i (As := []) (c_N_openUpdateCount hq (A) (D) (G) (K) (N) (P) (T)  _ hwp) (cwV 0 hts g_N_216 rfl rfl rfl hd_N_openUpdateCount ⟨Nat.le_of_ble_eq_true rfl, Nat.le_of_ble_eq_true rfl⟩) hx hb hml hown hts hK hP hS hl.1 d_N_log_61 (va_recv (q := (R_N, F_N, 7)) hK hP (ci := 0) (q0 := 0) rfl rfl) rfl (lv_room (Nat.le_of_ble_eq_true rfl)) (Nat.zero_le _) (Nat.zero_le _) rfl (fun r2 u H locs hwp hP hS => ?_)
    have hP : va_P (dC, dI) clZ (wN cI cL cZ q A D G K N P T) H := hP
    rw [hQ]
    exact W.iret (v := r2) hx hb hr (fun t ht hW => ⟨⟨r2, (), rfl, hwp, hp_of ht hP⟩, hS.F ht⟩) hS.2.2 d_N_log_64
  rw [if_neg hc3] at hwp
  by_cases hc4 : a1 = 4
  · rw [if_pos hc4] at hwp
    refine lv_tableIn (tgt := 65) hx hb d_N_log_1 (by rw [hc4]; decide) (by rw [hc4]; decide) (by rw [hc4]; rfl) (by decide) ?_
    refine lv_aload_n hx hb d_N_log_65 rfl (lv_at hl 0 rfl) ?_
    refine va_get (D := (dC, dI)) (ci := 0) (v := .ref (q 1)) (C := R_N) (T := F_N) (N := 7) hx hb hts hiN hown hK hP 0 rfl rfl 0 (by decide) lk12 (fun _ h9 => h9) rfl d_N_log_66 ?_
    refine ncn_i (As := []) (c_T_liveCount hq (A) (D) (G) (K) (N) (P) (T)  _ hwp) (cwV 0 hts g_N_148 rfl rfl rfl hd_T_liveCount ⟨Nat.le_of_ble_eq_true rfl, Nat.le_of_ble_eq_true rfl⟩) hx hb hml hown hts hK hP hS hl.1 d_N_log_69 (va_recv (q := (R_T, F_T, 11)) hK hP (ci := 1) (q0 := 1) rfl rfl) rfl (lv_room (Nat.le_of_ble_eq_true rfl)) (Nat.zero_le _) (Nat.zero_le _) rfl (fun r3 u H locs hwp hP hS => ?_)
    have hP : va_P (dC, dI) clZ (wN cI cL cZ q A D G K N P T) H := hP
    rw [hQ]
    exact W.iret (v := r3) hx hb hr (fun t ht hW => ⟨⟨r3, (), rfl, hwp, hp_of ht hP⟩, hS.F ht⟩) hS.2.2 d_N_log_72
  rw [if_neg hc4] at hwp
  refine lv_tableOut (tgt := 73) hx hb d_N_log_1 (by have h0 := lv_neT hc0 (a := 0) rfl; have h1 := lv_neT hc1 (a := 1) rfl; have h2 := lv_neT hc2 (a := 2) rfl; have h3 := lv_neT hc3 (a := 3) rfl; have h4 := lv_neT hc4 (a := 4) rfl; omega) (by decide) ?_
  refine lv_iconst (v := (-1)) hx hb d_N_log_73 (by decide) ?_
  rw [hQ]
  exact W.iret (v := (-1)) hx hb hr (fun t ht hW => ⟨⟨(-1), (), rfl, hwp, hp_of ht hP⟩, hS.F ht⟩) hS.2.2 d_N_log_74

set_option maxHeartbeats 4000000 in
set_option maxRecDepth 100000 in
theorem c_N_key {l : Launch} {dC : Nat → ClassId} {dI : Nat → Nat → Nat} {cI cL cZ : ClassId} {q : Nat → Nat} (hq : iN q) (A : S_A) (D : S_D) (G : S_G) (K : S_K) (N : S_N) (P : S_P) (T : S_T) (a1 : Int32) (a2 : Int32) (post : Int32 → Prop) (hwp : wp_N_key A a1 a2 post) : Met l y_N_key ws_N_key rm_N_key (va_Pc [.ref (q 0), .int a1, .int a2] (bN dC dI cI cL cZ q A D G K N P T)) (va_Qi (fun (r : Int32) (u : Unit) => post r) (fun u t => va_P (dC, dI) clZ (wN cI cL cZ q A D G K N P T) t.heap) (aN q)) 0 0 (aN q) := by
  refine Met.ofW (cc := b_N_key) (maxL := 3) (ret := (some .int)) (by decide) rfl ?_
  intro p e s m args below meth c s₁ B hml hv
  obtain ⟨rfl, hP, hK⟩ := hv
  have hx := B.exec
  have hb := B.bytes
  have hr := B.returns
  have hts := atoms_spec (ws := ws_N_key) B.pre
  have hown : s.vm.findClass R_N = some m.cls := findClass_of_methodNamed B.named
  have hlocks := B.notSynchronized
  have hiN : ∀ w ∈ u_ws R_N F_N 7, w ∈ ws_N_key := fun w h => List.mem_cons_of_mem _ (in_N w h)
  have hiA : ∀ w ∈ u_ws R_A F_A 10, w ∈ ws_N_key := fun w h => List.mem_cons_of_mem _ (in_A w h)
  have lk58 := hts _ (List.mem_cons_of_mem _ k_N_58)
  have lk222 := hts _ (List.mem_cons_of_mem _ k_N_222)
  have lk225 := hts _ (List.mem_cons_of_mem _ k_N_225)
  have lk228 := hts _ (List.mem_cons_of_mem _ k_N_228)
  have lk231 := hts _ (List.mem_cons_of_mem _ k_N_231)
  have hS : va_S (aN q) s.heap s.heap [] := va_S.rf
  have hl := lv_entry ([.ref (q 0), .int a1, .int a2]) (n := 3) (Nat.le_of_ble_eq_true rfl)
  rw [lg_entry_eq]
  generalize (lg_sl ([.ref (q 0), .int a1, .int a2]) ++ List.replicate (3 - (lg_sl ([.ref (q 0), .int a1, .int a2])).length) Slot.unset).toArray = ls at hl ⊢
  have hl : lv_has ls 3 [(0, .ref (q 0)), (1, .int a1), (2, .int a2)] := hl
  obtain ⟨Q, hQ⟩ : ∃ Q, Q = MQ below (va_Qi (fun (r : Int32) (u : Unit) => post r) (fun u t => va_P (dC, dI) clZ (wN cI cL cZ q A D G K N P T) t.heap) (aN q)) ([.ref (q 0), .int a1, .int a2]).toArray s 0 0 (aN q) := ⟨_, rfl⟩
  rw [← hQ]
  rw [wp_N_key] at hwp
  refine lv_iload_n hx hb d_N_key_0 rfl (lv_at hl 1 rfl) ?_
  refine ncs_i (As := [.int a1]) (c_N_isKey hq (A) (D) (G) (K) (N) (P) (T) (a1) _ hwp) (cwS 1 hts g_N_219 rfl rfl rfl hd_N_isKey ⟨Nat.le_of_ble_eq_true rfl, Nat.le_of_ble_eq_true rfl⟩) hx hb hml hown hts hK hP hS hl.1 d_N_key_1 rfl (lv_room (Nat.le_of_ble_eq_true rfl)) (Nat.zero_le _) (Nat.zero_le _) rfl (fun r1 u H locs hwp hP hS => ?_)
  have hP : va_P (dC, dI) clZ (wN cI cL cZ q A D G K N P T) H := hP
  refine lv_if_ne (tgt := 9) hx hb d_N_key_4 (by decide) (fun hc => ?_) (fun hc => ?_)
  · rw [if_neg hc] at hwp
    refine lv_iload_n hx hb d_N_key_9 rfl (lv_at hl 2 rfl) ?_
    by_cases hc0 : a2 = 0
    · rw [if_pos hc0] at hwp
      refine lv_tableIn (tgt := 40) hx hb d_N_key_10 (by rw [hc0]; decide) (by rw [hc0]; decide) (by rw [hc0]; rfl) (by decide) ?_
      refine lv_aload_n hx hb d_N_key_40 rfl (lv_at hl 0 rfl) ?_
      refine va_get (D := (dC, dI)) (ci := 0) (v := .ref (q 6)) (C := R_N) (T := F_N) (N := 7) hx hb hts hiN hown hK hP 0 rfl rfl 5 (by decide) lk58 (fun _ h9 => h9) rfl d_N_key_41 ?_
      refine va_get (D := (dC, dI)) (ci := 6) (v := .ref (q 33)) (C := R_A) (T := F_A) (N := 10) hx hb hts hiA hown hK hP 6 rfl rfl 5 (by decide) lk222 (fun _ h9 => h9) rfl d_N_key_44 ?_
      refine lv_iload_n hx hb d_N_key_47 rfl (lv_at hl 1 rfl) ?_
      refine va_zald hx hb hK hP 33 2 rfl rfl hwp.1 d_N_key_48 ?_
      have hwp := hwp.2
      refine ncs_i (As := [.int ((A_there A) (Int32.toNatClampNeg a1))]) (c_N_asNumber hq (A) (D) (G) (K) (N) (P) (T) (((A_there A) (Int32.toNatClampNeg a1))) _ hwp) (cwS 1 hts g_N_203 rfl rfl rfl hd_N_asNumber ⟨Nat.le_of_ble_eq_true rfl, Nat.le_of_ble_eq_true rfl⟩) hx hb hml hown hts hK hP hS hl.1 d_N_key_49 rfl (lv_room (Nat.le_of_ble_eq_true rfl)) (Nat.zero_le _) (Nat.zero_le _) rfl (fun r2 u H locs hwp hP hS => ?_)
      have hP : va_P (dC, dI) clZ (wN cI cL cZ q A D G K N P T) H := hP
      rw [hQ]
      exact W.iret (v := r2) hx hb hr (fun t ht hW => ⟨⟨r2, (), rfl, hwp, hp_of ht hP⟩, hS.F ht⟩) hS.2.2 d_N_key_52
    rw [if_neg hc0] at hwp
    by_cases hc1 : a2 = 1
    · rw [if_pos hc1] at hwp
      refine lv_tableIn (tgt := 53) hx hb d_N_key_10 (by rw [hc1]; decide) (by rw [hc1]; decide) (by rw [hc1]; rfl) (by decide) ?_
      refine lv_aload_n hx hb d_N_key_53 rfl (lv_at hl 0 rfl) ?_
      refine va_get (D := (dC, dI)) (ci := 0) (v := .ref (q 6)) (C := R_N) (T := F_N) (N := 7) hx hb hts hiN hown hK hP 0 rfl rfl 5 (by decide) lk58 (fun _ h9 => h9) rfl d_N_key_54 ?_
      refine va_get (D := (dC, dI)) (ci := 6) (v := .ref (q 34)) (C := R_A) (T := F_A) (N := 10) hx hb hts hiA hown hK hP 6 rfl rfl 6 (by decide) lk225 (fun _ h9 => h9) rfl d_N_key_57 ?_
      refine lv_iload_n hx hb d_N_key_60 rfl (lv_at hl 1 rfl) ?_
      refine va_iald hx hb hK hP 34 0 rfl rfl hwp.1 d_N_key_61 ?_
      have hwp := hwp.2
      rw [hQ]
      exact W.iret (v := ((A_value A) (Int32.toNatClampNeg a1))) hx hb hr (fun t ht hW => ⟨⟨((A_value A) (Int32.toNatClampNeg a1)), (), rfl, hwp, hp_of ht hP⟩, hS.F ht⟩) hS.2.2 d_N_key_62
    rw [if_neg hc1] at hwp
    by_cases hc2 : a2 = 2
    · rw [if_pos hc2] at hwp
      refine lv_tableIn (tgt := 63) hx hb d_N_key_10 (by rw [hc2]; decide) (by rw [hc2]; decide) (by rw [hc2]; rfl) (by decide) ?_
      refine lv_aload_n hx hb d_N_key_63 rfl (lv_at hl 0 rfl) ?_
      refine va_get (D := (dC, dI)) (ci := 0) (v := .ref (q 6)) (C := R_N) (T := F_N) (N := 7) hx hb hts hiN hown hK hP 0 rfl rfl 5 (by decide) lk58 (fun _ h9 => h9) rfl d_N_key_64 ?_
      refine va_get (D := (dC, dI)) (ci := 6) (v := .ref (q 36)) (C := R_A) (T := F_A) (N := 10) hx hb hts hiA hown hK hP 6 rfl rfl 8 (by decide) lk228 (fun _ h9 => h9) rfl d_N_key_67 ?_
      refine lv_iload_n hx hb d_N_key_70 rfl (lv_at hl 1 rfl) ?_
      refine va_zald hx hb hK hP 36 2 rfl rfl hwp.1 d_N_key_71 ?_
      have hwp := hwp.2
      refine ncs_i (As := [.int ((A_diskThere A) (Int32.toNatClampNeg a1))]) (c_N_asNumber hq (A) (D) (G) (K) (N) (P) (T) (((A_diskThere A) (Int32.toNatClampNeg a1))) _ hwp) (cwS 1 hts g_N_203 rfl rfl rfl hd_N_asNumber ⟨Nat.le_of_ble_eq_true rfl, Nat.le_of_ble_eq_true rfl⟩) hx hb hml hown hts hK hP hS hl.1 d_N_key_72 rfl (lv_room (Nat.le_of_ble_eq_true rfl)) (Nat.zero_le _) (Nat.zero_le _) rfl (fun r3 u H locs hwp hP hS => ?_)
      have hP : va_P (dC, dI) clZ (wN cI cL cZ q A D G K N P T) H := hP
      rw [hQ]
      exact W.iret (v := r3) hx hb hr (fun t ht hW => ⟨⟨r3, (), rfl, hwp, hp_of ht hP⟩, hS.F ht⟩) hS.2.2 d_N_key_75
    rw [if_neg hc2] at hwp
    by_cases hc3 : a2 = 3
    · rw [if_pos hc3] at hwp
      refine lv_tableIn (tgt := 76) hx hb d_N_key_10 (by rw [hc3]; decide) (by rw [hc3]; decide) (by rw [hc3]; rfl) (by decide) ?_
      refine lv_aload_n hx hb d_N_key_76 rfl (lv_at hl 0 rfl) ?_
      refine va_get (D := (dC, dI)) (ci := 0) (v := .ref (q 6)) (C := R_N) (T := F_N) (N := 7) hx hb hts hiN hown hK hP 0 rfl rfl 5 (by decide) lk58 (fun _ h9 => h9) rfl d_N_key_77 ?_
      refine va_get (D := (dC, dI)) (ci := 6) (v := .ref (q 37)) (C := R_A) (T := F_A) (N := 10) hx hb hts hiA hown hK hP 6 rfl rfl 9 (by decide) lk231 (fun _ h9 => h9) rfl d_N_key_80 ?_
      refine lv_iload_n hx hb d_N_key_83 rfl (lv_at hl 1 rfl) ?_
      refine va_iald hx hb hK hP 37 0 rfl rfl hwp.1 d_N_key_84 ?_
      have hwp := hwp.2
      rw [hQ]
      exact W.iret (v := ((A_diskValue A) (Int32.toNatClampNeg a1))) hx hb hr (fun t ht hW => ⟨⟨((A_diskValue A) (Int32.toNatClampNeg a1)), (), rfl, hwp, hp_of ht hP⟩, hS.F ht⟩) hS.2.2 d_N_key_85
    rw [if_neg hc3] at hwp
    refine lv_tableOut (tgt := 86) hx hb d_N_key_10 (by have h0 := lv_neT hc0 (a := 0) rfl; have h1 := lv_neT hc1 (a := 1) rfl; have h2 := lv_neT hc2 (a := 2) rfl; have h3 := lv_neT hc3 (a := 3) rfl; omega) (by decide) ?_
    refine lv_iconst (v := (-1)) hx hb d_N_key_86 (by decide) ?_
    rw [hQ]
    exact W.iret (v := (-1)) hx hb hr (fun t ht hW => ⟨⟨(-1), (), rfl, hwp, hp_of ht hP⟩, hS.F ht⟩) hS.2.2 d_N_key_87
  · rw [if_pos hc] at hwp
    refine lv_iconst (v := (-1)) hx hb d_N_key_7 (by decide) ?_
    rw [hQ]
    exact W.iret (v := (-1)) hx hb hr (fun t ht hW => ⟨⟨(-1), (), rfl, hwp, hp_of ht hP⟩, hS.F ht⟩) hS.2.2 d_N_key_8

set_option maxHeartbeats 4000000 in
set_option maxRecDepth 100000 in
theorem c_N_frame {l : Launch} {dC : Nat → ClassId} {dI : Nat → Nat → Nat} {cI cL cZ : ClassId} {q : Nat → Nat} (hq : iN q) (A : S_A) (D : S_D) (G : S_G) (K : S_K) (N : S_N) (P : S_P) (T : S_T) (a1 : Int32) (post : Int32 → Prop) (hwp : wp_N_frame A a1 post) : Met l y_N_frame ws_N_frame rm_N_frame (va_Pc [.ref (q 0), .int a1] (bN dC dI cI cL cZ q A D G K N P T)) (va_Qi (fun (r : Int32) (u : Unit) => post r) (fun u t => va_P (dC, dI) clZ (wN cI cL cZ q A D G K N P T) t.heap) (aN q)) 0 0 (aN q) := by
  refine Met.ofW (cc := b_N_frame) (maxL := 3) (ret := (some .int)) (by decide) rfl ?_
  intro p e s m args below meth c s₁ B hml hv
  obtain ⟨rfl, hP, hK⟩ := hv
  have hx := B.exec
  have hb := B.bytes
  have hr := B.returns
  have hts := atoms_spec (ws := ws_N_frame) B.pre
  have hown : s.vm.findClass R_N = some m.cls := findClass_of_methodNamed B.named
  have hlocks := B.notSynchronized
  have hiN : ∀ w ∈ u_ws R_N F_N 7, w ∈ ws_N_frame := fun w h => List.mem_cons_of_mem _ (in_N w h)
  have hiA : ∀ w ∈ u_ws R_A F_A 10, w ∈ ws_N_frame := fun w h => List.mem_cons_of_mem _ (in_A w h)
  have lk58 := hts _ (List.mem_cons_of_mem _ k_N_58)
  have lk140 := hts _ (List.mem_cons_of_mem _ k_N_140)
  have lk234 := hts _ (List.mem_cons_of_mem _ k_N_234)
  have lk237 := hts _ (List.mem_cons_of_mem _ k_N_237)
  have hS : va_S (aN q) s.heap s.heap [] := va_S.rf
  have hl := lv_entry ([.ref (q 0), .int a1]) (n := 3) (Nat.le_of_ble_eq_true rfl)
  rw [lg_entry_eq]
  generalize (lg_sl ([.ref (q 0), .int a1]) ++ List.replicate (3 - (lg_sl ([.ref (q 0), .int a1])).length) Slot.unset).toArray = ls at hl ⊢
  have hl : lv_has ls 3 [(0, .ref (q 0)), (1, .int a1)] := hl
  obtain ⟨Q, hQ⟩ : ∃ Q, Q = MQ below (va_Qi (fun (r : Int32) (u : Unit) => post r) (fun u t => va_P (dC, dI) clZ (wN cI cL cZ q A D G K N P T) t.heap) (aN q)) ([.ref (q 0), .int a1]).toArray s 0 0 (aN q) := ⟨_, rfl⟩
  rw [← hQ]
  rw [wp_N_frame] at hwp
  refine lv_iload_n hx hb d_N_frame_0 rfl (lv_at hl 1 rfl) ?_
  refine lv_if_lt (tgt := 15) hx hb d_N_frame_1 (by decide) (fun hc => ?_) (fun hc => ?_)
  · rw [if_pos hc] at hwp
    refine lv_iconst (v := (-1)) hx hb d_N_frame_15 (by decide) ?_
    rw [hQ]
    exact W.iret (v := (-1)) hx hb hr (fun t ht hW => ⟨⟨(-1), (), rfl, hwp, hp_of ht hP⟩, hS.F ht⟩) hS.2.2 d_N_frame_16
  · rw [if_neg hc] at hwp
    refine lv_iload_n hx hb d_N_frame_4 rfl (lv_at hl 1 rfl) ?_
    refine lv_aload_n hx hb d_N_frame_5 rfl (lv_at hl 0 rfl) ?_
    refine va_get (D := (dC, dI)) (ci := 0) (v := .ref (q 6)) (C := R_N) (T := F_N) (N := 7) hx hb hts hiN hown hK hP 0 rfl rfl 5 (by decide) lk58 (fun _ h9 => h9) rfl d_N_frame_6 ?_
    refine va_get (D := (dC, dI)) (ci := 6) (v := .int (A_framesInUse A)) (C := R_A) (T := F_A) (N := 10) hx hb hts hiA hown hK hP 6 rfl rfl 1 (by decide) lk234 (fun _ h9 => h9) rfl d_N_frame_9 ?_
    refine lv_icmp_lt (tgt := 17) hx hb d_N_frame_12 (by decide) (fun hc => ?_) (fun hc => ?_)
    · rw [if_pos hc] at hwp
      refine lv_aload_n hx hb d_N_frame_17 rfl (lv_at hl 0 rfl) ?_
      refine va_get (D := (dC, dI)) (ci := 0) (v := .ref (q 6)) (C := R_N) (T := F_N) (N := 7) hx hb hts hiN hown hK hP 0 rfl rfl 5 (by decide) lk58 (fun _ h9 => h9) rfl d_N_frame_18 ?_
      refine va_get (D := (dC, dI)) (ci := 6) (v := .ref (q 30)) (C := R_A) (T := F_A) (N := 10) hx hb hts hiA hown hK hP 6 rfl rfl 2 (by decide) lk237 (fun _ h9 => h9) rfl d_N_frame_21 ?_
      refine lv_iload_n hx hb d_N_frame_24 rfl (lv_at hl 1 rfl) ?_
      refine va_iald hx hb hK hP 30 0 rfl rfl hwp.1 d_N_frame_25 ?_
      have hwp := hwp.2
      refine lv_istore_n (lv' := [(2, .int ((A_byTouch A) (Int32.toNatClampNeg a1))), (0, .ref (q 0)), (1, .int a1)]) hx hb d_N_frame_26 rfl hl (by decide) rfl (fun ls hl => ?_)
      refine lv_iload_n hx hb d_N_frame_27 rfl (lv_at hl 0 rfl) ?_
      refine lv_iconst (v := 2) hx hb d_N_frame_28 (by decide) ?_
      refine lv_imul hx hb d_N_frame_29 ?_
      refine lv_aload_n hx hb d_N_frame_30 rfl (lv_at hl 1 rfl) ?_
      refine va_get (D := (dC, dI)) (ci := 0) (v := .ref (q 6)) (C := R_N) (T := F_N) (N := 7) hx hb hts hiN hown hK hP 0 rfl rfl 5 (by decide) lk58 (fun _ h9 => h9) rfl d_N_frame_31 ?_
      refine va_get (D := (dC, dI)) (ci := 6) (v := .ref (q 31)) (C := R_A) (T := F_A) (N := 10) hx hb hts hiA hown hK hP 6 rfl rfl 3 (by decide) lk140 (fun _ h9 => h9) rfl d_N_frame_34 ?_
      refine lv_iload_n hx hb d_N_frame_37 rfl (lv_at hl 0 rfl) ?_
      refine va_zald hx hb hK hP 31 2 rfl rfl hwp.1 d_N_frame_38 ?_
      have hwp := hwp.2
      refine ncs_i (As := [.int ((A_dirty A) (Int32.toNatClampNeg ((A_byTouch A) (Int32.toNatClampNeg a1))))]) (c_N_asNumber hq (A) (D) (G) (K) (N) (P) (T) (((A_dirty A) (Int32.toNatClampNeg ((A_byTouch A) (Int32.toNatClampNeg a1))))) _ hwp) (cwS 1 hts g_N_203 rfl rfl rfl hd_N_asNumber ⟨Nat.le_of_ble_eq_true rfl, Nat.le_of_ble_eq_true rfl⟩) hx hb hml hown hts hK hP hS hl.1 d_N_frame_39 rfl (lv_room (Nat.le_of_ble_eq_true rfl)) (Nat.zero_le _) (Nat.zero_le _) rfl (fun r1 u H locs hwp hP hS => ?_)
      have hP : va_P (dC, dI) clZ (wN cI cL cZ q A D G K N P T) H := hP
      refine lv_iadd hx hb d_N_frame_42 ?_
      rw [hQ]
      exact W.iret (v := ((((A_byTouch A) (Int32.toNatClampNeg a1)) * 2) + r1)) hx hb hr (fun t ht hW => ⟨⟨((((A_byTouch A) (Int32.toNatClampNeg a1)) * 2) + r1), (), rfl, hwp, hp_of ht hP⟩, hS.F ht⟩) hS.2.2 d_N_frame_43
    · rw [if_neg hc] at hwp
      refine lv_iconst (v := (-1)) hx hb d_N_frame_15 (by decide) ?_
      rw [hQ]
      exact W.iret (v := (-1)) hx hb hr (fun t ht hW => ⟨⟨(-1), (), rfl, hwp, hp_of ht hP⟩, hS.F ht⟩) hS.2.2 d_N_frame_16

set_option maxHeartbeats 4000000 in
set_option maxRecDepth 100000 in
theorem c_N_page {l : Launch} {dC : Nat → ClassId} {dI : Nat → Nat → Nat} {cI cL cZ : ClassId} {q : Nat → Nat} (hq : iN q) (A : S_A) (D : S_D) (G : S_G) (K : S_K) (N : S_N) (P : S_P) (T : S_T) (a1 : Int32) (post : Int32 → Prop) (hwp : wp_N_page A a1 post) : Met l y_N_page ws_N_page rm_N_page (va_Pc [.ref (q 0), .int a1] (bN dC dI cI cL cZ q A D G K N P T)) (va_Qi (fun (r : Int32) (u : Unit) => post r) (fun u t => va_P (dC, dI) clZ (wN cI cL cZ q A D G K N P T) t.heap) (aN q)) 0 0 (aN q) := by
  refine Met.ofW (cc := b_N_page) (maxL := 2) (ret := (some .int)) (by decide) rfl ?_
  intro p e s m args below meth c s₁ B hml hv
  obtain ⟨rfl, hP, hK⟩ := hv
  have hx := B.exec
  have hb := B.bytes
  have hr := B.returns
  have hts := atoms_spec (ws := ws_N_page) B.pre
  have hown : s.vm.findClass R_N = some m.cls := findClass_of_methodNamed B.named
  have hlocks := B.notSynchronized
  have hiN : ∀ w ∈ u_ws R_N F_N 7, w ∈ ws_N_page := fun w h => List.mem_cons_of_mem _ (in_N w h)
  have hiA : ∀ w ∈ u_ws R_A F_A 10, w ∈ ws_N_page := fun w h => List.mem_cons_of_mem _ (in_A w h)
  have lk58 := hts _ (List.mem_cons_of_mem _ k_N_58)
  have lk240 := hts _ (List.mem_cons_of_mem _ k_N_240)
  have hS : va_S (aN q) s.heap s.heap [] := va_S.rf
  have hl := lv_entry ([.ref (q 0), .int a1]) (n := 2) (Nat.le_of_ble_eq_true rfl)
  rw [lg_entry_eq]
  generalize (lg_sl ([.ref (q 0), .int a1]) ++ List.replicate (2 - (lg_sl ([.ref (q 0), .int a1])).length) Slot.unset).toArray = ls at hl ⊢
  have hl : lv_has ls 2 [(0, .ref (q 0)), (1, .int a1)] := hl
  obtain ⟨Q, hQ⟩ : ∃ Q, Q = MQ below (va_Qi (fun (r : Int32) (u : Unit) => post r) (fun u t => va_P (dC, dI) clZ (wN cI cL cZ q A D G K N P T) t.heap) (aN q)) ([.ref (q 0), .int a1]).toArray s 0 0 (aN q) := ⟨_, rfl⟩
  rw [← hQ]
  rw [wp_N_page] at hwp
  refine lv_iload_n hx hb d_N_page_0 rfl (lv_at hl 1 rfl) ?_
  refine ncs_i (As := [.int a1]) (c_N_isPage hq (A) (D) (G) (K) (N) (P) (T) (a1) _ hwp) (cwS 1 hts g_N_137 rfl rfl rfl hd_N_isPage ⟨Nat.le_of_ble_eq_true rfl, Nat.le_of_ble_eq_true rfl⟩) hx hb hml hown hts hK hP hS hl.1 d_N_page_1 rfl (lv_room (Nat.le_of_ble_eq_true rfl)) (Nat.zero_le _) (Nat.zero_le _) rfl (fun r1 u H locs hwp hP hS => ?_)
  have hP : va_P (dC, dI) clZ (wN cI cL cZ q A D G K N P T) H := hP
  refine lv_if_eq (tgt := 19) hx hb d_N_page_4 (by decide) (fun hc => ?_) (fun hc => ?_)
  · rw [if_pos hc] at hwp
    refine lv_iconst (v := (-1)) hx hb d_N_page_19 (by decide) ?_
    rw [hQ]
    exact W.iret (v := (-1)) hx hb hr (fun t ht hW => ⟨⟨(-1), (), rfl, hwp, hp_of ht hP⟩, hS.F ht⟩) hS.2.2 d_N_page_20
  · rw [if_neg hc] at hwp
    refine lv_aload_n hx hb d_N_page_7 rfl (lv_at hl 0 rfl) ?_
    refine va_get (D := (dC, dI)) (ci := 0) (v := .ref (q 6)) (C := R_N) (T := F_N) (N := 7) hx hb hts hiN hown hK hP 0 rfl rfl 5 (by decide) lk58 (fun _ h9 => h9) rfl d_N_page_8 ?_
    refine va_get (D := (dC, dI)) (ci := 6) (v := .ref (q 32)) (C := R_A) (T := F_A) (N := 10) hx hb hts hiA hown hK hP 6 rfl rfl 4 (by decide) lk240 (fun _ h9 => h9) rfl d_N_page_11 ?_
    refine lv_iload_n hx hb d_N_page_14 rfl (lv_at hl 1 rfl) ?_
    refine va_iald hx hb hK hP 32 0 rfl rfl hwp.1 d_N_page_15 ?_
    have hwp := hwp.2
    refine lv_goto hx hb d_N_page_16 (tgt := 20) (by decide) ?_
    rw [hQ]
    exact W.iret (v := ((A_lsn A) (Int32.toNatClampNeg a1))) hx hb hr (fun t ht hW => ⟨⟨((A_lsn A) (Int32.toNatClampNeg a1)), (), rfl, hwp, hp_of ht hP⟩, hS.F ht⟩) hS.2.2 d_N_page_20
