set_option maxHeartbeats 4000000 in
set_option maxRecDepth 100000 in
theorem c_M_live {l : Launch} {dC : Nat → ClassId} {dI : Nat → Nat → Nat} {cI cL cZ : ClassId} {q : Nat → Nat} (hq : iM q) (MA : S_MA) (MD : S_MD) (MF : S_MF) (MG : S_MG) (ML : S_ML) (MN : S_MN) (MP : S_MP) (MT : S_MT) (MV : S_MV) (a1 : Int32) (post : Int32 → Prop) (hwp : wp_M_live MT a1 post) : Met l y_M_live ws_M_live rm_M_live (va_Pc [.ref (q 0), .int a1] (bM dC dI cI cL cZ q MA MD MF MG ML MN MP MT MV)) (va_Qi (fun (r : Int32) (u : Unit) => post r) (fun u t => va_P (dC, dI) clZ (wM cI cL cZ q MA MD MF MG ML MN MP MT MV) t.heap) (aM q)) 0 0 (aM q) := by
  refine Met.ofW (cc := b_M_live) (maxL := 2) (ret := (some .boolean)) (by decide) rfl ?_
  intro p e s m args below meth c s₁ B hml hv
  obtain ⟨rfl, hP, hK⟩ := hv
  have hx := B.exec
  have hb := B.bytes
  have hr := B.returns
  have hts := atoms_spec (ws := ws_M_live) B.pre
  have hown : s.vm.findClass R_M = some m.cls := findClass_of_methodNamed B.named
  have hlocks := B.notSynchronized
  have hiM : ∀ w ∈ u_ws R_M F_M 39, w ∈ ws_M_live := fun w h => List.mem_cons_of_mem _ (in_M w h)
  have lk62 := hts _ (List.mem_cons_of_mem _ k_M_62)
  have hS : va_S (aM q) s.heap s.heap [] := va_S.rf
  have hl := lv_entry ([.ref (q 0), .int a1]) (n := 2) (Nat.le_of_ble_eq_true rfl)
  rw [lg_entry_eq]
  generalize (lg_sl ([.ref (q 0), .int a1]) ++ List.replicate (2 - (lg_sl ([.ref (q 0), .int a1])).length) Slot.unset).toArray = ls at hl ⊢
  have hl : lv_has ls 2 [(0, .ref (q 0)), (1, .int a1)] := hl
  obtain ⟨Q, hQ⟩ : ∃ Q, Q = MQ below (va_Qi (fun (r : Int32) (u : Unit) => post r) (fun u t => va_P (dC, dI) clZ (wM cI cL cZ q MA MD MF MG ML MN MP MT MV) t.heap) (aM q)) ([.ref (q 0), .int a1]).toArray s 0 0 (aM q) := ⟨_, rfl⟩
  rw [← hQ]
  rw [wp_M_live] at hwp
  refine lv_aload_n hx hb d_M_live_0 rfl (lv_at hl 0 rfl) ?_
  refine va_get (D := (dC, dI)) (ci := 7) (v := .ref (q 18)) (C := R_M) (T := F_M) (N := 39) hx hb hts hiM hown hK hP 0 rfl rfl 23 (by decide) lk62 (fun _ h9 => h9) rfl d_M_live_1 ?_
  refine lv_iload_n hx hb d_M_live_4 rfl (lv_at hl 1 rfl) ?_
  refine va_iald hx hb hK hP 18 0 rfl rfl hwp.1 d_M_live_5 ?_
  have hwp := hwp.2
  refine lv_iconst (v := 1) hx hb d_M_live_6 (by decide) ?_
  refine lv_icmp_eq (tgt := 20) hx hb d_M_live_7 (by decide) (fun hc => ?_) (fun hc => ?_)
  · rw [if_pos hc] at hwp
    refine lv_iconst (v := 1) hx hb d_M_live_20 (by decide) ?_
    refine lv_goto hx hb d_M_live_21 (tgt := 25) (by decide) ?_
    rw [hQ]
    exact W.zret (v := 1) hx hb hr rfl (fun t ht hW => ⟨⟨1, (), rfl, hwp, hp_of ht hP⟩, hS.F ht⟩) hS.2.2 d_M_live_25
  · rw [if_neg hc] at hwp
    refine lv_aload_n hx hb d_M_live_10 rfl (lv_at hl 0 rfl) ?_
    refine va_get (D := (dC, dI)) (ci := 7) (v := .ref (q 18)) (C := R_M) (T := F_M) (N := 39) hx hb hts hiM hown hK hP 0 rfl rfl 23 (by decide) lk62 (fun _ h9 => h9) rfl d_M_live_11 ?_
    refine lv_iload_n hx hb d_M_live_14 rfl (lv_at hl 1 rfl) ?_
    refine va_iald hx hb hK hP 18 0 rfl rfl hwp.1 d_M_live_15 ?_
    have hwp := hwp.2
    refine lv_iconst (v := 2) hx hb d_M_live_16 (by decide) ?_
    refine lv_icmp_ne (tgt := 24) hx hb d_M_live_17 (by decide) (fun hc => ?_) (fun hc => ?_)
    · rw [if_neg hc] at hwp
      refine lv_iconst (v := 0) hx hb d_M_live_24 (by decide) ?_
      rw [hQ]
      exact W.zret (v := 0) hx hb hr rfl (fun t ht hW => ⟨⟨0, (), rfl, hwp, hp_of ht hP⟩, hS.F ht⟩) hS.2.2 d_M_live_25
    · rw [if_pos hc] at hwp
      refine lv_iconst (v := 1) hx hb d_M_live_20 (by decide) ?_
      refine lv_goto hx hb d_M_live_21 (tgt := 25) (by decide) ?_
      rw [hQ]
      exact W.zret (v := 1) hx hb hr rfl (fun t ht hW => ⟨⟨1, (), rfl, hwp, hp_of ht hP⟩, hS.F ht⟩) hS.2.2 d_M_live_25

set_option maxHeartbeats 4000000 in
set_option maxRecDepth 100000 in
theorem c_M_lives {l : Launch} {dC : Nat → ClassId} {dI : Nat → Nat → Nat} {cI cL cZ : ClassId} {q : Nat → Nat} (hq : iM q) (MA : S_MA) (MD : S_MD) (MF : S_MF) (MG : S_MG) (ML : S_ML) (MN : S_MN) (MP : S_MP) (MT : S_MT) (MV : S_MV)  (post : Int32 → Prop) (hwp : wp_M_lives MT post) : Met l y_M_lives ws_M_lives rm_M_lives (va_Pc [.ref (q 0)] (bM dC dI cI cL cZ q MA MD MF MG ML MN MP MT MV)) (va_Qi (fun (r : Int32) (u : Unit) => post r) (fun u t => va_P (dC, dI) clZ (wM cI cL cZ q MA MD MF MG ML MN MP MT MV) t.heap) (aM q)) 0 0 (aM q) := by
  refine Met.ofW (cc := b_M_lives) (maxL := 3) (ret := (some .int)) (by decide) rfl ?_
  intro p e s m args below meth c s₁ B hml hv
  obtain ⟨rfl, hP, hK⟩ := hv
  have hx := B.exec
  have hb := B.bytes
  have hr := B.returns
  have hts := atoms_spec (ws := ws_M_lives) B.pre
  have hown : s.vm.findClass R_M = some m.cls := findClass_of_methodNamed B.named
  have hlocks := B.notSynchronized
  have hiM : ∀ w ∈ u_ws R_M F_M 39, w ∈ ws_M_lives := fun w h => List.mem_cons_of_mem _ (in_M w h)
  have lk147 := hts _ (List.mem_cons_of_mem _ k_M_147)
  have hS : va_S (aM q) s.heap s.heap [] := va_S.rf
  have hl := lv_entry ([.ref (q 0)]) (n := 3) (Nat.le_of_ble_eq_true rfl)
  rw [lg_entry_eq]
  generalize (lg_sl ([.ref (q 0)]) ++ List.replicate (3 - (lg_sl ([.ref (q 0)])).length) Slot.unset).toArray = ls at hl ⊢
  have hl : lv_has ls 3 [(0, .ref (q 0))] := hl
  obtain ⟨Q, hQ⟩ : ∃ Q, Q = MQ below (va_Qi (fun (r : Int32) (u : Unit) => post r) (fun u t => va_P (dC, dI) clZ (wM cI cL cZ q MA MD MF MG ML MN MP MT MV) t.heap) (aM q)) ([.ref (q 0)]).toArray s 0 0 (aM q) := ⟨_, rfl⟩
  rw [← hQ]
  have L4 : ∀ (Kx : Int32 → Prop) (n : Nat) (v1 : Int32) (v2 : Int32) (H : Heap) (locs : List Loc) (ls : Array Slot), lv_has ls 3 [(0, .ref (q 0)), (1, .int v1), (2, .int v2)] → va_P (dC, dI) clZ (wM cI cL cZ q MA MD MF MG ML MN MP MT MV) H → va_S (aM q) s.heap H locs → wp_M_lives_L4 MT Kx n v1 v2 → (∀ (x1 : Int32) (H : Heap) (locs : List Loc) (ls : Array Slot), lv_has ls 3 [(1, .int x1)] → va_P (dC, dI) clZ (wM cI cL cZ q MA MD MF MG ML MN MP MT MV) H → va_S (aM q) s.heap H locs → Kx x1 → W p l e (headSpec ws_M_lives rm_M_lives).room s m ([.ref (q 0)]).toArray below meth c H locs 0 0 Q (F0 m 34 ls [])) → W p l e (headSpec ws_M_lives rm_M_lives).room s m ([.ref (q 0)]).toArray below meth c H locs 0 0 Q (F0 m 4 ls []) := by
    intro Kx  n
    induction n with
    | zero =>
      intros
      rename_i hwp _
      exact hwp.elim
    | succ n4 ih =>
      intro v1 v2 H locs ls hl hP hS hwp hX
      rw [wp_M_lives_L4] at hwp
      refine lv_iload_n hx hb d_M_lives_4 rfl (lv_at hl 2 rfl) ?_
      refine lv_aload_n hx hb d_M_lives_5 rfl (lv_at hl 0 rfl) ?_
      refine va_get (D := (dC, dI)) (ci := 7) (v := .int (MT_many MT)) (C := R_M) (T := F_M) (N := 39) hx hb hts hiM hown hK hP 0 rfl rfl 22 (by decide) lk147 (fun _ h9 => h9) rfl d_M_lives_6 ?_
      refine lv_icmp_ge (tgt := 34) hx hb d_M_lives_9 (by decide) (fun hc => ?_) (fun hc => ?_)
      · rw [if_pos hc] at hwp
        exact hX (v1) _ _ _ (lv_sub hl [1] rfl) hP hS hwp
      · rw [if_neg hc] at hwp
        refine lv_iload_n hx hb d_M_lives_12 rfl (lv_at hl 1 rfl) ?_
        refine lv_aload_n hx hb d_M_lives_13 rfl (lv_at hl 0 rfl) ?_
        refine lv_iload_n hx hb d_M_lives_14 rfl (lv_at hl 2 rfl) ?_
        refine ncn_i (As := [.int v2]) (c_M_live hq (MA) (MD) (MF) (MG) (ML) (MN) (MP) (MT) (MV) (v2) _ hwp) (cwV 1 hts g_M_150 rfl rfl rfl hd_M_live ⟨Nat.le_of_ble_eq_true rfl, Nat.le_of_ble_eq_true rfl⟩) hx hb hml hown hts hK hP hS hl.1 d_M_lives_15 (va_recv (q := (R_M, F_M, 39)) hK hP (ci := 7) (q0 := 0) rfl rfl) rfl (lv_room (Nat.le_of_ble_eq_true rfl)) (Nat.zero_le _) (Nat.zero_le _) rfl (fun r1 u H locs hwp hP hS => ?_)
        have hP : va_P (dC, dI) clZ (wM cI cL cZ q MA MD MF MG ML MN MP MT MV) H := hP
        refine lv_if_eq (tgt := 25) hx hb d_M_lives_18 (by decide) (fun hc => ?_) (fun hc => ?_)
        · rw [if_pos hc] at hwp
          refine lv_iconst (v := 0) hx hb d_M_lives_25 (by decide) ?_
          refine lv_iadd hx hb d_M_lives_26 ?_
          refine lv_istore_n (lv' := [(1, .int (v1 + 0)), (0, .ref (q 0)), (2, .int v2)]) hx hb d_M_lives_27 rfl hl (by decide) rfl (fun ls hl => ?_)
          refine lv_iinc (k := 2) (v := (v2 + 1)) (lv' := [(2, .int (v2 + 1)), (1, .int (v1 + 0)), (0, .ref (q 0))]) hx hb d_M_lives_28 hl rfl (ii_1 _) (by decide) rfl (fun ls hl => ?_)
          refine lv_goto hx hb d_M_lives_31 (tgt := 4) (by decide) ?_
          exact ih ((v1 + 0)) ((v2 + 1)) _ _ _ (lv_sub hl [2, 1, 0] rfl) hP hS hwp hX
        · rw [if_neg hc] at hwp
          refine lv_iconst (v := 1) hx hb d_M_lives_21 (by decide) ?_
          refine lv_goto hx hb d_M_lives_22 (tgt := 26) (by decide) ?_
          refine lv_iadd hx hb d_M_lives_26 ?_
          refine lv_istore_n (lv' := [(1, .int (v1 + 1)), (0, .ref (q 0)), (2, .int v2)]) hx hb d_M_lives_27 rfl hl (by decide) rfl (fun ls hl => ?_)
          refine lv_iinc (k := 2) (v := (v2 + 1)) (lv' := [(2, .int (v2 + 1)), (1, .int (v1 + 1)), (0, .ref (q 0))]) hx hb d_M_lives_28 hl rfl (ii_1 _) (by decide) rfl (fun ls hl => ?_)
          refine lv_goto hx hb d_M_lives_31 (tgt := 4) (by decide) ?_
          exact ih ((v1 + 1)) ((v2 + 1)) _ _ _ (lv_sub hl [2, 1, 0] rfl) hP hS hwp hX
  rw [wp_M_lives] at hwp
  refine lv_iconst (v := 0) hx hb d_M_lives_0 (by decide) ?_
  refine lv_istore_n (lv' := [(1, .int 0), (0, .ref (q 0))]) hx hb d_M_lives_1 rfl hl (by decide) rfl (fun ls hl => ?_)
  refine lv_iconst (v := 0) hx hb d_M_lives_2 (by decide) ?_
  refine lv_istore_n (lv' := [(2, .int 0), (1, .int 0), (0, .ref (q 0))]) hx hb d_M_lives_3 rfl hl (by decide) rfl (fun ls hl => ?_)
  obtain ⟨e4, hwp⟩ := hwp
  refine L4 _  e4 (0) (0) _ _ _ (lv_sub hl [2, 1, 0] rfl) hP hS hwp (fun x2 H locs ls hl hP hS hwp => ?_)
  refine lv_iload_n hx hb d_M_lives_34 rfl (lv_at hl 0 rfl) ?_
  rw [hQ]
  exact W.iret (v := x2) hx hb hr (fun t ht hW => ⟨⟨x2, (), rfl, hwp, hp_of ht hP⟩, hS.F ht⟩) hS.2.2 d_M_lives_35

set_option maxHeartbeats 4000000 in
set_option maxRecDepth 100000 in
theorem c_M_full {l : Launch} {dC : Nat → ClassId} {dI : Nat → Nat → Nat} {cI cL cZ : ClassId} {q : Nat → Nat} (hq : iM q) (MA : S_MA) (MD : S_MD) (MF : S_MF) (MG : S_MG) (ML : S_ML) (MN : S_MN) (MP : S_MP) (MT : S_MT) (MV : S_MV)  (post : Int32 → Prop) (hwp : wp_M_full MG MT post) : Met l y_M_full ws_M_full rm_M_full (va_Pc [.ref (q 0)] (bM dC dI cI cL cZ q MA MD MF MG ML MN MP MT MV)) (va_Qi (fun (r : Int32) (u : Unit) => post r) (fun u t => va_P (dC, dI) clZ (wM cI cL cZ q MA MD MF MG ML MN MP MT MV) t.heap) (aM q)) 0 0 (aM q) := by
  refine Met.ofW (cc := b_M_full) (maxL := 1) (ret := (some .boolean)) (by decide) rfl ?_
  intro p e s m args below meth c s₁ B hml hv
  obtain ⟨rfl, hP, hK⟩ := hv
  have hx := B.exec
  have hb := B.bytes
  have hr := B.returns
  have hts := atoms_spec (ws := ws_M_full) B.pre
  have hown : s.vm.findClass R_M = some m.cls := findClass_of_methodNamed B.named
  have hlocks := B.notSynchronized
  have hiM : ∀ w ∈ u_ws R_M F_M 39, w ∈ ws_M_full := fun w h => List.mem_cons_of_mem _ (in_M w h)
  have lk118 := hts _ (List.mem_cons_of_mem _ k_M_118)
  have hS : va_S (aM q) s.heap s.heap [] := va_S.rf
  have hl := lv_entry ([.ref (q 0)]) (n := 1) (Nat.le_of_ble_eq_true rfl)
  rw [lg_entry_eq]
  generalize (lg_sl ([.ref (q 0)]) ++ List.replicate (1 - (lg_sl ([.ref (q 0)])).length) Slot.unset).toArray = ls at hl ⊢
  have hl : lv_has ls 1 [(0, .ref (q 0))] := hl
  obtain ⟨Q, hQ⟩ : ∃ Q, Q = MQ below (va_Qi (fun (r : Int32) (u : Unit) => post r) (fun u t => va_P (dC, dI) clZ (wM cI cL cZ q MA MD MF MG ML MN MP MT MV) t.heap) (aM q)) ([.ref (q 0)]).toArray s 0 0 (aM q) := ⟨_, rfl⟩
  rw [← hQ]
  rw [wp_M_full] at hwp
  refine lv_aload_n hx hb d_M_full_0 rfl (lv_at hl 0 rfl) ?_
  refine va_get (D := (dC, dI)) (ci := 7) (v := .int (MG_records MG)) (C := R_M) (T := F_M) (N := 39) hx hb hts hiM hown hK hP 0 rfl rfl 12 (by decide) lk118 (fun _ h9 => h9) rfl d_M_full_1 ?_
  refine lv_aload_n hx hb d_M_full_4 rfl (lv_at hl 0 rfl) ?_
  refine ncn_i (As := []) (c_M_opens hq (MA) (MD) (MF) (MG) (ML) (MN) (MP) (MT) (MV)  _ hwp) (cwV 0 hts g_M_153 rfl rfl rfl hd_M_opens ⟨Nat.le_of_ble_eq_true rfl, Nat.le_of_ble_eq_true rfl⟩) hx hb hml hown hts hK hP hS hl.1 d_M_full_5 (va_recv (q := (R_M, F_M, 39)) hK hP (ci := 7) (q0 := 0) rfl rfl) rfl (lv_room (Nat.le_of_ble_eq_true rfl)) (Nat.zero_le _) (Nat.zero_le _) rfl (fun r1 u H locs hwp hP hS => ?_)
  have hP : va_P (dC, dI) clZ (wM cI cL cZ q MA MD MF MG ML MN MP MT MV) H := hP
  refine lv_iadd hx hb d_M_full_8 ?_
  refine lv_aload_n hx hb d_M_full_9 rfl (lv_at hl 0 rfl) ?_
  refine ncn_i (As := []) (c_M_lives hq (MA) (MD) (MF) (MG) (ML) (MN) (MP) (MT) (MV)  _ hwp) (cwV 0 hts g_M_156 rfl rfl rfl hd_M_lives ⟨Nat.le_of_ble_eq_true rfl, Nat.le_of_ble_eq_true rfl⟩) hx hb hml hown hts hK hP hS hl.1 d_M_full_10 (va_recv (q := (R_M, F_M, 39)) hK hP (ci := 7) (q0 := 0) rfl rfl) rfl (lv_room (Nat.le_of_ble_eq_true rfl)) (Nat.zero_le _) (Nat.zero_le _) rfl (fun r2 u H locs hwp hP hS => ?_)
  have hP : va_P (dC, dI) clZ (wM cI cL cZ q MA MD MF MG ML MN MP MT MV) H := hP
  refine lv_iadd hx hb d_M_full_13 ?_
  refine lv_iconst (v := 2) hx hb d_M_full_14 (by decide) ?_
  refine lv_iadd hx hb d_M_full_15 ?_
  refine lv_sipush (v := 300) hx hb d_M_full_16 (by decide) ?_
  refine lv_icmp_le (tgt := 26) hx hb d_M_full_19 (by decide) (fun hc => ?_) (fun hc => ?_)
  · rw [if_pos hc] at hwp
    refine lv_iconst (v := 0) hx hb d_M_full_26 (by decide) ?_
    rw [hQ]
    exact W.zret (v := 0) hx hb hr rfl (fun t ht hW => ⟨⟨0, (), rfl, hwp, hp_of ht hP⟩, hS.F ht⟩) hS.2.2 d_M_full_27
  · rw [if_neg hc] at hwp
    refine lv_iconst (v := 1) hx hb d_M_full_22 (by decide) ?_
    refine lv_goto hx hb d_M_full_23 (tgt := 27) (by decide) ?_
    rw [hQ]
    exact W.zret (v := 1) hx hb hr rfl (fun t ht hW => ⟨⟨1, (), rfl, hwp, hp_of ht hP⟩, hS.F ht⟩) hS.2.2 d_M_full_27

set_option maxHeartbeats 4000000 in
set_option maxRecDepth 100000 in
theorem c_M_is {l : Launch} {dC : Nat → ClassId} {dI : Nat → Nat → Nat} {cI cL cZ : ClassId} {q : Nat → Nat} (hq : iM q) (MA : S_MA) (MD : S_MD) (MF : S_MF) (MG : S_MG) (ML : S_ML) (MN : S_MN) (MP : S_MP) (MT : S_MT) (MV : S_MV) (a1 : Int32) (post : Int32 → Prop) (hwp : wp_M_is MT a1 post) : Met l y_M_is ws_M_is rm_M_is (va_Pc [.ref (q 0), .int a1] (bM dC dI cI cL cZ q MA MD MF MG ML MN MP MT MV)) (va_Qi (fun (r : Int32) (u : Unit) => post r) (fun u t => va_P (dC, dI) clZ (wM cI cL cZ q MA MD MF MG ML MN MP MT MV) t.heap) (aM q)) 0 0 (aM q) := by
  refine Met.ofW (cc := b_M_is) (maxL := 2) (ret := (some .boolean)) (by decide) rfl ?_
  intro p e s m args below meth c s₁ B hml hv
  obtain ⟨rfl, hP, hK⟩ := hv
  have hx := B.exec
  have hb := B.bytes
  have hr := B.returns
  have hts := atoms_spec (ws := ws_M_is) B.pre
  have hown : s.vm.findClass R_M = some m.cls := findClass_of_methodNamed B.named
  have hlocks := B.notSynchronized
  have hiM : ∀ w ∈ u_ws R_M F_M 39, w ∈ ws_M_is := fun w h => List.mem_cons_of_mem _ (in_M w h)
  have lk147 := hts _ (List.mem_cons_of_mem _ k_M_147)
  have hS : va_S (aM q) s.heap s.heap [] := va_S.rf
  have hl := lv_entry ([.ref (q 0), .int a1]) (n := 2) (Nat.le_of_ble_eq_true rfl)
  rw [lg_entry_eq]
  generalize (lg_sl ([.ref (q 0), .int a1]) ++ List.replicate (2 - (lg_sl ([.ref (q 0), .int a1])).length) Slot.unset).toArray = ls at hl ⊢
  have hl : lv_has ls 2 [(0, .ref (q 0)), (1, .int a1)] := hl
  obtain ⟨Q, hQ⟩ : ∃ Q, Q = MQ below (va_Qi (fun (r : Int32) (u : Unit) => post r) (fun u t => va_P (dC, dI) clZ (wM cI cL cZ q MA MD MF MG ML MN MP MT MV) t.heap) (aM q)) ([.ref (q 0), .int a1]).toArray s 0 0 (aM q) := ⟨_, rfl⟩
  rw [← hQ]
  rw [wp_M_is] at hwp
  refine lv_iload_n hx hb d_M_is_0 rfl (lv_at hl 1 rfl) ?_
  refine lv_if_lt (tgt := 16) hx hb d_M_is_1 (by decide) (fun hc => ?_) (fun hc => ?_)
  · rw [if_pos hc] at hwp
    refine lv_iconst (v := 0) hx hb d_M_is_16 (by decide) ?_
    rw [hQ]
    exact W.zret (v := 0) hx hb hr rfl (fun t ht hW => ⟨⟨0, (), rfl, hwp, hp_of ht hP⟩, hS.F ht⟩) hS.2.2 d_M_is_17
  · rw [if_neg hc] at hwp
    refine lv_iload_n hx hb d_M_is_4 rfl (lv_at hl 1 rfl) ?_
    refine lv_aload_n hx hb d_M_is_5 rfl (lv_at hl 0 rfl) ?_
    refine va_get (D := (dC, dI)) (ci := 7) (v := .int (MT_many MT)) (C := R_M) (T := F_M) (N := 39) hx hb hts hiM hown hK hP 0 rfl rfl 22 (by decide) lk147 (fun _ h9 => h9) rfl d_M_is_6 ?_
    refine lv_icmp_ge (tgt := 16) hx hb d_M_is_9 (by decide) (fun hc => ?_) (fun hc => ?_)
    · rw [if_pos hc] at hwp
      refine lv_iconst (v := 0) hx hb d_M_is_16 (by decide) ?_
      rw [hQ]
      exact W.zret (v := 0) hx hb hr rfl (fun t ht hW => ⟨⟨0, (), rfl, hwp, hp_of ht hP⟩, hS.F ht⟩) hS.2.2 d_M_is_17
    · rw [if_neg hc] at hwp
      refine lv_iconst (v := 1) hx hb d_M_is_12 (by decide) ?_
      refine lv_goto hx hb d_M_is_13 (tgt := 17) (by decide) ?_
      rw [hQ]
      exact W.zret (v := 1) hx hb hr rfl (fun t ht hW => ⟨⟨1, (), rfl, hwp, hp_of ht hP⟩, hS.F ht⟩) hS.2.2 d_M_is_17

set_option maxHeartbeats 4000000 in
set_option maxRecDepth 100000 in
theorem c_M_active {l : Launch} {dC : Nat → ClassId} {dI : Nat → Nat → Nat} {cI cL cZ : ClassId} {q : Nat → Nat} (hq : iM q) (MA : S_MA) (MD : S_MD) (MF : S_MF) (MG : S_MG) (ML : S_ML) (MN : S_MN) (MP : S_MP) (MT : S_MT) (MV : S_MV) (a1 : Int32) (post : Int32 → Prop) (hwp : wp_M_active MT a1 post) : Met l y_M_active ws_M_active rm_M_active (va_Pc [.ref (q 0), .int a1] (bM dC dI cI cL cZ q MA MD MF MG ML MN MP MT MV)) (va_Qi (fun (r : Int32) (u : Unit) => post r) (fun u t => va_P (dC, dI) clZ (wM cI cL cZ q MA MD MF MG ML MN MP MT MV) t.heap) (aM q)) 0 0 (aM q) := by
  refine Met.ofW (cc := b_M_active) (maxL := 2) (ret := (some .boolean)) (by decide) rfl ?_
  intro p e s m args below meth c s₁ B hml hv
  obtain ⟨rfl, hP, hK⟩ := hv
  have hx := B.exec
  have hb := B.bytes
  have hr := B.returns
  have hts := atoms_spec (ws := ws_M_active) B.pre
  have hown : s.vm.findClass R_M = some m.cls := findClass_of_methodNamed B.named
  have hlocks := B.notSynchronized
  have hiM : ∀ w ∈ u_ws R_M F_M 39, w ∈ ws_M_active := fun w h => List.mem_cons_of_mem _ (in_M w h)
  have lk62 := hts _ (List.mem_cons_of_mem _ k_M_62)
  have hS : va_S (aM q) s.heap s.heap [] := va_S.rf
  have hl := lv_entry ([.ref (q 0), .int a1]) (n := 2) (Nat.le_of_ble_eq_true rfl)
  rw [lg_entry_eq]
  generalize (lg_sl ([.ref (q 0), .int a1]) ++ List.replicate (2 - (lg_sl ([.ref (q 0), .int a1])).length) Slot.unset).toArray = ls at hl ⊢
  have hl : lv_has ls 2 [(0, .ref (q 0)), (1, .int a1)] := hl
  obtain ⟨Q, hQ⟩ : ∃ Q, Q = MQ below (va_Qi (fun (r : Int32) (u : Unit) => post r) (fun u t => va_P (dC, dI) clZ (wM cI cL cZ q MA MD MF MG ML MN MP MT MV) t.heap) (aM q)) ([.ref (q 0), .int a1]).toArray s 0 0 (aM q) := ⟨_, rfl⟩
  rw [← hQ]
  rw [wp_M_active] at hwp
  refine lv_aload_n hx hb d_M_active_0 rfl (lv_at hl 0 rfl) ?_
  refine lv_iload_n hx hb d_M_active_1 rfl (lv_at hl 1 rfl) ?_
  refine ncn_i (As := [.int a1]) (c_M_is hq (MA) (MD) (MF) (MG) (ML) (MN) (MP) (MT) (MV) (a1) _ hwp) (cwV 1 hts g_M_159 rfl rfl rfl hd_M_is ⟨Nat.le_of_ble_eq_true rfl, Nat.le_of_ble_eq_true rfl⟩) hx hb hml hown hts hK hP hS hl.1 d_M_active_2 (va_recv (q := (R_M, F_M, 39)) hK hP (ci := 7) (q0 := 0) rfl rfl) rfl (lv_room (Nat.le_of_ble_eq_true rfl)) (Nat.zero_le _) (Nat.zero_le _) rfl (fun r1 u H locs hwp hP hS => ?_)
  have hP : va_P (dC, dI) clZ (wM cI cL cZ q MA MD MF MG ML MN MP MT MV) H := hP
  refine lv_if_eq (tgt := 22) hx hb d_M_active_5 (by decide) (fun hc => ?_) (fun hc => ?_)
  · rw [if_pos hc] at hwp
    refine lv_iconst (v := 0) hx hb d_M_active_22 (by decide) ?_
    rw [hQ]
    exact W.zret (v := 0) hx hb hr rfl (fun t ht hW => ⟨⟨0, (), rfl, hwp, hp_of ht hP⟩, hS.F ht⟩) hS.2.2 d_M_active_23
  · rw [if_neg hc] at hwp
    refine lv_aload_n hx hb d_M_active_8 rfl (lv_at hl 0 rfl) ?_
    refine va_get (D := (dC, dI)) (ci := 7) (v := .ref (q 18)) (C := R_M) (T := F_M) (N := 39) hx hb hts hiM hown hK hP 0 rfl rfl 23 (by decide) lk62 (fun _ h9 => h9) rfl d_M_active_9 ?_
    refine lv_iload_n hx hb d_M_active_12 rfl (lv_at hl 1 rfl) ?_
    refine va_iald hx hb hK hP 18 0 rfl rfl hwp.1 d_M_active_13 ?_
    have hwp := hwp.2
    refine lv_iconst (v := 1) hx hb d_M_active_14 (by decide) ?_
    refine lv_icmp_ne (tgt := 22) hx hb d_M_active_15 (by decide) (fun hc => ?_) (fun hc => ?_)
    · rw [if_neg hc] at hwp
      refine lv_iconst (v := 0) hx hb d_M_active_22 (by decide) ?_
      rw [hQ]
      exact W.zret (v := 0) hx hb hr rfl (fun t ht hW => ⟨⟨0, (), rfl, hwp, hp_of ht hP⟩, hS.F ht⟩) hS.2.2 d_M_active_23
    · rw [if_pos hc] at hwp
      refine lv_iconst (v := 1) hx hb d_M_active_18 (by decide) ?_
      refine lv_goto hx hb d_M_active_19 (tgt := 23) (by decide) ?_
      rw [hQ]
      exact W.zret (v := 1) hx hb hr rfl (fun t ht hW => ⟨⟨1, (), rfl, hwp, hp_of ht hP⟩, hS.F ht⟩) hS.2.2 d_M_active_23

set_option maxHeartbeats 4000000 in
set_option maxRecDepth 100000 in
theorem c_M_above {l : Launch} {dC : Nat → ClassId} {dI : Nat → Nat → Nat} {cI cL cZ : ClassId} {q : Nat → Nat} (hq : iM q) (MA : S_MA) (MD : S_MD) (MF : S_MF) (MG : S_MG) (ML : S_ML) (MN : S_MN) (MP : S_MP) (MT : S_MT) (MV : S_MV) (a1 : Int32) (a2 : Int32) (post : Int32 → Prop) (hwp : wp_M_above MT a1 a2 post) : Met l y_M_above ws_M_above rm_M_above (va_Pc [.ref (q 0), .int a1, .int a2] (bM dC dI cI cL cZ q MA MD MF MG ML MN MP MT MV)) (va_Qi (fun (r : Int32) (u : Unit) => post r) (fun u t => va_P (dC, dI) clZ (wM cI cL cZ q MA MD MF MG ML MN MP MT MV) t.heap) (aM q)) 0 0 (aM q) := by
  refine Met.ofW (cc := b_M_above) (maxL := 6) (ret := (some .boolean)) (by decide) rfl ?_
  intro p e s m args below meth c s₁ B hml hv
  obtain ⟨rfl, hP, hK⟩ := hv
  have hx := B.exec
  have hb := B.bytes
  have hr := B.returns
  have hts := atoms_spec (ws := ws_M_above) B.pre
  have hown : s.vm.findClass R_M = some m.cls := findClass_of_methodNamed B.named
  have hlocks := B.notSynchronized
  have hiM : ∀ w ∈ u_ws R_M F_M 39, w ∈ ws_M_above := fun w h => List.mem_cons_of_mem _ (in_M w h)
  have lk65 := hts _ (List.mem_cons_of_mem _ k_M_65)
  have hS : va_S (aM q) s.heap s.heap [] := va_S.rf
  have hl := lv_entry ([.ref (q 0), .int a1, .int a2]) (n := 6) (Nat.le_of_ble_eq_true rfl)
  rw [lg_entry_eq]
  generalize (lg_sl ([.ref (q 0), .int a1, .int a2]) ++ List.replicate (6 - (lg_sl ([.ref (q 0), .int a1, .int a2])).length) Slot.unset).toArray = ls at hl ⊢
  have hl : lv_has ls 6 [(0, .ref (q 0)), (1, .int a1), (2, .int a2)] := hl
  obtain ⟨Q, hQ⟩ : ∃ Q, Q = MQ below (va_Qi (fun (r : Int32) (u : Unit) => post r) (fun u t => va_P (dC, dI) clZ (wM cI cL cZ q MA MD MF MG ML MN MP MT MV) t.heap) (aM q)) ([.ref (q 0), .int a1, .int a2]).toArray s 0 0 (aM q) := ⟨_, rfl⟩
  rw [← hQ]
  have L13 : ∀ (Kx : Int32 → Prop) (v1 : Int32) (n : Nat) (v3 : Int32) (v4 : Int32) (v5 : Int32) (H : Heap) (locs : List Loc) (ls : Array Slot), lv_has ls 6 [(0, .ref (q 0)), (1, .int v1), (3, .int v3), (4, .int v4), (5, .int v5)] → va_P (dC, dI) clZ (wM cI cL cZ q MA MD MF MG ML MN MP MT MV) H → va_S (aM q) s.heap H locs → wp_M_above_L13 MT v1 Kx n v3 v4 v5 → (∀ (x3 : Int32) (H : Heap) (locs : List Loc) (ls : Array Slot), lv_has ls 6 [(3, .int x3)] → va_P (dC, dI) clZ (wM cI cL cZ q MA MD MF MG ML MN MP MT MV) H → va_S (aM q) s.heap H locs → Kx x3 → W p l e (headSpec ws_M_above rm_M_above).room s m ([.ref (q 0), .int a1, .int a2]).toArray below meth c H locs 0 0 Q (F0 m 55 ls [])) → W p l e (headSpec ws_M_above rm_M_above).room s m ([.ref (q 0), .int a1, .int a2]).toArray below meth c H locs 0 0 Q (F0 m 13 ls []) := by
    intro Kx v1 n
    induction n with
    | zero =>
      intros
      rename_i hwp _
      exact hwp.elim
    | succ n13 ih =>
      intro v3 v4 v5 H locs ls hl hP hS hwp hX
      rw [wp_M_above_L13] at hwp
      refine lv_iload hx hb d_M_above_13 (lv_at hl 4 rfl) ?_
      refine lv_iconst (v := 4) hx hb d_M_above_15 (by decide) ?_
      refine lv_icmp_ge (tgt := 55) hx hb d_M_above_16 (by decide) (fun hc => ?_) (fun hc => ?_)
      · rw [if_pos hc] at hwp
        exact hX (v3) _ _ _ (lv_sub hl [2] rfl) hP hS hwp
      · rw [if_neg hc] at hwp
        refine lv_iload hx hb d_M_above_19 (lv_at hl 3 rfl) ?_
        refine lv_if_lt (tgt := 55) hx hb d_M_above_21 (by decide) (fun hc => ?_) (fun hc => ?_)
        · rw [if_pos hc] at hwp
          exact hX (v3) _ _ _ (lv_sub hl [2] rfl) hP hS hwp
        · rw [if_neg hc] at hwp
          refine lv_iload_n hx hb d_M_above_24 rfl (lv_at hl 2 rfl) ?_
          refine jn_split hwp (fun jk39 hjk hwp => ?_)
          have J39 : ∀ (b1 : Int32) (H : Heap) (locs : List Loc) (ls : Array Slot), lv_has ls 6 [(0, .ref (q 0)), (1, .int v1), (4, .int v4), (5, .int v5)] → va_P (dC, dI) clZ (wM cI cL cZ q MA MD MF MG ML MN MP MT MV) H → va_S (aM q) s.heap H locs → jk39 b1 → W p l e (headSpec ws_M_above rm_M_above).room s m ([.ref (q 0), .int a1, .int a2]).toArray below meth c H locs 0 0 Q (F0 m 39 ls [.int b1]) := by
            intro b1 H locs ls hl hP hS hwp
            rw [hjk] at hwp
            refine lv_istore_n (lv' := [(3, .int b1), (0, .ref (q 0)), (1, .int v1), (4, .int v4), (5, .int v5)]) hx hb d_M_above_39 rfl hl (by decide) rfl (fun ls hl => ?_)
            refine lv_aload_n hx hb d_M_above_40 rfl (lv_at hl 1 rfl) ?_
            refine va_get (D := (dC, dI)) (ci := 7) (v := .ref (q 19)) (C := R_M) (T := F_M) (N := 39) hx hb hts hiM hown hK hP 0 rfl rfl 24 (by decide) lk65 (fun _ h9 => h9) rfl d_M_above_41 ?_
            refine lv_iload hx hb d_M_above_44 (lv_at hl 3 rfl) ?_
            refine va_iald hx hb hK hP 19 0 rfl rfl hwp.1 d_M_above_46 ?_
            have hwp := hwp.2
            refine lv_istore (lv' := [(4, .int ((MT_parent MT) (Int32.toNatClampNeg v4))), (3, .int b1), (0, .ref (q 0)), (1, .int v1), (5, .int v5)]) hx hb d_M_above_47 hl (by decide) rfl (fun ls hl => ?_)
            refine lv_iinc (k := 4) (v := (v5 + 1)) (lv' := [(5, .int (v5 + 1)), (4, .int ((MT_parent MT) (Int32.toNatClampNeg v4))), (3, .int b1), (0, .ref (q 0)), (1, .int v1)]) hx hb d_M_above_49 hl rfl (ii_1 _) (by decide) rfl (fun ls hl => ?_)
            refine lv_goto hx hb d_M_above_52 (tgt := 13) (by decide) ?_
            exact ih (b1) (((MT_parent MT) (Int32.toNatClampNeg v4))) ((v5 + 1)) _ _ _ (lv_sub hl [3, 4, 2, 1, 0] rfl) hP hS hwp hX
          clear hjk
          refine lv_if_ne (tgt := 34) hx hb d_M_above_25 (by decide) (fun hc => ?_) (fun hc => ?_)
          · rw [if_neg hc] at hwp
            refine lv_iconst (v := 1) hx hb d_M_above_34 (by decide) ?_
            refine lv_goto hx hb d_M_above_35 (tgt := 39) (by decide) ?_
            exact J39 (1) _ _ _ (lv_sub hl [0, 1, 3, 4] rfl) hP hS hwp
          · rw [if_pos hc] at hwp
            refine lv_iload hx hb d_M_above_28 (lv_at hl 3 rfl) ?_
            refine lv_iload_n hx hb d_M_above_30 rfl (lv_at hl 1 rfl) ?_
            refine lv_icmp_ne (tgt := 38) hx hb d_M_above_31 (by decide) (fun hc => ?_) (fun hc => ?_)
            · rw [if_neg hc] at hwp
              refine lv_iconst (v := 0) hx hb d_M_above_38 (by decide) ?_
              exact J39 (0) _ _ _ (lv_sub hl [0, 1, 3, 4] rfl) hP hS hwp
            · rw [if_pos hc] at hwp
              refine lv_iconst (v := 1) hx hb d_M_above_34 (by decide) ?_
              refine lv_goto hx hb d_M_above_35 (tgt := 39) (by decide) ?_
              exact J39 (1) _ _ _ (lv_sub hl [0, 1, 3, 4] rfl) hP hS hwp
  rw [wp_M_above] at hwp
  refine lv_iconst (v := 0) hx hb d_M_above_0 (by decide) ?_
  refine lv_istore_n (lv' := [(3, .int 0), (0, .ref (q 0)), (1, .int a1), (2, .int a2)]) hx hb d_M_above_1 rfl hl (by decide) rfl (fun ls hl => ?_)
  refine lv_aload_n hx hb d_M_above_2 rfl (lv_at hl 1 rfl) ?_
  refine va_get (D := (dC, dI)) (ci := 7) (v := .ref (q 19)) (C := R_M) (T := F_M) (N := 39) hx hb hts hiM hown hK hP 0 rfl rfl 24 (by decide) lk65 (fun _ h9 => h9) rfl d_M_above_3 ?_
  refine lv_iload_n hx hb d_M_above_6 rfl (lv_at hl 3 rfl) ?_
  refine va_iald hx hb hK hP 19 0 rfl rfl hwp.1 d_M_above_7 ?_
  have hwp := hwp.2
  refine lv_istore (lv' := [(4, .int ((MT_parent MT) (Int32.toNatClampNeg a2))), (3, .int 0), (0, .ref (q 0)), (1, .int a1), (2, .int a2)]) hx hb d_M_above_8 hl (by decide) rfl (fun ls hl => ?_)
  refine lv_iconst (v := 0) hx hb d_M_above_10 (by decide) ?_
  refine lv_istore (lv' := [(5, .int 0), (4, .int ((MT_parent MT) (Int32.toNatClampNeg a2))), (3, .int 0), (0, .ref (q 0)), (1, .int a1), (2, .int a2)]) hx hb d_M_above_11 hl (by decide) rfl (fun ls hl => ?_)
  obtain ⟨e13, hwp⟩ := hwp
  refine L13 _ (a1) e13 (0) (((MT_parent MT) (Int32.toNatClampNeg a2))) (0) _ _ _ (lv_sub hl [3, 4, 2, 1, 0] rfl) hP hS hwp (fun x2 H locs ls hl hP hS hwp => ?_)
  refine lv_iload_n hx hb d_M_above_55 rfl (lv_at hl 0 rfl) ?_
  rw [hQ]
  exact W.zret (v := x2) hx hb hr (nb_ok hwp.1) (fun t ht hW => ⟨⟨x2, (), rfl, hwp.2, hp_of ht hP⟩, hS.F ht⟩) hS.2.2 d_M_above_56

set_option maxHeartbeats 4000000 in
set_option maxRecDepth 100000 in
theorem c_M_busy {l : Launch} {dC : Nat → ClassId} {dI : Nat → Nat → Nat} {cI cL cZ : ClassId} {q : Nat → Nat} (hq : iM q) (MA : S_MA) (MD : S_MD) (MF : S_MF) (MG : S_MG) (ML : S_ML) (MN : S_MN) (MP : S_MP) (MT : S_MT) (MV : S_MV) (a1 : Int32) (post : Int32 → Prop) (hwp : wp_M_busy MT a1 post) : Met l y_M_busy ws_M_busy rm_M_busy (va_Pc [.ref (q 0), .int a1] (bM dC dI cI cL cZ q MA MD MF MG ML MN MP MT MV)) (va_Qi (fun (r : Int32) (u : Unit) => post r) (fun u t => va_P (dC, dI) clZ (wM cI cL cZ q MA MD MF MG ML MN MP MT MV) t.heap) (aM q)) 0 0 (aM q) := by
  refine Met.ofW (cc := b_M_busy) (maxL := 4) (ret := (some .boolean)) (by decide) rfl ?_
  intro p e s m args below meth c s₁ B hml hv
  obtain ⟨rfl, hP, hK⟩ := hv
  have hx := B.exec
  have hb := B.bytes
  have hr := B.returns
  have hts := atoms_spec (ws := ws_M_busy) B.pre
  have hown : s.vm.findClass R_M = some m.cls := findClass_of_methodNamed B.named
  have hlocks := B.notSynchronized
  have hiM : ∀ w ∈ u_ws R_M F_M 39, w ∈ ws_M_busy := fun w h => List.mem_cons_of_mem _ (in_M w h)
  have lk65 := hts _ (List.mem_cons_of_mem _ k_M_65)
  have lk147 := hts _ (List.mem_cons_of_mem _ k_M_147)
  have hS : va_S (aM q) s.heap s.heap [] := va_S.rf
  have hl := lv_entry ([.ref (q 0), .int a1]) (n := 4) (Nat.le_of_ble_eq_true rfl)
  rw [lg_entry_eq]
  generalize (lg_sl ([.ref (q 0), .int a1]) ++ List.replicate (4 - (lg_sl ([.ref (q 0), .int a1])).length) Slot.unset).toArray = ls at hl ⊢
  have hl : lv_has ls 4 [(0, .ref (q 0)), (1, .int a1)] := hl
  obtain ⟨Q, hQ⟩ : ∃ Q, Q = MQ below (va_Qi (fun (r : Int32) (u : Unit) => post r) (fun u t => va_P (dC, dI) clZ (wM cI cL cZ q MA MD MF MG ML MN MP MT MV) t.heap) (aM q)) ([.ref (q 0), .int a1]).toArray s 0 0 (aM q) := ⟨_, rfl⟩
  rw [← hQ]
  have L4 : ∀ (Kx : Int32 → Prop) (v1 : Int32) (n : Nat) (v2 : Int32) (v3 : Int32) (H : Heap) (locs : List Loc) (ls : Array Slot), lv_has ls 4 [(0, .ref (q 0)), (1, .int v1), (2, .int v2), (3, .int v3)] → va_P (dC, dI) clZ (wM cI cL cZ q MA MD MF MG ML MN MP MT MV) H → va_S (aM q) s.heap H locs → wp_M_busy_L4 MT v1 Kx n v2 v3 → (∀ (x2 : Int32) (H : Heap) (locs : List Loc) (ls : Array Slot), lv_has ls 4 [(2, .int x2)] → va_P (dC, dI) clZ (wM cI cL cZ q MA MD MF MG ML MN MP MT MV) H → va_S (aM q) s.heap H locs → Kx x2 → W p l e (headSpec ws_M_busy rm_M_busy).room s m ([.ref (q 0), .int a1]).toArray below meth c H locs 0 0 Q (F0 m 46 ls [])) → W p l e (headSpec ws_M_busy rm_M_busy).room s m ([.ref (q 0), .int a1]).toArray below meth c H locs 0 0 Q (F0 m 4 ls []) := by
    intro Kx v1 n
    induction n with
    | zero =>
      intros
      rename_i hwp _
      exact hwp.elim
    | succ n4 ih =>
      intro v2 v3 H locs ls hl hP hS hwp hX
      rw [wp_M_busy_L4] at hwp
      refine lv_iload_n hx hb d_M_busy_4 rfl (lv_at hl 3 rfl) ?_
      refine lv_aload_n hx hb d_M_busy_5 rfl (lv_at hl 0 rfl) ?_
      refine va_get (D := (dC, dI)) (ci := 7) (v := .int (MT_many MT)) (C := R_M) (T := F_M) (N := 39) hx hb hts hiM hown hK hP 0 rfl rfl 22 (by decide) lk147 (fun _ h9 => h9) rfl d_M_busy_6 ?_
      refine lv_icmp_ge (tgt := 46) hx hb d_M_busy_9 (by decide) (fun hc => ?_) (fun hc => ?_)
      · rw [if_pos hc] at hwp
        exact hX (v2) _ _ _ (lv_sub hl [2] rfl) hP hS hwp
      · rw [if_neg hc] at hwp
        refine lv_iload_n hx hb d_M_busy_12 rfl (lv_at hl 2 rfl) ?_
        refine lv_if_ne (tgt := 34) hx hb d_M_busy_13 (by decide) (fun hc => ?_) (fun hc => ?_)
        · rw [if_neg hc] at hwp
          refine lv_iconst (v := 1) hx hb d_M_busy_34 (by decide) ?_
          refine lv_goto hx hb d_M_busy_35 (tgt := 39) (by decide) ?_
          refine lv_istore_n (lv' := [(2, .int 1), (0, .ref (q 0)), (1, .int v1), (3, .int v3)]) hx hb d_M_busy_39 rfl hl (by decide) rfl (fun ls hl => ?_)
          refine lv_iinc (k := 3) (v := (v3 + 1)) (lv' := [(3, .int (v3 + 1)), (2, .int 1), (0, .ref (q 0)), (1, .int v1)]) hx hb d_M_busy_40 hl rfl (ii_1 _) (by decide) rfl (fun ls hl => ?_)
          refine lv_goto hx hb d_M_busy_43 (tgt := 4) (by decide) ?_
          exact ih (1) ((v3 + 1)) _ _ _ (lv_sub hl [2, 3, 1, 0] rfl) hP hS hwp hX
        · rw [if_pos hc] at hwp
          refine lv_aload_n hx hb d_M_busy_16 rfl (lv_at hl 0 rfl) ?_
          refine lv_iload_n hx hb d_M_busy_17 rfl (lv_at hl 3 rfl) ?_
          refine ncn_i (As := [.int v3]) (c_M_live hq (MA) (MD) (MF) (MG) (ML) (MN) (MP) (MT) (MV) (v3) _ hwp) (cwV 1 hts g_M_150 rfl rfl rfl hd_M_live ⟨Nat.le_of_ble_eq_true rfl, Nat.le_of_ble_eq_true rfl⟩) hx hb hml hown hts hK hP hS hl.1 d_M_busy_18 (va_recv (q := (R_M, F_M, 39)) hK hP (ci := 7) (q0 := 0) rfl rfl) rfl (lv_room (Nat.le_of_ble_eq_true rfl)) (Nat.zero_le _) (Nat.zero_le _) rfl (fun r1 u H locs hwp hP hS => ?_)
          have hP : va_P (dC, dI) clZ (wM cI cL cZ q MA MD MF MG ML MN MP MT MV) H := hP
          refine lv_if_eq (tgt := 38) hx hb d_M_busy_21 (by decide) (fun hc => ?_) (fun hc => ?_)
          · rw [if_pos hc] at hwp
            refine lv_iconst (v := 0) hx hb d_M_busy_38 (by decide) ?_
            refine lv_istore_n (lv' := [(2, .int 0), (0, .ref (q 0)), (1, .int v1), (3, .int v3)]) hx hb d_M_busy_39 rfl hl (by decide) rfl (fun ls hl => ?_)
            refine lv_iinc (k := 3) (v := (v3 + 1)) (lv' := [(3, .int (v3 + 1)), (2, .int 0), (0, .ref (q 0)), (1, .int v1)]) hx hb d_M_busy_40 hl rfl (ii_1 _) (by decide) rfl (fun ls hl => ?_)
            refine lv_goto hx hb d_M_busy_43 (tgt := 4) (by decide) ?_
            exact ih (0) ((v3 + 1)) _ _ _ (lv_sub hl [2, 3, 1, 0] rfl) hP hS hwp hX
          · rw [if_neg hc] at hwp
            refine lv_aload_n hx hb d_M_busy_24 rfl (lv_at hl 0 rfl) ?_
            refine va_get (D := (dC, dI)) (ci := 7) (v := .ref (q 19)) (C := R_M) (T := F_M) (N := 39) hx hb hts hiM hown hK hP 0 rfl rfl 24 (by decide) lk65 (fun _ h9 => h9) rfl d_M_busy_25 ?_
            refine lv_iload_n hx hb d_M_busy_28 rfl (lv_at hl 3 rfl) ?_
            refine va_iald hx hb hK hP 19 0 rfl rfl hwp.1 d_M_busy_29 ?_
            have hwp := hwp.2
            refine lv_iload_n hx hb d_M_busy_30 rfl (lv_at hl 1 rfl) ?_
            refine lv_icmp_ne (tgt := 38) hx hb d_M_busy_31 (by decide) (fun hc => ?_) (fun hc => ?_)
            · rw [if_neg hc] at hwp
              refine lv_iconst (v := 0) hx hb d_M_busy_38 (by decide) ?_
              refine lv_istore_n (lv' := [(2, .int 0), (0, .ref (q 0)), (1, .int v1), (3, .int v3)]) hx hb d_M_busy_39 rfl hl (by decide) rfl (fun ls hl => ?_)
              refine lv_iinc (k := 3) (v := (v3 + 1)) (lv' := [(3, .int (v3 + 1)), (2, .int 0), (0, .ref (q 0)), (1, .int v1)]) hx hb d_M_busy_40 hl rfl (ii_1 _) (by decide) rfl (fun ls hl => ?_)
              refine lv_goto hx hb d_M_busy_43 (tgt := 4) (by decide) ?_
              exact ih (0) ((v3 + 1)) _ _ _ (lv_sub hl [2, 3, 1, 0] rfl) hP hS hwp hX
            · rw [if_pos hc] at hwp
              refine lv_iconst (v := 1) hx hb d_M_busy_34 (by decide) ?_
              refine lv_goto hx hb d_M_busy_35 (tgt := 39) (by decide) ?_
              refine lv_istore_n (lv' := [(2, .int 1), (0, .ref (q 0)), (1, .int v1), (3, .int v3)]) hx hb d_M_busy_39 rfl hl (by decide) rfl (fun ls hl => ?_)
              refine lv_iinc (k := 3) (v := (v3 + 1)) (lv' := [(3, .int (v3 + 1)), (2, .int 1), (0, .ref (q 0)), (1, .int v1)]) hx hb d_M_busy_40 hl rfl (ii_1 _) (by decide) rfl (fun ls hl => ?_)
              refine lv_goto hx hb d_M_busy_43 (tgt := 4) (by decide) ?_
              exact ih (1) ((v3 + 1)) _ _ _ (lv_sub hl [2, 3, 1, 0] rfl) hP hS hwp hX
  rw [wp_M_busy] at hwp
  refine lv_iconst (v := 0) hx hb d_M_busy_0 (by decide) ?_
  refine lv_istore_n (lv' := [(2, .int 0), (0, .ref (q 0)), (1, .int a1)]) hx hb d_M_busy_1 rfl hl (by decide) rfl (fun ls hl => ?_)
  refine lv_iconst (v := 0) hx hb d_M_busy_2 (by decide) ?_
  refine lv_istore_n (lv' := [(3, .int 0), (2, .int 0), (0, .ref (q 0)), (1, .int a1)]) hx hb d_M_busy_3 rfl hl (by decide) rfl (fun ls hl => ?_)
  obtain ⟨e4, hwp⟩ := hwp
  refine L4 _ (a1) e4 (0) (0) _ _ _ (lv_sub hl [2, 3, 1, 0] rfl) hP hS hwp (fun x2 H locs ls hl hP hS hwp => ?_)
  refine lv_iload_n hx hb d_M_busy_46 rfl (lv_at hl 0 rfl) ?_
  rw [hQ]
  exact W.zret (v := x2) hx hb hr (nb_ok hwp.1) (fun t ht hW => ⟨⟨x2, (), rfl, hwp.2, hp_of ht hP⟩, hS.F ht⟩) hS.2.2 d_M_busy_47

set_option maxHeartbeats 4000000 in
set_option maxRecDepth 100000 in
theorem c_M_depth {l : Launch} {dC : Nat → ClassId} {dI : Nat → Nat → Nat} {cI cL cZ : ClassId} {q : Nat → Nat} (hq : iM q) (MA : S_MA) (MD : S_MD) (MF : S_MF) (MG : S_MG) (ML : S_ML) (MN : S_MN) (MP : S_MP) (MT : S_MT) (MV : S_MV) (a1 : Int32) (post : Int32 → Prop) (hwp : wp_M_depth MT a1 post) : Met l y_M_depth ws_M_depth rm_M_depth (va_Pc [.ref (q 0), .int a1] (bM dC dI cI cL cZ q MA MD MF MG ML MN MP MT MV)) (va_Qi (fun (r : Int32) (u : Unit) => post r) (fun u t => va_P (dC, dI) clZ (wM cI cL cZ q MA MD MF MG ML MN MP MT MV) t.heap) (aM q)) 0 0 (aM q) := by
  refine Met.ofW (cc := b_M_depth) (maxL := 5) (ret := (some .int)) (by decide) rfl ?_
  intro p e s m args below meth c s₁ B hml hv
  obtain ⟨rfl, hP, hK⟩ := hv
  have hx := B.exec
  have hb := B.bytes
  have hr := B.returns
  have hts := atoms_spec (ws := ws_M_depth) B.pre
  have hown : s.vm.findClass R_M = some m.cls := findClass_of_methodNamed B.named
  have hlocks := B.notSynchronized
  have hiM : ∀ w ∈ u_ws R_M F_M 39, w ∈ ws_M_depth := fun w h => List.mem_cons_of_mem _ (in_M w h)
  have lk65 := hts _ (List.mem_cons_of_mem _ k_M_65)
  have hS : va_S (aM q) s.heap s.heap [] := va_S.rf
  have hl := lv_entry ([.ref (q 0), .int a1]) (n := 5) (Nat.le_of_ble_eq_true rfl)
  rw [lg_entry_eq]
  generalize (lg_sl ([.ref (q 0), .int a1]) ++ List.replicate (5 - (lg_sl ([.ref (q 0), .int a1])).length) Slot.unset).toArray = ls at hl ⊢
  have hl : lv_has ls 5 [(0, .ref (q 0)), (1, .int a1)] := hl
  obtain ⟨Q, hQ⟩ : ∃ Q, Q = MQ below (va_Qi (fun (r : Int32) (u : Unit) => post r) (fun u t => va_P (dC, dI) clZ (wM cI cL cZ q MA MD MF MG ML MN MP MT MV) t.heap) (aM q)) ([.ref (q 0), .int a1]).toArray s 0 0 (aM q) := ⟨_, rfl⟩
  rw [← hQ]
  have L12 : ∀ (Kx : Int32 → Prop) (n : Nat) (v2 : Int32) (v3 : Int32) (v4 : Int32) (H : Heap) (locs : List Loc) (ls : Array Slot), lv_has ls 5 [(0, .ref (q 0)), (2, .int v2), (3, .int v3), (4, .int v4)] → va_P (dC, dI) clZ (wM cI cL cZ q MA MD MF MG ML MN MP MT MV) H → va_S (aM q) s.heap H locs → wp_M_depth_L12 MT Kx n v2 v3 v4 → (∀ (x2 : Int32) (H : Heap) (locs : List Loc) (ls : Array Slot), lv_has ls 5 [(2, .int x2)] → va_P (dC, dI) clZ (wM cI cL cZ q MA MD MF MG ML MN MP MT MV) H → va_S (aM q) s.heap H locs → Kx x2 → W p l e (headSpec ws_M_depth rm_M_depth).room s m ([.ref (q 0), .int a1]).toArray below meth c H locs 0 0 Q (F0 m 38 ls [])) → W p l e (headSpec ws_M_depth rm_M_depth).room s m ([.ref (q 0), .int a1]).toArray below meth c H locs 0 0 Q (F0 m 12 ls []) := by
    intro Kx  n
    induction n with
    | zero =>
      intros
      rename_i hwp _
      exact hwp.elim
    | succ n12 ih =>
      intro v2 v3 v4 H locs ls hl hP hS hwp hX
      rw [wp_M_depth_L12] at hwp
      refine lv_iload hx hb d_M_depth_12 (lv_at hl 3 rfl) ?_
      refine lv_iconst (v := 4) hx hb d_M_depth_14 (by decide) ?_
      refine lv_icmp_ge (tgt := 38) hx hb d_M_depth_15 (by decide) (fun hc => ?_) (fun hc => ?_)
      · rw [if_pos hc] at hwp
        exact hX (v2) _ _ _ (lv_sub hl [1] rfl) hP hS hwp
      · rw [if_neg hc] at hwp
        refine lv_iload_n hx hb d_M_depth_18 rfl (lv_at hl 2 rfl) ?_
        refine lv_if_lt (tgt := 38) hx hb d_M_depth_19 (by decide) (fun hc => ?_) (fun hc => ?_)
        · rw [if_pos hc] at hwp
          exact hX (v2) _ _ _ (lv_sub hl [1] rfl) hP hS hwp
        · rw [if_neg hc] at hwp
          refine lv_iinc (k := 1) (v := (v2 + 1)) (lv' := [(2, .int (v2 + 1)), (0, .ref (q 0)), (3, .int v3), (4, .int v4)]) hx hb d_M_depth_22 hl rfl (ii_1 _) (by decide) rfl (fun ls hl => ?_)
          refine lv_aload_n hx hb d_M_depth_25 rfl (lv_at hl 1 rfl) ?_
          refine va_get (D := (dC, dI)) (ci := 7) (v := .ref (q 19)) (C := R_M) (T := F_M) (N := 39) hx hb hts hiM hown hK hP 0 rfl rfl 24 (by decide) lk65 (fun _ h9 => h9) rfl d_M_depth_26 ?_
          refine lv_iload_n hx hb d_M_depth_29 rfl (lv_at hl 2 rfl) ?_
          refine va_iald hx hb hK hP 19 0 rfl rfl hwp.1 d_M_depth_30 ?_
          have hwp := hwp.2
          refine lv_istore_n (lv' := [(3, .int ((MT_parent MT) (Int32.toNatClampNeg v3))), (2, .int (v2 + 1)), (0, .ref (q 0)), (4, .int v4)]) hx hb d_M_depth_31 rfl hl (by decide) rfl (fun ls hl => ?_)
          refine lv_iinc (k := 3) (v := (v4 + 1)) (lv' := [(4, .int (v4 + 1)), (3, .int ((MT_parent MT) (Int32.toNatClampNeg v3))), (2, .int (v2 + 1)), (0, .ref (q 0))]) hx hb d_M_depth_32 hl rfl (ii_1 _) (by decide) rfl (fun ls hl => ?_)
          refine lv_goto hx hb d_M_depth_35 (tgt := 12) (by decide) ?_
          exact ih ((v2 + 1)) (((MT_parent MT) (Int32.toNatClampNeg v3))) ((v4 + 1)) _ _ _ (lv_sub hl [3, 2, 1, 0] rfl) hP hS hwp hX
  rw [wp_M_depth] at hwp
  refine lv_iconst (v := 1) hx hb d_M_depth_0 (by decide) ?_
  refine lv_istore_n (lv' := [(2, .int 1), (0, .ref (q 0)), (1, .int a1)]) hx hb d_M_depth_1 rfl hl (by decide) rfl (fun ls hl => ?_)
  refine lv_aload_n hx hb d_M_depth_2 rfl (lv_at hl 1 rfl) ?_
  refine va_get (D := (dC, dI)) (ci := 7) (v := .ref (q 19)) (C := R_M) (T := F_M) (N := 39) hx hb hts hiM hown hK hP 0 rfl rfl 24 (by decide) lk65 (fun _ h9 => h9) rfl d_M_depth_3 ?_
  refine lv_iload_n hx hb d_M_depth_6 rfl (lv_at hl 2 rfl) ?_
  refine va_iald hx hb hK hP 19 0 rfl rfl hwp.1 d_M_depth_7 ?_
  have hwp := hwp.2
  refine lv_istore_n (lv' := [(3, .int ((MT_parent MT) (Int32.toNatClampNeg a1))), (2, .int 1), (0, .ref (q 0)), (1, .int a1)]) hx hb d_M_depth_8 rfl hl (by decide) rfl (fun ls hl => ?_)
  refine lv_iconst (v := 0) hx hb d_M_depth_9 (by decide) ?_
  refine lv_istore (lv' := [(4, .int 0), (3, .int ((MT_parent MT) (Int32.toNatClampNeg a1))), (2, .int 1), (0, .ref (q 0)), (1, .int a1)]) hx hb d_M_depth_10 hl (by decide) rfl (fun ls hl => ?_)
  obtain ⟨e12, hwp⟩ := hwp
  refine L12 _  e12 (1) (((MT_parent MT) (Int32.toNatClampNeg a1))) (0) _ _ _ (lv_sub hl [3, 2, 1, 0] rfl) hP hS hwp (fun x1 H locs ls hl hP hS hwp => ?_)
  refine lv_iload_n hx hb d_M_depth_38 rfl (lv_at hl 0 rfl) ?_
  rw [hQ]
  exact W.iret (v := x1) hx hb hr (fun t ht hW => ⟨⟨x1, (), rfl, hwp, hp_of ht hP⟩, hS.F ht⟩) hS.2.2 d_M_depth_39

set_option maxHeartbeats 4000000 in
set_option maxRecDepth 100000 in
theorem c_M_begin {l : Launch} {dC : Nat → ClassId} {dI : Nat → Nat → Nat} {cI cL cZ : ClassId} {q : Nat → Nat} (hq : iM q) (MA : S_MA) (MD : S_MD) (MF : S_MF) (MG : S_MG) (ML : S_ML) (MN : S_MN) (MP : S_MP) (MT : S_MT) (MV : S_MV) (a1 : Int32) (post : Int32 → S_MG → S_MT → Prop) (hwp : wp_M_begin MG MT a1 post) : Met l y_M_begin ws_M_begin rm_M_begin (va_Pc [.ref (q 0), .int a1] (bM dC dI cI cL cZ q MA MD MF MG ML MN MP MT MV)) (va_Qi (fun (r : Int32) (u : S_MG × S_MT) => post r u.1 u.2) (fun u t => va_P (dC, dI) clZ (wM cI cL cZ q MA MD MF (u.1) ML MN MP (u.2) MV) t.heap) (aM q)) 0 0 (aM q) := by
  refine Met.ofW (cc := b_M_begin) (maxL := 3) (ret := (some .int)) (by decide) rfl ?_
  intro p e s m args below meth c s₁ B hml hv
  obtain ⟨rfl, hP, hK⟩ := hv
  have hx := B.exec
  have hb := B.bytes
  have hr := B.returns
  have hts := atoms_spec (ws := ws_M_begin) B.pre
  have hown : s.vm.findClass R_M = some m.cls := findClass_of_methodNamed B.named
  have hlocks := B.notSynchronized
  have hiM : ∀ w ∈ u_ws R_M F_M 39, w ∈ ws_M_begin := fun w h => List.mem_cons_of_mem _ (in_M w h)
  have lk41 := hts _ (List.mem_cons_of_mem _ k_M_41)
  have lk62 := hts _ (List.mem_cons_of_mem _ k_M_62)
  have lk65 := hts _ (List.mem_cons_of_mem _ k_M_65)
  have lk68 := hts _ (List.mem_cons_of_mem _ k_M_68)
  have lk147 := hts _ (List.mem_cons_of_mem _ k_M_147)
  have hS : va_S (aM q) s.heap s.heap [] := va_S.rf
  have hl := lv_entry ([.ref (q 0), .int a1]) (n := 3) (Nat.le_of_ble_eq_true rfl)
  rw [lg_entry_eq]
  generalize (lg_sl ([.ref (q 0), .int a1]) ++ List.replicate (3 - (lg_sl ([.ref (q 0), .int a1])).length) Slot.unset).toArray = ls at hl ⊢
  have hl : lv_has ls 3 [(0, .ref (q 0)), (1, .int a1)] := hl
  obtain ⟨Q, hQ⟩ : ∃ Q, Q = MQ below (va_Qi (fun (r : Int32) (u : S_MG × S_MT) => post r u.1 u.2) (fun u t => va_P (dC, dI) clZ (wM cI cL cZ q MA MD MF (u.1) ML MN MP (u.2) MV) t.heap) (aM q)) ([.ref (q 0), .int a1]).toArray s 0 0 (aM q) := ⟨_, rfl⟩
  rw [← hQ]
  rw [wp_M_begin] at hwp
  refine lv_iload_n hx hb d_M_begin_0 rfl (lv_at hl 1 rfl) ?_
  refine lv_iconst (v := (-1)) hx hb d_M_begin_1 (by decide) ?_
  refine lv_icmp_eq (tgt := 13) hx hb d_M_begin_2 (by decide) (fun hc => ?_) (fun hc => ?_)
  · rw [if_pos hc] at hwp
    refine lv_aload_n hx hb d_M_begin_13 rfl (lv_at hl 0 rfl) ?_
    refine va_get (D := (dC, dI)) (ci := 7) (v := .int (MT_many MT)) (C := R_M) (T := F_M) (N := 39) hx hb hts hiM hown hK hP 0 rfl rfl 22 (by decide) lk147 (fun _ h9 => h9) rfl d_M_begin_14 ?_
    refine lv_bipush (v := 60) hx hb d_M_begin_17 (by decide) ?_
    refine lv_icmp_eq (tgt := 36) hx hb d_M_begin_19 (by decide) (fun hc => ?_) (fun hc => ?_)
    · rw [if_pos hc] at hwp
      refine lv_iconst (v := (-1)) hx hb d_M_begin_36 (by decide) ?_
      rw [hQ]
      exact W.iret (v := (-1)) hx hb hr (fun t ht hW => ⟨⟨(-1), (MG, MT), rfl, hwp, hp_of ht hP⟩, hS.F ht⟩) hS.2.2 d_M_begin_37
    · rw [if_neg hc] at hwp
      refine lv_iload_n hx hb d_M_begin_22 rfl (lv_at hl 1 rfl) ?_
      refine lv_iconst (v := (-1)) hx hb d_M_begin_23 (by decide) ?_
      refine lv_icmp_eq (tgt := 38) hx hb d_M_begin_24 (by decide) (fun hc => ?_) (fun hc => ?_)
      · rw [if_pos hc] at hwp
        refine lv_aload_n hx hb d_M_begin_38 rfl (lv_at hl 0 rfl) ?_
        refine ncn_i (As := []) (c_M_full hq (MA) (MD) (MF) (MG) (ML) (MN) (MP) (MT) (MV)  _ hwp) (cwV 0 hts g_M_168 rfl rfl rfl hd_M_full ⟨Nat.le_of_ble_eq_true rfl, Nat.le_of_ble_eq_true rfl⟩) hx hb hml hown hts hK hP hS hl.1 d_M_begin_39 (va_recv (q := (R_M, F_M, 39)) hK hP (ci := 7) (q0 := 0) rfl rfl) rfl (lv_room (Nat.le_of_ble_eq_true rfl)) (Nat.zero_le _) (Nat.zero_le _) rfl (fun r1 u H locs hwp hP hS => ?_)
        have hP : va_P (dC, dI) clZ (wM cI cL cZ q MA MD MF MG ML MN MP MT MV) H := hP
        refine lv_if_eq (tgt := 48) hx hb d_M_begin_42 (by decide) (fun hc => ?_) (fun hc => ?_)
        · rw [if_pos hc] at hwp
          refine lv_aload_n hx hb d_M_begin_48 rfl (lv_at hl 0 rfl) ?_
          refine va_get (D := (dC, dI)) (ci := 7) (v := .ref (q 18)) (C := R_M) (T := F_M) (N := 39) hx hb hts hiM hown hK hP 0 rfl rfl 23 (by decide) lk62 (fun _ h9 => h9) rfl d_M_begin_49 ?_
          refine lv_aload_n hx hb d_M_begin_52 rfl (lv_at hl 0 rfl) ?_
          refine va_get (D := (dC, dI)) (ci := 7) (v := .int (MT_many MT)) (C := R_M) (T := F_M) (N := 39) hx hb hts hiM hown hK hP 0 rfl rfl 22 (by decide) lk147 (fun _ h9 => h9) rfl d_M_begin_53 ?_
          refine lv_iconst (v := 1) hx hb d_M_begin_56 (by decide) ?_
          refine va_iast hx hb hK hP (dM hq) hS 18 0 rfl rfl hwp.1 d_M_begin_57 (fun H locs hP _ hS => ?_)
          have hwp := hwp.2
          have hP : va_P (dC, dI) clZ (wM cI cL cZ q MA MD MF MG ML MN MP (MT_state' MT (upd (MT_state MT) (Int32.toNatClampNeg (MT_many MT)) 1)) MV) H := hP
          refine lv_aload_n hx hb d_M_begin_58 rfl (lv_at hl 0 rfl) ?_
          refine va_get (D := (dC, dI)) (ci := 7) (v := .ref (q 19)) (C := R_M) (T := F_M) (N := 39) hx hb hts hiM hown hK hP 0 rfl rfl 24 (by decide) lk65 (fun _ h9 => h9) rfl d_M_begin_59 ?_
          refine lv_aload_n hx hb d_M_begin_62 rfl (lv_at hl 0 rfl) ?_
          refine va_get (D := (dC, dI)) (ci := 7) (v := .int (MT_many MT)) (C := R_M) (T := F_M) (N := 39) hx hb hts hiM hown hK hP 0 rfl rfl 22 (by decide) lk147 (fun _ h9 => h9) rfl d_M_begin_63 ?_
          refine lv_iload_n hx hb d_M_begin_66 rfl (lv_at hl 1 rfl) ?_
          refine va_iast hx hb hK hP (dM hq) hS 19 0 rfl rfl hwp.1 d_M_begin_67 (fun H locs hP _ hS => ?_)
          have hwp := hwp.2
          have hP : va_P (dC, dI) clZ (wM cI cL cZ q MA MD MF MG ML MN MP (MT_parent' (MT_state' MT (upd (MT_state MT) (Int32.toNatClampNeg (MT_many MT)) 1)) (upd (MT_parent MT) (Int32.toNatClampNeg (MT_many MT)) a1)) MV) H := hP
          refine lv_aload_n hx hb d_M_begin_68 rfl (lv_at hl 0 rfl) ?_
          refine lv_iconst (v := 1) hx hb d_M_begin_69 (by decide) ?_
          refine lv_aload_n hx hb d_M_begin_70 rfl (lv_at hl 0 rfl) ?_
          refine va_get (D := (dC, dI)) (ci := 7) (v := .int (MT_many MT)) (C := R_M) (T := F_M) (N := 39) hx hb hts hiM hown hK hP 0 rfl rfl 22 (by decide) lk147 (fun _ h9 => h9) rfl d_M_begin_71 ?_
          refine lv_iload_n hx hb d_M_begin_74 rfl (lv_at hl 1 rfl) ?_
          refine ncn_i (As := [.int 1, .int (MT_many MT), .int a1]) (c_M_append hq (MA) (MD) (MF) (MG) (ML) (MN) (MP) ((MT_parent' (MT_state' MT (upd (MT_state MT) (Int32.toNatClampNeg (MT_many MT)) 1)) (upd (MT_parent MT) (Int32.toNatClampNeg (MT_many MT)) a1))) (MV) (1) ((MT_many MT)) (a1) _ hwp) (cwV 3 hts g_M_121 rfl rfl rfl hd_M_append ⟨Nat.le_of_ble_eq_true rfl, Nat.le_of_ble_eq_true rfl⟩) hx hb hml hown hts hK hP hS hl.1 d_M_begin_75 (va_recv (q := (R_M, F_M, 39)) hK hP (ci := 7) (q0 := 0) rfl rfl) rfl (lv_room (Nat.le_of_ble_eq_true rfl)) (Nat.zero_le _) (Nat.zero_le _) rfl (fun r2 MG3 H locs hwp hP hS => ?_)
          have hP : va_P (dC, dI) clZ (wM cI cL cZ q MA MD MF MG3 ML MN MP (MT_parent' (MT_state' MT (upd (MT_state MT) (Int32.toNatClampNeg (MT_many MT)) 1)) (upd (MT_parent MT) (Int32.toNatClampNeg (MT_many MT)) a1)) MV) H := hP
          refine lv_istore_n (lv' := [(2, .int r2), (0, .ref (q 0)), (1, .int a1)]) hx hb d_M_begin_78 rfl hl (by decide) rfl (fun ls hl => ?_)
          refine lv_aload_n hx hb d_M_begin_79 rfl (lv_at hl 1 rfl) ?_
          refine va_get (D := (dC, dI)) (ci := 7) (v := .ref (q 20)) (C := R_M) (T := F_M) (N := 39) hx hb hts hiM hown hK hP 0 rfl rfl 25 (by decide) lk68 (fun _ h9 => h9) rfl d_M_begin_80 ?_
          refine lv_aload_n hx hb d_M_begin_83 rfl (lv_at hl 1 rfl) ?_
          refine va_get (D := (dC, dI)) (ci := 7) (v := .int (MT_many MT)) (C := R_M) (T := F_M) (N := 39) hx hb hts hiM hown hK hP 0 rfl rfl 22 (by decide) lk147 (fun _ h9 => h9) rfl d_M_begin_84 ?_
          refine lv_aload_n hx hb d_M_begin_87 rfl (lv_at hl 1 rfl) ?_
          refine ncn_i (As := []) (c_M_last hq (MA) (MD) (MF) (MG3) (ML) (MN) (MP) ((MT_parent' (MT_state' MT (upd (MT_state MT) (Int32.toNatClampNeg (MT_many MT)) 1)) (upd (MT_parent MT) (Int32.toNatClampNeg (MT_many MT)) a1))) (MV)  _ hwp) (cwV 0 hts g_M_128 rfl rfl rfl hd_M_last ⟨Nat.le_of_ble_eq_true rfl, Nat.le_of_ble_eq_true rfl⟩) hx hb hml hown hts hK hP hS hl.1 d_M_begin_88 (va_recv (q := (R_M, F_M, 39)) hK hP (ci := 7) (q0 := 0) rfl rfl) rfl (lv_room (Nat.le_of_ble_eq_true rfl)) (Nat.zero_le _) (Nat.zero_le _) rfl (fun r4 u H locs hwp hP hS => ?_)
          have hP : va_P (dC, dI) clZ (wM cI cL cZ q MA MD MF MG3 ML MN MP (MT_parent' (MT_state' MT (upd (MT_state MT) (Int32.toNatClampNeg (MT_many MT)) 1)) (upd (MT_parent MT) (Int32.toNatClampNeg (MT_many MT)) a1)) MV) H := hP
          refine va_iast hx hb hK hP (dM hq) hS 20 0 rfl rfl hwp.1 d_M_begin_91 (fun H locs hP _ hS => ?_)
          have hwp := hwp.2
          have hP : va_P (dC, dI) clZ (wM cI cL cZ q MA MD MF MG3 ML MN MP (MT_began' (MT_parent' (MT_state' MT (upd (MT_state MT) (Int32.toNatClampNeg (MT_many MT)) 1)) (upd (MT_parent MT) (Int32.toNatClampNeg (MT_many MT)) a1)) (upd (MT_began MT) (Int32.toNatClampNeg (MT_many MT)) r4)) MV) H := hP
          refine lv_aload_n hx hb d_M_begin_92 rfl (lv_at hl 1 rfl) ?_
          refine lv_dup hx hb d_M_begin_93 rfl ?_
          refine va_get (D := (dC, dI)) (ci := 7) (v := .int (MT_many MT)) (C := R_M) (T := F_M) (N := 39) hx hb hts hiM hown hK hP 0 rfl rfl 22 (by decide) lk147 (fun _ h9 => h9) rfl d_M_begin_94 ?_
          refine lv_iconst (v := 1) hx hb d_M_begin_97 (by decide) ?_
          refine lv_iadd hx hb d_M_begin_98 ?_
          refine va_put (D := (dC, dI)) (ci := 7) (v := .int ((MT_many MT) + 1)) (ty := .int) (C := R_M) (T := F_M) (N := 39) hx hb hts hiM ty_M ty_M_ok nmx_M hown hK hP (dM hq) hS 0 rfl rfl 22 (by decide) lk147 (fun _ h9 => h9) rfl (by decide +kernel) rfl rfl (Nat.le_of_ble_eq_true rfl) d_M_begin_99 (fun H locs hP _ hS => ?_)
          have hP : va_P (dC, dI) clZ (wM cI cL cZ q MA MD MF MG3 ML MN MP (MT_many' (MT_began' (MT_parent' (MT_state' MT (upd (MT_state MT) (Int32.toNatClampNeg (MT_many MT)) 1)) (upd (MT_parent MT) (Int32.toNatClampNeg (MT_many MT)) a1)) (upd (MT_began MT) (Int32.toNatClampNeg (MT_many MT)) r4)) ((MT_many MT) + 1)) MV) H := hP
          refine lv_aload_n hx hb d_M_begin_102 rfl (lv_at hl 1 rfl) ?_
          refine va_get (D := (dC, dI)) (ci := 7) (v := .ref (q 11)) (C := R_M) (T := F_M) (N := 39) hx hb hts hiM hown hK hP 0 rfl rfl 15 (by decide) lk41 (fun _ h9 => h9) rfl d_M_begin_103 ?_
          refine lv_iload_n hx hb d_M_begin_106 rfl (lv_at hl 0 rfl) ?_
          refine va_iald hx hb hK hP 11 0 rfl rfl hwp.1 d_M_begin_107 ?_
          have hwp := hwp.2
          rw [hQ]
          exact W.iret (v := ((MG_by MG3) (Int32.toNatClampNeg r2))) hx hb hr (fun t ht hW => ⟨⟨((MG_by MG3) (Int32.toNatClampNeg r2)), (MG3, (MT_many' (MT_began' (MT_parent' (MT_state' MT (upd (MT_state MT) (Int32.toNatClampNeg (MT_many MT)) 1)) (upd (MT_parent MT) (Int32.toNatClampNeg (MT_many MT)) a1)) (upd (MT_began MT) (Int32.toNatClampNeg (MT_many MT)) r4)) ((MT_many MT) + 1))), rfl, hwp, hp_of ht hP⟩, hS.F ht⟩) hS.2.2 d_M_begin_108
        · rw [if_neg hc] at hwp
          refine lv_bipush (v := (-5)) hx hb d_M_begin_45 (by decide) ?_
          rw [hQ]
          exact W.iret (v := (-5)) hx hb hr (fun t ht hW => ⟨⟨(-5), (MG, MT), rfl, hwp, hp_of ht hP⟩, hS.F ht⟩) hS.2.2 d_M_begin_47
      · rw [if_neg hc] at hwp
        refine lv_aload_n hx hb d_M_begin_27 rfl (lv_at hl 0 rfl) ?_
        refine lv_iload_n hx hb d_M_begin_28 rfl (lv_at hl 1 rfl) ?_
        refine ncn_i (As := [.int a1]) (c_M_depth hq (MA) (MD) (MF) (MG) (ML) (MN) (MP) (MT) (MV) (a1) _ hwp) (cwV 1 hts g_M_165 rfl rfl rfl hd_M_depth ⟨Nat.le_of_ble_eq_true rfl, Nat.le_of_ble_eq_true rfl⟩) hx hb hml hown hts hK hP hS hl.1 d_M_begin_29 (va_recv (q := (R_M, F_M, 39)) hK hP (ci := 7) (q0 := 0) rfl rfl) rfl (lv_room (Nat.le_of_ble_eq_true rfl)) (Nat.zero_le _) (Nat.zero_le _) rfl (fun r5 u H locs hwp hP hS => ?_)
        have hP : va_P (dC, dI) clZ (wM cI cL cZ q MA MD MF MG ML MN MP MT MV) H := hP
        refine lv_iconst (v := 4) hx hb d_M_begin_32 (by decide) ?_
        refine lv_icmp_lt (tgt := 38) hx hb d_M_begin_33 (by decide) (fun hc => ?_) (fun hc => ?_)
        · rw [if_pos hc] at hwp
          refine lv_aload_n hx hb d_M_begin_38 rfl (lv_at hl 0 rfl) ?_
          refine ncn_i (As := []) (c_M_full hq (MA) (MD) (MF) (MG) (ML) (MN) (MP) (MT) (MV)  _ hwp) (cwV 0 hts g_M_168 rfl rfl rfl hd_M_full ⟨Nat.le_of_ble_eq_true rfl, Nat.le_of_ble_eq_true rfl⟩) hx hb hml hown hts hK hP hS hl.1 d_M_begin_39 (va_recv (q := (R_M, F_M, 39)) hK hP (ci := 7) (q0 := 0) rfl rfl) rfl (lv_room (Nat.le_of_ble_eq_true rfl)) (Nat.zero_le _) (Nat.zero_le _) rfl (fun r6 u H locs hwp hP hS => ?_)
          have hP : va_P (dC, dI) clZ (wM cI cL cZ q MA MD MF MG ML MN MP MT MV) H := hP
          refine lv_if_eq (tgt := 48) hx hb d_M_begin_42 (by decide) (fun hc => ?_) (fun hc => ?_)
          · rw [if_pos hc] at hwp
            refine lv_aload_n hx hb d_M_begin_48 rfl (lv_at hl 0 rfl) ?_
            refine va_get (D := (dC, dI)) (ci := 7) (v := .ref (q 18)) (C := R_M) (T := F_M) (N := 39) hx hb hts hiM hown hK hP 0 rfl rfl 23 (by decide) lk62 (fun _ h9 => h9) rfl d_M_begin_49 ?_
            refine lv_aload_n hx hb d_M_begin_52 rfl (lv_at hl 0 rfl) ?_
            refine va_get (D := (dC, dI)) (ci := 7) (v := .int (MT_many MT)) (C := R_M) (T := F_M) (N := 39) hx hb hts hiM hown hK hP 0 rfl rfl 22 (by decide) lk147 (fun _ h9 => h9) rfl d_M_begin_53 ?_
            refine lv_iconst (v := 1) hx hb d_M_begin_56 (by decide) ?_
            refine va_iast hx hb hK hP (dM hq) hS 18 0 rfl rfl hwp.1 d_M_begin_57 (fun H locs hP _ hS => ?_)
            have hwp := hwp.2
            have hP : va_P (dC, dI) clZ (wM cI cL cZ q MA MD MF MG ML MN MP (MT_state' MT (upd (MT_state MT) (Int32.toNatClampNeg (MT_many MT)) 1)) MV) H := hP
            refine lv_aload_n hx hb d_M_begin_58 rfl (lv_at hl 0 rfl) ?_
            refine va_get (D := (dC, dI)) (ci := 7) (v := .ref (q 19)) (C := R_M) (T := F_M) (N := 39) hx hb hts hiM hown hK hP 0 rfl rfl 24 (by decide) lk65 (fun _ h9 => h9) rfl d_M_begin_59 ?_
            refine lv_aload_n hx hb d_M_begin_62 rfl (lv_at hl 0 rfl) ?_
            refine va_get (D := (dC, dI)) (ci := 7) (v := .int (MT_many MT)) (C := R_M) (T := F_M) (N := 39) hx hb hts hiM hown hK hP 0 rfl rfl 22 (by decide) lk147 (fun _ h9 => h9) rfl d_M_begin_63 ?_
            refine lv_iload_n hx hb d_M_begin_66 rfl (lv_at hl 1 rfl) ?_
            refine va_iast hx hb hK hP (dM hq) hS 19 0 rfl rfl hwp.1 d_M_begin_67 (fun H locs hP _ hS => ?_)
            have hwp := hwp.2
            have hP : va_P (dC, dI) clZ (wM cI cL cZ q MA MD MF MG ML MN MP (MT_parent' (MT_state' MT (upd (MT_state MT) (Int32.toNatClampNeg (MT_many MT)) 1)) (upd (MT_parent MT) (Int32.toNatClampNeg (MT_many MT)) a1)) MV) H := hP
            refine lv_aload_n hx hb d_M_begin_68 rfl (lv_at hl 0 rfl) ?_
            refine lv_iconst (v := 1) hx hb d_M_begin_69 (by decide) ?_
            refine lv_aload_n hx hb d_M_begin_70 rfl (lv_at hl 0 rfl) ?_
            refine va_get (D := (dC, dI)) (ci := 7) (v := .int (MT_many MT)) (C := R_M) (T := F_M) (N := 39) hx hb hts hiM hown hK hP 0 rfl rfl 22 (by decide) lk147 (fun _ h9 => h9) rfl d_M_begin_71 ?_
            refine lv_iload_n hx hb d_M_begin_74 rfl (lv_at hl 1 rfl) ?_
            refine ncn_i (As := [.int 1, .int (MT_many MT), .int a1]) (c_M_append hq (MA) (MD) (MF) (MG) (ML) (MN) (MP) ((MT_parent' (MT_state' MT (upd (MT_state MT) (Int32.toNatClampNeg (MT_many MT)) 1)) (upd (MT_parent MT) (Int32.toNatClampNeg (MT_many MT)) a1))) (MV) (1) ((MT_many MT)) (a1) _ hwp) (cwV 3 hts g_M_121 rfl rfl rfl hd_M_append ⟨Nat.le_of_ble_eq_true rfl, Nat.le_of_ble_eq_true rfl⟩) hx hb hml hown hts hK hP hS hl.1 d_M_begin_75 (va_recv (q := (R_M, F_M, 39)) hK hP (ci := 7) (q0 := 0) rfl rfl) rfl (lv_room (Nat.le_of_ble_eq_true rfl)) (Nat.zero_le _) (Nat.zero_le _) rfl (fun r7 MG8 H locs hwp hP hS => ?_)
            have hP : va_P (dC, dI) clZ (wM cI cL cZ q MA MD MF MG8 ML MN MP (MT_parent' (MT_state' MT (upd (MT_state MT) (Int32.toNatClampNeg (MT_many MT)) 1)) (upd (MT_parent MT) (Int32.toNatClampNeg (MT_many MT)) a1)) MV) H := hP
            refine lv_istore_n (lv' := [(2, .int r7), (0, .ref (q 0)), (1, .int a1)]) hx hb d_M_begin_78 rfl hl (by decide) rfl (fun ls hl => ?_)
            refine lv_aload_n hx hb d_M_begin_79 rfl (lv_at hl 1 rfl) ?_
            refine va_get (D := (dC, dI)) (ci := 7) (v := .ref (q 20)) (C := R_M) (T := F_M) (N := 39) hx hb hts hiM hown hK hP 0 rfl rfl 25 (by decide) lk68 (fun _ h9 => h9) rfl d_M_begin_80 ?_
            refine lv_aload_n hx hb d_M_begin_83 rfl (lv_at hl 1 rfl) ?_
            refine va_get (D := (dC, dI)) (ci := 7) (v := .int (MT_many MT)) (C := R_M) (T := F_M) (N := 39) hx hb hts hiM hown hK hP 0 rfl rfl 22 (by decide) lk147 (fun _ h9 => h9) rfl d_M_begin_84 ?_
            refine lv_aload_n hx hb d_M_begin_87 rfl (lv_at hl 1 rfl) ?_
            refine ncn_i (As := []) (c_M_last hq (MA) (MD) (MF) (MG8) (ML) (MN) (MP) ((MT_parent' (MT_state' MT (upd (MT_state MT) (Int32.toNatClampNeg (MT_many MT)) 1)) (upd (MT_parent MT) (Int32.toNatClampNeg (MT_many MT)) a1))) (MV)  _ hwp) (cwV 0 hts g_M_128 rfl rfl rfl hd_M_last ⟨Nat.le_of_ble_eq_true rfl, Nat.le_of_ble_eq_true rfl⟩) hx hb hml hown hts hK hP hS hl.1 d_M_begin_88 (va_recv (q := (R_M, F_M, 39)) hK hP (ci := 7) (q0 := 0) rfl rfl) rfl (lv_room (Nat.le_of_ble_eq_true rfl)) (Nat.zero_le _) (Nat.zero_le _) rfl (fun r9 u H locs hwp hP hS => ?_)
            have hP : va_P (dC, dI) clZ (wM cI cL cZ q MA MD MF MG8 ML MN MP (MT_parent' (MT_state' MT (upd (MT_state MT) (Int32.toNatClampNeg (MT_many MT)) 1)) (upd (MT_parent MT) (Int32.toNatClampNeg (MT_many MT)) a1)) MV) H := hP
            refine va_iast hx hb hK hP (dM hq) hS 20 0 rfl rfl hwp.1 d_M_begin_91 (fun H locs hP _ hS => ?_)
            have hwp := hwp.2
            have hP : va_P (dC, dI) clZ (wM cI cL cZ q MA MD MF MG8 ML MN MP (MT_began' (MT_parent' (MT_state' MT (upd (MT_state MT) (Int32.toNatClampNeg (MT_many MT)) 1)) (upd (MT_parent MT) (Int32.toNatClampNeg (MT_many MT)) a1)) (upd (MT_began MT) (Int32.toNatClampNeg (MT_many MT)) r9)) MV) H := hP
            refine lv_aload_n hx hb d_M_begin_92 rfl (lv_at hl 1 rfl) ?_
            refine lv_dup hx hb d_M_begin_93 rfl ?_
            refine va_get (D := (dC, dI)) (ci := 7) (v := .int (MT_many MT)) (C := R_M) (T := F_M) (N := 39) hx hb hts hiM hown hK hP 0 rfl rfl 22 (by decide) lk147 (fun _ h9 => h9) rfl d_M_begin_94 ?_
            refine lv_iconst (v := 1) hx hb d_M_begin_97 (by decide) ?_
            refine lv_iadd hx hb d_M_begin_98 ?_
            refine va_put (D := (dC, dI)) (ci := 7) (v := .int ((MT_many MT) + 1)) (ty := .int) (C := R_M) (T := F_M) (N := 39) hx hb hts hiM ty_M ty_M_ok nmx_M hown hK hP (dM hq) hS 0 rfl rfl 22 (by decide) lk147 (fun _ h9 => h9) rfl (by decide +kernel) rfl rfl (Nat.le_of_ble_eq_true rfl) d_M_begin_99 (fun H locs hP _ hS => ?_)
            have hP : va_P (dC, dI) clZ (wM cI cL cZ q MA MD MF MG8 ML MN MP (MT_many' (MT_began' (MT_parent' (MT_state' MT (upd (MT_state MT) (Int32.toNatClampNeg (MT_many MT)) 1)) (upd (MT_parent MT) (Int32.toNatClampNeg (MT_many MT)) a1)) (upd (MT_began MT) (Int32.toNatClampNeg (MT_many MT)) r9)) ((MT_many MT) + 1)) MV) H := hP
            refine lv_aload_n hx hb d_M_begin_102 rfl (lv_at hl 1 rfl) ?_
            refine va_get (D := (dC, dI)) (ci := 7) (v := .ref (q 11)) (C := R_M) (T := F_M) (N := 39) hx hb hts hiM hown hK hP 0 rfl rfl 15 (by decide) lk41 (fun _ h9 => h9) rfl d_M_begin_103 ?_
            refine lv_iload_n hx hb d_M_begin_106 rfl (lv_at hl 0 rfl) ?_
            refine va_iald hx hb hK hP 11 0 rfl rfl hwp.1 d_M_begin_107 ?_
            have hwp := hwp.2
            rw [hQ]
            exact W.iret (v := ((MG_by MG8) (Int32.toNatClampNeg r7))) hx hb hr (fun t ht hW => ⟨⟨((MG_by MG8) (Int32.toNatClampNeg r7)), (MG8, (MT_many' (MT_began' (MT_parent' (MT_state' MT (upd (MT_state MT) (Int32.toNatClampNeg (MT_many MT)) 1)) (upd (MT_parent MT) (Int32.toNatClampNeg (MT_many MT)) a1)) (upd (MT_began MT) (Int32.toNatClampNeg (MT_many MT)) r9)) ((MT_many MT) + 1))), rfl, hwp, hp_of ht hP⟩, hS.F ht⟩) hS.2.2 d_M_begin_108
          · rw [if_neg hc] at hwp
            refine lv_bipush (v := (-5)) hx hb d_M_begin_45 (by decide) ?_
            rw [hQ]
            exact W.iret (v := (-5)) hx hb hr (fun t ht hW => ⟨⟨(-5), (MG, MT), rfl, hwp, hp_of ht hP⟩, hS.F ht⟩) hS.2.2 d_M_begin_47
        · rw [if_neg hc] at hwp
          refine lv_iconst (v := (-1)) hx hb d_M_begin_36 (by decide) ?_
          rw [hQ]
          exact W.iret (v := (-1)) hx hb hr (fun t ht hW => ⟨⟨(-1), (MG, MT), rfl, hwp, hp_of ht hP⟩, hS.F ht⟩) hS.2.2 d_M_begin_37
  · rw [if_neg hc] at hwp
    refine lv_aload_n hx hb d_M_begin_5 rfl (lv_at hl 0 rfl) ?_
    refine lv_iload_n hx hb d_M_begin_6 rfl (lv_at hl 1 rfl) ?_
    refine ncn_i (As := [.int a1]) (c_M_active hq (MA) (MD) (MF) (MG) (ML) (MN) (MP) (MT) (MV) (a1) _ hwp) (cwV 1 hts g_M_162 rfl rfl rfl hd_M_active ⟨Nat.le_of_ble_eq_true rfl, Nat.le_of_ble_eq_true rfl⟩) hx hb hml hown hts hK hP hS hl.1 d_M_begin_7 (va_recv (q := (R_M, F_M, 39)) hK hP (ci := 7) (q0 := 0) rfl rfl) rfl (lv_room (Nat.le_of_ble_eq_true rfl)) (Nat.zero_le _) (Nat.zero_le _) rfl (fun r10 u H locs hwp hP hS => ?_)
    have hP : va_P (dC, dI) clZ (wM cI cL cZ q MA MD MF MG ML MN MP MT MV) H := hP
    refine lv_if_eq (tgt := 36) hx hb d_M_begin_10 (by decide) (fun hc => ?_) (fun hc => ?_)
    · rw [if_pos hc] at hwp
      refine lv_iconst (v := (-1)) hx hb d_M_begin_36 (by decide) ?_
      rw [hQ]
      exact W.iret (v := (-1)) hx hb hr (fun t ht hW => ⟨⟨(-1), (MG, MT), rfl, hwp, hp_of ht hP⟩, hS.F ht⟩) hS.2.2 d_M_begin_37
    · rw [if_neg hc] at hwp
      refine lv_aload_n hx hb d_M_begin_13 rfl (lv_at hl 0 rfl) ?_
      refine va_get (D := (dC, dI)) (ci := 7) (v := .int (MT_many MT)) (C := R_M) (T := F_M) (N := 39) hx hb hts hiM hown hK hP 0 rfl rfl 22 (by decide) lk147 (fun _ h9 => h9) rfl d_M_begin_14 ?_
      refine lv_bipush (v := 60) hx hb d_M_begin_17 (by decide) ?_
      refine lv_icmp_eq (tgt := 36) hx hb d_M_begin_19 (by decide) (fun hc => ?_) (fun hc => ?_)
      · rw [if_pos hc] at hwp
        refine lv_iconst (v := (-1)) hx hb d_M_begin_36 (by decide) ?_
        rw [hQ]
        exact W.iret (v := (-1)) hx hb hr (fun t ht hW => ⟨⟨(-1), (MG, MT), rfl, hwp, hp_of ht hP⟩, hS.F ht⟩) hS.2.2 d_M_begin_37
      · rw [if_neg hc] at hwp
        refine lv_iload_n hx hb d_M_begin_22 rfl (lv_at hl 1 rfl) ?_
        refine lv_iconst (v := (-1)) hx hb d_M_begin_23 (by decide) ?_
        refine lv_icmp_eq (tgt := 38) hx hb d_M_begin_24 (by decide) (fun hc => ?_) (fun hc => ?_)
        · rw [if_pos hc] at hwp
          refine lv_aload_n hx hb d_M_begin_38 rfl (lv_at hl 0 rfl) ?_
          refine ncn_i (As := []) (c_M_full hq (MA) (MD) (MF) (MG) (ML) (MN) (MP) (MT) (MV)  _ hwp) (cwV 0 hts g_M_168 rfl rfl rfl hd_M_full ⟨Nat.le_of_ble_eq_true rfl, Nat.le_of_ble_eq_true rfl⟩) hx hb hml hown hts hK hP hS hl.1 d_M_begin_39 (va_recv (q := (R_M, F_M, 39)) hK hP (ci := 7) (q0 := 0) rfl rfl) rfl (lv_room (Nat.le_of_ble_eq_true rfl)) (Nat.zero_le _) (Nat.zero_le _) rfl (fun r11 u H locs hwp hP hS => ?_)
          have hP : va_P (dC, dI) clZ (wM cI cL cZ q MA MD MF MG ML MN MP MT MV) H := hP
          refine lv_if_eq (tgt := 48) hx hb d_M_begin_42 (by decide) (fun hc => ?_) (fun hc => ?_)
          · rw [if_pos hc] at hwp
            refine lv_aload_n hx hb d_M_begin_48 rfl (lv_at hl 0 rfl) ?_
            refine va_get (D := (dC, dI)) (ci := 7) (v := .ref (q 18)) (C := R_M) (T := F_M) (N := 39) hx hb hts hiM hown hK hP 0 rfl rfl 23 (by decide) lk62 (fun _ h9 => h9) rfl d_M_begin_49 ?_
            refine lv_aload_n hx hb d_M_begin_52 rfl (lv_at hl 0 rfl) ?_
            refine va_get (D := (dC, dI)) (ci := 7) (v := .int (MT_many MT)) (C := R_M) (T := F_M) (N := 39) hx hb hts hiM hown hK hP 0 rfl rfl 22 (by decide) lk147 (fun _ h9 => h9) rfl d_M_begin_53 ?_
            refine lv_iconst (v := 1) hx hb d_M_begin_56 (by decide) ?_
            refine va_iast hx hb hK hP (dM hq) hS 18 0 rfl rfl hwp.1 d_M_begin_57 (fun H locs hP _ hS => ?_)
            have hwp := hwp.2
            have hP : va_P (dC, dI) clZ (wM cI cL cZ q MA MD MF MG ML MN MP (MT_state' MT (upd (MT_state MT) (Int32.toNatClampNeg (MT_many MT)) 1)) MV) H := hP
            refine lv_aload_n hx hb d_M_begin_58 rfl (lv_at hl 0 rfl) ?_
            refine va_get (D := (dC, dI)) (ci := 7) (v := .ref (q 19)) (C := R_M) (T := F_M) (N := 39) hx hb hts hiM hown hK hP 0 rfl rfl 24 (by decide) lk65 (fun _ h9 => h9) rfl d_M_begin_59 ?_
            refine lv_aload_n hx hb d_M_begin_62 rfl (lv_at hl 0 rfl) ?_
            refine va_get (D := (dC, dI)) (ci := 7) (v := .int (MT_many MT)) (C := R_M) (T := F_M) (N := 39) hx hb hts hiM hown hK hP 0 rfl rfl 22 (by decide) lk147 (fun _ h9 => h9) rfl d_M_begin_63 ?_
            refine lv_iload_n hx hb d_M_begin_66 rfl (lv_at hl 1 rfl) ?_
            refine va_iast hx hb hK hP (dM hq) hS 19 0 rfl rfl hwp.1 d_M_begin_67 (fun H locs hP _ hS => ?_)
            have hwp := hwp.2
            have hP : va_P (dC, dI) clZ (wM cI cL cZ q MA MD MF MG ML MN MP (MT_parent' (MT_state' MT (upd (MT_state MT) (Int32.toNatClampNeg (MT_many MT)) 1)) (upd (MT_parent MT) (Int32.toNatClampNeg (MT_many MT)) a1)) MV) H := hP
            refine lv_aload_n hx hb d_M_begin_68 rfl (lv_at hl 0 rfl) ?_
            refine lv_iconst (v := 1) hx hb d_M_begin_69 (by decide) ?_
            refine lv_aload_n hx hb d_M_begin_70 rfl (lv_at hl 0 rfl) ?_
            refine va_get (D := (dC, dI)) (ci := 7) (v := .int (MT_many MT)) (C := R_M) (T := F_M) (N := 39) hx hb hts hiM hown hK hP 0 rfl rfl 22 (by decide) lk147 (fun _ h9 => h9) rfl d_M_begin_71 ?_
            refine lv_iload_n hx hb d_M_begin_74 rfl (lv_at hl 1 rfl) ?_
            refine ncn_i (As := [.int 1, .int (MT_many MT), .int a1]) (c_M_append hq (MA) (MD) (MF) (MG) (ML) (MN) (MP) ((MT_parent' (MT_state' MT (upd (MT_state MT) (Int32.toNatClampNeg (MT_many MT)) 1)) (upd (MT_parent MT) (Int32.toNatClampNeg (MT_many MT)) a1))) (MV) (1) ((MT_many MT)) (a1) _ hwp) (cwV 3 hts g_M_121 rfl rfl rfl hd_M_append ⟨Nat.le_of_ble_eq_true rfl, Nat.le_of_ble_eq_true rfl⟩) hx hb hml hown hts hK hP hS hl.1 d_M_begin_75 (va_recv (q := (R_M, F_M, 39)) hK hP (ci := 7) (q0 := 0) rfl rfl) rfl (lv_room (Nat.le_of_ble_eq_true rfl)) (Nat.zero_le _) (Nat.zero_le _) rfl (fun r12 MG13 H locs hwp hP hS => ?_)
            have hP : va_P (dC, dI) clZ (wM cI cL cZ q MA MD MF MG13 ML MN MP (MT_parent' (MT_state' MT (upd (MT_state MT) (Int32.toNatClampNeg (MT_many MT)) 1)) (upd (MT_parent MT) (Int32.toNatClampNeg (MT_many MT)) a1)) MV) H := hP
            refine lv_istore_n (lv' := [(2, .int r12), (0, .ref (q 0)), (1, .int a1)]) hx hb d_M_begin_78 rfl hl (by decide) rfl (fun ls hl => ?_)
            refine lv_aload_n hx hb d_M_begin_79 rfl (lv_at hl 1 rfl) ?_
            refine va_get (D := (dC, dI)) (ci := 7) (v := .ref (q 20)) (C := R_M) (T := F_M) (N := 39) hx hb hts hiM hown hK hP 0 rfl rfl 25 (by decide) lk68 (fun _ h9 => h9) rfl d_M_begin_80 ?_
            refine lv_aload_n hx hb d_M_begin_83 rfl (lv_at hl 1 rfl) ?_
            refine va_get (D := (dC, dI)) (ci := 7) (v := .int (MT_many MT)) (C := R_M) (T := F_M) (N := 39) hx hb hts hiM hown hK hP 0 rfl rfl 22 (by decide) lk147 (fun _ h9 => h9) rfl d_M_begin_84 ?_
            refine lv_aload_n hx hb d_M_begin_87 rfl (lv_at hl 1 rfl) ?_
            refine ncn_i (As := []) (c_M_last hq (MA) (MD) (MF) (MG13) (ML) (MN) (MP) ((MT_parent' (MT_state' MT (upd (MT_state MT) (Int32.toNatClampNeg (MT_many MT)) 1)) (upd (MT_parent MT) (Int32.toNatClampNeg (MT_many MT)) a1))) (MV)  _ hwp) (cwV 0 hts g_M_128 rfl rfl rfl hd_M_last ⟨Nat.le_of_ble_eq_true rfl, Nat.le_of_ble_eq_true rfl⟩) hx hb hml hown hts hK hP hS hl.1 d_M_begin_88 (va_recv (q := (R_M, F_M, 39)) hK hP (ci := 7) (q0 := 0) rfl rfl) rfl (lv_room (Nat.le_of_ble_eq_true rfl)) (Nat.zero_le _) (Nat.zero_le _) rfl (fun r14 u H locs hwp hP hS => ?_)
            have hP : va_P (dC, dI) clZ (wM cI cL cZ q MA MD MF MG13 ML MN MP (MT_parent' (MT_state' MT (upd (MT_state MT) (Int32.toNatClampNeg (MT_many MT)) 1)) (upd (MT_parent MT) (Int32.toNatClampNeg (MT_many MT)) a1)) MV) H := hP
            refine va_iast hx hb hK hP (dM hq) hS 20 0 rfl rfl hwp.1 d_M_begin_91 (fun H locs hP _ hS => ?_)
            have hwp := hwp.2
            have hP : va_P (dC, dI) clZ (wM cI cL cZ q MA MD MF MG13 ML MN MP (MT_began' (MT_parent' (MT_state' MT (upd (MT_state MT) (Int32.toNatClampNeg (MT_many MT)) 1)) (upd (MT_parent MT) (Int32.toNatClampNeg (MT_many MT)) a1)) (upd (MT_began MT) (Int32.toNatClampNeg (MT_many MT)) r14)) MV) H := hP
            refine lv_aload_n hx hb d_M_begin_92 rfl (lv_at hl 1 rfl) ?_
            refine lv_dup hx hb d_M_begin_93 rfl ?_
            refine va_get (D := (dC, dI)) (ci := 7) (v := .int (MT_many MT)) (C := R_M) (T := F_M) (N := 39) hx hb hts hiM hown hK hP 0 rfl rfl 22 (by decide) lk147 (fun _ h9 => h9) rfl d_M_begin_94 ?_
            refine lv_iconst (v := 1) hx hb d_M_begin_97 (by decide) ?_
            refine lv_iadd hx hb d_M_begin_98 ?_
            refine va_put (D := (dC, dI)) (ci := 7) (v := .int ((MT_many MT) + 1)) (ty := .int) (C := R_M) (T := F_M) (N := 39) hx hb hts hiM ty_M ty_M_ok nmx_M hown hK hP (dM hq) hS 0 rfl rfl 22 (by decide) lk147 (fun _ h9 => h9) rfl (by decide +kernel) rfl rfl (Nat.le_of_ble_eq_true rfl) d_M_begin_99 (fun H locs hP _ hS => ?_)
            have hP : va_P (dC, dI) clZ (wM cI cL cZ q MA MD MF MG13 ML MN MP (MT_many' (MT_began' (MT_parent' (MT_state' MT (upd (MT_state MT) (Int32.toNatClampNeg (MT_many MT)) 1)) (upd (MT_parent MT) (Int32.toNatClampNeg (MT_many MT)) a1)) (upd (MT_began MT) (Int32.toNatClampNeg (MT_many MT)) r14)) ((MT_many MT) + 1)) MV) H := hP
            refine lv_aload_n hx hb d_M_begin_102 rfl (lv_at hl 1 rfl) ?_
            refine va_get (D := (dC, dI)) (ci := 7) (v := .ref (q 11)) (C := R_M) (T := F_M) (N := 39) hx hb hts hiM hown hK hP 0 rfl rfl 15 (by decide) lk41 (fun _ h9 => h9) rfl d_M_begin_103 ?_
            refine lv_iload_n hx hb d_M_begin_106 rfl (lv_at hl 0 rfl) ?_
            refine va_iald hx hb hK hP 11 0 rfl rfl hwp.1 d_M_begin_107 ?_
            have hwp := hwp.2
            rw [hQ]
            exact W.iret (v := ((MG_by MG13) (Int32.toNatClampNeg r12))) hx hb hr (fun t ht hW => ⟨⟨((MG_by MG13) (Int32.toNatClampNeg r12)), (MG13, (MT_many' (MT_began' (MT_parent' (MT_state' MT (upd (MT_state MT) (Int32.toNatClampNeg (MT_many MT)) 1)) (upd (MT_parent MT) (Int32.toNatClampNeg (MT_many MT)) a1)) (upd (MT_began MT) (Int32.toNatClampNeg (MT_many MT)) r14)) ((MT_many MT) + 1))), rfl, hwp, hp_of ht hP⟩, hS.F ht⟩) hS.2.2 d_M_begin_108
          · rw [if_neg hc] at hwp
            refine lv_bipush (v := (-5)) hx hb d_M_begin_45 (by decide) ?_
            rw [hQ]
            exact W.iret (v := (-5)) hx hb hr (fun t ht hW => ⟨⟨(-5), (MG, MT), rfl, hwp, hp_of ht hP⟩, hS.F ht⟩) hS.2.2 d_M_begin_47
        · rw [if_neg hc] at hwp
          refine lv_aload_n hx hb d_M_begin_27 rfl (lv_at hl 0 rfl) ?_
          refine lv_iload_n hx hb d_M_begin_28 rfl (lv_at hl 1 rfl) ?_
          refine ncn_i (As := [.int a1]) (c_M_depth hq (MA) (MD) (MF) (MG) (ML) (MN) (MP) (MT) (MV) (a1) _ hwp) (cwV 1 hts g_M_165 rfl rfl rfl hd_M_depth ⟨Nat.le_of_ble_eq_true rfl, Nat.le_of_ble_eq_true rfl⟩) hx hb hml hown hts hK hP hS hl.1 d_M_begin_29 (va_recv (q := (R_M, F_M, 39)) hK hP (ci := 7) (q0 := 0) rfl rfl) rfl (lv_room (Nat.le_of_ble_eq_true rfl)) (Nat.zero_le _) (Nat.zero_le _) rfl (fun r15 u H locs hwp hP hS => ?_)
          have hP : va_P (dC, dI) clZ (wM cI cL cZ q MA MD MF MG ML MN MP MT MV) H := hP
          refine lv_iconst (v := 4) hx hb d_M_begin_32 (by decide) ?_
          refine lv_icmp_lt (tgt := 38) hx hb d_M_begin_33 (by decide) (fun hc => ?_) (fun hc => ?_)
          · rw [if_pos hc] at hwp
            refine lv_aload_n hx hb d_M_begin_38 rfl (lv_at hl 0 rfl) ?_
            refine ncn_i (As := []) (c_M_full hq (MA) (MD) (MF) (MG) (ML) (MN) (MP) (MT) (MV)  _ hwp) (cwV 0 hts g_M_168 rfl rfl rfl hd_M_full ⟨Nat.le_of_ble_eq_true rfl, Nat.le_of_ble_eq_true rfl⟩) hx hb hml hown hts hK hP hS hl.1 d_M_begin_39 (va_recv (q := (R_M, F_M, 39)) hK hP (ci := 7) (q0 := 0) rfl rfl) rfl (lv_room (Nat.le_of_ble_eq_true rfl)) (Nat.zero_le _) (Nat.zero_le _) rfl (fun r16 u H locs hwp hP hS => ?_)
            have hP : va_P (dC, dI) clZ (wM cI cL cZ q MA MD MF MG ML MN MP MT MV) H := hP
            refine lv_if_eq (tgt := 48) hx hb d_M_begin_42 (by decide) (fun hc => ?_) (fun hc => ?_)
            · rw [if_pos hc] at hwp
              refine lv_aload_n hx hb d_M_begin_48 rfl (lv_at hl 0 rfl) ?_
              refine va_get (D := (dC, dI)) (ci := 7) (v := .ref (q 18)) (C := R_M) (T := F_M) (N := 39) hx hb hts hiM hown hK hP 0 rfl rfl 23 (by decide) lk62 (fun _ h9 => h9) rfl d_M_begin_49 ?_
              refine lv_aload_n hx hb d_M_begin_52 rfl (lv_at hl 0 rfl) ?_
              refine va_get (D := (dC, dI)) (ci := 7) (v := .int (MT_many MT)) (C := R_M) (T := F_M) (N := 39) hx hb hts hiM hown hK hP 0 rfl rfl 22 (by decide) lk147 (fun _ h9 => h9) rfl d_M_begin_53 ?_
              refine lv_iconst (v := 1) hx hb d_M_begin_56 (by decide) ?_
              refine va_iast hx hb hK hP (dM hq) hS 18 0 rfl rfl hwp.1 d_M_begin_57 (fun H locs hP _ hS => ?_)
              have hwp := hwp.2
              have hP : va_P (dC, dI) clZ (wM cI cL cZ q MA MD MF MG ML MN MP (MT_state' MT (upd (MT_state MT) (Int32.toNatClampNeg (MT_many MT)) 1)) MV) H := hP
              refine lv_aload_n hx hb d_M_begin_58 rfl (lv_at hl 0 rfl) ?_
              refine va_get (D := (dC, dI)) (ci := 7) (v := .ref (q 19)) (C := R_M) (T := F_M) (N := 39) hx hb hts hiM hown hK hP 0 rfl rfl 24 (by decide) lk65 (fun _ h9 => h9) rfl d_M_begin_59 ?_
              refine lv_aload_n hx hb d_M_begin_62 rfl (lv_at hl 0 rfl) ?_
              refine va_get (D := (dC, dI)) (ci := 7) (v := .int (MT_many MT)) (C := R_M) (T := F_M) (N := 39) hx hb hts hiM hown hK hP 0 rfl rfl 22 (by decide) lk147 (fun _ h9 => h9) rfl d_M_begin_63 ?_
              refine lv_iload_n hx hb d_M_begin_66 rfl (lv_at hl 1 rfl) ?_
              refine va_iast hx hb hK hP (dM hq) hS 19 0 rfl rfl hwp.1 d_M_begin_67 (fun H locs hP _ hS => ?_)
              have hwp := hwp.2
              have hP : va_P (dC, dI) clZ (wM cI cL cZ q MA MD MF MG ML MN MP (MT_parent' (MT_state' MT (upd (MT_state MT) (Int32.toNatClampNeg (MT_many MT)) 1)) (upd (MT_parent MT) (Int32.toNatClampNeg (MT_many MT)) a1)) MV) H := hP
              refine lv_aload_n hx hb d_M_begin_68 rfl (lv_at hl 0 rfl) ?_
              refine lv_iconst (v := 1) hx hb d_M_begin_69 (by decide) ?_
              refine lv_aload_n hx hb d_M_begin_70 rfl (lv_at hl 0 rfl) ?_
              refine va_get (D := (dC, dI)) (ci := 7) (v := .int (MT_many MT)) (C := R_M) (T := F_M) (N := 39) hx hb hts hiM hown hK hP 0 rfl rfl 22 (by decide) lk147 (fun _ h9 => h9) rfl d_M_begin_71 ?_
              refine lv_iload_n hx hb d_M_begin_74 rfl (lv_at hl 1 rfl) ?_
              refine ncn_i (As := [.int 1, .int (MT_many MT), .int a1]) (c_M_append hq (MA) (MD) (MF) (MG) (ML) (MN) (MP) ((MT_parent' (MT_state' MT (upd (MT_state MT) (Int32.toNatClampNeg (MT_many MT)) 1)) (upd (MT_parent MT) (Int32.toNatClampNeg (MT_many MT)) a1))) (MV) (1) ((MT_many MT)) (a1) _ hwp) (cwV 3 hts g_M_121 rfl rfl rfl hd_M_append ⟨Nat.le_of_ble_eq_true rfl, Nat.le_of_ble_eq_true rfl⟩) hx hb hml hown hts hK hP hS hl.1 d_M_begin_75 (va_recv (q := (R_M, F_M, 39)) hK hP (ci := 7) (q0 := 0) rfl rfl) rfl (lv_room (Nat.le_of_ble_eq_true rfl)) (Nat.zero_le _) (Nat.zero_le _) rfl (fun r17 MG18 H locs hwp hP hS => ?_)
              have hP : va_P (dC, dI) clZ (wM cI cL cZ q MA MD MF MG18 ML MN MP (MT_parent' (MT_state' MT (upd (MT_state MT) (Int32.toNatClampNeg (MT_many MT)) 1)) (upd (MT_parent MT) (Int32.toNatClampNeg (MT_many MT)) a1)) MV) H := hP
              refine lv_istore_n (lv' := [(2, .int r17), (0, .ref (q 0)), (1, .int a1)]) hx hb d_M_begin_78 rfl hl (by decide) rfl (fun ls hl => ?_)
              refine lv_aload_n hx hb d_M_begin_79 rfl (lv_at hl 1 rfl) ?_
              refine va_get (D := (dC, dI)) (ci := 7) (v := .ref (q 20)) (C := R_M) (T := F_M) (N := 39) hx hb hts hiM hown hK hP 0 rfl rfl 25 (by decide) lk68 (fun _ h9 => h9) rfl d_M_begin_80 ?_
              refine lv_aload_n hx hb d_M_begin_83 rfl (lv_at hl 1 rfl) ?_
              refine va_get (D := (dC, dI)) (ci := 7) (v := .int (MT_many MT)) (C := R_M) (T := F_M) (N := 39) hx hb hts hiM hown hK hP 0 rfl rfl 22 (by decide) lk147 (fun _ h9 => h9) rfl d_M_begin_84 ?_
              refine lv_aload_n hx hb d_M_begin_87 rfl (lv_at hl 1 rfl) ?_
              refine ncn_i (As := []) (c_M_last hq (MA) (MD) (MF) (MG18) (ML) (MN) (MP) ((MT_parent' (MT_state' MT (upd (MT_state MT) (Int32.toNatClampNeg (MT_many MT)) 1)) (upd (MT_parent MT) (Int32.toNatClampNeg (MT_many MT)) a1))) (MV)  _ hwp) (cwV 0 hts g_M_128 rfl rfl rfl hd_M_last ⟨Nat.le_of_ble_eq_true rfl, Nat.le_of_ble_eq_true rfl⟩) hx hb hml hown hts hK hP hS hl.1 d_M_begin_88 (va_recv (q := (R_M, F_M, 39)) hK hP (ci := 7) (q0 := 0) rfl rfl) rfl (lv_room (Nat.le_of_ble_eq_true rfl)) (Nat.zero_le _) (Nat.zero_le _) rfl (fun r19 u H locs hwp hP hS => ?_)
              have hP : va_P (dC, dI) clZ (wM cI cL cZ q MA MD MF MG18 ML MN MP (MT_parent' (MT_state' MT (upd (MT_state MT) (Int32.toNatClampNeg (MT_many MT)) 1)) (upd (MT_parent MT) (Int32.toNatClampNeg (MT_many MT)) a1)) MV) H := hP
              refine va_iast hx hb hK hP (dM hq) hS 20 0 rfl rfl hwp.1 d_M_begin_91 (fun H locs hP _ hS => ?_)
              have hwp := hwp.2
              have hP : va_P (dC, dI) clZ (wM cI cL cZ q MA MD MF MG18 ML MN MP (MT_began' (MT_parent' (MT_state' MT (upd (MT_state MT) (Int32.toNatClampNeg (MT_many MT)) 1)) (upd (MT_parent MT) (Int32.toNatClampNeg (MT_many MT)) a1)) (upd (MT_began MT) (Int32.toNatClampNeg (MT_many MT)) r19)) MV) H := hP
              refine lv_aload_n hx hb d_M_begin_92 rfl (lv_at hl 1 rfl) ?_
              refine lv_dup hx hb d_M_begin_93 rfl ?_
              refine va_get (D := (dC, dI)) (ci := 7) (v := .int (MT_many MT)) (C := R_M) (T := F_M) (N := 39) hx hb hts hiM hown hK hP 0 rfl rfl 22 (by decide) lk147 (fun _ h9 => h9) rfl d_M_begin_94 ?_
              refine lv_iconst (v := 1) hx hb d_M_begin_97 (by decide) ?_
              refine lv_iadd hx hb d_M_begin_98 ?_
              refine va_put (D := (dC, dI)) (ci := 7) (v := .int ((MT_many MT) + 1)) (ty := .int) (C := R_M) (T := F_M) (N := 39) hx hb hts hiM ty_M ty_M_ok nmx_M hown hK hP (dM hq) hS 0 rfl rfl 22 (by decide) lk147 (fun _ h9 => h9) rfl (by decide +kernel) rfl rfl (Nat.le_of_ble_eq_true rfl) d_M_begin_99 (fun H locs hP _ hS => ?_)
              have hP : va_P (dC, dI) clZ (wM cI cL cZ q MA MD MF MG18 ML MN MP (MT_many' (MT_began' (MT_parent' (MT_state' MT (upd (MT_state MT) (Int32.toNatClampNeg (MT_many MT)) 1)) (upd (MT_parent MT) (Int32.toNatClampNeg (MT_many MT)) a1)) (upd (MT_began MT) (Int32.toNatClampNeg (MT_many MT)) r19)) ((MT_many MT) + 1)) MV) H := hP
              refine lv_aload_n hx hb d_M_begin_102 rfl (lv_at hl 1 rfl) ?_
              refine va_get (D := (dC, dI)) (ci := 7) (v := .ref (q 11)) (C := R_M) (T := F_M) (N := 39) hx hb hts hiM hown hK hP 0 rfl rfl 15 (by decide) lk41 (fun _ h9 => h9) rfl d_M_begin_103 ?_
              refine lv_iload_n hx hb d_M_begin_106 rfl (lv_at hl 0 rfl) ?_
              refine va_iald hx hb hK hP 11 0 rfl rfl hwp.1 d_M_begin_107 ?_
              have hwp := hwp.2
              rw [hQ]
              exact W.iret (v := ((MG_by MG18) (Int32.toNatClampNeg r17))) hx hb hr (fun t ht hW => ⟨⟨((MG_by MG18) (Int32.toNatClampNeg r17)), (MG18, (MT_many' (MT_began' (MT_parent' (MT_state' MT (upd (MT_state MT) (Int32.toNatClampNeg (MT_many MT)) 1)) (upd (MT_parent MT) (Int32.toNatClampNeg (MT_many MT)) a1)) (upd (MT_began MT) (Int32.toNatClampNeg (MT_many MT)) r19)) ((MT_many MT) + 1))), rfl, hwp, hp_of ht hP⟩, hS.F ht⟩) hS.2.2 d_M_begin_108
            · rw [if_neg hc] at hwp
              refine lv_bipush (v := (-5)) hx hb d_M_begin_45 (by decide) ?_
              rw [hQ]
              exact W.iret (v := (-5)) hx hb hr (fun t ht hW => ⟨⟨(-5), (MG, MT), rfl, hwp, hp_of ht hP⟩, hS.F ht⟩) hS.2.2 d_M_begin_47
          · rw [if_neg hc] at hwp
            refine lv_iconst (v := (-1)) hx hb d_M_begin_36 (by decide) ?_
            rw [hQ]
            exact W.iret (v := (-1)) hx hb hr (fun t ht hW => ⟨⟨(-1), (MG, MT), rfl, hwp, hp_of ht hP⟩, hS.F ht⟩) hS.2.2 d_M_begin_37

set_option maxHeartbeats 4000000 in
set_option maxRecDepth 100000 in
theorem c_M_next {l : Launch} {dC : Nat → ClassId} {dI : Nat → Nat → Nat} {cI cL cZ : ClassId} {q : Nat → Nat} (hq : iM q) (MA : S_MA) (MD : S_MD) (MF : S_MF) (MG : S_MG) (ML : S_ML) (MN : S_MN) (MP : S_MP) (MT : S_MT) (MV : S_MV) (a1 : Int32) (post : Int32 → Prop) (hwp : wp_M_next MA MD a1 post) : Met l y_M_next ws_M_next rm_M_next (va_Pc [.ref (q 0), .int a1] (bM dC dI cI cL cZ q MA MD MF MG ML MN MP MT MV)) (va_Qi (fun (r : Int32) (u : Unit) => post r) (fun u t => va_P (dC, dI) clZ (wM cI cL cZ q MA MD MF MG ML MN MP MT MV) t.heap) (aM q)) 0 0 (aM q) := by
  refine Met.ofW (cc := b_M_next) (maxL := 3) (ret := (some .int)) (by decide) rfl ?_
  intro p e s m args below meth c s₁ B hml hv
  obtain ⟨rfl, hP, hK⟩ := hv
  have hx := B.exec
  have hb := B.bytes
  have hr := B.returns
  have hts := atoms_spec (ws := ws_M_next) B.pre
  have hown : s.vm.findClass R_M = some m.cls := findClass_of_methodNamed B.named
  have hlocks := B.notSynchronized
  have hS : va_S (aM q) s.heap s.heap [] := va_S.rf
  have hl := lv_entry ([.ref (q 0), .int a1]) (n := 3) (Nat.le_of_ble_eq_true rfl)
  rw [lg_entry_eq]
  generalize (lg_sl ([.ref (q 0), .int a1]) ++ List.replicate (3 - (lg_sl ([.ref (q 0), .int a1])).length) Slot.unset).toArray = ls at hl ⊢
  have hl : lv_has ls 3 [(0, .ref (q 0)), (1, .int a1)] := hl
  obtain ⟨Q, hQ⟩ : ∃ Q, Q = MQ below (va_Qi (fun (r : Int32) (u : Unit) => post r) (fun u t => va_P (dC, dI) clZ (wM cI cL cZ q MA MD MF MG ML MN MP MT MV) t.heap) (aM q)) ([.ref (q 0), .int a1]).toArray s 0 0 (aM q) := ⟨_, rfl⟩
  rw [← hQ]
  have L4 : ∀ (Kx : Int32 → Prop) (n : Nat) (v2 : Int32) (H : Heap) (locs : List Loc) (ls : Array Slot), lv_has ls 3 [(0, .ref (q 0)), (2, .int v2)] → va_P (dC, dI) clZ (wM cI cL cZ q MA MD MF MG ML MN MP MT MV) H → va_S (aM q) s.heap H locs → wp_M_next_L4 MA MD Kx n v2 → (∀ (x2 : Int32) (H : Heap) (locs : List Loc) (ls : Array Slot), lv_has ls 3 [(2, .int x2)] → va_P (dC, dI) clZ (wM cI cL cZ q MA MD MF MG ML MN MP MT MV) H → va_S (aM q) s.heap H locs → Kx x2 → W p l e (headSpec ws_M_next rm_M_next).room s m ([.ref (q 0), .int a1]).toArray below meth c H locs 0 0 Q (F0 m 24 ls [])) → W p l e (headSpec ws_M_next rm_M_next).room s m ([.ref (q 0), .int a1]).toArray below meth c H locs 0 0 Q (F0 m 4 ls []) := by
    intro Kx  n
    induction n with
    | zero =>
      intros
      rename_i hwp _
      exact hwp.elim
    | succ n4 ih =>
      intro v2 H locs ls hl hP hS hwp hX
      rw [wp_M_next_L4] at hwp
      refine lv_iload_n hx hb d_M_next_4 rfl (lv_at hl 1 rfl) ?_
      refine lv_bipush (v := 32) hx hb d_M_next_5 (by decide) ?_
      refine lv_icmp_ge (tgt := 24) hx hb d_M_next_7 (by decide) (fun hc => ?_) (fun hc => ?_)
      · rw [if_pos hc] at hwp
        exact hX (v2) _ _ _ (lv_sub hl [1] rfl) hP hS hwp
      · rw [if_neg hc] at hwp
        refine lv_aload_n hx hb d_M_next_10 rfl (lv_at hl 0 rfl) ?_
        refine lv_iload_n hx hb d_M_next_11 rfl (lv_at hl 1 rfl) ?_
        refine ncn_i (As := [.int v2]) (c_M_isThereNow hq (MA) (MD) (MF) (MG) (ML) (MN) (MP) (MT) (MV) (v2) _ hwp) (cwV 1 hts g_M_172 rfl rfl rfl hd_M_isThereNow ⟨Nat.le_of_ble_eq_true rfl, Nat.le_of_ble_eq_true rfl⟩) hx hb hml hown hts hK hP hS hl.1 d_M_next_12 (va_recv (q := (R_M, F_M, 39)) hK hP (ci := 7) (q0 := 0) rfl rfl) rfl (lv_room (Nat.le_of_ble_eq_true rfl)) (Nat.zero_le _) (Nat.zero_le _) rfl (fun r1 u H locs hwp hP hS => ?_)
        have hP : va_P (dC, dI) clZ (wM cI cL cZ q MA MD MF MG ML MN MP MT MV) H := hP
        refine lv_if_ne (tgt := 24) hx hb d_M_next_15 (by decide) (fun hc => ?_) (fun hc => ?_)
        · rw [if_neg hc] at hwp
          exact hX (v2) _ _ _ (lv_sub hl [1] rfl) hP hS hwp
        · rw [if_pos hc] at hwp
          refine lv_iinc (k := 1) (v := (v2 + 1)) (lv' := [(2, .int (v2 + 1)), (0, .ref (q 0))]) hx hb d_M_next_18 hl rfl (ii_1 _) (by decide) rfl (fun ls hl => ?_)
          refine lv_goto hx hb d_M_next_21 (tgt := 4) (by decide) ?_
          exact ih ((v2 + 1)) _ _ _ (lv_sub hl [1, 0] rfl) hP hS hwp hX
  rw [wp_M_next] at hwp
  refine lv_iload_n hx hb d_M_next_0 rfl (lv_at hl 1 rfl) ?_
  refine lv_iconst (v := 1) hx hb d_M_next_1 (by decide) ?_
  refine lv_iadd hx hb d_M_next_2 ?_
  refine lv_istore_n (lv' := [(2, .int (a1 + 1)), (0, .ref (q 0)), (1, .int a1)]) hx hb d_M_next_3 rfl hl (by decide) rfl (fun ls hl => ?_)
  obtain ⟨e4, hwp⟩ := hwp
  refine L4 _  e4 ((a1 + 1)) _ _ _ (lv_sub hl [1, 0] rfl) hP hS hwp (fun x2 H locs ls hl hP hS hwp => ?_)
  refine lv_iload_n hx hb d_M_next_24 rfl (lv_at hl 0 rfl) ?_
  rw [hQ]
  exact W.iret (v := x2) hx hb hr (fun t ht hW => ⟨⟨x2, (), rfl, hwp, hp_of ht hP⟩, hS.F ht⟩) hS.2.2 d_M_next_25

set_option maxHeartbeats 4000000 in
set_option maxRecDepth 100000 in
theorem c_M_want {l : Launch} {dC : Nat → ClassId} {dI : Nat → Nat → Nat} {cI cL cZ : ClassId} {q : Nat → Nat} (hq : iM q) (MA : S_MA) (MD : S_MD) (MF : S_MF) (MG : S_MG) (ML : S_ML) (MN : S_MN) (MP : S_MP) (MT : S_MT) (MV : S_MV) (a1 : Int32) (post : S_MP → Prop) (hwp : wp_M_want MP a1 post) : Met l y_M_want ws_M_want rm_M_want (va_Pc [.ref (q 0), .int a1] (bM dC dI cI cL cZ q MA MD MF MG ML MN MP MT MV)) (va_Qv (fun (u : S_MP) => post u) (fun u t => va_P (dC, dI) clZ (wM cI cL cZ q MA MD MF MG ML MN (u) MT MV) t.heap) (aM q)) 0 0 (aM q) := by
  refine Met.ofW (cc := b_M_want) (maxL := 2) (ret := none) (by decide) rfl ?_
  intro p e s m args below meth c s₁ B hml hv
  obtain ⟨rfl, hP, hK⟩ := hv
  have hx := B.exec
  have hb := B.bytes
  have hr := B.returns
  have hts := atoms_spec (ws := ws_M_want) B.pre
  have hown : s.vm.findClass R_M = some m.cls := findClass_of_methodNamed B.named
  have hlocks := B.notSynchronized
  have hiM : ∀ w ∈ u_ws R_M F_M 39, w ∈ ws_M_want := fun w h => List.mem_cons_of_mem _ (in_M w h)
  have lk83 := hts _ (List.mem_cons_of_mem _ k_M_83)
  have lk175 := hts _ (List.mem_cons_of_mem _ k_M_175)
  have hS : va_S (aM q) s.heap s.heap [] := va_S.rf
  have hl := lv_entry ([.ref (q 0), .int a1]) (n := 2) (Nat.le_of_ble_eq_true rfl)
  rw [lg_entry_eq]
  generalize (lg_sl ([.ref (q 0), .int a1]) ++ List.replicate (2 - (lg_sl ([.ref (q 0), .int a1])).length) Slot.unset).toArray = ls at hl ⊢
  have hl : lv_has ls 2 [(0, .ref (q 0)), (1, .int a1)] := hl
  obtain ⟨Q, hQ⟩ : ∃ Q, Q = MQ below (va_Qv (fun (u : S_MP) => post u) (fun u t => va_P (dC, dI) clZ (wM cI cL cZ q MA MD MF MG ML MN (u) MT MV) t.heap) (aM q)) ([.ref (q 0), .int a1]).toArray s 0 0 (aM q) := ⟨_, rfl⟩
  rw [← hQ]
  rw [wp_M_want] at hwp
  refine lv_aload_n hx hb d_M_want_0 rfl (lv_at hl 0 rfl) ?_
  refine va_get (D := (dC, dI)) (ci := 7) (v := .ref (q 25)) (C := R_M) (T := F_M) (N := 39) hx hb hts hiM hown hK hP 0 rfl rfl 31 (by decide) lk83 (fun _ h9 => h9) rfl d_M_want_1 ?_
  refine lv_aload_n hx hb d_M_want_4 rfl (lv_at hl 0 rfl) ?_
  refine va_get (D := (dC, dI)) (ci := 7) (v := .int (MP_wanted MP)) (C := R_M) (T := F_M) (N := 39) hx hb hts hiM hown hK hP 0 rfl rfl 30 (by decide) lk175 (fun _ h9 => h9) rfl d_M_want_5 ?_
  refine lv_iload_n hx hb d_M_want_8 rfl (lv_at hl 1 rfl) ?_
  refine va_iast hx hb hK hP (dM hq) hS 25 0 rfl rfl hwp.1 d_M_want_9 (fun H locs hP _ hS => ?_)
  have hwp := hwp.2
  have hP : va_P (dC, dI) clZ (wM cI cL cZ q MA MD MF MG ML MN (MP_item' MP (upd (MP_item MP) (Int32.toNatClampNeg (MP_wanted MP)) a1)) MT MV) H := hP
  refine lv_aload_n hx hb d_M_want_10 rfl (lv_at hl 0 rfl) ?_
  refine lv_dup hx hb d_M_want_11 rfl ?_
  refine va_get (D := (dC, dI)) (ci := 7) (v := .int (MP_wanted MP)) (C := R_M) (T := F_M) (N := 39) hx hb hts hiM hown hK hP 0 rfl rfl 30 (by decide) lk175 (fun _ h9 => h9) rfl d_M_want_12 ?_
  refine lv_iconst (v := 1) hx hb d_M_want_15 (by decide) ?_
  refine lv_iadd hx hb d_M_want_16 ?_
  refine va_put (D := (dC, dI)) (ci := 7) (v := .int ((MP_wanted MP) + 1)) (ty := .int) (C := R_M) (T := F_M) (N := 39) hx hb hts hiM ty_M ty_M_ok nmx_M hown hK hP (dM hq) hS 0 rfl rfl 30 (by decide) lk175 (fun _ h9 => h9) rfl (by decide +kernel) rfl rfl (Nat.le_of_ble_eq_true rfl) d_M_want_17 (fun H locs hP _ hS => ?_)
  have hP : va_P (dC, dI) clZ (wM cI cL cZ q MA MD MF MG ML MN (MP_wanted' (MP_item' MP (upd (MP_item MP) (Int32.toNatClampNeg (MP_wanted MP)) a1)) ((MP_wanted MP) + 1)) MT MV) H := hP
  rw [hQ]
  exact W.vret hx hb hr (fun t ht hW => ⟨⟨(MP_wanted' (MP_item' MP (upd (MP_item MP) (Int32.toNatClampNeg (MP_wanted MP)) a1)) ((MP_wanted MP) + 1)), rfl, hwp, hp_of ht hP⟩, hS.F ht⟩) hS.2.2 d_M_want_20

set_option maxHeartbeats 4000000 in
set_option maxRecDepth 100000 in
theorem c_M_needs {l : Launch} {dC : Nat → ClassId} {dI : Nat → Nat → Nat} {cI cL cZ : ClassId} {q : Nat → Nat} (hq : iM q) (MA : S_MA) (MD : S_MD) (MF : S_MF) (MG : S_MG) (ML : S_ML) (MN : S_MN) (MP : S_MP) (MT : S_MT) (MV : S_MV) (a1 : Int32) (a2 : Int32) (a3 : Int32) (post : S_MP → Prop) (hwp : wp_M_needs MA MD MP a1 a2 a3 post) : Met l y_M_needs ws_M_needs rm_M_needs (va_Pc [.ref (q 0), .int a1, .int a2, .int a3] (bM dC dI cI cL cZ q MA MD MF MG ML MN MP MT MV)) (va_Qv (fun (u : S_MP) => post u) (fun u t => va_P (dC, dI) clZ (wM cI cL cZ q MA MD MF MG ML MN (u) MT MV) t.heap) (aM q)) 0 0 (aM q) := by
  refine Met.ofW (cc := b_M_needs) (maxL := 6) (ret := none) (by decide) rfl ?_
  intro p e s m args below meth c s₁ B hml hv
  obtain ⟨rfl, hP, hK⟩ := hv
  have hx := B.exec
  have hb := B.bytes
  have hr := B.returns
  have hts := atoms_spec (ws := ws_M_needs) B.pre
  have hown : s.vm.findClass R_M = some m.cls := findClass_of_methodNamed B.named
  have hlocks := B.notSynchronized
  have hiM : ∀ w ∈ u_ws R_M F_M 39, w ∈ ws_M_needs := fun w h => List.mem_cons_of_mem _ (in_M w h)
  have lk175 := hts _ (List.mem_cons_of_mem _ k_M_175)
  have lk178 := hts _ (List.mem_cons_of_mem _ k_M_178)
  have hS : va_S (aM q) s.heap s.heap [] := va_S.rf
  have hl := lv_entry ([.ref (q 0), .int a1, .int a2, .int a3]) (n := 6) (Nat.le_of_ble_eq_true rfl)
  rw [lg_entry_eq]
  generalize (lg_sl ([.ref (q 0), .int a1, .int a2, .int a3]) ++ List.replicate (6 - (lg_sl ([.ref (q 0), .int a1, .int a2, .int a3])).length) Slot.unset).toArray = ls at hl ⊢
  have hl : lv_has ls 6 [(0, .ref (q 0)), (1, .int a1), (2, .int a2), (3, .int a3)] := hl
  obtain ⟨Q, hQ⟩ : ∃ Q, Q = MQ below (va_Qv (fun (u : S_MP) => post u) (fun u t => va_P (dC, dI) clZ (wM cI cL cZ q MA MD MF MG ML MN (u) MT MV) t.heap) (aM q)) ([.ref (q 0), .int a1, .int a2, .int a3]).toArray s 0 0 (aM q) := ⟨_, rfl⟩
  rw [← hQ]
  have L44 : ∀ (Kx : S_MP → Prop) (v3 : Int32) (n : Nat) (v5 : Int32) (MP : S_MP) (H : Heap) (locs : List Loc) (ls : Array Slot), lv_has ls 6 [(0, .ref (q 0)), (3, .int v3), (5, .int v5)] → va_P (dC, dI) clZ (wM cI cL cZ q MA MD MF MG ML MN MP MT MV) H → va_S (aM q) s.heap H locs → wp_M_needs_L44 MA MD v3 Kx n v5 MP → (∀ (MP1 : S_MP) (H : Heap) (locs : List Loc) (ls : Array Slot), lv_has ls 6 [(0, .ref (q 0)), (3, .int v3)] → va_P (dC, dI) clZ (wM cI cL cZ q MA MD MF MG ML MN MP1 MT MV) H → va_S (aM q) s.heap H locs → Kx MP1 → W p l e (headSpec ws_M_needs rm_M_needs).room s m ([.ref (q 0), .int a1, .int a2, .int a3]).toArray below meth c H locs 0 0 Q (F0 m 71 ls [])) → W p l e (headSpec ws_M_needs rm_M_needs).room s m ([.ref (q 0), .int a1, .int a2, .int a3]).toArray below meth c H locs 0 0 Q (F0 m 44 ls []) := by
    intro Kx v3 n
    induction n with
    | zero =>
      intros
      rename_i hwp _
      exact hwp.elim
    | succ n44 ih =>
      intro v5 MP H locs ls hl hP hS hwp hX
      rw [wp_M_needs_L44] at hwp
      refine lv_iload hx hb d_M_needs_44 (lv_at hl 2 rfl) ?_
      refine lv_iload_n hx hb d_M_needs_46 rfl (lv_at hl 1 rfl) ?_
      refine lv_icmp_gt (tgt := 71) hx hb d_M_needs_47 (by decide) (fun hc => ?_) (fun hc => ?_)
      · rw [if_pos hc] at hwp
        exact hX (MP) _ _ _ (lv_sub hl [0, 1] rfl) hP hS hwp
      · rw [if_neg hc] at hwp
        refine lv_aload_n hx hb d_M_needs_50 rfl (lv_at hl 0 rfl) ?_
        refine lv_iload hx hb d_M_needs_51 (lv_at hl 2 rfl) ?_
        refine ncn_i (As := [.int v5]) (c_M_isThereNow hq (MA) (MD) (MF) (MG) (ML) (MN) (MP) (MT) (MV) (v5) _ hwp) (cwV 1 hts g_M_172 rfl rfl rfl hd_M_isThereNow ⟨Nat.le_of_ble_eq_true rfl, Nat.le_of_ble_eq_true rfl⟩) hx hb hml hown hts hK hP hS hl.1 d_M_needs_53 (va_recv (q := (R_M, F_M, 39)) hK hP (ci := 7) (q0 := 0) rfl rfl) rfl (lv_room (Nat.le_of_ble_eq_true rfl)) (Nat.zero_le _) (Nat.zero_le _) rfl (fun r23 u H locs hwp hP hS => ?_)
        have hP : va_P (dC, dI) clZ (wM cI cL cZ q MA MD MF MG ML MN MP MT MV) H := hP
        refine lv_if_eq (tgt := 65) hx hb d_M_needs_56 (by decide) (fun hc => ?_) (fun hc => ?_)
        · rw [if_pos hc] at hwp
          refine lv_iinc (k := 2) (v := (v5 + 1)) (lv' := [(5, .int (v5 + 1)), (0, .ref (q 0)), (3, .int v3)]) hx hb d_M_needs_65 hl rfl (ii_1 _) (by decide) rfl (fun ls hl => ?_)
          refine lv_goto hx hb d_M_needs_68 (tgt := 44) (by decide) ?_
          exact ih ((v5 + 1)) (MP) _ _ _ (lv_sub hl [1, 2, 0] rfl) hP hS hwp hX
        · rw [if_neg hc] at hwp
          refine lv_aload_n hx hb d_M_needs_59 rfl (lv_at hl 0 rfl) ?_
          refine lv_iload hx hb d_M_needs_60 (lv_at hl 2 rfl) ?_
          refine ncn_v (As := [.int v5]) (c_M_want hq (MA) (MD) (MF) (MG) (ML) (MN) (MP) (MT) (MV) (v5) _ hwp) (cwV 1 hts g_M_181 rfl rfl rfl hd_M_want ⟨Nat.le_of_ble_eq_true rfl, Nat.le_of_ble_eq_true rfl⟩) hx hb hml hown hts hK hP hS hl.1 d_M_needs_62 (va_recv (q := (R_M, F_M, 39)) hK hP (ci := 7) (q0 := 0) rfl rfl) rfl (lv_room (Nat.le_of_ble_eq_true rfl)) (Nat.zero_le _) (Nat.zero_le _) rfl (fun MP24 H locs hwp hP hS => ?_)
          have hP : va_P (dC, dI) clZ (wM cI cL cZ q MA MD MF MG ML MN MP24 MT MV) H := hP
          refine lv_iinc (k := 2) (v := (v5 + 1)) (lv' := [(5, .int (v5 + 1)), (0, .ref (q 0)), (3, .int v3)]) hx hb d_M_needs_65 hl rfl (ii_1 _) (by decide) rfl (fun ls hl => ?_)
          refine lv_goto hx hb d_M_needs_68 (tgt := 44) (by decide) ?_
          exact ih ((v5 + 1)) (MP24) _ _ _ (lv_sub hl [1, 2, 0] rfl) hP hS hwp hX
  rw [wp_M_needs] at hwp
  refine lv_aload_n hx hb d_M_needs_0 rfl (lv_at hl 0 rfl) ?_
  refine lv_iconst (v := 0) hx hb d_M_needs_1 (by decide) ?_
  refine va_put (D := (dC, dI)) (ci := 7) (v := .int 0) (ty := .int) (C := R_M) (T := F_M) (N := 39) hx hb hts hiM ty_M ty_M_ok nmx_M hown hK hP (dM hq) hS 0 rfl rfl 30 (by decide) lk175 (fun _ h9 => h9) rfl (by decide +kernel) rfl rfl (Nat.le_of_ble_eq_true rfl) d_M_needs_2 (fun H locs hP _ hS => ?_)
  have hP : va_P (dC, dI) clZ (wM cI cL cZ q MA MD MF MG ML MN (MP_wanted' MP 0) MT MV) H := hP
  refine lv_aload_n hx hb d_M_needs_5 rfl (lv_at hl 0 rfl) ?_
  refine lv_iload_n hx hb d_M_needs_6 rfl (lv_at hl 2 rfl) ?_
  refine ncn_i (As := [.int a2]) (c_M_isThereNow hq (MA) (MD) (MF) (MG) (ML) (MN) ((MP_wanted' MP 0)) (MT) (MV) (a2) _ hwp) (cwV 1 hts g_M_172 rfl rfl rfl hd_M_isThereNow ⟨Nat.le_of_ble_eq_true rfl, Nat.le_of_ble_eq_true rfl⟩) hx hb hml hown hts hK hP hS hl.1 d_M_needs_7 (va_recv (q := (R_M, F_M, 39)) hK hP (ci := 7) (q0 := 0) rfl rfl) rfl (lv_room (Nat.le_of_ble_eq_true rfl)) (Nat.zero_le _) (Nat.zero_le _) rfl (fun r1 u H locs hwp hP hS => ?_)
  have hP : va_P (dC, dI) clZ (wM cI cL cZ q MA MD MF MG ML MN (MP_wanted' MP 0) MT MV) H := hP
  refine lv_istore (lv' := [(4, .int r1), (0, .ref (q 0)), (1, .int a1), (2, .int a2), (3, .int a3)]) hx hb d_M_needs_10 hl (by decide) rfl (fun ls hl => ?_)
  refine lv_aload_n hx hb d_M_needs_12 rfl (lv_at hl 1 rfl) ?_
  refine lv_iload_n hx hb d_M_needs_13 rfl (lv_at hl 2 rfl) ?_
  refine lv_iconst (v := 2) hx hb d_M_needs_14 (by decide) ?_
  refine jn_split hwp (fun jk33 hjk hwp => ?_)
  have J33 : ∀ (b2 : Int32) (H : Heap) (locs : List Loc) (ls : Array Slot), lv_has ls 6 [(0, .ref (q 0)), (1, .int a1), (2, .int a2), (3, .int a3), (4, .int r1)] → va_P (dC, dI) clZ (wM cI cL cZ q MA MD MF MG ML MN (MP_wanted' MP 0) MT MV) H → va_S (aM q) s.heap H locs → jk33 b2 → W p l e (headSpec ws_M_needs rm_M_needs).room s m ([.ref (q 0), .int a1, .int a2, .int a3]).toArray below meth c H locs 0 0 Q (F0 m 33 ls [.int b2, .ref (q 0)]) := by
    intro b2 H locs ls hl hP hS hwp
    rw [hjk] at hwp
    refine va_put (D := (dC, dI)) (ci := 7) (v := .int b2) (ty := .int) (C := R_M) (T := F_M) (N := 39) hx hb hts hiM ty_M ty_M_ok nmx_M hown hK hP (dM hq) hS 0 rfl rfl 32 (by decide) lk178 (fun _ h9 => h9) rfl (by decide +kernel) rfl rfl (Nat.le_of_ble_eq_true rfl) d_M_needs_33 (fun H locs hP _ hS => ?_)
    have hP : va_P (dC, dI) clZ (wM cI cL cZ q MA MD MF MG ML MN (MP_mode' (MP_wanted' MP 0) b2) MT MV) H := hP
    refine lv_iload_n hx hb d_M_needs_36 rfl (lv_at hl 1 rfl) ?_
    refine lv_iconst (v := 4) hx hb d_M_needs_37 (by decide) ?_
    refine lv_icmp_ne (tgt := 83) hx hb d_M_needs_38 (by decide) (fun hc => ?_) (fun hc => ?_)
    · rw [if_neg hc] at hwp
      refine lv_iload_n hx hb d_M_needs_83 rfl (lv_at hl 1 rfl) ?_
      refine lv_iconst (v := 1) hx hb d_M_needs_84 (by decide) ?_
      refine lv_icmp_eq (tgt := 98) hx hb d_M_needs_85 (by decide) (fun hc => ?_) (fun hc => ?_)
      · rw [if_pos hc] at hwp
        refine lv_aload_n hx hb d_M_needs_98 rfl (lv_at hl 0 rfl) ?_
        refine lv_iload hx hb d_M_needs_99 (lv_at hl 4 rfl) ?_
        refine lv_if_eq (tgt := 108) hx hb d_M_needs_101 (by decide) (fun hc => ?_) (fun hc => ?_)
        · rw [if_pos hc] at hwp
          refine lv_aload_n hx hb d_M_needs_108 rfl (lv_at hl 0 rfl) ?_
          refine lv_iload_n hx hb d_M_needs_109 rfl (lv_at hl 2 rfl) ?_
          refine ncn_i (As := [.int a2]) (c_M_next hq (MA) (MD) (MF) (MG) (ML) (MN) ((MP_mode' (MP_wanted' MP 0) b2)) (MT) (MV) (a2) _ hwp) (cwV 1 hts g_M_184 rfl rfl rfl hd_M_next ⟨Nat.le_of_ble_eq_true rfl, Nat.le_of_ble_eq_true rfl⟩) hx hb hml hown hts hK hP hS hl.1 d_M_needs_110 (va_recv (q := (R_M, F_M, 39)) hK hP (ci := 7) (q0 := 0) rfl rfl) rfl (lv_room (Nat.le_of_ble_eq_true rfl)) (Nat.zero_le _) (Nat.zero_le _) rfl (fun r3 u H locs hwp hP hS => ?_)
          have hP : va_P (dC, dI) clZ (wM cI cL cZ q MA MD MF MG ML MN (MP_mode' (MP_wanted' MP 0) b2) MT MV) H := hP
          refine ncn_v (As := [.int r3]) (c_M_want hq (MA) (MD) (MF) (MG) (ML) (MN) ((MP_mode' (MP_wanted' MP 0) b2)) (MT) (MV) (r3) _ hwp) (cwV 1 hts g_M_181 rfl rfl rfl hd_M_want ⟨Nat.le_of_ble_eq_true rfl, Nat.le_of_ble_eq_true rfl⟩) hx hb hml hown hts hK hP hS hl.1 d_M_needs_113 (va_recv (q := (R_M, F_M, 39)) hK hP (ci := 7) (q0 := 0) rfl rfl) rfl (lv_room (Nat.le_of_ble_eq_true rfl)) (Nat.zero_le _) (Nat.zero_le _) rfl (fun MP4 H locs hwp hP hS => ?_)
          have hP : va_P (dC, dI) clZ (wM cI cL cZ q MA MD MF MG ML MN MP4 MT MV) H := hP
          refine lv_goto hx hb d_M_needs_116 (tgt := 143) (by decide) ?_
          rw [hQ]
          exact W.vret hx hb hr (fun t ht hW => ⟨⟨MP4, rfl, hwp, hp_of ht hP⟩, hS.F ht⟩) hS.2.2 d_M_needs_143
        · rw [if_neg hc] at hwp
          refine lv_iload_n hx hb d_M_needs_104 rfl (lv_at hl 2 rfl) ?_
          refine lv_goto hx hb d_M_needs_105 (tgt := 113) (by decide) ?_
          refine ncn_v (As := [.int a2]) (c_M_want hq (MA) (MD) (MF) (MG) (ML) (MN) ((MP_mode' (MP_wanted' MP 0) b2)) (MT) (MV) (a2) _ hwp) (cwV 1 hts g_M_181 rfl rfl rfl hd_M_want ⟨Nat.le_of_ble_eq_true rfl, Nat.le_of_ble_eq_true rfl⟩) hx hb hml hown hts hK hP hS hl.1 d_M_needs_113 (va_recv (q := (R_M, F_M, 39)) hK hP (ci := 7) (q0 := 0) rfl rfl) rfl (lv_room (Nat.le_of_ble_eq_true rfl)) (Nat.zero_le _) (Nat.zero_le _) rfl (fun MP5 H locs hwp hP hS => ?_)
          have hP : va_P (dC, dI) clZ (wM cI cL cZ q MA MD MF MG ML MN MP5 MT MV) H := hP
          refine lv_goto hx hb d_M_needs_116 (tgt := 143) (by decide) ?_
          rw [hQ]
          exact W.vret hx hb hr (fun t ht hW => ⟨⟨MP5, rfl, hwp, hp_of ht hP⟩, hS.F ht⟩) hS.2.2 d_M_needs_143
      · rw [if_neg hc] at hwp
        refine lv_iload_n hx hb d_M_needs_88 rfl (lv_at hl 1 rfl) ?_
        refine lv_iconst (v := 3) hx hb d_M_needs_89 (by decide) ?_
        refine lv_icmp_ne (tgt := 119) hx hb d_M_needs_90 (by decide) (fun hc => ?_) (fun hc => ?_)
        · rw [if_neg hc] at hwp
          refine lv_iload_n hx hb d_M_needs_119 rfl (lv_at hl 1 rfl) ?_
          refine lv_iconst (v := 3) hx hb d_M_needs_120 (by decide) ?_
          refine lv_icmp_eq (tgt := 129) hx hb d_M_needs_121 (by decide) (fun hc => ?_) (fun hc => ?_)
          · rw [if_pos hc] at hwp
            refine lv_aload_n hx hb d_M_needs_129 rfl (lv_at hl 0 rfl) ?_
            refine lv_aload_n hx hb d_M_needs_130 rfl (lv_at hl 0 rfl) ?_
            refine lv_iload_n hx hb d_M_needs_131 rfl (lv_at hl 2 rfl) ?_
            refine ncn_i (As := [.int a2]) (c_M_next hq (MA) (MD) (MF) (MG) (ML) (MN) ((MP_mode' (MP_wanted' MP 0) b2)) (MT) (MV) (a2) _ hwp) (cwV 1 hts g_M_184 rfl rfl rfl hd_M_next ⟨Nat.le_of_ble_eq_true rfl, Nat.le_of_ble_eq_true rfl⟩) hx hb hml hown hts hK hP hS hl.1 d_M_needs_132 (va_recv (q := (R_M, F_M, 39)) hK hP (ci := 7) (q0 := 0) rfl rfl) rfl (lv_room (Nat.le_of_ble_eq_true rfl)) (Nat.zero_le _) (Nat.zero_le _) rfl (fun r6 u H locs hwp hP hS => ?_)
            have hP : va_P (dC, dI) clZ (wM cI cL cZ q MA MD MF MG ML MN (MP_mode' (MP_wanted' MP 0) b2) MT MV) H := hP
            refine ncn_v (As := [.int r6]) (c_M_want hq (MA) (MD) (MF) (MG) (ML) (MN) ((MP_mode' (MP_wanted' MP 0) b2)) (MT) (MV) (r6) _ hwp) (cwV 1 hts g_M_181 rfl rfl rfl hd_M_want ⟨Nat.le_of_ble_eq_true rfl, Nat.le_of_ble_eq_true rfl⟩) hx hb hml hown hts hK hP hS hl.1 d_M_needs_135 (va_recv (q := (R_M, F_M, 39)) hK hP (ci := 7) (q0 := 0) rfl rfl) rfl (lv_room (Nat.le_of_ble_eq_true rfl)) (Nat.zero_le _) (Nat.zero_le _) rfl (fun MP7 H locs hwp hP hS => ?_)
            have hP : va_P (dC, dI) clZ (wM cI cL cZ q MA MD MF MG ML MN MP7 MT MV) H := hP
            refine lv_aload_n hx hb d_M_needs_138 rfl (lv_at hl 0 rfl) ?_
            refine lv_iload_n hx hb d_M_needs_139 rfl (lv_at hl 2 rfl) ?_
            refine ncn_v (As := [.int a2]) (c_M_want hq (MA) (MD) (MF) (MG) (ML) (MN) (MP7) (MT) (MV) (a2) _ hwp) (cwV 1 hts g_M_181 rfl rfl rfl hd_M_want ⟨Nat.le_of_ble_eq_true rfl, Nat.le_of_ble_eq_true rfl⟩) hx hb hml hown hts hK hP hS hl.1 d_M_needs_140 (va_recv (q := (R_M, F_M, 39)) hK hP (ci := 7) (q0 := 0) rfl rfl) rfl (lv_room (Nat.le_of_ble_eq_true rfl)) (Nat.zero_le _) (Nat.zero_le _) rfl (fun MP8 H locs hwp hP hS => ?_)
            have hP : va_P (dC, dI) clZ (wM cI cL cZ q MA MD MF MG ML MN MP8 MT MV) H := hP
            rw [hQ]
            exact W.vret hx hb hr (fun t ht hW => ⟨⟨MP8, rfl, hwp, hp_of ht hP⟩, hS.F ht⟩) hS.2.2 d_M_needs_143
          · rw [if_neg hc] at hwp
            refine lv_iload hx hb d_M_needs_124 (lv_at hl 4 rfl) ?_
            refine lv_if_ne (tgt := 138) hx hb d_M_needs_126 (by decide) (fun hc => ?_) (fun hc => ?_)
            · rw [if_neg hc] at hwp
              refine lv_aload_n hx hb d_M_needs_138 rfl (lv_at hl 0 rfl) ?_
              refine lv_iload_n hx hb d_M_needs_139 rfl (lv_at hl 2 rfl) ?_
              refine ncn_v (As := [.int a2]) (c_M_want hq (MA) (MD) (MF) (MG) (ML) (MN) ((MP_mode' (MP_wanted' MP 0) b2)) (MT) (MV) (a2) _ hwp) (cwV 1 hts g_M_181 rfl rfl rfl hd_M_want ⟨Nat.le_of_ble_eq_true rfl, Nat.le_of_ble_eq_true rfl⟩) hx hb hml hown hts hK hP hS hl.1 d_M_needs_140 (va_recv (q := (R_M, F_M, 39)) hK hP (ci := 7) (q0 := 0) rfl rfl) rfl (lv_room (Nat.le_of_ble_eq_true rfl)) (Nat.zero_le _) (Nat.zero_le _) rfl (fun MP9 H locs hwp hP hS => ?_)
              have hP : va_P (dC, dI) clZ (wM cI cL cZ q MA MD MF MG ML MN MP9 MT MV) H := hP
              rw [hQ]
              exact W.vret hx hb hr (fun t ht hW => ⟨⟨MP9, rfl, hwp, hp_of ht hP⟩, hS.F ht⟩) hS.2.2 d_M_needs_143
            · rw [if_pos hc] at hwp
              refine lv_aload_n hx hb d_M_needs_129 rfl (lv_at hl 0 rfl) ?_
              refine lv_aload_n hx hb d_M_needs_130 rfl (lv_at hl 0 rfl) ?_
              refine lv_iload_n hx hb d_M_needs_131 rfl (lv_at hl 2 rfl) ?_
              refine ncn_i (As := [.int a2]) (c_M_next hq (MA) (MD) (MF) (MG) (ML) (MN) ((MP_mode' (MP_wanted' MP 0) b2)) (MT) (MV) (a2) _ hwp) (cwV 1 hts g_M_184 rfl rfl rfl hd_M_next ⟨Nat.le_of_ble_eq_true rfl, Nat.le_of_ble_eq_true rfl⟩) hx hb hml hown hts hK hP hS hl.1 d_M_needs_132 (va_recv (q := (R_M, F_M, 39)) hK hP (ci := 7) (q0 := 0) rfl rfl) rfl (lv_room (Nat.le_of_ble_eq_true rfl)) (Nat.zero_le _) (Nat.zero_le _) rfl (fun r10 u H locs hwp hP hS => ?_)
              have hP : va_P (dC, dI) clZ (wM cI cL cZ q MA MD MF MG ML MN (MP_mode' (MP_wanted' MP 0) b2) MT MV) H := hP
              refine ncn_v (As := [.int r10]) (c_M_want hq (MA) (MD) (MF) (MG) (ML) (MN) ((MP_mode' (MP_wanted' MP 0) b2)) (MT) (MV) (r10) _ hwp) (cwV 1 hts g_M_181 rfl rfl rfl hd_M_want ⟨Nat.le_of_ble_eq_true rfl, Nat.le_of_ble_eq_true rfl⟩) hx hb hml hown hts hK hP hS hl.1 d_M_needs_135 (va_recv (q := (R_M, F_M, 39)) hK hP (ci := 7) (q0 := 0) rfl rfl) rfl (lv_room (Nat.le_of_ble_eq_true rfl)) (Nat.zero_le _) (Nat.zero_le _) rfl (fun MP11 H locs hwp hP hS => ?_)
              have hP : va_P (dC, dI) clZ (wM cI cL cZ q MA MD MF MG ML MN MP11 MT MV) H := hP
              refine lv_aload_n hx hb d_M_needs_138 rfl (lv_at hl 0 rfl) ?_
              refine lv_iload_n hx hb d_M_needs_139 rfl (lv_at hl 2 rfl) ?_
              refine ncn_v (As := [.int a2]) (c_M_want hq (MA) (MD) (MF) (MG) (ML) (MN) (MP11) (MT) (MV) (a2) _ hwp) (cwV 1 hts g_M_181 rfl rfl rfl hd_M_want ⟨Nat.le_of_ble_eq_true rfl, Nat.le_of_ble_eq_true rfl⟩) hx hb hml hown hts hK hP hS hl.1 d_M_needs_140 (va_recv (q := (R_M, F_M, 39)) hK hP (ci := 7) (q0 := 0) rfl rfl) rfl (lv_room (Nat.le_of_ble_eq_true rfl)) (Nat.zero_le _) (Nat.zero_le _) rfl (fun MP12 H locs hwp hP hS => ?_)
              have hP : va_P (dC, dI) clZ (wM cI cL cZ q MA MD MF MG ML MN MP12 MT MV) H := hP
              rw [hQ]
              exact W.vret hx hb hr (fun t ht hW => ⟨⟨MP12, rfl, hwp, hp_of ht hP⟩, hS.F ht⟩) hS.2.2 d_M_needs_143
        · rw [if_pos hc] at hwp
          refine lv_iload hx hb d_M_needs_93 (lv_at hl 4 rfl) ?_
          refine lv_if_ne (tgt := 119) hx hb d_M_needs_95 (by decide) (fun hc => ?_) (fun hc => ?_)
          · rw [if_neg hc] at hwp
            refine lv_iload_n hx hb d_M_needs_119 rfl (lv_at hl 1 rfl) ?_
            refine lv_iconst (v := 3) hx hb d_M_needs_120 (by decide) ?_
            refine lv_icmp_eq (tgt := 129) hx hb d_M_needs_121 (by decide) (fun hc => ?_) (fun hc => ?_)
            · rw [if_pos hc] at hwp
              refine lv_aload_n hx hb d_M_needs_129 rfl (lv_at hl 0 rfl) ?_
              refine lv_aload_n hx hb d_M_needs_130 rfl (lv_at hl 0 rfl) ?_
              refine lv_iload_n hx hb d_M_needs_131 rfl (lv_at hl 2 rfl) ?_
              refine ncn_i (As := [.int a2]) (c_M_next hq (MA) (MD) (MF) (MG) (ML) (MN) ((MP_mode' (MP_wanted' MP 0) b2)) (MT) (MV) (a2) _ hwp) (cwV 1 hts g_M_184 rfl rfl rfl hd_M_next ⟨Nat.le_of_ble_eq_true rfl, Nat.le_of_ble_eq_true rfl⟩) hx hb hml hown hts hK hP hS hl.1 d_M_needs_132 (va_recv (q := (R_M, F_M, 39)) hK hP (ci := 7) (q0 := 0) rfl rfl) rfl (lv_room (Nat.le_of_ble_eq_true rfl)) (Nat.zero_le _) (Nat.zero_le _) rfl (fun r13 u H locs hwp hP hS => ?_)
              have hP : va_P (dC, dI) clZ (wM cI cL cZ q MA MD MF MG ML MN (MP_mode' (MP_wanted' MP 0) b2) MT MV) H := hP
              refine ncn_v (As := [.int r13]) (c_M_want hq (MA) (MD) (MF) (MG) (ML) (MN) ((MP_mode' (MP_wanted' MP 0) b2)) (MT) (MV) (r13) _ hwp) (cwV 1 hts g_M_181 rfl rfl rfl hd_M_want ⟨Nat.le_of_ble_eq_true rfl, Nat.le_of_ble_eq_true rfl⟩) hx hb hml hown hts hK hP hS hl.1 d_M_needs_135 (va_recv (q := (R_M, F_M, 39)) hK hP (ci := 7) (q0 := 0) rfl rfl) rfl (lv_room (Nat.le_of_ble_eq_true rfl)) (Nat.zero_le _) (Nat.zero_le _) rfl (fun MP14 H locs hwp hP hS => ?_)
              have hP : va_P (dC, dI) clZ (wM cI cL cZ q MA MD MF MG ML MN MP14 MT MV) H := hP
              refine lv_aload_n hx hb d_M_needs_138 rfl (lv_at hl 0 rfl) ?_
              refine lv_iload_n hx hb d_M_needs_139 rfl (lv_at hl 2 rfl) ?_
              refine ncn_v (As := [.int a2]) (c_M_want hq (MA) (MD) (MF) (MG) (ML) (MN) (MP14) (MT) (MV) (a2) _ hwp) (cwV 1 hts g_M_181 rfl rfl rfl hd_M_want ⟨Nat.le_of_ble_eq_true rfl, Nat.le_of_ble_eq_true rfl⟩) hx hb hml hown hts hK hP hS hl.1 d_M_needs_140 (va_recv (q := (R_M, F_M, 39)) hK hP (ci := 7) (q0 := 0) rfl rfl) rfl (lv_room (Nat.le_of_ble_eq_true rfl)) (Nat.zero_le _) (Nat.zero_le _) rfl (fun MP15 H locs hwp hP hS => ?_)
              have hP : va_P (dC, dI) clZ (wM cI cL cZ q MA MD MF MG ML MN MP15 MT MV) H := hP
              rw [hQ]
              exact W.vret hx hb hr (fun t ht hW => ⟨⟨MP15, rfl, hwp, hp_of ht hP⟩, hS.F ht⟩) hS.2.2 d_M_needs_143
            · rw [if_neg hc] at hwp
              refine lv_iload hx hb d_M_needs_124 (lv_at hl 4 rfl) ?_
              refine lv_if_ne (tgt := 138) hx hb d_M_needs_126 (by decide) (fun hc => ?_) (fun hc => ?_)
              · rw [if_neg hc] at hwp
                refine lv_aload_n hx hb d_M_needs_138 rfl (lv_at hl 0 rfl) ?_
                refine lv_iload_n hx hb d_M_needs_139 rfl (lv_at hl 2 rfl) ?_
                refine ncn_v (As := [.int a2]) (c_M_want hq (MA) (MD) (MF) (MG) (ML) (MN) ((MP_mode' (MP_wanted' MP 0) b2)) (MT) (MV) (a2) _ hwp) (cwV 1 hts g_M_181 rfl rfl rfl hd_M_want ⟨Nat.le_of_ble_eq_true rfl, Nat.le_of_ble_eq_true rfl⟩) hx hb hml hown hts hK hP hS hl.1 d_M_needs_140 (va_recv (q := (R_M, F_M, 39)) hK hP (ci := 7) (q0 := 0) rfl rfl) rfl (lv_room (Nat.le_of_ble_eq_true rfl)) (Nat.zero_le _) (Nat.zero_le _) rfl (fun MP16 H locs hwp hP hS => ?_)
                have hP : va_P (dC, dI) clZ (wM cI cL cZ q MA MD MF MG ML MN MP16 MT MV) H := hP
                rw [hQ]
                exact W.vret hx hb hr (fun t ht hW => ⟨⟨MP16, rfl, hwp, hp_of ht hP⟩, hS.F ht⟩) hS.2.2 d_M_needs_143
              · rw [if_pos hc] at hwp
                refine lv_aload_n hx hb d_M_needs_129 rfl (lv_at hl 0 rfl) ?_
                refine lv_aload_n hx hb d_M_needs_130 rfl (lv_at hl 0 rfl) ?_
                refine lv_iload_n hx hb d_M_needs_131 rfl (lv_at hl 2 rfl) ?_
                refine ncn_i (As := [.int a2]) (c_M_next hq (MA) (MD) (MF) (MG) (ML) (MN) ((MP_mode' (MP_wanted' MP 0) b2)) (MT) (MV) (a2) _ hwp) (cwV 1 hts g_M_184 rfl rfl rfl hd_M_next ⟨Nat.le_of_ble_eq_true rfl, Nat.le_of_ble_eq_true rfl⟩) hx hb hml hown hts hK hP hS hl.1 d_M_needs_132 (va_recv (q := (R_M, F_M, 39)) hK hP (ci := 7) (q0 := 0) rfl rfl) rfl (lv_room (Nat.le_of_ble_eq_true rfl)) (Nat.zero_le _) (Nat.zero_le _) rfl (fun r17 u H locs hwp hP hS => ?_)
                have hP : va_P (dC, dI) clZ (wM cI cL cZ q MA MD MF MG ML MN (MP_mode' (MP_wanted' MP 0) b2) MT MV) H := hP
                refine ncn_v (As := [.int r17]) (c_M_want hq (MA) (MD) (MF) (MG) (ML) (MN) ((MP_mode' (MP_wanted' MP 0) b2)) (MT) (MV) (r17) _ hwp) (cwV 1 hts g_M_181 rfl rfl rfl hd_M_want ⟨Nat.le_of_ble_eq_true rfl, Nat.le_of_ble_eq_true rfl⟩) hx hb hml hown hts hK hP hS hl.1 d_M_needs_135 (va_recv (q := (R_M, F_M, 39)) hK hP (ci := 7) (q0 := 0) rfl rfl) rfl (lv_room (Nat.le_of_ble_eq_true rfl)) (Nat.zero_le _) (Nat.zero_le _) rfl (fun MP18 H locs hwp hP hS => ?_)
                have hP : va_P (dC, dI) clZ (wM cI cL cZ q MA MD MF MG ML MN MP18 MT MV) H := hP
                refine lv_aload_n hx hb d_M_needs_138 rfl (lv_at hl 0 rfl) ?_
                refine lv_iload_n hx hb d_M_needs_139 rfl (lv_at hl 2 rfl) ?_
                refine ncn_v (As := [.int a2]) (c_M_want hq (MA) (MD) (MF) (MG) (ML) (MN) (MP18) (MT) (MV) (a2) _ hwp) (cwV 1 hts g_M_181 rfl rfl rfl hd_M_want ⟨Nat.le_of_ble_eq_true rfl, Nat.le_of_ble_eq_true rfl⟩) hx hb hml hown hts hK hP hS hl.1 d_M_needs_140 (va_recv (q := (R_M, F_M, 39)) hK hP (ci := 7) (q0 := 0) rfl rfl) rfl (lv_room (Nat.le_of_ble_eq_true rfl)) (Nat.zero_le _) (Nat.zero_le _) rfl (fun MP19 H locs hwp hP hS => ?_)
                have hP : va_P (dC, dI) clZ (wM cI cL cZ q MA MD MF MG ML MN MP19 MT MV) H := hP
                rw [hQ]
                exact W.vret hx hb hr (fun t ht hW => ⟨⟨MP19, rfl, hwp, hp_of ht hP⟩, hS.F ht⟩) hS.2.2 d_M_needs_143
          · rw [if_pos hc] at hwp
            refine lv_aload_n hx hb d_M_needs_98 rfl (lv_at hl 0 rfl) ?_
            refine lv_iload hx hb d_M_needs_99 (lv_at hl 4 rfl) ?_
            refine lv_if_eq (tgt := 108) hx hb d_M_needs_101 (by decide) (fun hc => ?_) (fun hc => ?_)
            · rw [if_pos hc] at hwp
              refine lv_aload_n hx hb d_M_needs_108 rfl (lv_at hl 0 rfl) ?_
              refine lv_iload_n hx hb d_M_needs_109 rfl (lv_at hl 2 rfl) ?_
              refine ncn_i (As := [.int a2]) (c_M_next hq (MA) (MD) (MF) (MG) (ML) (MN) ((MP_mode' (MP_wanted' MP 0) b2)) (MT) (MV) (a2) _ hwp) (cwV 1 hts g_M_184 rfl rfl rfl hd_M_next ⟨Nat.le_of_ble_eq_true rfl, Nat.le_of_ble_eq_true rfl⟩) hx hb hml hown hts hK hP hS hl.1 d_M_needs_110 (va_recv (q := (R_M, F_M, 39)) hK hP (ci := 7) (q0 := 0) rfl rfl) rfl (lv_room (Nat.le_of_ble_eq_true rfl)) (Nat.zero_le _) (Nat.zero_le _) rfl (fun r20 u H locs hwp hP hS => ?_)
              have hP : va_P (dC, dI) clZ (wM cI cL cZ q MA MD MF MG ML MN (MP_mode' (MP_wanted' MP 0) b2) MT MV) H := hP
              refine ncn_v (As := [.int r20]) (c_M_want hq (MA) (MD) (MF) (MG) (ML) (MN) ((MP_mode' (MP_wanted' MP 0) b2)) (MT) (MV) (r20) _ hwp) (cwV 1 hts g_M_181 rfl rfl rfl hd_M_want ⟨Nat.le_of_ble_eq_true rfl, Nat.le_of_ble_eq_true rfl⟩) hx hb hml hown hts hK hP hS hl.1 d_M_needs_113 (va_recv (q := (R_M, F_M, 39)) hK hP (ci := 7) (q0 := 0) rfl rfl) rfl (lv_room (Nat.le_of_ble_eq_true rfl)) (Nat.zero_le _) (Nat.zero_le _) rfl (fun MP21 H locs hwp hP hS => ?_)
              have hP : va_P (dC, dI) clZ (wM cI cL cZ q MA MD MF MG ML MN MP21 MT MV) H := hP
              refine lv_goto hx hb d_M_needs_116 (tgt := 143) (by decide) ?_
              rw [hQ]
              exact W.vret hx hb hr (fun t ht hW => ⟨⟨MP21, rfl, hwp, hp_of ht hP⟩, hS.F ht⟩) hS.2.2 d_M_needs_143
            · rw [if_neg hc] at hwp
              refine lv_iload_n hx hb d_M_needs_104 rfl (lv_at hl 2 rfl) ?_
              refine lv_goto hx hb d_M_needs_105 (tgt := 113) (by decide) ?_
              refine ncn_v (As := [.int a2]) (c_M_want hq (MA) (MD) (MF) (MG) (ML) (MN) ((MP_mode' (MP_wanted' MP 0) b2)) (MT) (MV) (a2) _ hwp) (cwV 1 hts g_M_181 rfl rfl rfl hd_M_want ⟨Nat.le_of_ble_eq_true rfl, Nat.le_of_ble_eq_true rfl⟩) hx hb hml hown hts hK hP hS hl.1 d_M_needs_113 (va_recv (q := (R_M, F_M, 39)) hK hP (ci := 7) (q0 := 0) rfl rfl) rfl (lv_room (Nat.le_of_ble_eq_true rfl)) (Nat.zero_le _) (Nat.zero_le _) rfl (fun MP22 H locs hwp hP hS => ?_)
              have hP : va_P (dC, dI) clZ (wM cI cL cZ q MA MD MF MG ML MN MP22 MT MV) H := hP
              refine lv_goto hx hb d_M_needs_116 (tgt := 143) (by decide) ?_
              rw [hQ]
              exact W.vret hx hb hr (fun t ht hW => ⟨⟨MP22, rfl, hwp, hp_of ht hP⟩, hS.F ht⟩) hS.2.2 d_M_needs_143
    · rw [if_pos hc] at hwp
      refine lv_iload_n hx hb d_M_needs_41 rfl (lv_at hl 2 rfl) ?_
      refine lv_istore (lv' := [(5, .int a2), (0, .ref (q 0)), (1, .int a1), (2, .int a2), (3, .int a3), (4, .int r1)]) hx hb d_M_needs_42 hl (by decide) rfl (fun ls hl => ?_)
      obtain ⟨e44, hwp⟩ := hwp
      refine L44 _ (a3) e44 (a2) ((MP_mode' (MP_wanted' MP 0) b2)) _ _ _ (lv_sub hl [1, 4, 0] rfl) hP hS hwp (fun MP25 H locs ls hl hP hS hwp => ?_)
      refine lv_aload_n hx hb d_M_needs_71 rfl (lv_at hl 0 rfl) ?_
      refine lv_aload_n hx hb d_M_needs_72 rfl (lv_at hl 0 rfl) ?_
      refine lv_iload_n hx hb d_M_needs_73 rfl (lv_at hl 1 rfl) ?_
      refine ncn_i (As := [.int a3]) (c_M_next hq (MA) (MD) (MF) (MG) (ML) (MN) (MP25) (MT) (MV) (a3) _ hwp) (cwV 1 hts g_M_184 rfl rfl rfl hd_M_next ⟨Nat.le_of_ble_eq_true rfl, Nat.le_of_ble_eq_true rfl⟩) hx hb hml hown hts hK hP hS hl.1 d_M_needs_74 (va_recv (q := (R_M, F_M, 39)) hK hP (ci := 7) (q0 := 0) rfl rfl) rfl (lv_room (Nat.le_of_ble_eq_true rfl)) (Nat.zero_le _) (Nat.zero_le _) rfl (fun r26 u H locs hwp hP hS => ?_)
      have hP : va_P (dC, dI) clZ (wM cI cL cZ q MA MD MF MG ML MN MP25 MT MV) H := hP
      refine ncn_v (As := [.int r26]) (c_M_want hq (MA) (MD) (MF) (MG) (ML) (MN) (MP25) (MT) (MV) (r26) _ hwp) (cwV 1 hts g_M_181 rfl rfl rfl hd_M_want ⟨Nat.le_of_ble_eq_true rfl, Nat.le_of_ble_eq_true rfl⟩) hx hb hml hown hts hK hP hS hl.1 d_M_needs_77 (va_recv (q := (R_M, F_M, 39)) hK hP (ci := 7) (q0 := 0) rfl rfl) rfl (lv_room (Nat.le_of_ble_eq_true rfl)) (Nat.zero_le _) (Nat.zero_le _) rfl (fun MP27 H locs hwp hP hS => ?_)
      have hP : va_P (dC, dI) clZ (wM cI cL cZ q MA MD MF MG ML MN MP27 MT MV) H := hP
      refine lv_goto hx hb d_M_needs_80 (tgt := 143) (by decide) ?_
      rw [hQ]
      exact W.vret hx hb hr (fun t ht hW => ⟨⟨MP27, rfl, hwp, hp_of ht hP⟩, hS.F ht⟩) hS.2.2 d_M_needs_143
  clear hjk
  refine lv_icmp_eq (tgt := 28) hx hb d_M_needs_15 (by decide) (fun hc => ?_) (fun hc => ?_)
  · rw [if_pos hc] at hwp
    refine lv_iconst (v := 2) hx hb d_M_needs_28 (by decide) ?_
    refine lv_goto hx hb d_M_needs_29 (tgt := 33) (by decide) ?_
    exact J33 (2) _ _ _ (lv_sub hl [1, 2, 3, 4, 0] rfl) hP hS hwp
  · rw [if_neg hc] at hwp
    refine lv_iload_n hx hb d_M_needs_18 rfl (lv_at hl 2 rfl) ?_
    refine lv_iconst (v := 3) hx hb d_M_needs_19 (by decide) ?_
    refine lv_icmp_ne (tgt := 32) hx hb d_M_needs_20 (by decide) (fun hc => ?_) (fun hc => ?_)
    · rw [if_neg hc] at hwp
      refine lv_iconst (v := 1) hx hb d_M_needs_32 (by decide) ?_
      exact J33 (1) _ _ _ (lv_sub hl [1, 2, 3, 4, 0] rfl) hP hS hwp
    · rw [if_pos hc] at hwp
      refine lv_iload hx hb d_M_needs_23 (lv_at hl 0 rfl) ?_
      refine lv_if_eq (tgt := 32) hx hb d_M_needs_25 (by decide) (fun hc => ?_) (fun hc => ?_)
      · rw [if_pos hc] at hwp
        refine lv_iconst (v := 1) hx hb d_M_needs_32 (by decide) ?_
        exact J33 (1) _ _ _ (lv_sub hl [1, 2, 3, 4, 0] rfl) hP hS hwp
      · rw [if_neg hc] at hwp
        refine lv_iconst (v := 2) hx hb d_M_needs_28 (by decide) ?_
        refine lv_goto hx hb d_M_needs_29 (tgt := 33) (by decide) ?_
        exact J33 (2) _ _ _ (lv_sub hl [1, 2, 3, 4, 0] rfl) hP hS hwp

set_option maxHeartbeats 4000000 in
set_option maxRecDepth 100000 in
theorem c_M_bars {l : Launch} {dC : Nat → ClassId} {dI : Nat → Nat → Nat} {cI cL cZ : ClassId} {q : Nat → Nat} (hq : iM q) (MA : S_MA) (MD : S_MD) (MF : S_MF) (MG : S_MG) (ML : S_ML) (MN : S_MN) (MP : S_MP) (MT : S_MT) (MV : S_MV) (a1 : Int32) (a2 : Int32) (a3 : Int32) (a4 : Int32) (post : Int32 → Prop) (hwp : wp_M_bars ML MT a1 a2 a3 a4 post) : Met l y_M_bars ws_M_bars rm_M_bars (va_Pc [.ref (q 0), .int a1, .int a2, .int a3, .int a4] (bM dC dI cI cL cZ q MA MD MF MG ML MN MP MT MV)) (va_Qi (fun (r : Int32) (u : Unit) => post r) (fun u t => va_P (dC, dI) clZ (wM cI cL cZ q MA MD MF MG ML MN MP MT MV) t.heap) (aM q)) 0 0 (aM q) := by
  refine Met.ofW (cc := b_M_bars) (maxL := 6) (ret := (some .boolean)) (by decide) rfl ?_
  intro p e s m args below meth c s₁ B hml hv
  obtain ⟨rfl, hP, hK⟩ := hv
  have hx := B.exec
  have hb := B.bytes
  have hr := B.returns
  have hts := atoms_spec (ws := ws_M_bars) B.pre
  have hown : s.vm.findClass R_M = some m.cls := findClass_of_methodNamed B.named
  have hlocks := B.notSynchronized
  have hiM : ∀ w ∈ u_ws R_M F_M 39, w ∈ ws_M_bars := fun w h => List.mem_cons_of_mem _ (in_M w h)
  have lk71 := hts _ (List.mem_cons_of_mem _ k_M_71)
  have hS : va_S (aM q) s.heap s.heap [] := va_S.rf
  have hl := lv_entry ([.ref (q 0), .int a1, .int a2, .int a3, .int a4]) (n := 6) (Nat.le_of_ble_eq_true rfl)
  rw [lg_entry_eq]
  generalize (lg_sl ([.ref (q 0), .int a1, .int a2, .int a3, .int a4]) ++ List.replicate (6 - (lg_sl ([.ref (q 0), .int a1, .int a2, .int a3, .int a4])).length) Slot.unset).toArray = ls at hl ⊢
  have hl : lv_has ls 6 [(0, .ref (q 0)), (1, .int a1), (2, .int a2), (3, .int a3), (4, .int a4)] := hl
  obtain ⟨Q, hQ⟩ : ∃ Q, Q = MQ below (va_Qi (fun (r : Int32) (u : Unit) => post r) (fun u t => va_P (dC, dI) clZ (wM cI cL cZ q MA MD MF MG ML MN MP MT MV) t.heap) (aM q)) ([.ref (q 0), .int a1, .int a2, .int a3, .int a4]).toArray s 0 0 (aM q) := ⟨_, rfl⟩
  rw [← hQ]
  rw [wp_M_bars] at hwp
  refine lv_aload_n hx hb d_M_bars_0 rfl (lv_at hl 0 rfl) ?_
  refine va_get (D := (dC, dI)) (ci := 7) (v := .ref (q 21)) (C := R_M) (T := F_M) (N := 39) hx hb hts hiM hown hK hP 0 rfl rfl 26 (by decide) lk71 (fun _ h9 => h9) rfl d_M_bars_1 ?_
  refine lv_bipush (v := 33) hx hb d_M_bars_4 (by decide) ?_
  refine lv_iload_n hx hb d_M_bars_6 rfl (lv_at hl 1 rfl) ?_
  refine lv_imul hx hb d_M_bars_7 ?_
  refine lv_iload_n hx hb d_M_bars_8 rfl (lv_at hl 3 rfl) ?_
  refine lv_iadd hx hb d_M_bars_9 ?_
  refine va_iald hx hb hK hP 21 0 rfl rfl hwp.1 d_M_bars_10 ?_
  have hwp := hwp.2
  refine lv_istore (lv' := [(5, .int ((ML_locks ML) (Int32.toNatClampNeg ((33 * a1) + a3)))), (0, .ref (q 0)), (1, .int a1), (2, .int a2), (3, .int a3), (4, .int a4)]) hx hb d_M_bars_11 hl (by decide) rfl (fun ls hl => ?_)
  refine lv_iload_n hx hb d_M_bars_13 rfl (lv_at hl 2 rfl) ?_
  refine lv_iload_n hx hb d_M_bars_14 rfl (lv_at hl 3 rfl) ?_
  refine lv_icmp_eq (tgt := 48) hx hb d_M_bars_15 (by decide) (fun hc => ?_) (fun hc => ?_)
  · rw [if_pos hc] at hwp
    refine lv_iconst (v := 0) hx hb d_M_bars_48 (by decide) ?_
    rw [hQ]
    exact W.zret (v := 0) hx hb hr rfl (fun t ht hW => ⟨⟨0, (), rfl, hwp, hp_of ht hP⟩, hS.F ht⟩) hS.2.2 d_M_bars_49
  · rw [if_neg hc] at hwp
    refine lv_iload hx hb d_M_bars_18 (lv_at hl 0 rfl) ?_
    refine lv_if_le (tgt := 48) hx hb d_M_bars_20 (by decide) (fun hc => ?_) (fun hc => ?_)
    · rw [if_pos hc] at hwp
      refine lv_iconst (v := 0) hx hb d_M_bars_48 (by decide) ?_
      rw [hQ]
      exact W.zret (v := 0) hx hb hr rfl (fun t ht hW => ⟨⟨0, (), rfl, hwp, hp_of ht hP⟩, hS.F ht⟩) hS.2.2 d_M_bars_49
    · rw [if_neg hc] at hwp
      refine lv_iload hx hb d_M_bars_23 (lv_at hl 5 rfl) ?_
      refine lv_iconst (v := 2) hx hb d_M_bars_25 (by decide) ?_
      refine lv_icmp_eq (tgt := 35) hx hb d_M_bars_26 (by decide) (fun hc => ?_) (fun hc => ?_)
      · rw [if_pos hc] at hwp
        refine lv_aload_n hx hb d_M_bars_35 rfl (lv_at hl 1 rfl) ?_
        refine lv_iload_n hx hb d_M_bars_36 rfl (lv_at hl 2 rfl) ?_
        refine lv_iload_n hx hb d_M_bars_37 rfl (lv_at hl 3 rfl) ?_
        refine ncn_i (As := [.int a1, .int a2]) (c_M_above hq (MA) (MD) (MF) (MG) (ML) (MN) (MP) (MT) (MV) (a1) (a2) _ hwp) (cwV 2 hts g_M_187 rfl rfl rfl hd_M_above ⟨Nat.le_of_ble_eq_true rfl, Nat.le_of_ble_eq_true rfl⟩) hx hb hml hown hts hK hP hS hl.1 d_M_bars_38 (va_recv (q := (R_M, F_M, 39)) hK hP (ci := 7) (q0 := 0) rfl rfl) rfl (lv_room (Nat.le_of_ble_eq_true rfl)) (Nat.zero_le _) (Nat.zero_le _) rfl (fun r1 u H locs hwp hP hS => ?_)
        have hP : va_P (dC, dI) clZ (wM cI cL cZ q MA MD MF MG ML MN MP MT MV) H := hP
        refine lv_if_ne (tgt := 48) hx hb d_M_bars_41 (by decide) (fun hc => ?_) (fun hc => ?_)
        · rw [if_neg hc] at hwp
          refine lv_iconst (v := 0) hx hb d_M_bars_48 (by decide) ?_
          rw [hQ]
          exact W.zret (v := 0) hx hb hr rfl (fun t ht hW => ⟨⟨0, (), rfl, hwp, hp_of ht hP⟩, hS.F ht⟩) hS.2.2 d_M_bars_49
        · rw [if_pos hc] at hwp
          refine lv_iconst (v := 1) hx hb d_M_bars_44 (by decide) ?_
          refine lv_goto hx hb d_M_bars_45 (tgt := 49) (by decide) ?_
          rw [hQ]
          exact W.zret (v := 1) hx hb hr rfl (fun t ht hW => ⟨⟨1, (), rfl, hwp, hp_of ht hP⟩, hS.F ht⟩) hS.2.2 d_M_bars_49
      · rw [if_neg hc] at hwp
        refine lv_iload hx hb d_M_bars_29 (lv_at hl 0 rfl) ?_
        refine lv_iconst (v := 2) hx hb d_M_bars_31 (by decide) ?_
        refine lv_icmp_ne (tgt := 48) hx hb d_M_bars_32 (by decide) (fun hc => ?_) (fun hc => ?_)
        · rw [if_neg hc] at hwp
          refine lv_iconst (v := 0) hx hb d_M_bars_48 (by decide) ?_
          rw [hQ]
          exact W.zret (v := 0) hx hb hr rfl (fun t ht hW => ⟨⟨0, (), rfl, hwp, hp_of ht hP⟩, hS.F ht⟩) hS.2.2 d_M_bars_49
        · rw [if_pos hc] at hwp
          refine lv_aload_n hx hb d_M_bars_35 rfl (lv_at hl 1 rfl) ?_
          refine lv_iload_n hx hb d_M_bars_36 rfl (lv_at hl 2 rfl) ?_
          refine lv_iload_n hx hb d_M_bars_37 rfl (lv_at hl 3 rfl) ?_
          refine ncn_i (As := [.int a1, .int a2]) (c_M_above hq (MA) (MD) (MF) (MG) (ML) (MN) (MP) (MT) (MV) (a1) (a2) _ hwp) (cwV 2 hts g_M_187 rfl rfl rfl hd_M_above ⟨Nat.le_of_ble_eq_true rfl, Nat.le_of_ble_eq_true rfl⟩) hx hb hml hown hts hK hP hS hl.1 d_M_bars_38 (va_recv (q := (R_M, F_M, 39)) hK hP (ci := 7) (q0 := 0) rfl rfl) rfl (lv_room (Nat.le_of_ble_eq_true rfl)) (Nat.zero_le _) (Nat.zero_le _) rfl (fun r2 u H locs hwp hP hS => ?_)
          have hP : va_P (dC, dI) clZ (wM cI cL cZ q MA MD MF MG ML MN MP MT MV) H := hP
          refine lv_if_ne (tgt := 48) hx hb d_M_bars_41 (by decide) (fun hc => ?_) (fun hc => ?_)
          · rw [if_neg hc] at hwp
            refine lv_iconst (v := 0) hx hb d_M_bars_48 (by decide) ?_
            rw [hQ]
            exact W.zret (v := 0) hx hb hr rfl (fun t ht hW => ⟨⟨0, (), rfl, hwp, hp_of ht hP⟩, hS.F ht⟩) hS.2.2 d_M_bars_49
          · rw [if_pos hc] at hwp
            refine lv_iconst (v := 1) hx hb d_M_bars_44 (by decide) ?_
            refine lv_goto hx hb d_M_bars_45 (tgt := 49) (by decide) ?_
            rw [hQ]
            exact W.zret (v := 1) hx hb hr rfl (fun t ht hW => ⟨⟨1, (), rfl, hwp, hp_of ht hP⟩, hS.F ht⟩) hS.2.2 d_M_bars_49

set_option maxHeartbeats 4000000 in
set_option maxRecDepth 100000 in
theorem c_M_may {l : Launch} {dC : Nat → ClassId} {dI : Nat → Nat → Nat} {cI cL cZ : ClassId} {q : Nat → Nat} (hq : iM q) (MA : S_MA) (MD : S_MD) (MF : S_MF) (MG : S_MG) (ML : S_ML) (MN : S_MN) (MP : S_MP) (MT : S_MT) (MV : S_MV) (a1 : Int32) (a2 : Int32) (a3 : Int32) (post : Int32 → Prop) (hwp : wp_M_may ML MT a1 a2 a3 post) : Met l y_M_may ws_M_may rm_M_may (va_Pc [.ref (q 0), .int a1, .int a2, .int a3] (bM dC dI cI cL cZ q MA MD MF MG ML MN MP MT MV)) (va_Qi (fun (r : Int32) (u : Unit) => post r) (fun u t => va_P (dC, dI) clZ (wM cI cL cZ q MA MD MF MG ML MN MP MT MV) t.heap) (aM q)) 0 0 (aM q) := by
  refine Met.ofW (cc := b_M_may) (maxL := 6) (ret := (some .boolean)) (by decide) rfl ?_
  intro p e s m args below meth c s₁ B hml hv
  obtain ⟨rfl, hP, hK⟩ := hv
  have hx := B.exec
  have hb := B.bytes
  have hr := B.returns
  have hts := atoms_spec (ws := ws_M_may) B.pre
  have hown : s.vm.findClass R_M = some m.cls := findClass_of_methodNamed B.named
  have hlocks := B.notSynchronized
  have hiM : ∀ w ∈ u_ws R_M F_M 39, w ∈ ws_M_may := fun w h => List.mem_cons_of_mem _ (in_M w h)
  have lk147 := hts _ (List.mem_cons_of_mem _ k_M_147)
  have hS : va_S (aM q) s.heap s.heap [] := va_S.rf
  have hl := lv_entry ([.ref (q 0), .int a1, .int a2, .int a3]) (n := 6) (Nat.le_of_ble_eq_true rfl)
  rw [lg_entry_eq]
  generalize (lg_sl ([.ref (q 0), .int a1, .int a2, .int a3]) ++ List.replicate (6 - (lg_sl ([.ref (q 0), .int a1, .int a2, .int a3])).length) Slot.unset).toArray = ls at hl ⊢
  have hl : lv_has ls 6 [(0, .ref (q 0)), (1, .int a1), (2, .int a2), (3, .int a3)] := hl
  obtain ⟨Q, hQ⟩ : ∃ Q, Q = MQ below (va_Qi (fun (r : Int32) (u : Unit) => post r) (fun u t => va_P (dC, dI) clZ (wM cI cL cZ q MA MD MF MG ML MN MP MT MV) t.heap) (aM q)) ([.ref (q 0), .int a1, .int a2, .int a3]).toArray s 0 0 (aM q) := ⟨_, rfl⟩
  rw [← hQ]
  have L6 : ∀ (Kx : Int32 → Prop) (v1 : Int32) (v2 : Int32) (v3 : Int32) (n : Nat) (v4 : Int32) (v5 : Int32) (H : Heap) (locs : List Loc) (ls : Array Slot), lv_has ls 6 [(0, .ref (q 0)), (1, .int v1), (2, .int v2), (3, .int v3), (4, .int v4), (5, .int v5)] → va_P (dC, dI) clZ (wM cI cL cZ q MA MD MF MG ML MN MP MT MV) H → va_S (aM q) s.heap H locs → wp_M_may_L6 ML MT v1 v2 v3 Kx n v4 v5 → (∀ (x4 : Int32) (H : Heap) (locs : List Loc) (ls : Array Slot), lv_has ls 6 [(4, .int x4)] → va_P (dC, dI) clZ (wM cI cL cZ q MA MD MF MG ML MN MP MT MV) H → va_S (aM q) s.heap H locs → Kx x4 → W p l e (headSpec ws_M_may rm_M_may).room s m ([.ref (q 0), .int a1, .int a2, .int a3]).toArray below meth c H locs 0 0 Q (F0 m 45 ls [])) → W p l e (headSpec ws_M_may rm_M_may).room s m ([.ref (q 0), .int a1, .int a2, .int a3]).toArray below meth c H locs 0 0 Q (F0 m 6 ls []) := by
    intro Kx v1 v2 v3 n
    induction n with
    | zero =>
      intros
      rename_i hwp _
      exact hwp.elim
    | succ n6 ih =>
      intro v4 v5 H locs ls hl hP hS hwp hX
      rw [wp_M_may_L6] at hwp
      refine lv_iload hx hb d_M_may_6 (lv_at hl 5 rfl) ?_
      refine lv_aload_n hx hb d_M_may_8 rfl (lv_at hl 0 rfl) ?_
      refine va_get (D := (dC, dI)) (ci := 7) (v := .int (MT_many MT)) (C := R_M) (T := F_M) (N := 39) hx hb hts hiM hown hK hP 0 rfl rfl 22 (by decide) lk147 (fun _ h9 => h9) rfl d_M_may_9 ?_
      refine lv_icmp_ge (tgt := 45) hx hb d_M_may_12 (by decide) (fun hc => ?_) (fun hc => ?_)
      · rw [if_pos hc] at hwp
        exact hX (v4) _ _ _ (lv_sub hl [4] rfl) hP hS hwp
      · rw [if_neg hc] at hwp
        refine lv_iload hx hb d_M_may_15 (lv_at hl 4 rfl) ?_
        refine lv_if_eq (tgt := 36) hx hb d_M_may_17 (by decide) (fun hc => ?_) (fun hc => ?_)
        · rw [if_pos hc] at hwp
          refine lv_iconst (v := 0) hx hb d_M_may_36 (by decide) ?_
          refine lv_istore (lv' := [(4, .int 0), (0, .ref (q 0)), (1, .int v1), (2, .int v2), (3, .int v3), (5, .int v5)]) hx hb d_M_may_37 hl (by decide) rfl (fun ls hl => ?_)
          refine lv_iinc (k := 5) (v := (v5 + 1)) (lv' := [(5, .int (v5 + 1)), (4, .int 0), (0, .ref (q 0)), (1, .int v1), (2, .int v2), (3, .int v3)]) hx hb d_M_may_39 hl rfl (ii_1 _) (by decide) rfl (fun ls hl => ?_)
          refine lv_goto hx hb d_M_may_42 (tgt := 6) (by decide) ?_
          exact ih (0) ((v5 + 1)) _ _ _ (lv_sub hl [2, 3, 4, 5, 1, 0] rfl) hP hS hwp hX
        · rw [if_neg hc] at hwp
          refine lv_aload_n hx hb d_M_may_20 rfl (lv_at hl 0 rfl) ?_
          refine lv_iload hx hb d_M_may_21 (lv_at hl 5 rfl) ?_
          refine lv_iload_n hx hb d_M_may_23 rfl (lv_at hl 1 rfl) ?_
          refine lv_iload_n hx hb d_M_may_24 rfl (lv_at hl 2 rfl) ?_
          refine lv_iload_n hx hb d_M_may_25 rfl (lv_at hl 3 rfl) ?_
          refine ncn_i (As := [.int v5, .int v1, .int v2, .int v3]) (c_M_bars hq (MA) (MD) (MF) (MG) (ML) (MN) (MP) (MT) (MV) (v5) (v1) (v2) (v3) _ hwp) (cwV 4 hts g_M_191 rfl rfl rfl hd_M_bars ⟨Nat.le_of_ble_eq_true rfl, Nat.le_of_ble_eq_true rfl⟩) hx hb hml hown hts hK hP hS hl.1 d_M_may_26 (va_recv (q := (R_M, F_M, 39)) hK hP (ci := 7) (q0 := 0) rfl rfl) rfl (lv_room (Nat.le_of_ble_eq_true rfl)) (Nat.zero_le _) (Nat.zero_le _) rfl (fun r1 u H locs hwp hP hS => ?_)
          have hP : va_P (dC, dI) clZ (wM cI cL cZ q MA MD MF MG ML MN MP MT MV) H := hP
          refine lv_if_ne (tgt := 36) hx hb d_M_may_29 (by decide) (fun hc => ?_) (fun hc => ?_)
          · rw [if_neg hc] at hwp
            refine lv_iconst (v := 0) hx hb d_M_may_36 (by decide) ?_
            refine lv_istore (lv' := [(4, .int 0), (0, .ref (q 0)), (1, .int v1), (2, .int v2), (3, .int v3), (5, .int v5)]) hx hb d_M_may_37 hl (by decide) rfl (fun ls hl => ?_)
            refine lv_iinc (k := 5) (v := (v5 + 1)) (lv' := [(5, .int (v5 + 1)), (4, .int 0), (0, .ref (q 0)), (1, .int v1), (2, .int v2), (3, .int v3)]) hx hb d_M_may_39 hl rfl (ii_1 _) (by decide) rfl (fun ls hl => ?_)
            refine lv_goto hx hb d_M_may_42 (tgt := 6) (by decide) ?_
            exact ih (0) ((v5 + 1)) _ _ _ (lv_sub hl [2, 3, 4, 5, 1, 0] rfl) hP hS hwp hX
          · rw [if_pos hc] at hwp
            refine lv_iconst (v := 1) hx hb d_M_may_32 (by decide) ?_
            refine lv_goto hx hb d_M_may_33 (tgt := 37) (by decide) ?_
            refine lv_istore (lv' := [(4, .int 1), (0, .ref (q 0)), (1, .int v1), (2, .int v2), (3, .int v3), (5, .int v5)]) hx hb d_M_may_37 hl (by decide) rfl (fun ls hl => ?_)
            refine lv_iinc (k := 5) (v := (v5 + 1)) (lv' := [(5, .int (v5 + 1)), (4, .int 1), (0, .ref (q 0)), (1, .int v1), (2, .int v2), (3, .int v3)]) hx hb d_M_may_39 hl rfl (ii_1 _) (by decide) rfl (fun ls hl => ?_)
            refine lv_goto hx hb d_M_may_42 (tgt := 6) (by decide) ?_
            exact ih (1) ((v5 + 1)) _ _ _ (lv_sub hl [2, 3, 4, 5, 1, 0] rfl) hP hS hwp hX
  rw [wp_M_may] at hwp
  refine lv_iconst (v := 1) hx hb d_M_may_0 (by decide) ?_
  refine lv_istore (lv' := [(4, .int 1), (0, .ref (q 0)), (1, .int a1), (2, .int a2), (3, .int a3)]) hx hb d_M_may_1 hl (by decide) rfl (fun ls hl => ?_)
  refine lv_iconst (v := 0) hx hb d_M_may_3 (by decide) ?_
  refine lv_istore (lv' := [(5, .int 0), (4, .int 1), (0, .ref (q 0)), (1, .int a1), (2, .int a2), (3, .int a3)]) hx hb d_M_may_4 hl (by decide) rfl (fun ls hl => ?_)
  obtain ⟨e6, hwp⟩ := hwp
  refine L6 _ (a1) (a2) (a3) e6 (1) (0) _ _ _ (lv_sub hl [2, 3, 4, 5, 1, 0] rfl) hP hS hwp (fun x2 H locs ls hl hP hS hwp => ?_)
  refine lv_iload hx hb d_M_may_45 (lv_at hl 0 rfl) ?_
  rw [hQ]
  exact W.zret (v := x2) hx hb hr (nb_ok hwp.1) (fun t ht hW => ⟨⟨x2, (), rfl, hwp.2, hp_of ht hP⟩, hS.F ht⟩) hS.2.2 d_M_may_47

set_option maxHeartbeats 4000000 in
set_option maxRecDepth 100000 in
theorem c_M_look {l : Launch} {dC : Nat → ClassId} {dI : Nat → Nat → Nat} {cI cL cZ : ClassId} {q : Nat → Nat} (hq : iM q) (MA : S_MA) (MD : S_MD) (MF : S_MF) (MG : S_MG) (ML : S_ML) (MN : S_MN) (MP : S_MP) (MT : S_MT) (MV : S_MV)  (post : S_MP → S_MV → Prop) (hwp : wp_M_look MA MD ML MP MT MV post) : Met l y_M_look ws_M_look rm_M_look (va_Pc [.ref (q 0)] (bM dC dI cI cL cZ q MA MD MF MG ML MN MP MT MV)) (va_Qv (fun (u : S_MP × S_MV) => post u.1 u.2) (fun u t => va_P (dC, dI) clZ (wM cI cL cZ q MA MD MF MG ML MN (u.1) MT (u.2)) t.heap) (aM q)) 0 0 (aM q) := by
  refine Met.ofW (cc := b_M_look) (maxL := 4) (ret := none) (by decide) rfl ?_
  intro p e s m args below meth c s₁ B hml hv
  obtain ⟨rfl, hP, hK⟩ := hv
  have hx := B.exec
  have hb := B.bytes
  have hr := B.returns
  have hts := atoms_spec (ws := ws_M_look) B.pre
  have hown : s.vm.findClass R_M = some m.cls := findClass_of_methodNamed B.named
  have hlocks := B.notSynchronized
  have hiM : ∀ w ∈ u_ws R_M F_M 39, w ∈ ws_M_look := fun w h => List.mem_cons_of_mem _ (in_M w h)
  have lk62 := hts _ (List.mem_cons_of_mem _ k_M_62)
  have lk71 := hts _ (List.mem_cons_of_mem _ k_M_71)
  have lk74 := hts _ (List.mem_cons_of_mem _ k_M_74)
  have lk77 := hts _ (List.mem_cons_of_mem _ k_M_77)
  have lk80 := hts _ (List.mem_cons_of_mem _ k_M_80)
  have lk83 := hts _ (List.mem_cons_of_mem _ k_M_83)
  have lk86 := hts _ (List.mem_cons_of_mem _ k_M_86)
  have lk89 := hts _ (List.mem_cons_of_mem _ k_M_89)
  have lk147 := hts _ (List.mem_cons_of_mem _ k_M_147)
  have lk175 := hts _ (List.mem_cons_of_mem _ k_M_175)
  have lk178 := hts _ (List.mem_cons_of_mem _ k_M_178)
  have hS : va_S (aM q) s.heap s.heap [] := va_S.rf
  have hl := lv_entry ([.ref (q 0)]) (n := 4) (Nat.le_of_ble_eq_true rfl)
  rw [lg_entry_eq]
  generalize (lg_sl ([.ref (q 0)]) ++ List.replicate (4 - (lg_sl ([.ref (q 0)])).length) Slot.unset).toArray = ls at hl ⊢
  have hl : lv_has ls 4 [(0, .ref (q 0))] := hl
  obtain ⟨Q, hQ⟩ : ∃ Q, Q = MQ below (va_Qv (fun (u : S_MP × S_MV) => post u.1 u.2) (fun u t => va_P (dC, dI) clZ (wM cI cL cZ q MA MD MF MG ML MN (u.1) MT (u.2)) t.heap) (aM q)) ([.ref (q 0)]).toArray s 0 0 (aM q) := ⟨_, rfl⟩
  rw [← hQ]
  have L56 : ∀ (Kx : S_MV → Prop) (MP : S_MP) (v1 : Int32) (n : Nat) (v2 : Int32) (MV : S_MV) (H : Heap) (locs : List Loc) (ls : Array Slot), lv_has ls 4 [(0, .ref (q 0)), (1, .int v1), (2, .int v2)] → va_P (dC, dI) clZ (wM cI cL cZ q MA MD MF MG ML MN MP MT MV) H → va_S (aM q) s.heap H locs → wp_M_look_L56 ML MP MT v1 Kx n v2 MV → (∀ (MV1 : S_MV) (H : Heap) (locs : List Loc) (ls : Array Slot), lv_has ls 4 [(0, .ref (q 0)), (1, .int v1)] → va_P (dC, dI) clZ (wM cI cL cZ q MA MD MF MG ML MN MP MT MV1) H → va_S (aM q) s.heap H locs → Kx MV1 → W p l e (headSpec ws_M_look rm_M_look).room s m ([.ref (q 0)]).toArray below meth c H locs 0 0 Q (F0 m 138 ls [])) → W p l e (headSpec ws_M_look rm_M_look).room s m ([.ref (q 0)]).toArray below meth c H locs 0 0 Q (F0 m 56 ls []) := by
    intro Kx MP v1 n
    induction n with
    | zero =>
      intros
      rename_i hwp _
      exact hwp.elim
    | succ n56 ih =>
      intro v2 MV H locs ls hl hP hS hwp hX
      rw [wp_M_look_L56] at hwp
      refine lv_iload_n hx hb d_M_look_56 rfl (lv_at hl 2 rfl) ?_
      refine lv_if_lt (tgt := 138) hx hb d_M_look_57 (by decide) (fun hc => ?_) (fun hc => ?_)
      · rw [if_pos hc] at hwp
        exact hX (MV) _ _ _ (lv_sub hl [0, 1] rfl) hP hS hwp
      · rw [if_neg hc] at hwp
        refine lv_aload_n hx hb d_M_look_60 rfl (lv_at hl 0 rfl) ?_
        refine va_get (D := (dC, dI)) (ci := 7) (v := .ref (q 21)) (C := R_M) (T := F_M) (N := 39) hx hb hts hiM hown hK hP 0 rfl rfl 26 (by decide) lk71 (fun _ h9 => h9) rfl d_M_look_61 ?_
        refine lv_bipush (v := 33) hx hb d_M_look_64 (by decide) ?_
        refine lv_iload_n hx hb d_M_look_66 rfl (lv_at hl 1 rfl) ?_
        refine lv_imul hx hb d_M_look_67 ?_
        refine lv_aload_n hx hb d_M_look_68 rfl (lv_at hl 0 rfl) ?_
        refine va_get (D := (dC, dI)) (ci := 7) (v := .ref (q 25)) (C := R_M) (T := F_M) (N := 39) hx hb hts hiM hown hK hP 0 rfl rfl 31 (by decide) lk83 (fun _ h9 => h9) rfl d_M_look_69 ?_
        refine lv_iload_n hx hb d_M_look_72 rfl (lv_at hl 2 rfl) ?_
        refine va_iald hx hb hK hP 25 0 rfl rfl hwp.1 d_M_look_73 ?_
        have hwp := hwp.2
        refine lv_iadd hx hb d_M_look_74 ?_
        refine va_iald hx hb hK hP 21 0 rfl rfl hwp.1 d_M_look_75 ?_
        have hwp := hwp.2
        refine lv_aload_n hx hb d_M_look_76 rfl (lv_at hl 0 rfl) ?_
        refine va_get (D := (dC, dI)) (ci := 7) (v := .int (MP_mode MP)) (C := R_M) (T := F_M) (N := 39) hx hb hts hiM hown hK hP 0 rfl rfl 32 (by decide) lk178 (fun _ h9 => h9) rfl d_M_look_77 ?_
        refine jn_split hwp (fun jk106 hjk hwp => ?_)
        have J106 : ∀ (b3 : Int32) (H : Heap) (locs : List Loc) (ls : Array Slot), lv_has ls 4 [(0, .ref (q 0)), (1, .int v1), (2, .int v2)] → va_P (dC, dI) clZ (wM cI cL cZ q MA MD MF MG ML MN MP MT MV) H → va_S (aM q) s.heap H locs → jk106 b3 → W p l e (headSpec ws_M_look rm_M_look).room s m ([.ref (q 0)]).toArray below meth c H locs 0 0 Q (F0 m 106 ls [.int b3]) := by
          intro b3 H locs ls hl hP hS hwp
          rw [hjk] at hwp
          refine lv_istore_n (lv' := [(3, .int b3), (0, .ref (q 0)), (1, .int v1), (2, .int v2)]) hx hb d_M_look_106 rfl hl (by decide) rfl (fun ls hl => ?_)
          refine lv_aload_n hx hb d_M_look_107 rfl (lv_at hl 1 rfl) ?_
          refine va_get (D := (dC, dI)) (ci := 7) (v := .ref (q 26)) (C := R_M) (T := F_M) (N := 39) hx hb hts hiM hown hK hP 0 rfl rfl 33 (by decide) lk86 (fun _ h9 => h9) rfl d_M_look_108 ?_
          refine lv_iload_n hx hb d_M_look_111 rfl (lv_at hl 2 rfl) ?_
          refine lv_iload_n hx hb d_M_look_112 rfl (lv_at hl 0 rfl) ?_
          refine lv_if_eq (tgt := 125) hx hb d_M_look_113 (by decide) (fun hc => ?_) (fun hc => ?_)
          · rw [if_pos hc] at hwp
            refine lv_aload_n hx hb d_M_look_125 rfl (lv_at hl 1 rfl) ?_
            refine va_get (D := (dC, dI)) (ci := 7) (v := .ref (q 26)) (C := R_M) (T := F_M) (N := 39) hx hb hts hiM hown hK hP 0 rfl rfl 33 (by decide) lk86 (fun _ h9 => h9) rfl d_M_look_126 ?_
            refine lv_iload_n hx hb d_M_look_129 rfl (lv_at hl 2 rfl) ?_
            refine va_iald hx hb hK hP 26 0 rfl rfl hwp.1 d_M_look_130 ?_
            have hwp := hwp.2
            refine va_iast hx hb hK hP (dM hq) hS 26 0 rfl rfl hwp.1 d_M_look_131 (fun H locs hP _ hS => ?_)
            have hwp := hwp.2
            have hP : va_P (dC, dI) clZ (wM cI cL cZ q MA MD MF MG ML MN MP MT (MV_lacks' MV (upd (MV_lacks MV) (Int32.toNatClampNeg v1) ((MV_lacks MV) (Int32.toNatClampNeg v1))))) H := hP
            refine lv_iinc (k := 3) (v := (v2 + (-1))) (lv' := [(2, .int (v2 + (-1))), (3, .int b3), (0, .ref (q 0)), (1, .int v1)]) hx hb d_M_look_132 hl rfl (ii_m1 _) (by decide) rfl (fun ls hl => ?_)
            refine lv_goto hx hb d_M_look_135 (tgt := 56) (by decide) ?_
            exact ih ((v2 + (-1))) ((MV_lacks' MV (upd (MV_lacks MV) (Int32.toNatClampNeg v1) ((MV_lacks MV) (Int32.toNatClampNeg v1))))) _ _ _ (lv_sub hl [2, 3, 0] rfl) hP hS hwp hX
          · rw [if_neg hc] at hwp
            refine lv_aload_n hx hb d_M_look_116 rfl (lv_at hl 1 rfl) ?_
            refine va_get (D := (dC, dI)) (ci := 7) (v := .ref (q 25)) (C := R_M) (T := F_M) (N := 39) hx hb hts hiM hown hK hP 0 rfl rfl 31 (by decide) lk83 (fun _ h9 => h9) rfl d_M_look_117 ?_
            refine lv_iload_n hx hb d_M_look_120 rfl (lv_at hl 3 rfl) ?_
            refine va_iald hx hb hK hP 25 0 rfl rfl hwp.1 d_M_look_121 ?_
            have hwp := hwp.2
            refine lv_goto hx hb d_M_look_122 (tgt := 131) (by decide) ?_
            refine va_iast hx hb hK hP (dM hq) hS 26 0 rfl rfl hwp.1 d_M_look_131 (fun H locs hP _ hS => ?_)
            have hwp := hwp.2
            have hP : va_P (dC, dI) clZ (wM cI cL cZ q MA MD MF MG ML MN MP MT (MV_lacks' MV (upd (MV_lacks MV) (Int32.toNatClampNeg v1) ((MP_item MP) (Int32.toNatClampNeg v2))))) H := hP
            refine lv_iinc (k := 3) (v := (v2 + (-1))) (lv' := [(2, .int (v2 + (-1))), (3, .int b3), (0, .ref (q 0)), (1, .int v1)]) hx hb d_M_look_132 hl rfl (ii_m1 _) (by decide) rfl (fun ls hl => ?_)
            refine lv_goto hx hb d_M_look_135 (tgt := 56) (by decide) ?_
            exact ih ((v2 + (-1))) ((MV_lacks' MV (upd (MV_lacks MV) (Int32.toNatClampNeg v1) ((MP_item MP) (Int32.toNatClampNeg v2))))) _ _ _ (lv_sub hl [2, 3, 0] rfl) hP hS hwp hX
        clear hjk
        refine lv_icmp_ge (tgt := 105) hx hb d_M_look_80 (by decide) (fun hc => ?_) (fun hc => ?_)
        · rw [if_pos hc] at hwp
          refine lv_iconst (v := 0) hx hb d_M_look_105 (by decide) ?_
          exact J106 (0) _ _ _ (lv_sub hl [0, 1, 2] rfl) hP hS hwp
        · rw [if_neg hc] at hwp
          refine lv_aload_n hx hb d_M_look_83 rfl (lv_at hl 0 rfl) ?_
          refine lv_iload_n hx hb d_M_look_84 rfl (lv_at hl 1 rfl) ?_
          refine lv_aload_n hx hb d_M_look_85 rfl (lv_at hl 0 rfl) ?_
          refine va_get (D := (dC, dI)) (ci := 7) (v := .ref (q 25)) (C := R_M) (T := F_M) (N := 39) hx hb hts hiM hown hK hP 0 rfl rfl 31 (by decide) lk83 (fun _ h9 => h9) rfl d_M_look_86 ?_
          refine lv_iload_n hx hb d_M_look_89 rfl (lv_at hl 2 rfl) ?_
          refine va_iald hx hb hK hP 25 0 rfl rfl hwp.1 d_M_look_90 ?_
          have hwp := hwp.2
          refine lv_aload_n hx hb d_M_look_91 rfl (lv_at hl 0 rfl) ?_
          refine va_get (D := (dC, dI)) (ci := 7) (v := .int (MP_mode MP)) (C := R_M) (T := F_M) (N := 39) hx hb hts hiM hown hK hP 0 rfl rfl 32 (by decide) lk178 (fun _ h9 => h9) rfl d_M_look_92 ?_
          refine ncn_i (As := [.int v1, .int ((MP_item MP) (Int32.toNatClampNeg v2)), .int (MP_mode MP)]) (c_M_may hq (MA) (MD) (MF) (MG) (ML) (MN) (MP) (MT) (MV) (v1) (((MP_item MP) (Int32.toNatClampNeg v2))) ((MP_mode MP)) _ hwp) (cwV 3 hts g_M_199 rfl rfl rfl hd_M_may ⟨Nat.le_of_ble_eq_true rfl, Nat.le_of_ble_eq_true rfl⟩) hx hb hml hown hts hK hP hS hl.1 d_M_look_95 (va_recv (q := (R_M, F_M, 39)) hK hP (ci := 7) (q0 := 0) rfl rfl) rfl (lv_room (Nat.le_of_ble_eq_true rfl)) (Nat.zero_le _) (Nat.zero_le _) rfl (fun r2 u H locs hwp hP hS => ?_)
          have hP : va_P (dC, dI) clZ (wM cI cL cZ q MA MD MF MG ML MN MP MT MV) H := hP
          refine lv_if_ne (tgt := 105) hx hb d_M_look_98 (by decide) (fun hc => ?_) (fun hc => ?_)
          · rw [if_neg hc] at hwp
            refine lv_iconst (v := 0) hx hb d_M_look_105 (by decide) ?_
            exact J106 (0) _ _ _ (lv_sub hl [0, 1, 2] rfl) hP hS hwp
          · rw [if_pos hc] at hwp
            refine lv_iconst (v := 1) hx hb d_M_look_101 (by decide) ?_
            refine lv_goto hx hb d_M_look_102 (tgt := 106) (by decide) ?_
            exact J106 (1) _ _ _ (lv_sub hl [0, 1, 2] rfl) hP hS hwp
  have L2 : ∀ (Kx : S_MP → S_MV → Prop) (n : Nat) (v1 : Int32) (MP : S_MP) (MV : S_MV) (H : Heap) (locs : List Loc) (ls : Array Slot), lv_has ls 4 [(0, .ref (q 0)), (1, .int v1)] → va_P (dC, dI) clZ (wM cI cL cZ q MA MD MF MG ML MN MP MT MV) H → va_S (aM q) s.heap H locs → wp_M_look_L2 MA MD ML MT Kx n v1 MP MV → (∀ (MP1 : S_MP) (MV1 : S_MV) (H : Heap) (locs : List Loc) (ls : Array Slot), lv_has ls 4 [] → va_P (dC, dI) clZ (wM cI cL cZ q MA MD MF MG ML MN MP1 MT MV1) H → va_S (aM q) s.heap H locs → Kx MP1 MV1 → W p l e (headSpec ws_M_look rm_M_look).room s m ([.ref (q 0)]).toArray below meth c H locs 0 0 Q (F0 m 154 ls [])) → W p l e (headSpec ws_M_look rm_M_look).room s m ([.ref (q 0)]).toArray below meth c H locs 0 0 Q (F0 m 2 ls []) := by
    intro Kx  n
    induction n with
    | zero =>
      intros
      rename_i hwp _
      exact hwp.elim
    | succ n2 ih =>
      intro v1 MP MV H locs ls hl hP hS hwp hX
      rw [wp_M_look_L2] at hwp
      refine lv_iload_n hx hb d_M_look_2 rfl (lv_at hl 1 rfl) ?_
      refine lv_aload_n hx hb d_M_look_3 rfl (lv_at hl 0 rfl) ?_
      refine va_get (D := (dC, dI)) (ci := 7) (v := .int (MT_many MT)) (C := R_M) (T := F_M) (N := 39) hx hb hts hiM hown hK hP 0 rfl rfl 22 (by decide) lk147 (fun _ h9 => h9) rfl d_M_look_4 ?_
      refine lv_icmp_ge (tgt := 154) hx hb d_M_look_7 (by decide) (fun hc => ?_) (fun hc => ?_)
      · rw [if_pos hc] at hwp
        exact hX (MP) (MV) _ _ _ (lv_sub hl [] rfl) hP hS hwp
      · rw [if_neg hc] at hwp
        refine lv_aload_n hx hb d_M_look_10 rfl (lv_at hl 0 rfl) ?_
        refine va_get (D := (dC, dI)) (ci := 7) (v := .ref (q 26)) (C := R_M) (T := F_M) (N := 39) hx hb hts hiM hown hK hP 0 rfl rfl 33 (by decide) lk86 (fun _ h9 => h9) rfl d_M_look_11 ?_
        refine lv_iload_n hx hb d_M_look_14 rfl (lv_at hl 1 rfl) ?_
        refine lv_iconst (v := (-1)) hx hb d_M_look_15 (by decide) ?_
        refine va_iast hx hb hK hP (dM hq) hS 26 0 rfl rfl hwp.1 d_M_look_16 (fun H locs hP _ hS => ?_)
        have hwp := hwp.2
        have hP : va_P (dC, dI) clZ (wM cI cL cZ q MA MD MF MG ML MN MP MT (MV_lacks' MV (upd (MV_lacks MV) (Int32.toNatClampNeg v1) (-1)))) H := hP
        refine lv_aload_n hx hb d_M_look_17 rfl (lv_at hl 0 rfl) ?_
        refine va_get (D := (dC, dI)) (ci := 7) (v := .ref (q 18)) (C := R_M) (T := F_M) (N := 39) hx hb hts hiM hown hK hP 0 rfl rfl 23 (by decide) lk62 (fun _ h9 => h9) rfl d_M_look_18 ?_
        refine lv_iload_n hx hb d_M_look_21 rfl (lv_at hl 1 rfl) ?_
        refine va_iald hx hb hK hP 18 0 rfl rfl hwp.1 d_M_look_22 ?_
        have hwp := hwp.2
        refine lv_iconst (v := 2) hx hb d_M_look_23 (by decide) ?_
        refine lv_icmp_ne (tgt := 148) hx hb d_M_look_24 (by decide) (fun hc => ?_) (fun hc => ?_)
        · rw [if_neg hc] at hwp
          refine lv_iinc (k := 1) (v := (v1 + 1)) (lv' := [(1, .int (v1 + 1)), (0, .ref (q 0))]) hx hb d_M_look_148 hl rfl (ii_1 _) (by decide) rfl (fun ls hl => ?_)
          refine lv_goto hx hb d_M_look_151 (tgt := 2) (by decide) ?_
          exact ih ((v1 + 1)) (MP) ((MV_lacks' MV (upd (MV_lacks MV) (Int32.toNatClampNeg v1) (-1)))) _ _ _ (lv_sub hl [1, 0] rfl) hP hS hwp hX
        · rw [if_pos hc] at hwp
          refine lv_aload_n hx hb d_M_look_27 rfl (lv_at hl 0 rfl) ?_
          refine lv_aload_n hx hb d_M_look_28 rfl (lv_at hl 0 rfl) ?_
          refine va_get (D := (dC, dI)) (ci := 7) (v := .ref (q 22)) (C := R_M) (T := F_M) (N := 39) hx hb hts hiM hown hK hP 0 rfl rfl 27 (by decide) lk74 (fun _ h9 => h9) rfl d_M_look_29 ?_
          refine lv_iload_n hx hb d_M_look_32 rfl (lv_at hl 1 rfl) ?_
          refine va_iald hx hb hK hP 22 0 rfl rfl hwp.1 d_M_look_33 ?_
          have hwp := hwp.2
          refine lv_aload_n hx hb d_M_look_34 rfl (lv_at hl 0 rfl) ?_
          refine va_get (D := (dC, dI)) (ci := 7) (v := .ref (q 23)) (C := R_M) (T := F_M) (N := 39) hx hb hts hiM hown hK hP 0 rfl rfl 28 (by decide) lk77 (fun _ h9 => h9) rfl d_M_look_35 ?_
          refine lv_iload_n hx hb d_M_look_38 rfl (lv_at hl 1 rfl) ?_
          refine va_iald hx hb hK hP 23 0 rfl rfl hwp.1 d_M_look_39 ?_
          have hwp := hwp.2
          refine lv_aload_n hx hb d_M_look_40 rfl (lv_at hl 0 rfl) ?_
          refine va_get (D := (dC, dI)) (ci := 7) (v := .ref (q 24)) (C := R_M) (T := F_M) (N := 39) hx hb hts hiM hown hK hP 0 rfl rfl 29 (by decide) lk80 (fun _ h9 => h9) rfl d_M_look_41 ?_
          refine lv_iload_n hx hb d_M_look_44 rfl (lv_at hl 1 rfl) ?_
          refine va_iald hx hb hK hP 24 0 rfl rfl hwp.1 d_M_look_45 ?_
          have hwp := hwp.2
          refine ncn_v (As := [.int ((MT_asks MT) (Int32.toNatClampNeg v1)), .int ((MT_first MT) (Int32.toNatClampNeg v1)), .int ((MT_second MT) (Int32.toNatClampNeg v1))]) (c_M_needs hq (MA) (MD) (MF) (MG) (ML) (MN) (MP) (MT) ((MV_lacks' MV (upd (MV_lacks MV) (Int32.toNatClampNeg v1) (-1)))) (((MT_asks MT) (Int32.toNatClampNeg v1))) (((MT_first MT) (Int32.toNatClampNeg v1))) (((MT_second MT) (Int32.toNatClampNeg v1))) _ hwp) (cwV 3 hts g_M_195 rfl rfl rfl hd_M_needs ⟨Nat.le_of_ble_eq_true rfl, Nat.le_of_ble_eq_true rfl⟩) hx hb hml hown hts hK hP hS hl.1 d_M_look_46 (va_recv (q := (R_M, F_M, 39)) hK hP (ci := 7) (q0 := 0) rfl rfl) rfl (lv_room (Nat.le_of_ble_eq_true rfl)) (Nat.zero_le _) (Nat.zero_le _) rfl (fun MP1 H locs hwp hP hS => ?_)
          have hP : va_P (dC, dI) clZ (wM cI cL cZ q MA MD MF MG ML MN MP1 MT (MV_lacks' MV (upd (MV_lacks MV) (Int32.toNatClampNeg v1) (-1)))) H := hP
          refine lv_aload_n hx hb d_M_look_49 rfl (lv_at hl 0 rfl) ?_
          refine va_get (D := (dC, dI)) (ci := 7) (v := .int (MP_wanted MP1)) (C := R_M) (T := F_M) (N := 39) hx hb hts hiM hown hK hP 0 rfl rfl 30 (by decide) lk175 (fun _ h9 => h9) rfl d_M_look_50 ?_
          refine lv_iconst (v := 1) hx hb d_M_look_53 (by decide) ?_
          refine lv_isub hx hb d_M_look_54 ?_
          refine lv_istore_n (lv' := [(2, .int ((MP_wanted MP1) - 1)), (0, .ref (q 0)), (1, .int v1)]) hx hb d_M_look_55 rfl hl (by decide) rfl (fun ls hl => ?_)
          obtain ⟨e56, hwp⟩ := hwp
          refine L56 _ (MP1) (v1) e56 (((MP_wanted MP1) - 1)) ((MV_lacks' MV (upd (MV_lacks MV) (Int32.toNatClampNeg v1) (-1)))) _ _ _ (lv_sub hl [1, 2, 0] rfl) hP hS hwp (fun MV4 H locs ls hl hP hS hwp => ?_)
          refine lv_aload_n hx hb d_M_look_138 rfl (lv_at hl 0 rfl) ?_
          refine va_get (D := (dC, dI)) (ci := 7) (v := .ref (q 27)) (C := R_M) (T := F_M) (N := 39) hx hb hts hiM hown hK hP 0 rfl rfl 34 (by decide) lk89 (fun _ h9 => h9) rfl d_M_look_139 ?_
          refine lv_iload_n hx hb d_M_look_142 rfl (lv_at hl 1 rfl) ?_
          refine lv_aload_n hx hb d_M_look_143 rfl (lv_at hl 0 rfl) ?_
          refine va_get (D := (dC, dI)) (ci := 7) (v := .int (MP_mode MP1)) (C := R_M) (T := F_M) (N := 39) hx hb hts hiM hown hK hP 0 rfl rfl 32 (by decide) lk178 (fun _ h9 => h9) rfl d_M_look_144 ?_
          refine va_iast hx hb hK hP (dM hq) hS 27 0 rfl rfl hwp.1 d_M_look_147 (fun H locs hP _ hS => ?_)
          have hwp := hwp.2
          have hP : va_P (dC, dI) clZ (wM cI cL cZ q MA MD MF MG ML MN MP1 MT (MV_lackMode' MV4 (upd (MV_lackMode MV4) (Int32.toNatClampNeg v1) (MP_mode MP1)))) H := hP
          refine lv_iinc (k := 1) (v := (v1 + 1)) (lv' := [(1, .int (v1 + 1)), (0, .ref (q 0))]) hx hb d_M_look_148 hl rfl (ii_1 _) (by decide) rfl (fun ls hl => ?_)
          refine lv_goto hx hb d_M_look_151 (tgt := 2) (by decide) ?_
          exact ih ((v1 + 1)) (MP1) ((MV_lackMode' MV4 (upd (MV_lackMode MV4) (Int32.toNatClampNeg v1) (MP_mode MP1)))) _ _ _ (lv_sub hl [1, 0] rfl) hP hS hwp hX
  rw [wp_M_look] at hwp
  refine lv_iconst (v := 0) hx hb d_M_look_0 (by decide) ?_
  refine lv_istore_n (lv' := [(1, .int 0), (0, .ref (q 0))]) hx hb d_M_look_1 rfl hl (by decide) rfl (fun ls hl => ?_)
  obtain ⟨e2, hwp⟩ := hwp
  refine L2 _  e2 (0) (MP) (MV) _ _ _ (lv_sub hl [1, 0] rfl) hP hS hwp (fun MP5 MV6 H locs ls hl hP hS hwp => ?_)
  rw [hQ]
  exact W.vret hx hb hr (fun t ht hW => ⟨⟨(MP5, MV6), rfl, hwp, hp_of ht hP⟩, hS.F ht⟩) hS.2.2 d_M_look_154

set_option maxHeartbeats 4000000 in
set_option maxRecDepth 100000 in
theorem c_M_leads {l : Launch} {dC : Nat → ClassId} {dI : Nat → Nat → Nat} {cI cL cZ : ClassId} {q : Nat → Nat} (hq : iM q) (MA : S_MA) (MD : S_MD) (MF : S_MF) (MG : S_MG) (ML : S_ML) (MN : S_MN) (MP : S_MP) (MT : S_MT) (MV : S_MV) (a1 : Int32) (a2 : Int32) (post : Int32 → Prop) (hwp : wp_M_leads ML MT MV a1 a2 post) : Met l y_M_leads ws_M_leads rm_M_leads (va_Pc [.ref (q 0), .int a1, .int a2] (bM dC dI cI cL cZ q MA MD MF MG ML MN MP MT MV)) (va_Qi (fun (r : Int32) (u : Unit) => post r) (fun u t => va_P (dC, dI) clZ (wM cI cL cZ q MA MD MF MG ML MN MP MT MV) t.heap) (aM q)) 0 0 (aM q) := by
  refine Met.ofW (cc := b_M_leads) (maxL := 3) (ret := (some .boolean)) (by decide) rfl ?_
  intro p e s m args below meth c s₁ B hml hv
  obtain ⟨rfl, hP, hK⟩ := hv
  have hx := B.exec
  have hb := B.bytes
  have hr := B.returns
  have hts := atoms_spec (ws := ws_M_leads) B.pre
  have hown : s.vm.findClass R_M = some m.cls := findClass_of_methodNamed B.named
  have hlocks := B.notSynchronized
  have hiM : ∀ w ∈ u_ws R_M F_M 39, w ∈ ws_M_leads := fun w h => List.mem_cons_of_mem _ (in_M w h)
  have lk62 := hts _ (List.mem_cons_of_mem _ k_M_62)
  have lk65 := hts _ (List.mem_cons_of_mem _ k_M_65)
  have lk86 := hts _ (List.mem_cons_of_mem _ k_M_86)
  have lk89 := hts _ (List.mem_cons_of_mem _ k_M_89)
  have hS : va_S (aM q) s.heap s.heap [] := va_S.rf
  have hl := lv_entry ([.ref (q 0), .int a1, .int a2]) (n := 3) (Nat.le_of_ble_eq_true rfl)
  rw [lg_entry_eq]
  generalize (lg_sl ([.ref (q 0), .int a1, .int a2]) ++ List.replicate (3 - (lg_sl ([.ref (q 0), .int a1, .int a2])).length) Slot.unset).toArray = ls at hl ⊢
  have hl : lv_has ls 3 [(0, .ref (q 0)), (1, .int a1), (2, .int a2)] := hl
  obtain ⟨Q, hQ⟩ : ∃ Q, Q = MQ below (va_Qi (fun (r : Int32) (u : Unit) => post r) (fun u t => va_P (dC, dI) clZ (wM cI cL cZ q MA MD MF MG ML MN MP MT MV) t.heap) (aM q)) ([.ref (q 0), .int a1, .int a2]).toArray s 0 0 (aM q) := ⟨_, rfl⟩
  rw [← hQ]
  rw [wp_M_leads] at hwp
  refine lv_aload_n hx hb d_M_leads_0 rfl (lv_at hl 0 rfl) ?_
  refine lv_iload_n hx hb d_M_leads_1 rfl (lv_at hl 1 rfl) ?_
  refine ncn_i (As := [.int a1]) (c_M_live hq (MA) (MD) (MF) (MG) (ML) (MN) (MP) (MT) (MV) (a1) _ hwp) (cwV 1 hts g_M_150 rfl rfl rfl hd_M_live ⟨Nat.le_of_ble_eq_true rfl, Nat.le_of_ble_eq_true rfl⟩) hx hb hml hown hts hK hP hS hl.1 d_M_leads_2 (va_recv (q := (R_M, F_M, 39)) hK hP (ci := 7) (q0 := 0) rfl rfl) rfl (lv_room (Nat.le_of_ble_eq_true rfl)) (Nat.zero_le _) (Nat.zero_le _) rfl (fun r1 u H locs hwp hP hS => ?_)
  have hP : va_P (dC, dI) clZ (wM cI cL cZ q MA MD MF MG ML MN MP MT MV) H := hP
  refine lv_if_eq (tgt := 26) hx hb d_M_leads_5 (by decide) (fun hc => ?_) (fun hc => ?_)
  · rw [if_pos hc] at hwp
    refine lv_aload_n hx hb d_M_leads_26 rfl (lv_at hl 0 rfl) ?_
    refine va_get (D := (dC, dI)) (ci := 7) (v := .ref (q 18)) (C := R_M) (T := F_M) (N := 39) hx hb hts hiM hown hK hP 0 rfl rfl 23 (by decide) lk62 (fun _ h9 => h9) rfl d_M_leads_27 ?_
    refine lv_iload_n hx hb d_M_leads_30 rfl (lv_at hl 1 rfl) ?_
    refine va_iald hx hb hK hP 18 0 rfl rfl hwp.1 d_M_leads_31 ?_
    have hwp := hwp.2
    refine lv_iconst (v := 2) hx hb d_M_leads_32 (by decide) ?_
    refine lv_icmp_ne (tgt := 70) hx hb d_M_leads_33 (by decide) (fun hc => ?_) (fun hc => ?_)
    · rw [if_neg hc] at hwp
      refine lv_iconst (v := 0) hx hb d_M_leads_70 (by decide) ?_
      rw [hQ]
      exact W.zret (v := 0) hx hb hr rfl (fun t ht hW => ⟨⟨0, (), rfl, hwp, hp_of ht hP⟩, hS.F ht⟩) hS.2.2 d_M_leads_71
    · rw [if_pos hc] at hwp
      refine lv_aload_n hx hb d_M_leads_36 rfl (lv_at hl 0 rfl) ?_
      refine va_get (D := (dC, dI)) (ci := 7) (v := .ref (q 26)) (C := R_M) (T := F_M) (N := 39) hx hb hts hiM hown hK hP 0 rfl rfl 33 (by decide) lk86 (fun _ h9 => h9) rfl d_M_leads_37 ?_
      refine lv_iload_n hx hb d_M_leads_40 rfl (lv_at hl 1 rfl) ?_
      refine va_iald hx hb hK hP 26 0 rfl rfl hwp.1 d_M_leads_41 ?_
      have hwp := hwp.2
      refine lv_if_lt (tgt := 70) hx hb d_M_leads_42 (by decide) (fun hc => ?_) (fun hc => ?_)
      · rw [if_pos hc] at hwp
        refine lv_iconst (v := 0) hx hb d_M_leads_70 (by decide) ?_
        rw [hQ]
        exact W.zret (v := 0) hx hb hr rfl (fun t ht hW => ⟨⟨0, (), rfl, hwp, hp_of ht hP⟩, hS.F ht⟩) hS.2.2 d_M_leads_71
      · rw [if_neg hc] at hwp
        refine lv_aload_n hx hb d_M_leads_45 rfl (lv_at hl 0 rfl) ?_
        refine lv_iload_n hx hb d_M_leads_46 rfl (lv_at hl 2 rfl) ?_
        refine lv_iload_n hx hb d_M_leads_47 rfl (lv_at hl 1 rfl) ?_
        refine lv_aload_n hx hb d_M_leads_48 rfl (lv_at hl 0 rfl) ?_
        refine va_get (D := (dC, dI)) (ci := 7) (v := .ref (q 26)) (C := R_M) (T := F_M) (N := 39) hx hb hts hiM hown hK hP 0 rfl rfl 33 (by decide) lk86 (fun _ h9 => h9) rfl d_M_leads_49 ?_
        refine lv_iload_n hx hb d_M_leads_52 rfl (lv_at hl 1 rfl) ?_
        refine va_iald hx hb hK hP 26 0 rfl rfl hwp.1 d_M_leads_53 ?_
        have hwp := hwp.2
        refine lv_aload_n hx hb d_M_leads_54 rfl (lv_at hl 0 rfl) ?_
        refine va_get (D := (dC, dI)) (ci := 7) (v := .ref (q 27)) (C := R_M) (T := F_M) (N := 39) hx hb hts hiM hown hK hP 0 rfl rfl 34 (by decide) lk89 (fun _ h9 => h9) rfl d_M_leads_55 ?_
        refine lv_iload_n hx hb d_M_leads_58 rfl (lv_at hl 1 rfl) ?_
        refine va_iald hx hb hK hP 27 0 rfl rfl hwp.1 d_M_leads_59 ?_
        have hwp := hwp.2
        refine ncn_i (As := [.int a2, .int a1, .int ((MV_lacks MV) (Int32.toNatClampNeg a1)), .int ((MV_lackMode MV) (Int32.toNatClampNeg a1))]) (c_M_bars hq (MA) (MD) (MF) (MG) (ML) (MN) (MP) (MT) (MV) (a2) (a1) (((MV_lacks MV) (Int32.toNatClampNeg a1))) (((MV_lackMode MV) (Int32.toNatClampNeg a1))) _ hwp) (cwV 4 hts g_M_191 rfl rfl rfl hd_M_bars ⟨Nat.le_of_ble_eq_true rfl, Nat.le_of_ble_eq_true rfl⟩) hx hb hml hown hts hK hP hS hl.1 d_M_leads_60 (va_recv (q := (R_M, F_M, 39)) hK hP (ci := 7) (q0 := 0) rfl rfl) rfl (lv_room (Nat.le_of_ble_eq_true rfl)) (Nat.zero_le _) (Nat.zero_le _) rfl (fun r2 u H locs hwp hP hS => ?_)
        have hP : va_P (dC, dI) clZ (wM cI cL cZ q MA MD MF MG ML MN MP MT MV) H := hP
        refine lv_if_eq (tgt := 70) hx hb d_M_leads_63 (by decide) (fun hc => ?_) (fun hc => ?_)
        · rw [if_pos hc] at hwp
          refine lv_iconst (v := 0) hx hb d_M_leads_70 (by decide) ?_
          rw [hQ]
          exact W.zret (v := 0) hx hb hr rfl (fun t ht hW => ⟨⟨0, (), rfl, hwp, hp_of ht hP⟩, hS.F ht⟩) hS.2.2 d_M_leads_71
        · rw [if_neg hc] at hwp
          refine lv_iconst (v := 1) hx hb d_M_leads_66 (by decide) ?_
          refine lv_goto hx hb d_M_leads_67 (tgt := 71) (by decide) ?_
          rw [hQ]
          exact W.zret (v := 1) hx hb hr rfl (fun t ht hW => ⟨⟨1, (), rfl, hwp, hp_of ht hP⟩, hS.F ht⟩) hS.2.2 d_M_leads_71
  · rw [if_neg hc] at hwp
    refine lv_aload_n hx hb d_M_leads_8 rfl (lv_at hl 0 rfl) ?_
    refine lv_iload_n hx hb d_M_leads_9 rfl (lv_at hl 2 rfl) ?_
    refine ncn_i (As := [.int a2]) (c_M_live hq (MA) (MD) (MF) (MG) (ML) (MN) (MP) (MT) (MV) (a2) _ hwp) (cwV 1 hts g_M_150 rfl rfl rfl hd_M_live ⟨Nat.le_of_ble_eq_true rfl, Nat.le_of_ble_eq_true rfl⟩) hx hb hml hown hts hK hP hS hl.1 d_M_leads_10 (va_recv (q := (R_M, F_M, 39)) hK hP (ci := 7) (q0 := 0) rfl rfl) rfl (lv_room (Nat.le_of_ble_eq_true rfl)) (Nat.zero_le _) (Nat.zero_le _) rfl (fun r3 u H locs hwp hP hS => ?_)
    have hP : va_P (dC, dI) clZ (wM cI cL cZ q MA MD MF MG ML MN MP MT MV) H := hP
    refine lv_if_eq (tgt := 26) hx hb d_M_leads_13 (by decide) (fun hc => ?_) (fun hc => ?_)
    · rw [if_pos hc] at hwp
      refine lv_aload_n hx hb d_M_leads_26 rfl (lv_at hl 0 rfl) ?_
      refine va_get (D := (dC, dI)) (ci := 7) (v := .ref (q 18)) (C := R_M) (T := F_M) (N := 39) hx hb hts hiM hown hK hP 0 rfl rfl 23 (by decide) lk62 (fun _ h9 => h9) rfl d_M_leads_27 ?_
      refine lv_iload_n hx hb d_M_leads_30 rfl (lv_at hl 1 rfl) ?_
      refine va_iald hx hb hK hP 18 0 rfl rfl hwp.1 d_M_leads_31 ?_
      have hwp := hwp.2
      refine lv_iconst (v := 2) hx hb d_M_leads_32 (by decide) ?_
      refine lv_icmp_ne (tgt := 70) hx hb d_M_leads_33 (by decide) (fun hc => ?_) (fun hc => ?_)
      · rw [if_neg hc] at hwp
        refine lv_iconst (v := 0) hx hb d_M_leads_70 (by decide) ?_
        rw [hQ]
        exact W.zret (v := 0) hx hb hr rfl (fun t ht hW => ⟨⟨0, (), rfl, hwp, hp_of ht hP⟩, hS.F ht⟩) hS.2.2 d_M_leads_71
      · rw [if_pos hc] at hwp
        refine lv_aload_n hx hb d_M_leads_36 rfl (lv_at hl 0 rfl) ?_
        refine va_get (D := (dC, dI)) (ci := 7) (v := .ref (q 26)) (C := R_M) (T := F_M) (N := 39) hx hb hts hiM hown hK hP 0 rfl rfl 33 (by decide) lk86 (fun _ h9 => h9) rfl d_M_leads_37 ?_
        refine lv_iload_n hx hb d_M_leads_40 rfl (lv_at hl 1 rfl) ?_
        refine va_iald hx hb hK hP 26 0 rfl rfl hwp.1 d_M_leads_41 ?_
        have hwp := hwp.2
        refine lv_if_lt (tgt := 70) hx hb d_M_leads_42 (by decide) (fun hc => ?_) (fun hc => ?_)
        · rw [if_pos hc] at hwp
          refine lv_iconst (v := 0) hx hb d_M_leads_70 (by decide) ?_
          rw [hQ]
          exact W.zret (v := 0) hx hb hr rfl (fun t ht hW => ⟨⟨0, (), rfl, hwp, hp_of ht hP⟩, hS.F ht⟩) hS.2.2 d_M_leads_71
        · rw [if_neg hc] at hwp
          refine lv_aload_n hx hb d_M_leads_45 rfl (lv_at hl 0 rfl) ?_
          refine lv_iload_n hx hb d_M_leads_46 rfl (lv_at hl 2 rfl) ?_
          refine lv_iload_n hx hb d_M_leads_47 rfl (lv_at hl 1 rfl) ?_
          refine lv_aload_n hx hb d_M_leads_48 rfl (lv_at hl 0 rfl) ?_
          refine va_get (D := (dC, dI)) (ci := 7) (v := .ref (q 26)) (C := R_M) (T := F_M) (N := 39) hx hb hts hiM hown hK hP 0 rfl rfl 33 (by decide) lk86 (fun _ h9 => h9) rfl d_M_leads_49 ?_
          refine lv_iload_n hx hb d_M_leads_52 rfl (lv_at hl 1 rfl) ?_
          refine va_iald hx hb hK hP 26 0 rfl rfl hwp.1 d_M_leads_53 ?_
          have hwp := hwp.2
          refine lv_aload_n hx hb d_M_leads_54 rfl (lv_at hl 0 rfl) ?_
          refine va_get (D := (dC, dI)) (ci := 7) (v := .ref (q 27)) (C := R_M) (T := F_M) (N := 39) hx hb hts hiM hown hK hP 0 rfl rfl 34 (by decide) lk89 (fun _ h9 => h9) rfl d_M_leads_55 ?_
          refine lv_iload_n hx hb d_M_leads_58 rfl (lv_at hl 1 rfl) ?_
          refine va_iald hx hb hK hP 27 0 rfl rfl hwp.1 d_M_leads_59 ?_
          have hwp := hwp.2
          refine ncn_i (As := [.int a2, .int a1, .int ((MV_lacks MV) (Int32.toNatClampNeg a1)), .int ((MV_lackMode MV) (Int32.toNatClampNeg a1))]) (c_M_bars hq (MA) (MD) (MF) (MG) (ML) (MN) (MP) (MT) (MV) (a2) (a1) (((MV_lacks MV) (Int32.toNatClampNeg a1))) (((MV_lackMode MV) (Int32.toNatClampNeg a1))) _ hwp) (cwV 4 hts g_M_191 rfl rfl rfl hd_M_bars ⟨Nat.le_of_ble_eq_true rfl, Nat.le_of_ble_eq_true rfl⟩) hx hb hml hown hts hK hP hS hl.1 d_M_leads_60 (va_recv (q := (R_M, F_M, 39)) hK hP (ci := 7) (q0 := 0) rfl rfl) rfl (lv_room (Nat.le_of_ble_eq_true rfl)) (Nat.zero_le _) (Nat.zero_le _) rfl (fun r4 u H locs hwp hP hS => ?_)
          have hP : va_P (dC, dI) clZ (wM cI cL cZ q MA MD MF MG ML MN MP MT MV) H := hP
          refine lv_if_eq (tgt := 70) hx hb d_M_leads_63 (by decide) (fun hc => ?_) (fun hc => ?_)
          · rw [if_pos hc] at hwp
            refine lv_iconst (v := 0) hx hb d_M_leads_70 (by decide) ?_
            rw [hQ]
            exact W.zret (v := 0) hx hb hr rfl (fun t ht hW => ⟨⟨0, (), rfl, hwp, hp_of ht hP⟩, hS.F ht⟩) hS.2.2 d_M_leads_71
          · rw [if_neg hc] at hwp
            refine lv_iconst (v := 1) hx hb d_M_leads_66 (by decide) ?_
            refine lv_goto hx hb d_M_leads_67 (tgt := 71) (by decide) ?_
            rw [hQ]
            exact W.zret (v := 1) hx hb hr rfl (fun t ht hW => ⟨⟨1, (), rfl, hwp, hp_of ht hP⟩, hS.F ht⟩) hS.2.2 d_M_leads_71
    · rw [if_neg hc] at hwp
      refine lv_aload_n hx hb d_M_leads_16 rfl (lv_at hl 0 rfl) ?_
      refine va_get (D := (dC, dI)) (ci := 7) (v := .ref (q 19)) (C := R_M) (T := F_M) (N := 39) hx hb hts hiM hown hK hP 0 rfl rfl 24 (by decide) lk65 (fun _ h9 => h9) rfl d_M_leads_17 ?_
      refine lv_iload_n hx hb d_M_leads_20 rfl (lv_at hl 2 rfl) ?_
      refine va_iald hx hb hK hP 19 0 rfl rfl hwp.1 d_M_leads_21 ?_
      have hwp := hwp.2
      refine lv_iload_n hx hb d_M_leads_22 rfl (lv_at hl 1 rfl) ?_
      refine lv_icmp_eq (tgt := 66) hx hb d_M_leads_23 (by decide) (fun hc => ?_) (fun hc => ?_)
      · rw [if_pos hc] at hwp
        refine lv_iconst (v := 1) hx hb d_M_leads_66 (by decide) ?_
        refine lv_goto hx hb d_M_leads_67 (tgt := 71) (by decide) ?_
        rw [hQ]
        exact W.zret (v := 1) hx hb hr rfl (fun t ht hW => ⟨⟨1, (), rfl, hwp, hp_of ht hP⟩, hS.F ht⟩) hS.2.2 d_M_leads_71
      · rw [if_neg hc] at hwp
        refine lv_aload_n hx hb d_M_leads_26 rfl (lv_at hl 0 rfl) ?_
        refine va_get (D := (dC, dI)) (ci := 7) (v := .ref (q 18)) (C := R_M) (T := F_M) (N := 39) hx hb hts hiM hown hK hP 0 rfl rfl 23 (by decide) lk62 (fun _ h9 => h9) rfl d_M_leads_27 ?_
        refine lv_iload_n hx hb d_M_leads_30 rfl (lv_at hl 1 rfl) ?_
        refine va_iald hx hb hK hP 18 0 rfl rfl hwp.1 d_M_leads_31 ?_
        have hwp := hwp.2
        refine lv_iconst (v := 2) hx hb d_M_leads_32 (by decide) ?_
        refine lv_icmp_ne (tgt := 70) hx hb d_M_leads_33 (by decide) (fun hc => ?_) (fun hc => ?_)
        · rw [if_neg hc] at hwp
          refine lv_iconst (v := 0) hx hb d_M_leads_70 (by decide) ?_
          rw [hQ]
          exact W.zret (v := 0) hx hb hr rfl (fun t ht hW => ⟨⟨0, (), rfl, hwp, hp_of ht hP⟩, hS.F ht⟩) hS.2.2 d_M_leads_71
        · rw [if_pos hc] at hwp
          refine lv_aload_n hx hb d_M_leads_36 rfl (lv_at hl 0 rfl) ?_
          refine va_get (D := (dC, dI)) (ci := 7) (v := .ref (q 26)) (C := R_M) (T := F_M) (N := 39) hx hb hts hiM hown hK hP 0 rfl rfl 33 (by decide) lk86 (fun _ h9 => h9) rfl d_M_leads_37 ?_
          refine lv_iload_n hx hb d_M_leads_40 rfl (lv_at hl 1 rfl) ?_
          refine va_iald hx hb hK hP 26 0 rfl rfl hwp.1 d_M_leads_41 ?_
          have hwp := hwp.2
          refine lv_if_lt (tgt := 70) hx hb d_M_leads_42 (by decide) (fun hc => ?_) (fun hc => ?_)
          · rw [if_pos hc] at hwp
            refine lv_iconst (v := 0) hx hb d_M_leads_70 (by decide) ?_
            rw [hQ]
            exact W.zret (v := 0) hx hb hr rfl (fun t ht hW => ⟨⟨0, (), rfl, hwp, hp_of ht hP⟩, hS.F ht⟩) hS.2.2 d_M_leads_71
          · rw [if_neg hc] at hwp
            refine lv_aload_n hx hb d_M_leads_45 rfl (lv_at hl 0 rfl) ?_
            refine lv_iload_n hx hb d_M_leads_46 rfl (lv_at hl 2 rfl) ?_
            refine lv_iload_n hx hb d_M_leads_47 rfl (lv_at hl 1 rfl) ?_
            refine lv_aload_n hx hb d_M_leads_48 rfl (lv_at hl 0 rfl) ?_
            refine va_get (D := (dC, dI)) (ci := 7) (v := .ref (q 26)) (C := R_M) (T := F_M) (N := 39) hx hb hts hiM hown hK hP 0 rfl rfl 33 (by decide) lk86 (fun _ h9 => h9) rfl d_M_leads_49 ?_
            refine lv_iload_n hx hb d_M_leads_52 rfl (lv_at hl 1 rfl) ?_
            refine va_iald hx hb hK hP 26 0 rfl rfl hwp.1 d_M_leads_53 ?_
            have hwp := hwp.2
            refine lv_aload_n hx hb d_M_leads_54 rfl (lv_at hl 0 rfl) ?_
            refine va_get (D := (dC, dI)) (ci := 7) (v := .ref (q 27)) (C := R_M) (T := F_M) (N := 39) hx hb hts hiM hown hK hP 0 rfl rfl 34 (by decide) lk89 (fun _ h9 => h9) rfl d_M_leads_55 ?_
            refine lv_iload_n hx hb d_M_leads_58 rfl (lv_at hl 1 rfl) ?_
            refine va_iald hx hb hK hP 27 0 rfl rfl hwp.1 d_M_leads_59 ?_
            have hwp := hwp.2
            refine ncn_i (As := [.int a2, .int a1, .int ((MV_lacks MV) (Int32.toNatClampNeg a1)), .int ((MV_lackMode MV) (Int32.toNatClampNeg a1))]) (c_M_bars hq (MA) (MD) (MF) (MG) (ML) (MN) (MP) (MT) (MV) (a2) (a1) (((MV_lacks MV) (Int32.toNatClampNeg a1))) (((MV_lackMode MV) (Int32.toNatClampNeg a1))) _ hwp) (cwV 4 hts g_M_191 rfl rfl rfl hd_M_bars ⟨Nat.le_of_ble_eq_true rfl, Nat.le_of_ble_eq_true rfl⟩) hx hb hml hown hts hK hP hS hl.1 d_M_leads_60 (va_recv (q := (R_M, F_M, 39)) hK hP (ci := 7) (q0 := 0) rfl rfl) rfl (lv_room (Nat.le_of_ble_eq_true rfl)) (Nat.zero_le _) (Nat.zero_le _) rfl (fun r5 u H locs hwp hP hS => ?_)
            have hP : va_P (dC, dI) clZ (wM cI cL cZ q MA MD MF MG ML MN MP MT MV) H := hP
            refine lv_if_eq (tgt := 70) hx hb d_M_leads_63 (by decide) (fun hc => ?_) (fun hc => ?_)
            · rw [if_pos hc] at hwp
              refine lv_iconst (v := 0) hx hb d_M_leads_70 (by decide) ?_
              rw [hQ]
              exact W.zret (v := 0) hx hb hr rfl (fun t ht hW => ⟨⟨0, (), rfl, hwp, hp_of ht hP⟩, hS.F ht⟩) hS.2.2 d_M_leads_71
            · rw [if_neg hc] at hwp
              refine lv_iconst (v := 1) hx hb d_M_leads_66 (by decide) ?_
              refine lv_goto hx hb d_M_leads_67 (tgt := 71) (by decide) ?_
              rw [hQ]
              exact W.zret (v := 1) hx hb hr rfl (fun t ht hW => ⟨⟨1, (), rfl, hwp, hp_of ht hP⟩, hS.F ht⟩) hS.2.2 d_M_leads_71
