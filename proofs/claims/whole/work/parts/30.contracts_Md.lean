set_option maxHeartbeats 4000000 in
set_option maxRecDepth 100000 in
theorem c_M_save {l : Launch} {dC : Nat → ClassId} {dI : Nat → Nat → Nat} {cI cL cZ : ClassId} {q : Nat → Nat} (hq : iM q) (MA : S_MA) (MD : S_MD) (MF : S_MF) (MG : S_MG) (ML : S_ML) (MN : S_MN) (MP : S_MP) (MT : S_MT) (MV : S_MV) (a1 : Int32) (post : Int32 → Prop) (hwp : wp_M_save MG MT a1 post) : Met l y_M_save ws_M_save rm_M_save (va_Pc [.ref (q 0), .int a1] (bM dC dI cI cL cZ q MA MD MF MG ML MN MP MT MV)) (va_Qi (fun (r : Int32) (u : Unit) => post r) (fun u t => va_P (dC, dI) clZ (wM cI cL cZ q MA MD MF MG ML MN MP MT MV) t.heap) (aM q)) 0 0 (aM q) := by
  refine Met.ofW (cc := b_M_save) (maxL := 2) (ret := (some .int)) (by decide) rfl ?_
  intro p e s m args below meth c s₁ B hml hv
  obtain ⟨rfl, hP, hK⟩ := hv
  have hx := B.exec
  have hb := B.bytes
  have hr := B.returns
  have hts := atoms_spec (ws := ws_M_save) B.pre
  have hown : s.vm.findClass R_M = some m.cls := findClass_of_methodNamed B.named
  have hlocks := B.notSynchronized
  have hS : va_S (aM q) s.heap s.heap [] := va_S.rf
  have hl := lv_entry ([.ref (q 0), .int a1]) (n := 2) (Nat.le_of_ble_eq_true rfl)
  rw [lg_entry_eq]
  generalize (lg_sl ([.ref (q 0), .int a1]) ++ List.replicate (2 - (lg_sl ([.ref (q 0), .int a1])).length) Slot.unset).toArray = ls at hl ⊢
  have hl : lv_has ls 2 [(0, .ref (q 0)), (1, .int a1)] := hl
  obtain ⟨Q, hQ⟩ : ∃ Q, Q = MQ below (va_Qi (fun (r : Int32) (u : Unit) => post r) (fun u t => va_P (dC, dI) clZ (wM cI cL cZ q MA MD MF MG ML MN MP MT MV) t.heap) (aM q)) ([.ref (q 0), .int a1]).toArray s 0 0 (aM q) := ⟨_, rfl⟩
  rw [← hQ]
  rw [wp_M_save] at hwp
  refine lv_aload_n hx hb d_M_save_0 rfl (lv_at hl 0 rfl) ?_
  refine lv_iload_n hx hb d_M_save_1 rfl (lv_at hl 1 rfl) ?_
  refine ncn_i (As := [.int a1]) (c_M_active hq (MA) (MD) (MF) (MG) (ML) (MN) (MP) (MT) (MV) (a1) _ hwp) (cwV 1 hts g_M_162 rfl rfl rfl hd_M_active ⟨Nat.le_of_ble_eq_true rfl, Nat.le_of_ble_eq_true rfl⟩) hx hb hml hown hts hK hP hS hl.1 d_M_save_2 (va_recv (q := (R_M, F_M, 39)) hK hP (ci := 7) (q0 := 0) rfl rfl) rfl (lv_room (Nat.le_of_ble_eq_true rfl)) (Nat.zero_le _) (Nat.zero_le _) rfl (fun r1 u H locs hwp hP hS => ?_)
  have hP : va_P (dC, dI) clZ (wM cI cL cZ q MA MD MF MG ML MN MP MT MV) H := hP
  refine lv_if_ne (tgt := 12) hx hb d_M_save_5 (by decide) (fun hc => ?_) (fun hc => ?_)
  · rw [if_neg hc] at hwp
    refine lv_aload_n hx hb d_M_save_12 rfl (lv_at hl 0 rfl) ?_
    refine lv_iload_n hx hb d_M_save_13 rfl (lv_at hl 1 rfl) ?_
    refine ncn_i (As := [.int a1]) (c_M_busy hq (MA) (MD) (MF) (MG) (ML) (MN) (MP) (MT) (MV) (a1) _ hwp) (cwV 1 hts g_M_233 rfl rfl rfl hd_M_busy ⟨Nat.le_of_ble_eq_true rfl, Nat.le_of_ble_eq_true rfl⟩) hx hb hml hown hts hK hP hS hl.1 d_M_save_14 (va_recv (q := (R_M, F_M, 39)) hK hP (ci := 7) (q0 := 0) rfl rfl) rfl (lv_room (Nat.le_of_ble_eq_true rfl)) (Nat.zero_le _) (Nat.zero_le _) rfl (fun r2 u H locs hwp hP hS => ?_)
    have hP : va_P (dC, dI) clZ (wM cI cL cZ q MA MD MF MG ML MN MP MT MV) H := hP
    refine lv_if_eq (tgt := 25) hx hb d_M_save_17 (by decide) (fun hc => ?_) (fun hc => ?_)
    · rw [if_pos hc] at hwp
      refine lv_aload_n hx hb d_M_save_25 rfl (lv_at hl 0 rfl) ?_
      refine ncn_i (As := []) (c_M_last hq (MA) (MD) (MF) (MG) (ML) (MN) (MP) (MT) (MV)  _ hwp) (cwV 0 hts g_M_128 rfl rfl rfl hd_M_last ⟨Nat.le_of_ble_eq_true rfl, Nat.le_of_ble_eq_true rfl⟩) hx hb hml hown hts hK hP hS hl.1 d_M_save_26 (va_recv (q := (R_M, F_M, 39)) hK hP (ci := 7) (q0 := 0) rfl rfl) rfl (lv_room (Nat.le_of_ble_eq_true rfl)) (Nat.zero_le _) (Nat.zero_le _) rfl (fun r3 u H locs hwp hP hS => ?_)
      have hP : va_P (dC, dI) clZ (wM cI cL cZ q MA MD MF MG ML MN MP MT MV) H := hP
      rw [hQ]
      exact W.iret (v := r3) hx hb hr (fun t ht hW => ⟨⟨r3, (), rfl, hwp, hp_of ht hP⟩, hS.F ht⟩) hS.2.2 d_M_save_29
    · rw [if_neg hc] at hwp
      refine lv_bipush (v := (-4)) hx hb d_M_save_20 (by decide) ?_
      refine lv_goto hx hb d_M_save_22 (tgt := 29) (by decide) ?_
      rw [hQ]
      exact W.iret (v := (-4)) hx hb hr (fun t ht hW => ⟨⟨(-4), (), rfl, hwp, hp_of ht hP⟩, hS.F ht⟩) hS.2.2 d_M_save_29
  · rw [if_pos hc] at hwp
    refine lv_iconst (v := (-1)) hx hb d_M_save_8 (by decide) ?_
    refine lv_goto hx hb d_M_save_9 (tgt := 29) (by decide) ?_
    rw [hQ]
    exact W.iret (v := (-1)) hx hb hr (fun t ht hW => ⟨⟨(-1), (), rfl, hwp, hp_of ht hP⟩, hS.F ht⟩) hS.2.2 d_M_save_29

set_option maxHeartbeats 4000000 in
set_option maxRecDepth 100000 in
theorem c_M_rollback {l : Launch} {dC : Nat → ClassId} {dI : Nat → Nat → Nat} {cI cL cZ : ClassId} {q : Nat → Nat} (hq : iM q) (MA : S_MA) (MD : S_MD) (MF : S_MF) (MG : S_MG) (ML : S_ML) (MN : S_MN) (MP : S_MP) (MT : S_MT) (MV : S_MV) (a1 : Int32) (a2 : Int32) (post : Int32 → S_MA → S_MD → S_MG → Prop) (hwp : wp_M_rollback MA MD MG MT a1 a2 post) : Met l y_M_rollback ws_M_rollback rm_M_rollback (va_Pc [.ref (q 0), .int a1, .int a2] (bM dC dI cI cL cZ q MA MD MF MG ML MN MP MT MV)) (va_Qi (fun (r : Int32) (u : S_MA × S_MD × S_MG) => post r u.1 u.2.1 u.2.2) (fun u t => va_P (dC, dI) clZ (wM cI cL cZ q (u.1) (u.2.1) MF (u.2.2) ML MN MP MT MV) t.heap) (aM q)) 0 0 (aM q) := by
  refine Met.ofW (cc := b_M_rollback) (maxL := 3) (ret := (some .int)) (by decide) rfl ?_
  intro p e s m args below meth c s₁ B hml hv
  obtain ⟨rfl, hP, hK⟩ := hv
  have hx := B.exec
  have hb := B.bytes
  have hr := B.returns
  have hts := atoms_spec (ws := ws_M_rollback) B.pre
  have hown : s.vm.findClass R_M = some m.cls := findClass_of_methodNamed B.named
  have hlocks := B.notSynchronized
  have hiM : ∀ w ∈ u_ws R_M F_M 39, w ∈ ws_M_rollback := fun w h => List.mem_cons_of_mem _ (in_M w h)
  have lk68 := hts _ (List.mem_cons_of_mem _ k_M_68)
  have hS : va_S (aM q) s.heap s.heap [] := va_S.rf
  have hl := lv_entry ([.ref (q 0), .int a1, .int a2]) (n := 3) (Nat.le_of_ble_eq_true rfl)
  rw [lg_entry_eq]
  generalize (lg_sl ([.ref (q 0), .int a1, .int a2]) ++ List.replicate (3 - (lg_sl ([.ref (q 0), .int a1, .int a2])).length) Slot.unset).toArray = ls at hl ⊢
  have hl : lv_has ls 3 [(0, .ref (q 0)), (1, .int a1), (2, .int a2)] := hl
  obtain ⟨Q, hQ⟩ : ∃ Q, Q = MQ below (va_Qi (fun (r : Int32) (u : S_MA × S_MD × S_MG) => post r u.1 u.2.1 u.2.2) (fun u t => va_P (dC, dI) clZ (wM cI cL cZ q (u.1) (u.2.1) MF (u.2.2) ML MN MP MT MV) t.heap) (aM q)) ([.ref (q 0), .int a1, .int a2]).toArray s 0 0 (aM q) := ⟨_, rfl⟩
  rw [← hQ]
  rw [wp_M_rollback] at hwp
  refine lv_aload_n hx hb d_M_rollback_0 rfl (lv_at hl 0 rfl) ?_
  refine lv_iload_n hx hb d_M_rollback_1 rfl (lv_at hl 1 rfl) ?_
  refine ncn_i (As := [.int a1]) (c_M_active hq (MA) (MD) (MF) (MG) (ML) (MN) (MP) (MT) (MV) (a1) _ hwp) (cwV 1 hts g_M_162 rfl rfl rfl hd_M_active ⟨Nat.le_of_ble_eq_true rfl, Nat.le_of_ble_eq_true rfl⟩) hx hb hml hown hts hK hP hS hl.1 d_M_rollback_2 (va_recv (q := (R_M, F_M, 39)) hK hP (ci := 7) (q0 := 0) rfl rfl) rfl (lv_room (Nat.le_of_ble_eq_true rfl)) (Nat.zero_le _) (Nat.zero_le _) rfl (fun r1 u H locs hwp hP hS => ?_)
  have hP : va_P (dC, dI) clZ (wM cI cL cZ q MA MD MF MG ML MN MP MT MV) H := hP
  refine lv_if_eq (tgt := 26) hx hb d_M_rollback_5 (by decide) (fun hc => ?_) (fun hc => ?_)
  · rw [if_pos hc] at hwp
    refine lv_iconst (v := (-1)) hx hb d_M_rollback_26 (by decide) ?_
    rw [hQ]
    exact W.iret (v := (-1)) hx hb hr (fun t ht hW => ⟨⟨(-1), (MA, MD, MG), rfl, hwp, hp_of ht hP⟩, hS.F ht⟩) hS.2.2 d_M_rollback_27
  · rw [if_neg hc] at hwp
    refine lv_iload_n hx hb d_M_rollback_8 rfl (lv_at hl 2 rfl) ?_
    refine lv_aload_n hx hb d_M_rollback_9 rfl (lv_at hl 0 rfl) ?_
    refine va_get (D := (dC, dI)) (ci := 7) (v := .ref (q 20)) (C := R_M) (T := F_M) (N := 39) hx hb hts hiM hown hK hP 0 rfl rfl 25 (by decide) lk68 (fun _ h9 => h9) rfl d_M_rollback_10 ?_
    refine lv_iload_n hx hb d_M_rollback_13 rfl (lv_at hl 1 rfl) ?_
    refine va_iald hx hb hK hP 20 0 rfl rfl hwp.1 d_M_rollback_14 ?_
    have hwp := hwp.2
    refine lv_icmp_lt (tgt := 26) hx hb d_M_rollback_15 (by decide) (fun hc => ?_) (fun hc => ?_)
    · rw [if_pos hc] at hwp
      refine lv_iconst (v := (-1)) hx hb d_M_rollback_26 (by decide) ?_
      rw [hQ]
      exact W.iret (v := (-1)) hx hb hr (fun t ht hW => ⟨⟨(-1), (MA, MD, MG), rfl, hwp, hp_of ht hP⟩, hS.F ht⟩) hS.2.2 d_M_rollback_27
    · rw [if_neg hc] at hwp
      refine lv_iload_n hx hb d_M_rollback_18 rfl (lv_at hl 2 rfl) ?_
      refine lv_aload_n hx hb d_M_rollback_19 rfl (lv_at hl 0 rfl) ?_
      refine ncn_i (As := []) (c_M_last hq (MA) (MD) (MF) (MG) (ML) (MN) (MP) (MT) (MV)  _ hwp) (cwV 0 hts g_M_128 rfl rfl rfl hd_M_last ⟨Nat.le_of_ble_eq_true rfl, Nat.le_of_ble_eq_true rfl⟩) hx hb hml hown hts hK hP hS hl.1 d_M_rollback_20 (va_recv (q := (R_M, F_M, 39)) hK hP (ci := 7) (q0 := 0) rfl rfl) rfl (lv_room (Nat.le_of_ble_eq_true rfl)) (Nat.zero_le _) (Nat.zero_le _) rfl (fun r2 u H locs hwp hP hS => ?_)
      have hP : va_P (dC, dI) clZ (wM cI cL cZ q MA MD MF MG ML MN MP MT MV) H := hP
      refine lv_icmp_le (tgt := 28) hx hb d_M_rollback_23 (by decide) (fun hc => ?_) (fun hc => ?_)
      · rw [if_pos hc] at hwp
        refine lv_aload_n hx hb d_M_rollback_28 rfl (lv_at hl 0 rfl) ?_
        refine lv_iload_n hx hb d_M_rollback_29 rfl (lv_at hl 1 rfl) ?_
        refine ncn_i (As := [.int a1]) (c_M_busy hq (MA) (MD) (MF) (MG) (ML) (MN) (MP) (MT) (MV) (a1) _ hwp) (cwV 1 hts g_M_233 rfl rfl rfl hd_M_busy ⟨Nat.le_of_ble_eq_true rfl, Nat.le_of_ble_eq_true rfl⟩) hx hb hml hown hts hK hP hS hl.1 d_M_rollback_30 (va_recv (q := (R_M, F_M, 39)) hK hP (ci := 7) (q0 := 0) rfl rfl) rfl (lv_room (Nat.le_of_ble_eq_true rfl)) (Nat.zero_le _) (Nat.zero_le _) rfl (fun r3 u H locs hwp hP hS => ?_)
        have hP : va_P (dC, dI) clZ (wM cI cL cZ q MA MD MF MG ML MN MP MT MV) H := hP
        refine lv_if_eq (tgt := 41) hx hb d_M_rollback_33 (by decide) (fun hc => ?_) (fun hc => ?_)
        · rw [if_pos hc] at hwp
          refine lv_aload_n hx hb d_M_rollback_41 rfl (lv_at hl 0 rfl) ?_
          refine lv_iload_n hx hb d_M_rollback_42 rfl (lv_at hl 1 rfl) ?_
          refine lv_iload_n hx hb d_M_rollback_43 rfl (lv_at hl 2 rfl) ?_
          refine ncn_i (As := [.int a1, .int a2]) (c_M_undoes hq (MA) (MD) (MF) (MG) (ML) (MN) (MP) (MT) (MV) (a1) (a2) _ hwp) (cwV 2 hts g_M_252 rfl rfl rfl hd_M_undoes ⟨Nat.le_of_ble_eq_true rfl, Nat.le_of_ble_eq_true rfl⟩) hx hb hml hown hts hK hP hS hl.1 d_M_rollback_44 (va_recv (q := (R_M, F_M, 39)) hK hP (ci := 7) (q0 := 0) rfl rfl) rfl (lv_room (Nat.le_of_ble_eq_true rfl)) (Nat.zero_le _) (Nat.zero_le _) rfl (fun r4 u H locs hwp hP hS => ?_)
          obtain ⟨MA5, MD6, MG7⟩ := u
          have hP : va_P (dC, dI) clZ (wM cI cL cZ q MA5 MD6 MF MG7 ML MN MP MT MV) H := hP
          rw [hQ]
          exact W.iret (v := r4) hx hb hr (fun t ht hW => ⟨⟨r4, (MA5, MD6, MG7), rfl, hwp, hp_of ht hP⟩, hS.F ht⟩) hS.2.2 d_M_rollback_47
        · rw [if_neg hc] at hwp
          refine lv_bipush (v := (-4)) hx hb d_M_rollback_36 (by decide) ?_
          refine lv_goto hx hb d_M_rollback_38 (tgt := 47) (by decide) ?_
          rw [hQ]
          exact W.iret (v := (-4)) hx hb hr (fun t ht hW => ⟨⟨(-4), (MA, MD, MG), rfl, hwp, hp_of ht hP⟩, hS.F ht⟩) hS.2.2 d_M_rollback_47
      · rw [if_neg hc] at hwp
        refine lv_iconst (v := (-1)) hx hb d_M_rollback_26 (by decide) ?_
        rw [hQ]
        exact W.iret (v := (-1)) hx hb hr (fun t ht hW => ⟨⟨(-1), (MA, MD, MG), rfl, hwp, hp_of ht hP⟩, hS.F ht⟩) hS.2.2 d_M_rollback_27

set_option maxHeartbeats 4000000 in
set_option maxRecDepth 100000 in
theorem c_M_write {l : Launch} {dC : Nat → ClassId} {dI : Nat → Nat → Nat} {cI cL cZ : ClassId} {q : Nat → Nat} (hq : iM q) (MA : S_MA) (MD : S_MD) (MF : S_MF) (MG : S_MG) (ML : S_ML) (MN : S_MN) (MP : S_MP) (MT : S_MT) (MV : S_MV) (a1 : Int32) (post : Int32 → S_MA → S_MD → S_MG → Prop) (hwp : wp_M_write MA MD MG a1 post) : Met l y_M_write ws_M_write rm_M_write (va_Pc [.ref (q 0), .int a1] (bM dC dI cI cL cZ q MA MD MF MG ML MN MP MT MV)) (va_Qi (fun (r : Int32) (u : S_MA × S_MD × S_MG) => post r u.1 u.2.1 u.2.2) (fun u t => va_P (dC, dI) clZ (wM cI cL cZ q (u.1) (u.2.1) MF (u.2.2) ML MN MP MT MV) t.heap) (aM q)) 0 0 (aM q) := by
  refine Met.ofW (cc := b_M_write) (maxL := 2) (ret := (some .boolean)) (by decide) rfl ?_
  intro p e s m args below meth c s₁ B hml hv
  obtain ⟨rfl, hP, hK⟩ := hv
  have hx := B.exec
  have hb := B.bytes
  have hr := B.returns
  have hts := atoms_spec (ws := ws_M_write) B.pre
  have hown : s.vm.findClass R_M = some m.cls := findClass_of_methodNamed B.named
  have hlocks := B.notSynchronized
  have hiM : ∀ w ∈ u_ws R_M F_M 39, w ∈ ws_M_write := fun w h => List.mem_cons_of_mem _ (in_M w h)
  have lk29 := hts _ (List.mem_cons_of_mem _ k_M_29)
  have lk32 := hts _ (List.mem_cons_of_mem _ k_M_32)
  have hS : va_S (aM q) s.heap s.heap [] := va_S.rf
  have hl := lv_entry ([.ref (q 0), .int a1]) (n := 2) (Nat.le_of_ble_eq_true rfl)
  rw [lg_entry_eq]
  generalize (lg_sl ([.ref (q 0), .int a1]) ++ List.replicate (2 - (lg_sl ([.ref (q 0), .int a1])).length) Slot.unset).toArray = ls at hl ⊢
  have hl : lv_has ls 2 [(0, .ref (q 0)), (1, .int a1)] := hl
  obtain ⟨Q, hQ⟩ : ∃ Q, Q = MQ below (va_Qi (fun (r : Int32) (u : S_MA × S_MD × S_MG) => post r u.1 u.2.1 u.2.2) (fun u t => va_P (dC, dI) clZ (wM cI cL cZ q (u.1) (u.2.1) MF (u.2.2) ML MN MP MT MV) t.heap) (aM q)) ([.ref (q 0), .int a1]).toArray s 0 0 (aM q) := ⟨_, rfl⟩
  rw [← hQ]
  rw [wp_M_write] at hwp
  refine lv_iload_n hx hb d_M_write_0 rfl (lv_at hl 1 rfl) ?_
  refine ncs_i (As := [.int a1]) (c_M_isPage hq (MA) (MD) (MF) (MG) (ML) (MN) (MP) (MT) (MV) (a1) _ hwp) (cwS 1 hts g_M_255 rfl rfl rfl hd_M_isPage ⟨Nat.le_of_ble_eq_true rfl, Nat.le_of_ble_eq_true rfl⟩) hx hb hml hown hts hK hP hS hl.1 d_M_write_1 rfl (lv_room (Nat.le_of_ble_eq_true rfl)) (Nat.zero_le _) (Nat.zero_le _) rfl (fun r1 u H locs hwp hP hS => ?_)
  have hP : va_P (dC, dI) clZ (wM cI cL cZ q MA MD MF MG ML MN MP MT MV) H := hP
  refine lv_if_eq (tgt := 25) hx hb d_M_write_4 (by decide) (fun hc => ?_) (fun hc => ?_)
  · rw [if_pos hc] at hwp
    refine lv_iconst (v := 0) hx hb d_M_write_25 (by decide) ?_
    rw [hQ]
    exact W.zret (v := 0) hx hb hr rfl (fun t ht hW => ⟨⟨0, (MA, MD, MG), rfl, hwp, hp_of ht hP⟩, hS.F ht⟩) hS.2.2 d_M_write_26
  · rw [if_neg hc] at hwp
    refine lv_aload_n hx hb d_M_write_7 rfl (lv_at hl 0 rfl) ?_
    refine va_get (D := (dC, dI)) (ci := 7) (v := .ref (q 7)) (C := R_M) (T := F_M) (N := 39) hx hb hts hiM hown hK hP 0 rfl rfl 7 (by decide) lk29 (fun _ h9 => h9) rfl d_M_write_8 ?_
    refine lv_iload_n hx hb d_M_write_11 rfl (lv_at hl 1 rfl) ?_
    refine va_zald hx hb hK hP 7 2 rfl rfl hwp.1 d_M_write_12 ?_
    have hwp := hwp.2
    refine lv_if_eq (tgt := 25) hx hb d_M_write_13 (by decide) (fun hc => ?_) (fun hc => ?_)
    · rw [if_pos hc] at hwp
      refine lv_iconst (v := 0) hx hb d_M_write_25 (by decide) ?_
      rw [hQ]
      exact W.zret (v := 0) hx hb hr rfl (fun t ht hW => ⟨⟨0, (MA, MD, MG), rfl, hwp, hp_of ht hP⟩, hS.F ht⟩) hS.2.2 d_M_write_26
    · rw [if_neg hc] at hwp
      refine lv_aload_n hx hb d_M_write_16 rfl (lv_at hl 0 rfl) ?_
      refine va_get (D := (dC, dI)) (ci := 7) (v := .ref (q 8)) (C := R_M) (T := F_M) (N := 39) hx hb hts hiM hown hK hP 0 rfl rfl 8 (by decide) lk32 (fun _ h9 => h9) rfl d_M_write_17 ?_
      refine lv_iload_n hx hb d_M_write_20 rfl (lv_at hl 1 rfl) ?_
      refine va_zald hx hb hK hP 8 2 rfl rfl hwp.1 d_M_write_21 ?_
      have hwp := hwp.2
      refine lv_if_ne (tgt := 27) hx hb d_M_write_22 (by decide) (fun hc => ?_) (fun hc => ?_)
      · rw [if_neg hc] at hwp
        refine lv_aload_n hx hb d_M_write_27 rfl (lv_at hl 0 rfl) ?_
        refine lv_iload_n hx hb d_M_write_28 rfl (lv_at hl 1 rfl) ?_
        refine ncn_v (As := [.int a1]) (c_M_writes hq (MA) (MD) (MF) (MG) (ML) (MN) (MP) (MT) (MV) (a1) _ hwp) (cwV 1 hts g_M_111 rfl rfl rfl hd_M_writes ⟨Nat.le_of_ble_eq_true rfl, Nat.le_of_ble_eq_true rfl⟩) hx hb hml hown hts hK hP hS hl.1 d_M_write_29 (va_recv (q := (R_M, F_M, 39)) hK hP (ci := 7) (q0 := 0) rfl rfl) rfl (lv_room (Nat.le_of_ble_eq_true rfl)) (Nat.zero_le _) (Nat.zero_le _) rfl (fun u H locs hwp hP hS => ?_)
        obtain ⟨MA2, MD3, MG4⟩ := u
        have hP : va_P (dC, dI) clZ (wM cI cL cZ q MA2 MD3 MF MG4 ML MN MP MT MV) H := hP
        refine lv_iconst (v := 1) hx hb d_M_write_32 (by decide) ?_
        rw [hQ]
        exact W.zret (v := 1) hx hb hr rfl (fun t ht hW => ⟨⟨1, (MA2, MD3, MG4), rfl, hwp, hp_of ht hP⟩, hS.F ht⟩) hS.2.2 d_M_write_33
      · rw [if_pos hc] at hwp
        refine lv_iconst (v := 0) hx hb d_M_write_25 (by decide) ?_
        rw [hQ]
        exact W.zret (v := 0) hx hb hr rfl (fun t ht hW => ⟨⟨0, (MA, MD, MG), rfl, hwp, hp_of ht hP⟩, hS.F ht⟩) hS.2.2 d_M_write_26

set_option maxHeartbeats 4000000 in
set_option maxRecDepth 100000 in
theorem c_M_archive {l : Launch} {dC : Nat → ClassId} {dI : Nat → Nat → Nat} {cI cL cZ : ClassId} {q : Nat → Nat} (hq : iM q) (MA : S_MA) (MD : S_MD) (MF : S_MF) (MG : S_MG) (ML : S_ML) (MN : S_MN) (MP : S_MP) (MT : S_MT) (MV : S_MV)  (post : Int32 → S_MA → S_MD → S_MG → Prop) (hwp : wp_M_archive MA MD MG MT post) : Met l y_M_archive ws_M_archive rm_M_archive (va_Pc [.ref (q 0)] (bM dC dI cI cL cZ q MA MD MF MG ML MN MP MT MV)) (va_Qi (fun (r : Int32) (u : S_MA × S_MD × S_MG) => post r u.1 u.2.1 u.2.2) (fun u t => va_P (dC, dI) clZ (wM cI cL cZ q (u.1) (u.2.1) MF (u.2.2) ML MN MP MT MV) t.heap) (aM q)) 0 0 (aM q) := by
  refine Met.ofW (cc := b_M_archive) (maxL := 3) (ret := (some .int)) (by decide) rfl ?_
  intro p e s m args below meth c s₁ B hml hv
  obtain ⟨rfl, hP, hK⟩ := hv
  have hx := B.exec
  have hb := B.bytes
  have hr := B.returns
  have hts := atoms_spec (ws := ws_M_archive) B.pre
  have hown : s.vm.findClass R_M = some m.cls := findClass_of_methodNamed B.named
  have hlocks := B.notSynchronized
  have hiM : ∀ w ∈ u_ws R_M F_M 39, w ∈ ws_M_archive := fun w h => List.mem_cons_of_mem _ (in_M w h)
  have lk105 := hts _ (List.mem_cons_of_mem _ k_M_105)
  have lk115 := hts _ (List.mem_cons_of_mem _ k_M_115)
  have lk118 := hts _ (List.mem_cons_of_mem _ k_M_118)
  have hS : va_S (aM q) s.heap s.heap [] := va_S.rf
  have hl := lv_entry ([.ref (q 0)]) (n := 3) (Nat.le_of_ble_eq_true rfl)
  rw [lg_entry_eq]
  generalize (lg_sl ([.ref (q 0)]) ++ List.replicate (3 - (lg_sl ([.ref (q 0)])).length) Slot.unset).toArray = ls at hl ⊢
  have hl : lv_has ls 3 [(0, .ref (q 0))] := hl
  obtain ⟨Q, hQ⟩ : ∃ Q, Q = MQ below (va_Qi (fun (r : Int32) (u : S_MA × S_MD × S_MG) => post r u.1 u.2.1 u.2.2) (fun u t => va_P (dC, dI) clZ (wM cI cL cZ q (u.1) (u.2.1) MF (u.2.2) ML MN MP MT MV) t.heap) (aM q)) ([.ref (q 0)]).toArray s 0 0 (aM q) := ⟨_, rfl⟩
  rw [← hQ]
  have L13 : ∀ (Kx : Int32 → S_MA → S_MD → S_MG → Prop) (n : Nat) (v1 : Int32) (v2 : Int32) (MA : S_MA) (MD : S_MD) (MG : S_MG) (H : Heap) (locs : List Loc) (ls : Array Slot), lv_has ls 3 [(0, .ref (q 0)), (1, .int v1), (2, .int v2)] → va_P (dC, dI) clZ (wM cI cL cZ q MA MD MF MG ML MN MP MT MV) H → va_S (aM q) s.heap H locs → wp_M_archive_L13 Kx n v1 v2 MA MD MG → (∀ (x1 : Int32) (MA1 : S_MA) (MD1 : S_MD) (MG1 : S_MG) (H : Heap) (locs : List Loc) (ls : Array Slot), lv_has ls 3 [(0, .ref (q 0)), (1, .int x1)] → va_P (dC, dI) clZ (wM cI cL cZ q MA1 MD1 MF MG1 ML MN MP MT MV) H → va_S (aM q) s.heap H locs → Kx x1 MA1 MD1 MG1 → W p l e (headSpec ws_M_archive rm_M_archive).room s m ([.ref (q 0)]).toArray below meth c H locs 0 0 Q (F0 m 41 ls [])) → W p l e (headSpec ws_M_archive rm_M_archive).room s m ([.ref (q 0)]).toArray below meth c H locs 0 0 Q (F0 m 13 ls []) := by
    intro Kx  n
    induction n with
    | zero =>
      intros
      rename_i hwp _
      exact hwp.elim
    | succ n13 ih =>
      intro v1 v2 MA MD MG H locs ls hl hP hS hwp hX
      rw [wp_M_archive_L13] at hwp
      refine lv_iload_n hx hb d_M_archive_13 rfl (lv_at hl 2 rfl) ?_
      refine lv_bipush (v := 8) hx hb d_M_archive_14 (by decide) ?_
      refine lv_icmp_ge (tgt := 41) hx hb d_M_archive_16 (by decide) (fun hc => ?_) (fun hc => ?_)
      · rw [if_pos hc] at hwp
        exact hX (v1) (MA) (MD) (MG) _ _ _ (lv_sub hl [0, 1] rfl) hP hS hwp
      · rw [if_neg hc] at hwp
        refine lv_iload_n hx hb d_M_archive_19 rfl (lv_at hl 1 rfl) ?_
        refine lv_aload_n hx hb d_M_archive_20 rfl (lv_at hl 0 rfl) ?_
        refine lv_iload_n hx hb d_M_archive_21 rfl (lv_at hl 2 rfl) ?_
        refine ncn_i (As := [.int v2]) (c_M_write hq (MA) (MD) (MF) (MG) (ML) (MN) (MP) (MT) (MV) (v2) _ hwp) (cwV 1 hts g_M_258 rfl rfl rfl hd_M_write ⟨Nat.le_of_ble_eq_true rfl, Nat.le_of_ble_eq_true rfl⟩) hx hb hml hown hts hK hP hS hl.1 d_M_archive_22 (va_recv (q := (R_M, F_M, 39)) hK hP (ci := 7) (q0 := 0) rfl rfl) rfl (lv_room (Nat.le_of_ble_eq_true rfl)) (Nat.zero_le _) (Nat.zero_le _) rfl (fun r2 u H locs hwp hP hS => ?_)
        obtain ⟨MA3, MD4, MG5⟩ := u
        have hP : va_P (dC, dI) clZ (wM cI cL cZ q MA3 MD4 MF MG5 ML MN MP MT MV) H := hP
        refine lv_if_eq (tgt := 32) hx hb d_M_archive_25 (by decide) (fun hc => ?_) (fun hc => ?_)
        · rw [if_pos hc] at hwp
          refine lv_iconst (v := 0) hx hb d_M_archive_32 (by decide) ?_
          refine lv_iadd hx hb d_M_archive_33 ?_
          refine lv_istore_n (lv' := [(1, .int (v1 + 0)), (0, .ref (q 0)), (2, .int v2)]) hx hb d_M_archive_34 rfl hl (by decide) rfl (fun ls hl => ?_)
          refine lv_iinc (k := 2) (v := (v2 + 1)) (lv' := [(2, .int (v2 + 1)), (1, .int (v1 + 0)), (0, .ref (q 0))]) hx hb d_M_archive_35 hl rfl (ii_1 _) (by decide) rfl (fun ls hl => ?_)
          refine lv_goto hx hb d_M_archive_38 (tgt := 13) (by decide) ?_
          exact ih ((v1 + 0)) ((v2 + 1)) (MA3) (MD4) (MG5) _ _ _ (lv_sub hl [2, 1, 0] rfl) hP hS hwp hX
        · rw [if_neg hc] at hwp
          refine lv_iconst (v := 1) hx hb d_M_archive_28 (by decide) ?_
          refine lv_goto hx hb d_M_archive_29 (tgt := 33) (by decide) ?_
          refine lv_iadd hx hb d_M_archive_33 ?_
          refine lv_istore_n (lv' := [(1, .int (v1 + 1)), (0, .ref (q 0)), (2, .int v2)]) hx hb d_M_archive_34 rfl hl (by decide) rfl (fun ls hl => ?_)
          refine lv_iinc (k := 2) (v := (v2 + 1)) (lv' := [(2, .int (v2 + 1)), (1, .int (v1 + 1)), (0, .ref (q 0))]) hx hb d_M_archive_35 hl rfl (ii_1 _) (by decide) rfl (fun ls hl => ?_)
          refine lv_goto hx hb d_M_archive_38 (tgt := 13) (by decide) ?_
          exact ih ((v1 + 1)) ((v2 + 1)) (MA3) (MD4) (MG5) _ _ _ (lv_sub hl [2, 1, 0] rfl) hP hS hwp hX
  rw [wp_M_archive] at hwp
  refine lv_aload_n hx hb d_M_archive_0 rfl (lv_at hl 0 rfl) ?_
  refine ncn_i (As := []) (c_M_lives hq (MA) (MD) (MF) (MG) (ML) (MN) (MP) (MT) (MV)  _ hwp) (cwV 0 hts g_M_156 rfl rfl rfl hd_M_lives ⟨Nat.le_of_ble_eq_true rfl, Nat.le_of_ble_eq_true rfl⟩) hx hb hml hown hts hK hP hS hl.1 d_M_archive_1 (va_recv (q := (R_M, F_M, 39)) hK hP (ci := 7) (q0 := 0) rfl rfl) rfl (lv_room (Nat.le_of_ble_eq_true rfl)) (Nat.zero_le _) (Nat.zero_le _) rfl (fun r1 u H locs hwp hP hS => ?_)
  have hP : va_P (dC, dI) clZ (wM cI cL cZ q MA MD MF MG ML MN MP MT MV) H := hP
  refine lv_if_le (tgt := 9) hx hb d_M_archive_4 (by decide) (fun hc => ?_) (fun hc => ?_)
  · rw [if_pos hc] at hwp
    refine lv_iconst (v := 0) hx hb d_M_archive_9 (by decide) ?_
    refine lv_istore_n (lv' := [(1, .int 0), (0, .ref (q 0))]) hx hb d_M_archive_10 rfl hl (by decide) rfl (fun ls hl => ?_)
    refine lv_iconst (v := 0) hx hb d_M_archive_11 (by decide) ?_
    refine lv_istore_n (lv' := [(2, .int 0), (1, .int 0), (0, .ref (q 0))]) hx hb d_M_archive_12 rfl hl (by decide) rfl (fun ls hl => ?_)
    obtain ⟨e13, hwp⟩ := hwp
    refine L13 _  e13 (0) (0) (MA) (MD) (MG) _ _ _ (lv_sub hl [2, 1, 0] rfl) hP hS hwp (fun x6 MA7 MD8 MG9 H locs ls hl hP hS hwp => ?_)
    refine lv_aload_n hx hb d_M_archive_41 rfl (lv_at hl 0 rfl) ?_
    refine lv_aload_n hx hb d_M_archive_42 rfl (lv_at hl 0 rfl) ?_
    refine ncn_i (As := []) (c_M_last hq (MA7) (MD8) (MF) (MG9) (ML) (MN) (MP) (MT) (MV)  _ hwp) (cwV 0 hts g_M_128 rfl rfl rfl hd_M_last ⟨Nat.le_of_ble_eq_true rfl, Nat.le_of_ble_eq_true rfl⟩) hx hb hml hown hts hK hP hS hl.1 d_M_archive_43 (va_recv (q := (R_M, F_M, 39)) hK hP (ci := 7) (q0 := 0) rfl rfl) rfl (lv_room (Nat.le_of_ble_eq_true rfl)) (Nat.zero_le _) (Nat.zero_le _) rfl (fun r10 u H locs hwp hP hS => ?_)
    have hP : va_P (dC, dI) clZ (wM cI cL cZ q MA7 MD8 MF MG9 ML MN MP MT MV) H := hP
    refine va_put (D := (dC, dI)) (ci := 7) (v := .int r10) (ty := .int) (C := R_M) (T := F_M) (N := 39) hx hb hts hiM ty_M ty_M_ok nmx_M hown hK hP (dM hq) hS 0 rfl rfl 11 (by decide) lk115 (fun _ h9 => h9) rfl (by decide +kernel) rfl rfl (Nat.le_of_ble_eq_true rfl) d_M_archive_46 (fun H locs hP _ hS => ?_)
    have hP : va_P (dC, dI) clZ (wM cI cL cZ q MA7 MD8 MF (MG_base' MG9 r10) ML MN MP MT MV) H := hP
    refine lv_aload_n hx hb d_M_archive_49 rfl (lv_at hl 0 rfl) ?_
    refine lv_iconst (v := 0) hx hb d_M_archive_50 (by decide) ?_
    refine va_put (D := (dC, dI)) (ci := 7) (v := .int 0) (ty := .int) (C := R_M) (T := F_M) (N := 39) hx hb hts hiM ty_M ty_M_ok nmx_M hown hK hP (dM hq) hS 0 rfl rfl 12 (by decide) lk118 (fun _ h9 => h9) rfl (by decide +kernel) rfl rfl (Nat.le_of_ble_eq_true rfl) d_M_archive_51 (fun H locs hP _ hS => ?_)
    have hP : va_P (dC, dI) clZ (wM cI cL cZ q MA7 MD8 MF (MG_records' (MG_base' MG9 r10) 0) ML MN MP MT MV) H := hP
    refine lv_aload_n hx hb d_M_archive_54 rfl (lv_at hl 0 rfl) ?_
    refine lv_aload_n hx hb d_M_archive_55 rfl (lv_at hl 0 rfl) ?_
    refine va_get (D := (dC, dI)) (ci := 7) (v := .int r10) (C := R_M) (T := F_M) (N := 39) hx hb hts hiM hown hK hP 0 rfl rfl 11 (by decide) lk115 (fun _ h9 => h9) rfl d_M_archive_56 ?_
    refine va_put (D := (dC, dI)) (ci := 7) (v := .int r10) (ty := .int) (C := R_M) (T := F_M) (N := 39) hx hb hts hiM ty_M ty_M_ok nmx_M hown hK hP (dM hq) hS 0 rfl rfl 13 (by decide) lk105 (fun _ h9 => h9) rfl (by decide +kernel) rfl rfl (Nat.le_of_ble_eq_true rfl) d_M_archive_59 (fun H locs hP _ hS => ?_)
    have hP : va_P (dC, dI) clZ (wM cI cL cZ q MA7 MD8 MF (MG_flushed' (MG_records' (MG_base' MG9 r10) 0) r10) ML MN MP MT MV) H := hP
    refine lv_iload_n hx hb d_M_archive_62 rfl (lv_at hl 1 rfl) ?_
    rw [hQ]
    exact W.iret (v := x6) hx hb hr (fun t ht hW => ⟨⟨x6, (MA7, MD8, (MG_flushed' (MG_records' (MG_base' MG9 r10) 0) r10)), rfl, hwp, hp_of ht hP⟩, hS.F ht⟩) hS.2.2 d_M_archive_63
  · rw [if_neg hc] at hwp
    refine lv_iconst (v := (-1)) hx hb d_M_archive_7 (by decide) ?_
    rw [hQ]
    exact W.iret (v := (-1)) hx hb hr (fun t ht hW => ⟨⟨(-1), (MA, MD, MG), rfl, hwp, hp_of ht hP⟩, hS.F ht⟩) hS.2.2 d_M_archive_8

set_option maxHeartbeats 4000000 in
set_option maxRecDepth 100000 in
theorem c_M_committed {l : Launch} {dC : Nat → ClassId} {dI : Nat → Nat → Nat} {cI cL cZ : ClassId} {q : Nat → Nat} (hq : iM q) (MA : S_MA) (MD : S_MD) (MF : S_MF) (MG : S_MG) (ML : S_ML) (MN : S_MN) (MP : S_MP) (MT : S_MT) (MV : S_MV) (a1 : Int32) (post : Int32 → Prop) (hwp : wp_M_committed MG a1 post) : Met l y_M_committed ws_M_committed rm_M_committed (va_Pc [.ref (q 0), .int a1] (bM dC dI cI cL cZ q MA MD MF MG ML MN MP MT MV)) (va_Qi (fun (r : Int32) (u : Unit) => post r) (fun u t => va_P (dC, dI) clZ (wM cI cL cZ q MA MD MF MG ML MN MP MT MV) t.heap) (aM q)) 0 0 (aM q) := by
  refine Met.ofW (cc := b_M_committed) (maxL := 4) (ret := (some .boolean)) (by decide) rfl ?_
  intro p e s m args below meth c s₁ B hml hv
  obtain ⟨rfl, hP, hK⟩ := hv
  have hx := B.exec
  have hb := B.bytes
  have hr := B.returns
  have hts := atoms_spec (ws := ws_M_committed) B.pre
  have hown : s.vm.findClass R_M = some m.cls := findClass_of_methodNamed B.named
  have hlocks := B.notSynchronized
  have hiM : ∀ w ∈ u_ws R_M F_M 39, w ∈ ws_M_committed := fun w h => List.mem_cons_of_mem _ (in_M w h)
  have lk38 := hts _ (List.mem_cons_of_mem _ k_M_38)
  have lk41 := hts _ (List.mem_cons_of_mem _ k_M_41)
  have lk118 := hts _ (List.mem_cons_of_mem _ k_M_118)
  have hS : va_S (aM q) s.heap s.heap [] := va_S.rf
  have hl := lv_entry ([.ref (q 0), .int a1]) (n := 4) (Nat.le_of_ble_eq_true rfl)
  rw [lg_entry_eq]
  generalize (lg_sl ([.ref (q 0), .int a1]) ++ List.replicate (4 - (lg_sl ([.ref (q 0), .int a1])).length) Slot.unset).toArray = ls at hl ⊢
  have hl : lv_has ls 4 [(0, .ref (q 0)), (1, .int a1)] := hl
  obtain ⟨Q, hQ⟩ : ∃ Q, Q = MQ below (va_Qi (fun (r : Int32) (u : Unit) => post r) (fun u t => va_P (dC, dI) clZ (wM cI cL cZ q MA MD MF MG ML MN MP MT MV) t.heap) (aM q)) ([.ref (q 0), .int a1]).toArray s 0 0 (aM q) := ⟨_, rfl⟩
  rw [← hQ]
  have L4 : ∀ (Kx : Int32 → Prop) (v1 : Int32) (n : Nat) (v2 : Int32) (v3 : Int32) (H : Heap) (locs : List Loc) (ls : Array Slot), lv_has ls 4 [(0, .ref (q 0)), (1, .int v1), (2, .int v2), (3, .int v3)] → va_P (dC, dI) clZ (wM cI cL cZ q MA MD MF MG ML MN MP MT MV) H → va_S (aM q) s.heap H locs → wp_M_committed_L4 MG v1 Kx n v2 v3 → (∀ (x2 : Int32) (H : Heap) (locs : List Loc) (ls : Array Slot), lv_has ls 4 [(2, .int x2)] → va_P (dC, dI) clZ (wM cI cL cZ q MA MD MF MG ML MN MP MT MV) H → va_S (aM q) s.heap H locs → Kx x2 → W p l e (headSpec ws_M_committed rm_M_committed).room s m ([.ref (q 0), .int a1]).toArray below meth c H locs 0 0 Q (F0 m 48 ls [])) → W p l e (headSpec ws_M_committed rm_M_committed).room s m ([.ref (q 0), .int a1]).toArray below meth c H locs 0 0 Q (F0 m 4 ls []) := by
    intro Kx v1 n
    induction n with
    | zero =>
      intros
      rename_i hwp _
      exact hwp.elim
    | succ n4 ih =>
      intro v2 v3 H locs ls hl hP hS hwp hX
      rw [wp_M_committed_L4] at hwp
      refine lv_iload_n hx hb d_M_committed_4 rfl (lv_at hl 3 rfl) ?_
      refine lv_aload_n hx hb d_M_committed_5 rfl (lv_at hl 0 rfl) ?_
      refine va_get (D := (dC, dI)) (ci := 7) (v := .int (MG_records MG)) (C := R_M) (T := F_M) (N := 39) hx hb hts hiM hown hK hP 0 rfl rfl 12 (by decide) lk118 (fun _ h9 => h9) rfl d_M_committed_6 ?_
      refine lv_icmp_ge (tgt := 48) hx hb d_M_committed_9 (by decide) (fun hc => ?_) (fun hc => ?_)
      · rw [if_pos hc] at hwp
        exact hX (v2) _ _ _ (lv_sub hl [2] rfl) hP hS hwp
      · rw [if_neg hc] at hwp
        refine lv_iload_n hx hb d_M_committed_12 rfl (lv_at hl 2 rfl) ?_
        refine lv_if_ne (tgt := 36) hx hb d_M_committed_13 (by decide) (fun hc => ?_) (fun hc => ?_)
        · rw [if_neg hc] at hwp
          refine lv_iconst (v := 1) hx hb d_M_committed_36 (by decide) ?_
          refine lv_goto hx hb d_M_committed_37 (tgt := 41) (by decide) ?_
          refine lv_istore_n (lv' := [(2, .int 1), (0, .ref (q 0)), (1, .int v1), (3, .int v3)]) hx hb d_M_committed_41 rfl hl (by decide) rfl (fun ls hl => ?_)
          refine lv_iinc (k := 3) (v := (v3 + 1)) (lv' := [(3, .int (v3 + 1)), (2, .int 1), (0, .ref (q 0)), (1, .int v1)]) hx hb d_M_committed_42 hl rfl (ii_1 _) (by decide) rfl (fun ls hl => ?_)
          refine lv_goto hx hb d_M_committed_45 (tgt := 4) (by decide) ?_
          exact ih (1) ((v3 + 1)) _ _ _ (lv_sub hl [2, 3, 1, 0] rfl) hP hS hwp hX
        · rw [if_pos hc] at hwp
          refine lv_aload_n hx hb d_M_committed_16 rfl (lv_at hl 0 rfl) ?_
          refine va_get (D := (dC, dI)) (ci := 7) (v := .ref (q 10)) (C := R_M) (T := F_M) (N := 39) hx hb hts hiM hown hK hP 0 rfl rfl 14 (by decide) lk38 (fun _ h9 => h9) rfl d_M_committed_17 ?_
          refine lv_iload_n hx hb d_M_committed_20 rfl (lv_at hl 3 rfl) ?_
          refine va_iald hx hb hK hP 10 0 rfl rfl hwp.1 d_M_committed_21 ?_
          have hwp := hwp.2
          refine lv_iconst (v := 4) hx hb d_M_committed_22 (by decide) ?_
          refine lv_icmp_ne (tgt := 40) hx hb d_M_committed_23 (by decide) (fun hc => ?_) (fun hc => ?_)
          · rw [if_neg hc] at hwp
            refine lv_iconst (v := 0) hx hb d_M_committed_40 (by decide) ?_
            refine lv_istore_n (lv' := [(2, .int 0), (0, .ref (q 0)), (1, .int v1), (3, .int v3)]) hx hb d_M_committed_41 rfl hl (by decide) rfl (fun ls hl => ?_)
            refine lv_iinc (k := 3) (v := (v3 + 1)) (lv' := [(3, .int (v3 + 1)), (2, .int 0), (0, .ref (q 0)), (1, .int v1)]) hx hb d_M_committed_42 hl rfl (ii_1 _) (by decide) rfl (fun ls hl => ?_)
            refine lv_goto hx hb d_M_committed_45 (tgt := 4) (by decide) ?_
            exact ih (0) ((v3 + 1)) _ _ _ (lv_sub hl [2, 3, 1, 0] rfl) hP hS hwp hX
          · rw [if_pos hc] at hwp
            refine lv_aload_n hx hb d_M_committed_26 rfl (lv_at hl 0 rfl) ?_
            refine va_get (D := (dC, dI)) (ci := 7) (v := .ref (q 11)) (C := R_M) (T := F_M) (N := 39) hx hb hts hiM hown hK hP 0 rfl rfl 15 (by decide) lk41 (fun _ h9 => h9) rfl d_M_committed_27 ?_
            refine lv_iload_n hx hb d_M_committed_30 rfl (lv_at hl 3 rfl) ?_
            refine va_iald hx hb hK hP 11 0 rfl rfl hwp.1 d_M_committed_31 ?_
            have hwp := hwp.2
            refine lv_iload_n hx hb d_M_committed_32 rfl (lv_at hl 1 rfl) ?_
            refine lv_icmp_ne (tgt := 40) hx hb d_M_committed_33 (by decide) (fun hc => ?_) (fun hc => ?_)
            · rw [if_neg hc] at hwp
              refine lv_iconst (v := 0) hx hb d_M_committed_40 (by decide) ?_
              refine lv_istore_n (lv' := [(2, .int 0), (0, .ref (q 0)), (1, .int v1), (3, .int v3)]) hx hb d_M_committed_41 rfl hl (by decide) rfl (fun ls hl => ?_)
              refine lv_iinc (k := 3) (v := (v3 + 1)) (lv' := [(3, .int (v3 + 1)), (2, .int 0), (0, .ref (q 0)), (1, .int v1)]) hx hb d_M_committed_42 hl rfl (ii_1 _) (by decide) rfl (fun ls hl => ?_)
              refine lv_goto hx hb d_M_committed_45 (tgt := 4) (by decide) ?_
              exact ih (0) ((v3 + 1)) _ _ _ (lv_sub hl [2, 3, 1, 0] rfl) hP hS hwp hX
            · rw [if_pos hc] at hwp
              refine lv_iconst (v := 1) hx hb d_M_committed_36 (by decide) ?_
              refine lv_goto hx hb d_M_committed_37 (tgt := 41) (by decide) ?_
              refine lv_istore_n (lv' := [(2, .int 1), (0, .ref (q 0)), (1, .int v1), (3, .int v3)]) hx hb d_M_committed_41 rfl hl (by decide) rfl (fun ls hl => ?_)
              refine lv_iinc (k := 3) (v := (v3 + 1)) (lv' := [(3, .int (v3 + 1)), (2, .int 1), (0, .ref (q 0)), (1, .int v1)]) hx hb d_M_committed_42 hl rfl (ii_1 _) (by decide) rfl (fun ls hl => ?_)
              refine lv_goto hx hb d_M_committed_45 (tgt := 4) (by decide) ?_
              exact ih (1) ((v3 + 1)) _ _ _ (lv_sub hl [2, 3, 1, 0] rfl) hP hS hwp hX
  rw [wp_M_committed] at hwp
  refine lv_iconst (v := 0) hx hb d_M_committed_0 (by decide) ?_
  refine lv_istore_n (lv' := [(2, .int 0), (0, .ref (q 0)), (1, .int a1)]) hx hb d_M_committed_1 rfl hl (by decide) rfl (fun ls hl => ?_)
  refine lv_iconst (v := 0) hx hb d_M_committed_2 (by decide) ?_
  refine lv_istore_n (lv' := [(3, .int 0), (2, .int 0), (0, .ref (q 0)), (1, .int a1)]) hx hb d_M_committed_3 rfl hl (by decide) rfl (fun ls hl => ?_)
  obtain ⟨e4, hwp⟩ := hwp
  refine L4 _ (a1) e4 (0) (0) _ _ _ (lv_sub hl [2, 3, 1, 0] rfl) hP hS hwp (fun x1 H locs ls hl hP hS hwp => ?_)
  refine lv_iload_n hx hb d_M_committed_48 rfl (lv_at hl 0 rfl) ?_
  rw [hQ]
  exact W.zret (v := x1) hx hb hr (nb_ok hwp.1) (fun t ht hW => ⟨⟨x1, (), rfl, hwp.2, hp_of ht hP⟩, hS.F ht⟩) hS.2.2 d_M_committed_49

set_option maxHeartbeats 4000000 in
set_option maxRecDepth 100000 in
theorem c_M_crash {l : Launch} {dC : Nat → ClassId} {dI : Nat → Nat → Nat} {cI cL cZ : ClassId} {q : Nat → Nat} (hq : iM q) (MA : S_MA) (MD : S_MD) (MF : S_MF) (MG : S_MG) (ML : S_ML) (MN : S_MN) (MP : S_MP) (MT : S_MT) (MV : S_MV) (a1 : Int32) (post : Int32 → S_MA → S_MD → S_MG → S_ML → S_MT → Prop) (hwp : wp_M_crash MA MD MG ML MT a1 post) : Met l y_M_crash ws_M_crash rm_M_crash (va_Pc [.ref (q 0), .int a1] (bM dC dI cI cL cZ q MA MD MF MG ML MN MP MT MV)) (va_Qi (fun (r : Int32) (u : S_MA × S_MD × S_MG × S_ML × S_MT) => post r u.1 u.2.1 u.2.2.1 u.2.2.2.1 u.2.2.2.2) (fun u t => va_P (dC, dI) clZ (wM cI cL cZ q (u.1) (u.2.1) MF (u.2.2.1) (u.2.2.2.1) MN MP (u.2.2.2.2) MV) t.heap) (aM q)) 0 0 (aM q) := by
  refine Met.ofW (cc := b_M_crash) (maxL := 5) (ret := (some .int)) (by decide) rfl ?_
  intro p e s m args below meth c s₁ B hml hv
  obtain ⟨rfl, hP, hK⟩ := hv
  have hx := B.exec
  have hb := B.bytes
  have hr := B.returns
  have hts := atoms_spec (ws := ws_M_crash) B.pre
  have hown : s.vm.findClass R_M = some m.cls := findClass_of_methodNamed B.named
  have hlocks := B.notSynchronized
  have hiM : ∀ w ∈ u_ws R_M F_M 39, w ∈ ws_M_crash := fun w h => List.mem_cons_of_mem _ (in_M w h)
  have lk26 := hts _ (List.mem_cons_of_mem _ k_M_26)
  have lk29 := hts _ (List.mem_cons_of_mem _ k_M_29)
  have lk32 := hts _ (List.mem_cons_of_mem _ k_M_32)
  have lk38 := hts _ (List.mem_cons_of_mem _ k_M_38)
  have lk41 := hts _ (List.mem_cons_of_mem _ k_M_41)
  have lk44 := hts _ (List.mem_cons_of_mem _ k_M_44)
  have lk56 := hts _ (List.mem_cons_of_mem _ k_M_56)
  have lk59 := hts _ (List.mem_cons_of_mem _ k_M_59)
  have lk62 := hts _ (List.mem_cons_of_mem _ k_M_62)
  have lk105 := hts _ (List.mem_cons_of_mem _ k_M_105)
  have lk115 := hts _ (List.mem_cons_of_mem _ k_M_115)
  have lk118 := hts _ (List.mem_cons_of_mem _ k_M_118)
  have lk147 := hts _ (List.mem_cons_of_mem _ k_M_147)
  have hS : va_S (aM q) s.heap s.heap [] := va_S.rf
  have hl := lv_entry ([.ref (q 0), .int a1]) (n := 5) (Nat.le_of_ble_eq_true rfl)
  rw [lg_entry_eq]
  generalize (lg_sl ([.ref (q 0), .int a1]) ++ List.replicate (5 - (lg_sl ([.ref (q 0), .int a1])).length) Slot.unset).toArray = ls at hl ⊢
  have hl : lv_has ls 5 [(0, .ref (q 0)), (1, .int a1)] := hl
  obtain ⟨Q, hQ⟩ : ∃ Q, Q = MQ below (va_Qi (fun (r : Int32) (u : S_MA × S_MD × S_MG × S_ML × S_MT) => post r u.1 u.2.1 u.2.2.1 u.2.2.2.1 u.2.2.2.2) (fun u t => va_P (dC, dI) clZ (wM cI cL cZ q (u.1) (u.2.1) MF (u.2.2.1) (u.2.2.2.1) MN MP (u.2.2.2.2) MV) t.heap) (aM q)) ([.ref (q 0), .int a1]).toArray s 0 0 (aM q) := ⟨_, rfl⟩
  rw [← hQ]
  have L44 : ∀ (Kx : S_MA → Prop) (MD : S_MD) (MG : S_MG) (ML : S_ML) (MT : S_MT) (n : Nat) (v2 : Int32) (MA : S_MA) (H : Heap) (locs : List Loc) (ls : Array Slot), lv_has ls 5 [(0, .ref (q 0)), (2, .int v2)] → va_P (dC, dI) clZ (wM cI cL cZ q MA MD MF MG ML MN MP MT MV) H → va_S (aM q) s.heap H locs → wp_M_crash_L44 Kx n v2 MA → (∀ (MA1 : S_MA) (H : Heap) (locs : List Loc) (ls : Array Slot), lv_has ls 5 [(0, .ref (q 0))] → va_P (dC, dI) clZ (wM cI cL cZ q MA1 MD MF MG ML MN MP MT MV) H → va_S (aM q) s.heap H locs → Kx MA1 → W p l e (headSpec ws_M_crash rm_M_crash).room s m ([.ref (q 0), .int a1]).toArray below meth c H locs 0 0 Q (F0 m 70 ls [])) → W p l e (headSpec ws_M_crash rm_M_crash).room s m ([.ref (q 0), .int a1]).toArray below meth c H locs 0 0 Q (F0 m 44 ls []) := by
    intro Kx MD MG ML MT n
    induction n with
    | zero =>
      intros
      rename_i hwp _
      exact hwp.elim
    | succ n44 ih =>
      intro v2 MA H locs ls hl hP hS hwp hX
      rw [wp_M_crash_L44] at hwp
      refine lv_iload_n hx hb d_M_crash_44 rfl (lv_at hl 1 rfl) ?_
      refine lv_bipush (v := 8) hx hb d_M_crash_45 (by decide) ?_
      refine lv_icmp_ge (tgt := 70) hx hb d_M_crash_47 (by decide) (fun hc => ?_) (fun hc => ?_)
      · rw [if_pos hc] at hwp
        exact hX (MA) _ _ _ (lv_sub hl [0] rfl) hP hS hwp
      · rw [if_neg hc] at hwp
        refine lv_aload_n hx hb d_M_crash_50 rfl (lv_at hl 0 rfl) ?_
        refine va_get (D := (dC, dI)) (ci := 7) (v := .ref (q 7)) (C := R_M) (T := F_M) (N := 39) hx hb hts hiM hown hK hP 0 rfl rfl 7 (by decide) lk29 (fun _ h9 => h9) rfl d_M_crash_51 ?_
        refine lv_iload_n hx hb d_M_crash_54 rfl (lv_at hl 1 rfl) ?_
        refine lv_iconst (v := 0) hx hb d_M_crash_55 (by decide) ?_
        refine va_zast hx hb hK hP (dM hq) hS 7 2 rfl rfl hwp.1 d_M_crash_56 (fun H locs hP _ hS => ?_)
        have hwp := hwp.2
        have hP : va_P (dC, dI) clZ (wM cI cL cZ q (MA_inFrame' MA (upd (MA_inFrame MA) (Int32.toNatClampNeg v2) (vp_nar .boolean 0))) MD MF MG ML MN MP MT MV) H := hP
        refine lv_aload_n hx hb d_M_crash_57 rfl (lv_at hl 0 rfl) ?_
        refine va_get (D := (dC, dI)) (ci := 7) (v := .ref (q 8)) (C := R_M) (T := F_M) (N := 39) hx hb hts hiM hown hK hP 0 rfl rfl 8 (by decide) lk32 (fun _ h9 => h9) rfl d_M_crash_58 ?_
        refine lv_iload_n hx hb d_M_crash_61 rfl (lv_at hl 1 rfl) ?_
        refine lv_iconst (v := 0) hx hb d_M_crash_62 (by decide) ?_
        refine va_zast hx hb hK hP (dM hq) hS 8 2 rfl rfl hwp.1 d_M_crash_63 (fun H locs hP _ hS => ?_)
        have hwp := hwp.2
        have hP : va_P (dC, dI) clZ (wM cI cL cZ q (MA_dirty' (MA_inFrame' MA (upd (MA_inFrame MA) (Int32.toNatClampNeg v2) (vp_nar .boolean 0))) (upd (MA_dirty MA) (Int32.toNatClampNeg v2) (vp_nar .boolean 0))) MD MF MG ML MN MP MT MV) H := hP
        refine lv_iinc (k := 1) (v := (v2 + 1)) (lv' := [(2, .int (v2 + 1)), (0, .ref (q 0))]) hx hb d_M_crash_64 hl rfl (ii_1 _) (by decide) rfl (fun ls hl => ?_)
        refine lv_goto hx hb d_M_crash_67 (tgt := 44) (by decide) ?_
        exact ih ((v2 + 1)) ((MA_dirty' (MA_inFrame' MA (upd (MA_inFrame MA) (Int32.toNatClampNeg v2) (vp_nar .boolean 0))) (upd (MA_dirty MA) (Int32.toNatClampNeg v2) (vp_nar .boolean 0)))) _ _ _ (lv_sub hl [1, 0] rfl) hP hS hwp hX
  have L72 : ∀ (Kx : S_ML → S_MT → Prop) (MA : S_MA) (MD : S_MD) (MG : S_MG) (n : Nat) (v2 : Int32) (ML : S_ML) (MT : S_MT) (H : Heap) (locs : List Loc) (ls : Array Slot), lv_has ls 5 [(0, .ref (q 0)), (2, .int v2)] → va_P (dC, dI) clZ (wM cI cL cZ q MA MD MF MG ML MN MP MT MV) H → va_S (aM q) s.heap H locs → wp_M_crash_L72 Kx n v2 ML MT → (∀ (ML1 : S_ML) (MT1 : S_MT) (H : Heap) (locs : List Loc) (ls : Array Slot), lv_has ls 5 [(0, .ref (q 0))] → va_P (dC, dI) clZ (wM cI cL cZ q MA MD MF MG ML1 MN MP MT1 MV) H → va_S (aM q) s.heap H locs → Kx ML1 MT1 → W p l e (headSpec ws_M_crash rm_M_crash).room s m ([.ref (q 0), .int a1]).toArray below meth c H locs 0 0 Q (F0 m 121 ls [])) → W p l e (headSpec ws_M_crash rm_M_crash).room s m ([.ref (q 0), .int a1]).toArray below meth c H locs 0 0 Q (F0 m 72 ls []) := by
    intro Kx MA MD MG n
    induction n with
    | zero =>
      intros
      rename_i hwp _
      exact hwp.elim
    | succ n72 ih =>
      intro v2 ML MT H locs ls hl hP hS hwp hX
      rw [wp_M_crash_L72] at hwp
      refine lv_iload_n hx hb d_M_crash_72 rfl (lv_at hl 1 rfl) ?_
      refine lv_aload_n hx hb d_M_crash_73 rfl (lv_at hl 0 rfl) ?_
      refine va_get (D := (dC, dI)) (ci := 7) (v := .int (MT_many MT)) (C := R_M) (T := F_M) (N := 39) hx hb hts hiM hown hK hP 0 rfl rfl 22 (by decide) lk147 (fun _ h9 => h9) rfl d_M_crash_74 ?_
      refine lv_icmp_ge (tgt := 121) hx hb d_M_crash_77 (by decide) (fun hc => ?_) (fun hc => ?_)
      · rw [if_pos hc] at hwp
        exact hX (ML) (MT) _ _ _ (lv_sub hl [0] rfl) hP hS hwp
      · rw [if_neg hc] at hwp
        refine lv_aload_n hx hb d_M_crash_80 rfl (lv_at hl 0 rfl) ?_
        refine lv_iload_n hx hb d_M_crash_81 rfl (lv_at hl 1 rfl) ?_
        refine ncn_v (As := [.int v2]) (c_M_unlock hq (MA) (MD) (MF) (MG) (ML) (MN) (MP) (MT) (MV) (v2) _ hwp) (cwV 1 hts g_M_245 rfl rfl rfl hd_M_unlock ⟨Nat.le_of_ble_eq_true rfl, Nat.le_of_ble_eq_true rfl⟩) hx hb hml hown hts hK hP hS hl.1 d_M_crash_82 (va_recv (q := (R_M, F_M, 39)) hK hP (ci := 7) (q0 := 0) rfl rfl) rfl (lv_room (Nat.le_of_ble_eq_true rfl)) (Nat.zero_le _) (Nat.zero_le _) rfl (fun ML3 H locs hwp hP hS => ?_)
        have hP : va_P (dC, dI) clZ (wM cI cL cZ q MA MD MF MG ML3 MN MP MT MV) H := hP
        refine lv_aload_n hx hb d_M_crash_85 rfl (lv_at hl 0 rfl) ?_
        refine va_get (D := (dC, dI)) (ci := 7) (v := .ref (q 18)) (C := R_M) (T := F_M) (N := 39) hx hb hts hiM hown hK hP 0 rfl rfl 23 (by decide) lk62 (fun _ h9 => h9) rfl d_M_crash_86 ?_
        refine lv_iload_n hx hb d_M_crash_89 rfl (lv_at hl 1 rfl) ?_
        refine lv_aload_n hx hb d_M_crash_90 rfl (lv_at hl 0 rfl) ?_
        refine va_get (D := (dC, dI)) (ci := 7) (v := .ref (q 18)) (C := R_M) (T := F_M) (N := 39) hx hb hts hiM hown hK hP 0 rfl rfl 23 (by decide) lk62 (fun _ h9 => h9) rfl d_M_crash_91 ?_
        refine lv_aload_n hx hb d_M_crash_94 rfl (lv_at hl 0 rfl) ?_
        refine lv_iload_n hx hb d_M_crash_95 rfl (lv_at hl 1 rfl) ?_
        refine ncn_i (As := [.int v2]) (c_M_top hq (MA) (MD) (MF) (MG) (ML3) (MN) (MP) (MT) (MV) (v2) _ hwp) (cwV 1 hts g_M_136 rfl rfl rfl hd_M_top ⟨Nat.le_of_ble_eq_true rfl, Nat.le_of_ble_eq_true rfl⟩) hx hb hml hown hts hK hP hS hl.1 d_M_crash_96 (va_recv (q := (R_M, F_M, 39)) hK hP (ci := 7) (q0 := 0) rfl rfl) rfl (lv_room (Nat.le_of_ble_eq_true rfl)) (Nat.zero_le _) (Nat.zero_le _) rfl (fun r4 u H locs hwp hP hS => ?_)
        have hP : va_P (dC, dI) clZ (wM cI cL cZ q MA MD MF MG ML3 MN MP MT MV) H := hP
        refine va_iald hx hb hK hP 18 0 rfl rfl hwp.1 d_M_crash_99 ?_
        have hwp := hwp.2
        refine lv_iconst (v := 3) hx hb d_M_crash_100 (by decide) ?_
        refine lv_icmp_ne (tgt := 113) hx hb d_M_crash_101 (by decide) (fun hc => ?_) (fun hc => ?_)
        · rw [if_neg hc] at hwp
          refine lv_iconst (v := 4) hx hb d_M_crash_113 (by decide) ?_
          refine va_iast hx hb hK hP (dM hq) hS 18 0 rfl rfl hwp.1 d_M_crash_114 (fun H locs hP _ hS => ?_)
          have hwp := hwp.2
          have hP : va_P (dC, dI) clZ (wM cI cL cZ q MA MD MF MG ML3 MN MP (MT_state' MT (upd (MT_state MT) (Int32.toNatClampNeg v2) 4)) MV) H := hP
          refine lv_iinc (k := 1) (v := (v2 + 1)) (lv' := [(2, .int (v2 + 1)), (0, .ref (q 0))]) hx hb d_M_crash_115 hl rfl (ii_1 _) (by decide) rfl (fun ls hl => ?_)
          refine lv_goto hx hb d_M_crash_118 (tgt := 72) (by decide) ?_
          exact ih ((v2 + 1)) (ML3) ((MT_state' MT (upd (MT_state MT) (Int32.toNatClampNeg v2) 4))) _ _ _ (lv_sub hl [1, 0] rfl) hP hS hwp hX
        · rw [if_pos hc] at hwp
          refine lv_aload_n hx hb d_M_crash_104 rfl (lv_at hl 0 rfl) ?_
          refine va_get (D := (dC, dI)) (ci := 7) (v := .ref (q 18)) (C := R_M) (T := F_M) (N := 39) hx hb hts hiM hown hK hP 0 rfl rfl 23 (by decide) lk62 (fun _ h9 => h9) rfl d_M_crash_105 ?_
          refine lv_iload_n hx hb d_M_crash_108 rfl (lv_at hl 1 rfl) ?_
          refine va_iald hx hb hK hP 18 0 rfl rfl hwp.1 d_M_crash_109 ?_
          have hwp := hwp.2
          refine lv_goto hx hb d_M_crash_110 (tgt := 114) (by decide) ?_
          refine va_iast hx hb hK hP (dM hq) hS 18 0 rfl rfl hwp.1 d_M_crash_114 (fun H locs hP _ hS => ?_)
          have hwp := hwp.2
          have hP : va_P (dC, dI) clZ (wM cI cL cZ q MA MD MF MG ML3 MN MP (MT_state' MT (upd (MT_state MT) (Int32.toNatClampNeg v2) ((MT_state MT) (Int32.toNatClampNeg v2)))) MV) H := hP
          refine lv_iinc (k := 1) (v := (v2 + 1)) (lv' := [(2, .int (v2 + 1)), (0, .ref (q 0))]) hx hb d_M_crash_115 hl rfl (ii_1 _) (by decide) rfl (fun ls hl => ?_)
          refine lv_goto hx hb d_M_crash_118 (tgt := 72) (by decide) ?_
          exact ih ((v2 + 1)) (ML3) ((MT_state' MT (upd (MT_state MT) (Int32.toNatClampNeg v2) ((MT_state MT) (Int32.toNatClampNeg v2))))) _ _ _ (lv_sub hl [1, 0] rfl) hP hS hwp hX
  have L128 : ∀ (Kx : S_MA → S_MD → S_MG → Prop) (ML : S_ML) (MT : S_MT) (v2 : Int32) (n : Nat) (v3 : Int32) (MA : S_MA) (MD : S_MD) (MG : S_MG) (H : Heap) (locs : List Loc) (ls : Array Slot), lv_has ls 5 [(0, .ref (q 0)), (2, .int v2), (3, .int v3)] → va_P (dC, dI) clZ (wM cI cL cZ q MA MD MF MG ML MN MP MT MV) H → va_S (aM q) s.heap H locs → wp_M_crash_L128 v2 Kx n v3 MA MD MG → (∀ (MA1 : S_MA) (MD1 : S_MD) (MG1 : S_MG) (H : Heap) (locs : List Loc) (ls : Array Slot), lv_has ls 5 [(0, .ref (q 0)), (2, .int v2)] → va_P (dC, dI) clZ (wM cI cL cZ q MA1 MD1 MF MG1 ML MN MP MT MV) H → va_S (aM q) s.heap H locs → Kx MA1 MD1 MG1 → W p l e (headSpec ws_M_crash rm_M_crash).room s m ([.ref (q 0), .int a1]).toArray below meth c H locs 0 0 Q (F0 m 225 ls [])) → W p l e (headSpec ws_M_crash rm_M_crash).room s m ([.ref (q 0), .int a1]).toArray below meth c H locs 0 0 Q (F0 m 128 ls []) := by
    intro Kx ML MT v2 n
    induction n with
    | zero =>
      intros
      rename_i hwp _
      exact hwp.elim
    | succ n128 ih =>
      intro v3 MA MD MG H locs ls hl hP hS hwp hX
      rw [wp_M_crash_L128] at hwp
      refine lv_iload_n hx hb d_M_crash_128 rfl (lv_at hl 2 rfl) ?_
      refine lv_iload_n hx hb d_M_crash_129 rfl (lv_at hl 1 rfl) ?_
      refine lv_icmp_ge (tgt := 225) hx hb d_M_crash_130 (by decide) (fun hc => ?_) (fun hc => ?_)
      · rw [if_pos hc] at hwp
        exact hX (MA) (MD) (MG) _ _ _ (lv_sub hl [0, 1] rfl) hP hS hwp
      · rw [if_neg hc] at hwp
        refine lv_aload_n hx hb d_M_crash_133 rfl (lv_at hl 0 rfl) ?_
        refine va_get (D := (dC, dI)) (ci := 7) (v := .ref (q 10)) (C := R_M) (T := F_M) (N := 39) hx hb hts hiM hown hK hP 0 rfl rfl 14 (by decide) lk38 (fun _ h9 => h9) rfl d_M_crash_134 ?_
        refine lv_iload_n hx hb d_M_crash_137 rfl (lv_at hl 2 rfl) ?_
        refine va_iald hx hb hK hP 10 0 rfl rfl hwp.1 d_M_crash_138 ?_
        have hwp := hwp.2
        refine lv_iconst (v := 2) hx hb d_M_crash_139 (by decide) ?_
        refine lv_icmp_eq (tgt := 153) hx hb d_M_crash_140 (by decide) (fun hc => ?_) (fun hc => ?_)
        · rw [if_pos hc] at hwp
          refine lv_aload_n hx hb d_M_crash_153 rfl (lv_at hl 0 rfl) ?_
          refine lv_aload_n hx hb d_M_crash_154 rfl (lv_at hl 0 rfl) ?_
          refine va_get (D := (dC, dI)) (ci := 7) (v := .ref (q 12)) (C := R_M) (T := F_M) (N := 39) hx hb hts hiM hown hK hP 0 rfl rfl 16 (by decide) lk44 (fun _ h9 => h9) rfl d_M_crash_155 ?_
          refine lv_iload_n hx hb d_M_crash_158 rfl (lv_at hl 2 rfl) ?_
          refine va_iald hx hb hK hP 12 0 rfl rfl hwp.1 d_M_crash_159 ?_
          have hwp := hwp.2
          refine lv_iconst (v := 4) hx hb d_M_crash_160 (by decide) ?_
          refine lv_idiv hx hb d_M_crash_161 (by decide) ?_
          refine ncn_v (As := [.int (((MG_about MG) (Int32.toNatClampNeg v3)) / 4)]) (c_M_touch hq (MA) (MD) (MF) (MG) (ML) (MN) (MP) (MT) (MV) ((((MG_about MG) (Int32.toNatClampNeg v3)) / 4)) _ hwp) (cwV 1 hts g_M_125 rfl rfl rfl hd_M_touch ⟨Nat.le_of_ble_eq_true rfl, Nat.le_of_ble_eq_true rfl⟩) hx hb hml hown hts hK hP hS hl.1 d_M_crash_162 (va_recv (q := (R_M, F_M, 39)) hK hP (ci := 7) (q0 := 0) rfl rfl) rfl (lv_room (Nat.le_of_ble_eq_true rfl)) (Nat.zero_le _) (Nat.zero_le _) rfl (fun u H locs hwp hP hS => ?_)
          obtain ⟨MA7, MD8, MG9⟩ := u
          have hP : va_P (dC, dI) clZ (wM cI cL cZ q MA7 MD8 MF MG9 ML MN MP MT MV) H := hP
          refine lv_aload_n hx hb d_M_crash_165 rfl (lv_at hl 0 rfl) ?_
          refine va_get (D := (dC, dI)) (ci := 7) (v := .ref (q 6)) (C := R_M) (T := F_M) (N := 39) hx hb hts hiM hown hK hP 0 rfl rfl 6 (by decide) lk26 (fun _ h9 => h9) rfl d_M_crash_166 ?_
          refine lv_aload_n hx hb d_M_crash_169 rfl (lv_at hl 0 rfl) ?_
          refine va_get (D := (dC, dI)) (ci := 7) (v := .ref (q 12)) (C := R_M) (T := F_M) (N := 39) hx hb hts hiM hown hK hP 0 rfl rfl 16 (by decide) lk44 (fun _ h9 => h9) rfl d_M_crash_170 ?_
          refine lv_iload_n hx hb d_M_crash_173 rfl (lv_at hl 2 rfl) ?_
          refine va_iald hx hb hK hP 12 0 rfl rfl hwp.1 d_M_crash_174 ?_
          have hwp := hwp.2
          refine lv_iconst (v := 4) hx hb d_M_crash_175 (by decide) ?_
          refine lv_idiv hx hb d_M_crash_176 (by decide) ?_
          refine va_iald hx hb hK hP 6 0 rfl rfl hwp.1 d_M_crash_177 ?_
          have hwp := hwp.2
          refine lv_aload_n hx hb d_M_crash_178 rfl (lv_at hl 0 rfl) ?_
          refine va_get (D := (dC, dI)) (ci := 7) (v := .int (MG_base MG9)) (C := R_M) (T := F_M) (N := 39) hx hb hts hiM hown hK hP 0 rfl rfl 11 (by decide) lk115 (fun _ h9 => h9) rfl d_M_crash_179 ?_
          refine lv_iload_n hx hb d_M_crash_182 rfl (lv_at hl 2 rfl) ?_
          refine lv_iadd hx hb d_M_crash_183 ?_
          refine lv_iconst (v := 1) hx hb d_M_crash_184 (by decide) ?_
          refine lv_iadd hx hb d_M_crash_185 ?_
          refine lv_icmp_ge (tgt := 219) hx hb d_M_crash_186 (by decide) (fun hc => ?_) (fun hc => ?_)
          · rw [if_pos hc] at hwp
            refine lv_iinc (k := 2) (v := (v3 + 1)) (lv' := [(3, .int (v3 + 1)), (0, .ref (q 0)), (2, .int v2)]) hx hb d_M_crash_219 hl rfl (ii_1 _) (by decide) rfl (fun ls hl => ?_)
            refine lv_goto hx hb d_M_crash_222 (tgt := 128) (by decide) ?_
            exact ih ((v3 + 1)) (MA7) (MD8) (MG9) _ _ _ (lv_sub hl [1, 2, 0] rfl) hP hS hwp hX
          · rw [if_neg hc] at hwp
            refine lv_aload_n hx hb d_M_crash_189 rfl (lv_at hl 0 rfl) ?_
            refine lv_aload_n hx hb d_M_crash_190 rfl (lv_at hl 0 rfl) ?_
            refine va_get (D := (dC, dI)) (ci := 7) (v := .ref (q 12)) (C := R_M) (T := F_M) (N := 39) hx hb hts hiM hown hK hP 0 rfl rfl 16 (by decide) lk44 (fun _ h9 => h9) rfl d_M_crash_191 ?_
            refine lv_iload_n hx hb d_M_crash_194 rfl (lv_at hl 2 rfl) ?_
            refine va_iald hx hb hK hP 12 0 rfl rfl hwp.1 d_M_crash_195 ?_
            have hwp := hwp.2
            refine lv_aload_n hx hb d_M_crash_196 rfl (lv_at hl 0 rfl) ?_
            refine va_get (D := (dC, dI)) (ci := 7) (v := .ref (q 16)) (C := R_M) (T := F_M) (N := 39) hx hb hts hiM hown hK hP 0 rfl rfl 20 (by decide) lk56 (fun _ h9 => h9) rfl d_M_crash_197 ?_
            refine lv_iload_n hx hb d_M_crash_200 rfl (lv_at hl 2 rfl) ?_
            refine va_zald hx hb hK hP 16 2 rfl rfl hwp.1 d_M_crash_201 ?_
            have hwp := hwp.2
            refine lv_aload_n hx hb d_M_crash_202 rfl (lv_at hl 0 rfl) ?_
            refine va_get (D := (dC, dI)) (ci := 7) (v := .ref (q 17)) (C := R_M) (T := F_M) (N := 39) hx hb hts hiM hown hK hP 0 rfl rfl 21 (by decide) lk59 (fun _ h9 => h9) rfl d_M_crash_203 ?_
            refine lv_iload_n hx hb d_M_crash_206 rfl (lv_at hl 2 rfl) ?_
            refine va_iald hx hb hK hP 17 0 rfl rfl hwp.1 d_M_crash_207 ?_
            have hwp := hwp.2
            refine lv_aload_n hx hb d_M_crash_208 rfl (lv_at hl 0 rfl) ?_
            refine va_get (D := (dC, dI)) (ci := 7) (v := .int (MG_base MG9)) (C := R_M) (T := F_M) (N := 39) hx hb hts hiM hown hK hP 0 rfl rfl 11 (by decide) lk115 (fun _ h9 => h9) rfl d_M_crash_209 ?_
            refine lv_iload_n hx hb d_M_crash_212 rfl (lv_at hl 2 rfl) ?_
            refine lv_iadd hx hb d_M_crash_213 ?_
            refine lv_iconst (v := 1) hx hb d_M_crash_214 (by decide) ?_
            refine lv_iadd hx hb d_M_crash_215 ?_
            refine ncn_v (As := [.int ((MG_about MG9) (Int32.toNatClampNeg v3)), .int ((MG_isThere MG9) (Int32.toNatClampNeg v3)), .int ((MG_isValue MG9) (Int32.toNatClampNeg v3)), .int (((MG_base MG9) + v3) + 1)]) (c_M_become hq (MA7) (MD8) (MF) (MG9) (ML) (MN) (MP) (MT) (MV) (((MG_about MG9) (Int32.toNatClampNeg v3))) (((MG_isThere MG9) (Int32.toNatClampNeg v3))) (((MG_isValue MG9) (Int32.toNatClampNeg v3))) ((((MG_base MG9) + v3) + 1)) _ hwp) (cwV 4 hts g_M_132 rfl rfl rfl hd_M_become ⟨Nat.le_of_ble_eq_true rfl, Nat.le_of_ble_eq_true rfl⟩) hx hb hml hown hts hK hP hS hl.1 d_M_crash_216 (va_recv (q := (R_M, F_M, 39)) hK hP (ci := 7) (q0 := 0) rfl rfl) rfl (lv_room (Nat.le_of_ble_eq_true rfl)) (Nat.zero_le _) (Nat.zero_le _) rfl (fun MA10 H locs hwp hP hS => ?_)
            have hP : va_P (dC, dI) clZ (wM cI cL cZ q MA10 MD8 MF MG9 ML MN MP MT MV) H := hP
            refine lv_iinc (k := 2) (v := (v3 + 1)) (lv' := [(3, .int (v3 + 1)), (0, .ref (q 0)), (2, .int v2)]) hx hb d_M_crash_219 hl rfl (ii_1 _) (by decide) rfl (fun ls hl => ?_)
            refine lv_goto hx hb d_M_crash_222 (tgt := 128) (by decide) ?_
            exact ih ((v3 + 1)) (MA10) (MD8) (MG9) _ _ _ (lv_sub hl [1, 2, 0] rfl) hP hS hwp hX
        · rw [if_neg hc] at hwp
          refine lv_aload_n hx hb d_M_crash_143 rfl (lv_at hl 0 rfl) ?_
          refine va_get (D := (dC, dI)) (ci := 7) (v := .ref (q 10)) (C := R_M) (T := F_M) (N := 39) hx hb hts hiM hown hK hP 0 rfl rfl 14 (by decide) lk38 (fun _ h9 => h9) rfl d_M_crash_144 ?_
          refine lv_iload_n hx hb d_M_crash_147 rfl (lv_at hl 2 rfl) ?_
          refine va_iald hx hb hK hP 10 0 rfl rfl hwp.1 d_M_crash_148 ?_
          have hwp := hwp.2
          refine lv_iconst (v := 3) hx hb d_M_crash_149 (by decide) ?_
          refine lv_icmp_ne (tgt := 219) hx hb d_M_crash_150 (by decide) (fun hc => ?_) (fun hc => ?_)
          · rw [if_neg hc] at hwp
            refine lv_iinc (k := 2) (v := (v3 + 1)) (lv' := [(3, .int (v3 + 1)), (0, .ref (q 0)), (2, .int v2)]) hx hb d_M_crash_219 hl rfl (ii_1 _) (by decide) rfl (fun ls hl => ?_)
            refine lv_goto hx hb d_M_crash_222 (tgt := 128) (by decide) ?_
            exact ih ((v3 + 1)) (MA) (MD) (MG) _ _ _ (lv_sub hl [1, 2, 0] rfl) hP hS hwp hX
          · rw [if_pos hc] at hwp
            refine lv_aload_n hx hb d_M_crash_153 rfl (lv_at hl 0 rfl) ?_
            refine lv_aload_n hx hb d_M_crash_154 rfl (lv_at hl 0 rfl) ?_
            refine va_get (D := (dC, dI)) (ci := 7) (v := .ref (q 12)) (C := R_M) (T := F_M) (N := 39) hx hb hts hiM hown hK hP 0 rfl rfl 16 (by decide) lk44 (fun _ h9 => h9) rfl d_M_crash_155 ?_
            refine lv_iload_n hx hb d_M_crash_158 rfl (lv_at hl 2 rfl) ?_
            refine va_iald hx hb hK hP 12 0 rfl rfl hwp.1 d_M_crash_159 ?_
            have hwp := hwp.2
            refine lv_iconst (v := 4) hx hb d_M_crash_160 (by decide) ?_
            refine lv_idiv hx hb d_M_crash_161 (by decide) ?_
            refine ncn_v (As := [.int (((MG_about MG) (Int32.toNatClampNeg v3)) / 4)]) (c_M_touch hq (MA) (MD) (MF) (MG) (ML) (MN) (MP) (MT) (MV) ((((MG_about MG) (Int32.toNatClampNeg v3)) / 4)) _ hwp) (cwV 1 hts g_M_125 rfl rfl rfl hd_M_touch ⟨Nat.le_of_ble_eq_true rfl, Nat.le_of_ble_eq_true rfl⟩) hx hb hml hown hts hK hP hS hl.1 d_M_crash_162 (va_recv (q := (R_M, F_M, 39)) hK hP (ci := 7) (q0 := 0) rfl rfl) rfl (lv_room (Nat.le_of_ble_eq_true rfl)) (Nat.zero_le _) (Nat.zero_le _) rfl (fun u H locs hwp hP hS => ?_)
            obtain ⟨MA11, MD12, MG13⟩ := u
            have hP : va_P (dC, dI) clZ (wM cI cL cZ q MA11 MD12 MF MG13 ML MN MP MT MV) H := hP
            refine lv_aload_n hx hb d_M_crash_165 rfl (lv_at hl 0 rfl) ?_
            refine va_get (D := (dC, dI)) (ci := 7) (v := .ref (q 6)) (C := R_M) (T := F_M) (N := 39) hx hb hts hiM hown hK hP 0 rfl rfl 6 (by decide) lk26 (fun _ h9 => h9) rfl d_M_crash_166 ?_
            refine lv_aload_n hx hb d_M_crash_169 rfl (lv_at hl 0 rfl) ?_
            refine va_get (D := (dC, dI)) (ci := 7) (v := .ref (q 12)) (C := R_M) (T := F_M) (N := 39) hx hb hts hiM hown hK hP 0 rfl rfl 16 (by decide) lk44 (fun _ h9 => h9) rfl d_M_crash_170 ?_
            refine lv_iload_n hx hb d_M_crash_173 rfl (lv_at hl 2 rfl) ?_
            refine va_iald hx hb hK hP 12 0 rfl rfl hwp.1 d_M_crash_174 ?_
            have hwp := hwp.2
            refine lv_iconst (v := 4) hx hb d_M_crash_175 (by decide) ?_
            refine lv_idiv hx hb d_M_crash_176 (by decide) ?_
            refine va_iald hx hb hK hP 6 0 rfl rfl hwp.1 d_M_crash_177 ?_
            have hwp := hwp.2
            refine lv_aload_n hx hb d_M_crash_178 rfl (lv_at hl 0 rfl) ?_
            refine va_get (D := (dC, dI)) (ci := 7) (v := .int (MG_base MG13)) (C := R_M) (T := F_M) (N := 39) hx hb hts hiM hown hK hP 0 rfl rfl 11 (by decide) lk115 (fun _ h9 => h9) rfl d_M_crash_179 ?_
            refine lv_iload_n hx hb d_M_crash_182 rfl (lv_at hl 2 rfl) ?_
            refine lv_iadd hx hb d_M_crash_183 ?_
            refine lv_iconst (v := 1) hx hb d_M_crash_184 (by decide) ?_
            refine lv_iadd hx hb d_M_crash_185 ?_
            refine lv_icmp_ge (tgt := 219) hx hb d_M_crash_186 (by decide) (fun hc => ?_) (fun hc => ?_)
            · rw [if_pos hc] at hwp
              refine lv_iinc (k := 2) (v := (v3 + 1)) (lv' := [(3, .int (v3 + 1)), (0, .ref (q 0)), (2, .int v2)]) hx hb d_M_crash_219 hl rfl (ii_1 _) (by decide) rfl (fun ls hl => ?_)
              refine lv_goto hx hb d_M_crash_222 (tgt := 128) (by decide) ?_
              exact ih ((v3 + 1)) (MA11) (MD12) (MG13) _ _ _ (lv_sub hl [1, 2, 0] rfl) hP hS hwp hX
            · rw [if_neg hc] at hwp
              refine lv_aload_n hx hb d_M_crash_189 rfl (lv_at hl 0 rfl) ?_
              refine lv_aload_n hx hb d_M_crash_190 rfl (lv_at hl 0 rfl) ?_
              refine va_get (D := (dC, dI)) (ci := 7) (v := .ref (q 12)) (C := R_M) (T := F_M) (N := 39) hx hb hts hiM hown hK hP 0 rfl rfl 16 (by decide) lk44 (fun _ h9 => h9) rfl d_M_crash_191 ?_
              refine lv_iload_n hx hb d_M_crash_194 rfl (lv_at hl 2 rfl) ?_
              refine va_iald hx hb hK hP 12 0 rfl rfl hwp.1 d_M_crash_195 ?_
              have hwp := hwp.2
              refine lv_aload_n hx hb d_M_crash_196 rfl (lv_at hl 0 rfl) ?_
              refine va_get (D := (dC, dI)) (ci := 7) (v := .ref (q 16)) (C := R_M) (T := F_M) (N := 39) hx hb hts hiM hown hK hP 0 rfl rfl 20 (by decide) lk56 (fun _ h9 => h9) rfl d_M_crash_197 ?_
              refine lv_iload_n hx hb d_M_crash_200 rfl (lv_at hl 2 rfl) ?_
              refine va_zald hx hb hK hP 16 2 rfl rfl hwp.1 d_M_crash_201 ?_
              have hwp := hwp.2
              refine lv_aload_n hx hb d_M_crash_202 rfl (lv_at hl 0 rfl) ?_
              refine va_get (D := (dC, dI)) (ci := 7) (v := .ref (q 17)) (C := R_M) (T := F_M) (N := 39) hx hb hts hiM hown hK hP 0 rfl rfl 21 (by decide) lk59 (fun _ h9 => h9) rfl d_M_crash_203 ?_
              refine lv_iload_n hx hb d_M_crash_206 rfl (lv_at hl 2 rfl) ?_
              refine va_iald hx hb hK hP 17 0 rfl rfl hwp.1 d_M_crash_207 ?_
              have hwp := hwp.2
              refine lv_aload_n hx hb d_M_crash_208 rfl (lv_at hl 0 rfl) ?_
              refine va_get (D := (dC, dI)) (ci := 7) (v := .int (MG_base MG13)) (C := R_M) (T := F_M) (N := 39) hx hb hts hiM hown hK hP 0 rfl rfl 11 (by decide) lk115 (fun _ h9 => h9) rfl d_M_crash_209 ?_
              refine lv_iload_n hx hb d_M_crash_212 rfl (lv_at hl 2 rfl) ?_
              refine lv_iadd hx hb d_M_crash_213 ?_
              refine lv_iconst (v := 1) hx hb d_M_crash_214 (by decide) ?_
              refine lv_iadd hx hb d_M_crash_215 ?_
              refine ncn_v (As := [.int ((MG_about MG13) (Int32.toNatClampNeg v3)), .int ((MG_isThere MG13) (Int32.toNatClampNeg v3)), .int ((MG_isValue MG13) (Int32.toNatClampNeg v3)), .int (((MG_base MG13) + v3) + 1)]) (c_M_become hq (MA11) (MD12) (MF) (MG13) (ML) (MN) (MP) (MT) (MV) (((MG_about MG13) (Int32.toNatClampNeg v3))) (((MG_isThere MG13) (Int32.toNatClampNeg v3))) (((MG_isValue MG13) (Int32.toNatClampNeg v3))) ((((MG_base MG13) + v3) + 1)) _ hwp) (cwV 4 hts g_M_132 rfl rfl rfl hd_M_become ⟨Nat.le_of_ble_eq_true rfl, Nat.le_of_ble_eq_true rfl⟩) hx hb hml hown hts hK hP hS hl.1 d_M_crash_216 (va_recv (q := (R_M, F_M, 39)) hK hP (ci := 7) (q0 := 0) rfl rfl) rfl (lv_room (Nat.le_of_ble_eq_true rfl)) (Nat.zero_le _) (Nat.zero_le _) rfl (fun MA14 H locs hwp hP hS => ?_)
              have hP : va_P (dC, dI) clZ (wM cI cL cZ q MA14 MD12 MF MG13 ML MN MP MT MV) H := hP
              refine lv_iinc (k := 2) (v := (v3 + 1)) (lv' := [(3, .int (v3 + 1)), (0, .ref (q 0)), (2, .int v2)]) hx hb d_M_crash_219 hl rfl (ii_1 _) (by decide) rfl (fun ls hl => ?_)
              refine lv_goto hx hb d_M_crash_222 (tgt := 128) (by decide) ?_
              exact ih ((v3 + 1)) (MA14) (MD12) (MG13) _ _ _ (lv_sub hl [1, 2, 0] rfl) hP hS hwp hX
  have L232 : ∀ (Kx : Int32 → S_MA → S_MD → S_MG → Prop) (ML : S_ML) (MT : S_MT) (n : Nat) (v3 : Int32) (v4 : Int32) (MA : S_MA) (MD : S_MD) (MG : S_MG) (H : Heap) (locs : List Loc) (ls : Array Slot), lv_has ls 5 [(0, .ref (q 0)), (3, .int v3), (4, .int v4)] → va_P (dC, dI) clZ (wM cI cL cZ q MA MD MF MG ML MN MP MT MV) H → va_S (aM q) s.heap H locs → wp_M_crash_L232 MT Kx n v3 v4 MA MD MG → (∀ (x3 : Int32) (MA1 : S_MA) (MD1 : S_MD) (MG1 : S_MG) (H : Heap) (locs : List Loc) (ls : Array Slot), lv_has ls 5 [(0, .ref (q 0)), (3, .int x3)] → va_P (dC, dI) clZ (wM cI cL cZ q MA1 MD1 MF MG1 ML MN MP MT MV) H → va_S (aM q) s.heap H locs → Kx x3 MA1 MD1 MG1 → W p l e (headSpec ws_M_crash rm_M_crash).room s m ([.ref (q 0), .int a1]).toArray below meth c H locs 0 0 Q (F0 m 301 ls [])) → W p l e (headSpec ws_M_crash rm_M_crash).room s m ([.ref (q 0), .int a1]).toArray below meth c H locs 0 0 Q (F0 m 232 ls []) := by
    intro Kx ML MT n
    induction n with
    | zero =>
      intros
      rename_i hwp _
      exact hwp.elim
    | succ n232 ih =>
      intro v3 v4 MA MD MG H locs ls hl hP hS hwp hX
      rw [wp_M_crash_L232] at hwp
      refine lv_iload hx hb d_M_crash_232 (lv_at hl 2 rfl) ?_
      refine lv_if_lt (tgt := 301) hx hb d_M_crash_234 (by decide) (fun hc => ?_) (fun hc => ?_)
      · rw [if_pos hc] at hwp
        exact hX (v3) (MA) (MD) (MG) _ _ _ (lv_sub hl [0, 1] rfl) hP hS hwp
      · rw [if_neg hc] at hwp
        refine lv_aload_n hx hb d_M_crash_237 rfl (lv_at hl 0 rfl) ?_
        refine va_get (D := (dC, dI)) (ci := 7) (v := .ref (q 10)) (C := R_M) (T := F_M) (N := 39) hx hb hts hiM hown hK hP 0 rfl rfl 14 (by decide) lk38 (fun _ h9 => h9) rfl d_M_crash_238 ?_
        refine lv_iload hx hb d_M_crash_241 (lv_at hl 2 rfl) ?_
        refine va_iald hx hb hK hP 10 0 rfl rfl hwp.1 d_M_crash_243 ?_
        have hwp := hwp.2
        refine lv_iconst (v := 2) hx hb d_M_crash_244 (by decide) ?_
        refine lv_icmp_ne (tgt := 295) hx hb d_M_crash_245 (by decide) (fun hc => ?_) (fun hc => ?_)
        · rw [if_neg hc] at hwp
          refine lv_iinc (k := 2) (v := (v4 + (-1))) (lv' := [(4, .int (v4 + (-1))), (0, .ref (q 0)), (3, .int v3)]) hx hb d_M_crash_295 hl rfl (ii_m1 _) (by decide) rfl (fun ls hl => ?_)
          refine lv_goto hx hb d_M_crash_298 (tgt := 232) (by decide) ?_
          exact ih (v3) ((v4 + (-1))) (MA) (MD) (MG) _ _ _ (lv_sub hl [1, 2, 0] rfl) hP hS hwp hX
        · rw [if_pos hc] at hwp
          refine lv_aload_n hx hb d_M_crash_248 rfl (lv_at hl 0 rfl) ?_
          refine lv_iload hx hb d_M_crash_249 (lv_at hl 2 rfl) ?_
          refine ncn_i (As := [.int v4]) (c_M_undone hq (MA) (MD) (MF) (MG) (ML) (MN) (MP) (MT) (MV) (v4) _ hwp) (cwV 1 hts g_M_140 rfl rfl rfl hd_M_undone ⟨Nat.le_of_ble_eq_true rfl, Nat.le_of_ble_eq_true rfl⟩) hx hb hml hown hts hK hP hS hl.1 d_M_crash_251 (va_recv (q := (R_M, F_M, 39)) hK hP (ci := 7) (q0 := 0) rfl rfl) rfl (lv_room (Nat.le_of_ble_eq_true rfl)) (Nat.zero_le _) (Nat.zero_le _) rfl (fun r18 u H locs hwp hP hS => ?_)
          have hP : va_P (dC, dI) clZ (wM cI cL cZ q MA MD MF MG ML MN MP MT MV) H := hP
          refine lv_if_ne (tgt := 295) hx hb d_M_crash_254 (by decide) (fun hc => ?_) (fun hc => ?_)
          · rw [if_neg hc] at hwp
            refine lv_iinc (k := 2) (v := (v4 + (-1))) (lv' := [(4, .int (v4 + (-1))), (0, .ref (q 0)), (3, .int v3)]) hx hb d_M_crash_295 hl rfl (ii_m1 _) (by decide) rfl (fun ls hl => ?_)
            refine lv_goto hx hb d_M_crash_298 (tgt := 232) (by decide) ?_
            exact ih (v3) ((v4 + (-1))) (MA) (MD) (MG) _ _ _ (lv_sub hl [1, 2, 0] rfl) hP hS hwp hX
          · rw [if_pos hc] at hwp
            refine lv_aload_n hx hb d_M_crash_257 rfl (lv_at hl 0 rfl) ?_
            refine lv_aload_n hx hb d_M_crash_258 rfl (lv_at hl 0 rfl) ?_
            refine lv_aload_n hx hb d_M_crash_259 rfl (lv_at hl 0 rfl) ?_
            refine va_get (D := (dC, dI)) (ci := 7) (v := .ref (q 11)) (C := R_M) (T := F_M) (N := 39) hx hb hts hiM hown hK hP 0 rfl rfl 15 (by decide) lk41 (fun _ h9 => h9) rfl d_M_crash_260 ?_
            refine lv_iload hx hb d_M_crash_263 (lv_at hl 2 rfl) ?_
            refine va_iald hx hb hK hP 11 0 rfl rfl hwp.1 d_M_crash_265 ?_
            have hwp := hwp.2
            refine ncn_i (As := [.int ((MG_by MG) (Int32.toNatClampNeg v4))]) (c_M_top hq (MA) (MD) (MF) (MG) (ML) (MN) (MP) (MT) (MV) (((MG_by MG) (Int32.toNatClampNeg v4))) _ hwp) (cwV 1 hts g_M_136 rfl rfl rfl hd_M_top ⟨Nat.le_of_ble_eq_true rfl, Nat.le_of_ble_eq_true rfl⟩) hx hb hml hown hts hK hP hS hl.1 d_M_crash_266 (va_recv (q := (R_M, F_M, 39)) hK hP (ci := 7) (q0 := 0) rfl rfl) rfl (lv_room (Nat.le_of_ble_eq_true rfl)) (Nat.zero_le _) (Nat.zero_le _) rfl (fun r19 u H locs hwp hP hS => ?_)
            have hP : va_P (dC, dI) clZ (wM cI cL cZ q MA MD MF MG ML MN MP MT MV) H := hP
            refine ncn_i (As := [.int r19]) (c_M_committed hq (MA) (MD) (MF) (MG) (ML) (MN) (MP) (MT) (MV) (r19) _ hwp) (cwV 1 hts g_M_261 rfl rfl rfl hd_M_committed ⟨Nat.le_of_ble_eq_true rfl, Nat.le_of_ble_eq_true rfl⟩) hx hb hml hown hts hK hP hS hl.1 d_M_crash_269 (va_recv (q := (R_M, F_M, 39)) hK hP (ci := 7) (q0 := 0) rfl rfl) rfl (lv_room (Nat.le_of_ble_eq_true rfl)) (Nat.zero_le _) (Nat.zero_le _) rfl (fun r20 u H locs hwp hP hS => ?_)
            have hP : va_P (dC, dI) clZ (wM cI cL cZ q MA MD MF MG ML MN MP MT MV) H := hP
            refine lv_if_ne (tgt := 295) hx hb d_M_crash_272 (by decide) (fun hc => ?_) (fun hc => ?_)
            · rw [if_neg hc] at hwp
              refine lv_iinc (k := 2) (v := (v4 + (-1))) (lv' := [(4, .int (v4 + (-1))), (0, .ref (q 0)), (3, .int v3)]) hx hb d_M_crash_295 hl rfl (ii_m1 _) (by decide) rfl (fun ls hl => ?_)
              refine lv_goto hx hb d_M_crash_298 (tgt := 232) (by decide) ?_
              exact ih (v3) ((v4 + (-1))) (MA) (MD) (MG) _ _ _ (lv_sub hl [1, 2, 0] rfl) hP hS hwp hX
            · rw [if_pos hc] at hwp
              refine lv_aload_n hx hb d_M_crash_275 rfl (lv_at hl 0 rfl) ?_
              refine lv_aload_n hx hb d_M_crash_276 rfl (lv_at hl 0 rfl) ?_
              refine lv_aload_n hx hb d_M_crash_277 rfl (lv_at hl 0 rfl) ?_
              refine va_get (D := (dC, dI)) (ci := 7) (v := .ref (q 11)) (C := R_M) (T := F_M) (N := 39) hx hb hts hiM hown hK hP 0 rfl rfl 15 (by decide) lk41 (fun _ h9 => h9) rfl d_M_crash_278 ?_
              refine lv_iload hx hb d_M_crash_281 (lv_at hl 2 rfl) ?_
              refine va_iald hx hb hK hP 11 0 rfl rfl hwp.1 d_M_crash_283 ?_
              have hwp := hwp.2
              refine ncn_i (As := [.int ((MG_by MG) (Int32.toNatClampNeg v4))]) (c_M_top hq (MA) (MD) (MF) (MG) (ML) (MN) (MP) (MT) (MV) (((MG_by MG) (Int32.toNatClampNeg v4))) _ hwp) (cwV 1 hts g_M_136 rfl rfl rfl hd_M_top ⟨Nat.le_of_ble_eq_true rfl, Nat.le_of_ble_eq_true rfl⟩) hx hb hml hown hts hK hP hS hl.1 d_M_crash_284 (va_recv (q := (R_M, F_M, 39)) hK hP (ci := 7) (q0 := 0) rfl rfl) rfl (lv_room (Nat.le_of_ble_eq_true rfl)) (Nat.zero_le _) (Nat.zero_le _) rfl (fun r21 u H locs hwp hP hS => ?_)
              have hP : va_P (dC, dI) clZ (wM cI cL cZ q MA MD MF MG ML MN MP MT MV) H := hP
              refine lv_iload hx hb d_M_crash_287 (lv_at hl 2 rfl) ?_
              refine ncn_v (As := [.int r21, .int v4]) (c_M_undo hq (MA) (MD) (MF) (MG) (ML) (MN) (MP) (MT) (MV) (r21) (v4) _ hwp) (cwV 2 hts g_M_248 rfl rfl rfl hd_M_undo ⟨Nat.le_of_ble_eq_true rfl, Nat.le_of_ble_eq_true rfl⟩) hx hb hml hown hts hK hP hS hl.1 d_M_crash_289 (va_recv (q := (R_M, F_M, 39)) hK hP (ci := 7) (q0 := 0) rfl rfl) rfl (lv_room (Nat.le_of_ble_eq_true rfl)) (Nat.zero_le _) (Nat.zero_le _) rfl (fun u H locs hwp hP hS => ?_)
              obtain ⟨MA22, MD23, MG24⟩ := u
              have hP : va_P (dC, dI) clZ (wM cI cL cZ q MA22 MD23 MF MG24 ML MN MP MT MV) H := hP
              refine lv_iinc (k := 1) (v := (v3 + 1)) (lv' := [(3, .int (v3 + 1)), (0, .ref (q 0)), (4, .int v4)]) hx hb d_M_crash_292 hl rfl (ii_1 _) (by decide) rfl (fun ls hl => ?_)
              refine lv_iinc (k := 2) (v := (v4 + (-1))) (lv' := [(4, .int (v4 + (-1))), (3, .int (v3 + 1)), (0, .ref (q 0))]) hx hb d_M_crash_295 hl rfl (ii_m1 _) (by decide) rfl (fun ls hl => ?_)
              refine lv_goto hx hb d_M_crash_298 (tgt := 232) (by decide) ?_
              exact ih ((v3 + 1)) ((v4 + (-1))) (MA22) (MD23) (MG24) _ _ _ (lv_sub hl [2, 1, 0] rfl) hP hS hwp hX
  rw [wp_M_crash] at hwp
  refine lv_iload_n hx hb d_M_crash_0 rfl (lv_at hl 1 rfl) ?_
  refine lv_if_lt (tgt := 17) hx hb d_M_crash_1 (by decide) (fun hc => ?_) (fun hc => ?_)
  · rw [if_pos hc] at hwp
    refine lv_iconst (v := (-1)) hx hb d_M_crash_17 (by decide) ?_
    rw [hQ]
    exact W.iret (v := (-1)) hx hb hr (fun t ht hW => ⟨⟨(-1), (MA, MD, MG, ML, MT), rfl, hwp, hp_of ht hP⟩, hS.F ht⟩) hS.2.2 d_M_crash_18
  · rw [if_neg hc] at hwp
    refine lv_iload_n hx hb d_M_crash_4 rfl (lv_at hl 1 rfl) ?_
    refine lv_aload_n hx hb d_M_crash_5 rfl (lv_at hl 0 rfl) ?_
    refine ncn_i (As := []) (c_M_last hq (MA) (MD) (MF) (MG) (ML) (MN) (MP) (MT) (MV)  _ hwp) (cwV 0 hts g_M_128 rfl rfl rfl hd_M_last ⟨Nat.le_of_ble_eq_true rfl, Nat.le_of_ble_eq_true rfl⟩) hx hb hml hown hts hK hP hS hl.1 d_M_crash_6 (va_recv (q := (R_M, F_M, 39)) hK hP (ci := 7) (q0 := 0) rfl rfl) rfl (lv_room (Nat.le_of_ble_eq_true rfl)) (Nat.zero_le _) (Nat.zero_le _) rfl (fun r1 u H locs hwp hP hS => ?_)
    have hP : va_P (dC, dI) clZ (wM cI cL cZ q MA MD MF MG ML MN MP MT MV) H := hP
    refine lv_aload_n hx hb d_M_crash_9 rfl (lv_at hl 0 rfl) ?_
    refine va_get (D := (dC, dI)) (ci := 7) (v := .int (MG_flushed MG)) (C := R_M) (T := F_M) (N := 39) hx hb hts hiM hown hK hP 0 rfl rfl 13 (by decide) lk105 (fun _ h9 => h9) rfl d_M_crash_10 ?_
    refine lv_isub hx hb d_M_crash_13 ?_
    refine lv_icmp_le (tgt := 19) hx hb d_M_crash_14 (by decide) (fun hc => ?_) (fun hc => ?_)
    · rw [if_pos hc] at hwp
      refine lv_aload_n hx hb d_M_crash_19 rfl (lv_at hl 0 rfl) ?_
      refine lv_dup hx hb d_M_crash_20 rfl ?_
      refine va_get (D := (dC, dI)) (ci := 7) (v := .int (MG_flushed MG)) (C := R_M) (T := F_M) (N := 39) hx hb hts hiM hown hK hP 0 rfl rfl 13 (by decide) lk105 (fun _ h9 => h9) rfl d_M_crash_21 ?_
      refine lv_iload_n hx hb d_M_crash_24 rfl (lv_at hl 1 rfl) ?_
      refine lv_iadd hx hb d_M_crash_25 ?_
      refine va_put (D := (dC, dI)) (ci := 7) (v := .int ((MG_flushed MG) + a1)) (ty := .int) (C := R_M) (T := F_M) (N := 39) hx hb hts hiM ty_M ty_M_ok nmx_M hown hK hP (dM hq) hS 0 rfl rfl 13 (by decide) lk105 (fun _ h9 => h9) rfl (by decide +kernel) rfl rfl (Nat.le_of_ble_eq_true rfl) d_M_crash_26 (fun H locs hP _ hS => ?_)
      have hP : va_P (dC, dI) clZ (wM cI cL cZ q MA MD MF (MG_flushed' MG ((MG_flushed MG) + a1)) ML MN MP MT MV) H := hP
      refine lv_aload_n hx hb d_M_crash_29 rfl (lv_at hl 0 rfl) ?_
      refine lv_aload_n hx hb d_M_crash_30 rfl (lv_at hl 0 rfl) ?_
      refine va_get (D := (dC, dI)) (ci := 7) (v := .int ((MG_flushed MG) + a1)) (C := R_M) (T := F_M) (N := 39) hx hb hts hiM hown hK hP 0 rfl rfl 13 (by decide) lk105 (fun _ h9 => h9) rfl d_M_crash_31 ?_
      refine lv_aload_n hx hb d_M_crash_34 rfl (lv_at hl 0 rfl) ?_
      refine va_get (D := (dC, dI)) (ci := 7) (v := .int (MG_base MG)) (C := R_M) (T := F_M) (N := 39) hx hb hts hiM hown hK hP 0 rfl rfl 11 (by decide) lk115 (fun _ h9 => h9) rfl d_M_crash_35 ?_
      refine lv_isub hx hb d_M_crash_38 ?_
      refine va_put (D := (dC, dI)) (ci := 7) (v := .int (((MG_flushed MG) + a1) - (MG_base MG))) (ty := .int) (C := R_M) (T := F_M) (N := 39) hx hb hts hiM ty_M ty_M_ok nmx_M hown hK hP (dM hq) hS 0 rfl rfl 12 (by decide) lk118 (fun _ h9 => h9) rfl (by decide +kernel) rfl rfl (Nat.le_of_ble_eq_true rfl) d_M_crash_39 (fun H locs hP _ hS => ?_)
      have hP : va_P (dC, dI) clZ (wM cI cL cZ q MA MD MF (MG_records' (MG_flushed' MG ((MG_flushed MG) + a1)) (((MG_flushed MG) + a1) - (MG_base MG))) ML MN MP MT MV) H := hP
      refine lv_iconst (v := 0) hx hb d_M_crash_42 (by decide) ?_
      refine lv_istore_n (lv' := [(2, .int 0), (0, .ref (q 0)), (1, .int a1)]) hx hb d_M_crash_43 rfl hl (by decide) rfl (fun ls hl => ?_)
      obtain ⟨e44, hwp⟩ := hwp
      refine L44 _ (MD) ((MG_records' (MG_flushed' MG ((MG_flushed MG) + a1)) (((MG_flushed MG) + a1) - (MG_base MG)))) (ML) (MT) e44 (0) (MA) _ _ _ (lv_sub hl [1, 0] rfl) hP hS hwp (fun MA2 H locs ls hl hP hS hwp => ?_)
      refine lv_iconst (v := 0) hx hb d_M_crash_70 (by decide) ?_
      refine lv_istore_n (lv' := [(2, .int 0), (0, .ref (q 0))]) hx hb d_M_crash_71 rfl hl (by decide) rfl (fun ls hl => ?_)
      obtain ⟨e72, hwp⟩ := hwp
      refine L72 _ (MA2) (MD) ((MG_records' (MG_flushed' MG ((MG_flushed MG) + a1)) (((MG_flushed MG) + a1) - (MG_base MG)))) e72 (0) (ML) (MT) _ _ _ (lv_sub hl [1, 0] rfl) hP hS hwp (fun ML5 MT6 H locs ls hl hP hS hwp => ?_)
      refine lv_aload_n hx hb d_M_crash_121 rfl (lv_at hl 0 rfl) ?_
      refine va_get (D := (dC, dI)) (ci := 7) (v := .int (((MG_flushed MG) + a1) - (MG_base MG))) (C := R_M) (T := F_M) (N := 39) hx hb hts hiM hown hK hP 0 rfl rfl 12 (by decide) lk118 (fun _ h9 => h9) rfl d_M_crash_122 ?_
      refine lv_istore_n (lv' := [(2, .int (((MG_flushed MG) + a1) - (MG_base MG))), (0, .ref (q 0))]) hx hb d_M_crash_125 rfl hl (by decide) rfl (fun ls hl => ?_)
      refine lv_iconst (v := 0) hx hb d_M_crash_126 (by decide) ?_
      refine lv_istore_n (lv' := [(3, .int 0), (2, .int (((MG_flushed MG) + a1) - (MG_base MG))), (0, .ref (q 0))]) hx hb d_M_crash_127 rfl hl (by decide) rfl (fun ls hl => ?_)
      obtain ⟨e128, hwp⟩ := hwp
      refine L128 _ (ML5) (MT6) ((((MG_flushed MG) + a1) - (MG_base MG))) e128 (0) (MA2) (MD) ((MG_records' (MG_flushed' MG ((MG_flushed MG) + a1)) (((MG_flushed MG) + a1) - (MG_base MG)))) _ _ _ (lv_sub hl [2, 1, 0] rfl) hP hS hwp (fun MA15 MD16 MG17 H locs ls hl hP hS hwp => ?_)
      refine lv_iconst (v := 0) hx hb d_M_crash_225 (by decide) ?_
      refine lv_istore_n (lv' := [(3, .int 0), (0, .ref (q 0)), (2, .int (((MG_flushed MG) + a1) - (MG_base MG)))]) hx hb d_M_crash_226 rfl hl (by decide) rfl (fun ls hl => ?_)
      refine lv_iload_n hx hb d_M_crash_227 rfl (lv_at hl 2 rfl) ?_
      refine lv_iconst (v := 1) hx hb d_M_crash_228 (by decide) ?_
      refine lv_isub hx hb d_M_crash_229 ?_
      refine lv_istore (lv' := [(4, .int ((((MG_flushed MG) + a1) - (MG_base MG)) - 1)), (3, .int 0), (0, .ref (q 0)), (2, .int (((MG_flushed MG) + a1) - (MG_base MG)))]) hx hb d_M_crash_230 hl (by decide) rfl (fun ls hl => ?_)
      obtain ⟨e232, hwp⟩ := hwp
      refine L232 _ (ML5) (MT6) e232 (0) (((((MG_flushed MG) + a1) - (MG_base MG)) - 1)) (MA15) (MD16) (MG17) _ _ _ (lv_sub hl [2, 1, 0] rfl) hP hS hwp (fun x25 MA26 MD27 MG28 H locs ls hl hP hS hwp => ?_)
      refine lv_aload_n hx hb d_M_crash_301 rfl (lv_at hl 0 rfl) ?_
      refine lv_aload_n hx hb d_M_crash_302 rfl (lv_at hl 0 rfl) ?_
      refine ncn_i (As := []) (c_M_last hq (MA26) (MD27) (MF) (MG28) (ML5) (MN) (MP) (MT6) (MV)  _ hwp) (cwV 0 hts g_M_128 rfl rfl rfl hd_M_last ⟨Nat.le_of_ble_eq_true rfl, Nat.le_of_ble_eq_true rfl⟩) hx hb hml hown hts hK hP hS hl.1 d_M_crash_303 (va_recv (q := (R_M, F_M, 39)) hK hP (ci := 7) (q0 := 0) rfl rfl) rfl (lv_room (Nat.le_of_ble_eq_true rfl)) (Nat.zero_le _) (Nat.zero_le _) rfl (fun r29 u H locs hwp hP hS => ?_)
      have hP : va_P (dC, dI) clZ (wM cI cL cZ q MA26 MD27 MF MG28 ML5 MN MP MT6 MV) H := hP
      refine va_put (D := (dC, dI)) (ci := 7) (v := .int r29) (ty := .int) (C := R_M) (T := F_M) (N := 39) hx hb hts hiM ty_M ty_M_ok nmx_M hown hK hP (dM hq) hS 0 rfl rfl 13 (by decide) lk105 (fun _ h9 => h9) rfl (by decide +kernel) rfl rfl (Nat.le_of_ble_eq_true rfl) d_M_crash_306 (fun H locs hP _ hS => ?_)
      have hP : va_P (dC, dI) clZ (wM cI cL cZ q MA26 MD27 MF (MG_flushed' MG28 r29) ML5 MN MP MT6 MV) H := hP
      refine lv_iload_n hx hb d_M_crash_309 rfl (lv_at hl 1 rfl) ?_
      rw [hQ]
      exact W.iret (v := x25) hx hb hr (fun t ht hW => ⟨⟨x25, (MA26, MD27, (MG_flushed' MG28 r29), ML5, MT6), rfl, hwp, hp_of ht hP⟩, hS.F ht⟩) hS.2.2 d_M_crash_310
    · rw [if_neg hc] at hwp
      refine lv_iconst (v := (-1)) hx hb d_M_crash_17 (by decide) ?_
      rw [hQ]
      exact W.iret (v := (-1)) hx hb hr (fun t ht hW => ⟨⟨(-1), (MA, MD, MG, ML, MT), rfl, hwp, hp_of ht hP⟩, hS.F ht⟩) hS.2.2 d_M_crash_18

set_option maxHeartbeats 4000000 in
set_option maxRecDepth 100000 in
theorem c_M_state {l : Launch} {dC : Nat → ClassId} {dI : Nat → Nat → Nat} {cI cL cZ : ClassId} {q : Nat → Nat} (hq : iM q) (MA : S_MA) (MD : S_MD) (MF : S_MF) (MG : S_MG) (ML : S_ML) (MN : S_MN) (MP : S_MP) (MT : S_MT) (MV : S_MV) (a1 : Int32) (post : Int32 → Prop) (hwp : wp_M_state MT a1 post) : Met l y_M_state ws_M_state rm_M_state (va_Pc [.ref (q 0), .int a1] (bM dC dI cI cL cZ q MA MD MF MG ML MN MP MT MV)) (va_Qi (fun (r : Int32) (u : Unit) => post r) (fun u t => va_P (dC, dI) clZ (wM cI cL cZ q MA MD MF MG ML MN MP MT MV) t.heap) (aM q)) 0 0 (aM q) := by
  refine Met.ofW (cc := b_M_state) (maxL := 2) (ret := (some .int)) (by decide) rfl ?_
  intro p e s m args below meth c s₁ B hml hv
  obtain ⟨rfl, hP, hK⟩ := hv
  have hx := B.exec
  have hb := B.bytes
  have hr := B.returns
  have hts := atoms_spec (ws := ws_M_state) B.pre
  have hown : s.vm.findClass R_M = some m.cls := findClass_of_methodNamed B.named
  have hlocks := B.notSynchronized
  have hiM : ∀ w ∈ u_ws R_M F_M 39, w ∈ ws_M_state := fun w h => List.mem_cons_of_mem _ (in_M w h)
  have lk62 := hts _ (List.mem_cons_of_mem _ k_M_62)
  have hS : va_S (aM q) s.heap s.heap [] := va_S.rf
  have hl := lv_entry ([.ref (q 0), .int a1]) (n := 2) (Nat.le_of_ble_eq_true rfl)
  rw [lg_entry_eq]
  generalize (lg_sl ([.ref (q 0), .int a1]) ++ List.replicate (2 - (lg_sl ([.ref (q 0), .int a1])).length) Slot.unset).toArray = ls at hl ⊢
  have hl : lv_has ls 2 [(0, .ref (q 0)), (1, .int a1)] := hl
  obtain ⟨Q, hQ⟩ : ∃ Q, Q = MQ below (va_Qi (fun (r : Int32) (u : Unit) => post r) (fun u t => va_P (dC, dI) clZ (wM cI cL cZ q MA MD MF MG ML MN MP MT MV) t.heap) (aM q)) ([.ref (q 0), .int a1]).toArray s 0 0 (aM q) := ⟨_, rfl⟩
  rw [← hQ]
  rw [wp_M_state] at hwp
  refine lv_aload_n hx hb d_M_state_0 rfl (lv_at hl 0 rfl) ?_
  refine lv_iload_n hx hb d_M_state_1 rfl (lv_at hl 1 rfl) ?_
  refine ncn_i (As := [.int a1]) (c_M_is hq (MA) (MD) (MF) (MG) (ML) (MN) (MP) (MT) (MV) (a1) _ hwp) (cwV 1 hts g_M_159 rfl rfl rfl hd_M_is ⟨Nat.le_of_ble_eq_true rfl, Nat.le_of_ble_eq_true rfl⟩) hx hb hml hown hts hK hP hS hl.1 d_M_state_2 (va_recv (q := (R_M, F_M, 39)) hK hP (ci := 7) (q0 := 0) rfl rfl) rfl (lv_room (Nat.le_of_ble_eq_true rfl)) (Nat.zero_le _) (Nat.zero_le _) rfl (fun r1 u H locs hwp hP hS => ?_)
  have hP : va_P (dC, dI) clZ (wM cI cL cZ q MA MD MF MG ML MN MP MT MV) H := hP
  refine lv_if_eq (tgt := 17) hx hb d_M_state_5 (by decide) (fun hc => ?_) (fun hc => ?_)
  · rw [if_pos hc] at hwp
    refine lv_iconst (v := (-1)) hx hb d_M_state_17 (by decide) ?_
    rw [hQ]
    exact W.iret (v := (-1)) hx hb hr (fun t ht hW => ⟨⟨(-1), (), rfl, hwp, hp_of ht hP⟩, hS.F ht⟩) hS.2.2 d_M_state_18
  · rw [if_neg hc] at hwp
    refine lv_aload_n hx hb d_M_state_8 rfl (lv_at hl 0 rfl) ?_
    refine va_get (D := (dC, dI)) (ci := 7) (v := .ref (q 18)) (C := R_M) (T := F_M) (N := 39) hx hb hts hiM hown hK hP 0 rfl rfl 23 (by decide) lk62 (fun _ h9 => h9) rfl d_M_state_9 ?_
    refine lv_iload_n hx hb d_M_state_12 rfl (lv_at hl 1 rfl) ?_
    refine va_iald hx hb hK hP 18 0 rfl rfl hwp.1 d_M_state_13 ?_
    have hwp := hwp.2
    refine lv_goto hx hb d_M_state_14 (tgt := 18) (by decide) ?_
    rw [hQ]
    exact W.iret (v := ((MT_state MT) (Int32.toNatClampNeg a1))) hx hb hr (fun t ht hW => ⟨⟨((MT_state MT) (Int32.toNatClampNeg a1)), (), rfl, hwp, hp_of ht hP⟩, hS.F ht⟩) hS.2.2 d_M_state_18

set_option maxHeartbeats 4000000 in
set_option maxRecDepth 100000 in
theorem c_M_parent {l : Launch} {dC : Nat → ClassId} {dI : Nat → Nat → Nat} {cI cL cZ : ClassId} {q : Nat → Nat} (hq : iM q) (MA : S_MA) (MD : S_MD) (MF : S_MF) (MG : S_MG) (ML : S_ML) (MN : S_MN) (MP : S_MP) (MT : S_MT) (MV : S_MV) (a1 : Int32) (post : Int32 → Prop) (hwp : wp_M_parent MT a1 post) : Met l y_M_parent ws_M_parent rm_M_parent (va_Pc [.ref (q 0), .int a1] (bM dC dI cI cL cZ q MA MD MF MG ML MN MP MT MV)) (va_Qi (fun (r : Int32) (u : Unit) => post r) (fun u t => va_P (dC, dI) clZ (wM cI cL cZ q MA MD MF MG ML MN MP MT MV) t.heap) (aM q)) 0 0 (aM q) := by
  refine Met.ofW (cc := b_M_parent) (maxL := 2) (ret := (some .int)) (by decide) rfl ?_
  intro p e s m args below meth c s₁ B hml hv
  obtain ⟨rfl, hP, hK⟩ := hv
  have hx := B.exec
  have hb := B.bytes
  have hr := B.returns
  have hts := atoms_spec (ws := ws_M_parent) B.pre
  have hown : s.vm.findClass R_M = some m.cls := findClass_of_methodNamed B.named
  have hlocks := B.notSynchronized
  have hiM : ∀ w ∈ u_ws R_M F_M 39, w ∈ ws_M_parent := fun w h => List.mem_cons_of_mem _ (in_M w h)
  have lk65 := hts _ (List.mem_cons_of_mem _ k_M_65)
  have hS : va_S (aM q) s.heap s.heap [] := va_S.rf
  have hl := lv_entry ([.ref (q 0), .int a1]) (n := 2) (Nat.le_of_ble_eq_true rfl)
  rw [lg_entry_eq]
  generalize (lg_sl ([.ref (q 0), .int a1]) ++ List.replicate (2 - (lg_sl ([.ref (q 0), .int a1])).length) Slot.unset).toArray = ls at hl ⊢
  have hl : lv_has ls 2 [(0, .ref (q 0)), (1, .int a1)] := hl
  obtain ⟨Q, hQ⟩ : ∃ Q, Q = MQ below (va_Qi (fun (r : Int32) (u : Unit) => post r) (fun u t => va_P (dC, dI) clZ (wM cI cL cZ q MA MD MF MG ML MN MP MT MV) t.heap) (aM q)) ([.ref (q 0), .int a1]).toArray s 0 0 (aM q) := ⟨_, rfl⟩
  rw [← hQ]
  rw [wp_M_parent] at hwp
  refine lv_aload_n hx hb d_M_parent_0 rfl (lv_at hl 0 rfl) ?_
  refine lv_iload_n hx hb d_M_parent_1 rfl (lv_at hl 1 rfl) ?_
  refine ncn_i (As := [.int a1]) (c_M_is hq (MA) (MD) (MF) (MG) (ML) (MN) (MP) (MT) (MV) (a1) _ hwp) (cwV 1 hts g_M_159 rfl rfl rfl hd_M_is ⟨Nat.le_of_ble_eq_true rfl, Nat.le_of_ble_eq_true rfl⟩) hx hb hml hown hts hK hP hS hl.1 d_M_parent_2 (va_recv (q := (R_M, F_M, 39)) hK hP (ci := 7) (q0 := 0) rfl rfl) rfl (lv_room (Nat.le_of_ble_eq_true rfl)) (Nat.zero_le _) (Nat.zero_le _) rfl (fun r1 u H locs hwp hP hS => ?_)
  have hP : va_P (dC, dI) clZ (wM cI cL cZ q MA MD MF MG ML MN MP MT MV) H := hP
  refine lv_if_eq (tgt := 17) hx hb d_M_parent_5 (by decide) (fun hc => ?_) (fun hc => ?_)
  · rw [if_pos hc] at hwp
    refine lv_iconst (v := (-1)) hx hb d_M_parent_17 (by decide) ?_
    rw [hQ]
    exact W.iret (v := (-1)) hx hb hr (fun t ht hW => ⟨⟨(-1), (), rfl, hwp, hp_of ht hP⟩, hS.F ht⟩) hS.2.2 d_M_parent_18
  · rw [if_neg hc] at hwp
    refine lv_aload_n hx hb d_M_parent_8 rfl (lv_at hl 0 rfl) ?_
    refine va_get (D := (dC, dI)) (ci := 7) (v := .ref (q 19)) (C := R_M) (T := F_M) (N := 39) hx hb hts hiM hown hK hP 0 rfl rfl 24 (by decide) lk65 (fun _ h9 => h9) rfl d_M_parent_9 ?_
    refine lv_iload_n hx hb d_M_parent_12 rfl (lv_at hl 1 rfl) ?_
    refine va_iald hx hb hK hP 19 0 rfl rfl hwp.1 d_M_parent_13 ?_
    have hwp := hwp.2
    refine lv_goto hx hb d_M_parent_14 (tgt := 18) (by decide) ?_
    rw [hQ]
    exact W.iret (v := ((MT_parent MT) (Int32.toNatClampNeg a1))) hx hb hr (fun t ht hW => ⟨⟨((MT_parent MT) (Int32.toNatClampNeg a1)), (), rfl, hwp, hp_of ht hP⟩, hS.F ht⟩) hS.2.2 d_M_parent_18

set_option maxHeartbeats 4000000 in
set_option maxRecDepth 100000 in
theorem c_M_lock {l : Launch} {dC : Nat → ClassId} {dI : Nat → Nat → Nat} {cI cL cZ : ClassId} {q : Nat → Nat} (hq : iM q) (MA : S_MA) (MD : S_MD) (MF : S_MF) (MG : S_MG) (ML : S_ML) (MN : S_MN) (MP : S_MP) (MT : S_MT) (MV : S_MV) (a1 : Int32) (a2 : Int32) (post : Int32 → Prop) (hwp : wp_M_lock ML MT a1 a2 post) : Met l y_M_lock ws_M_lock rm_M_lock (va_Pc [.ref (q 0), .int a1, .int a2] (bM dC dI cI cL cZ q MA MD MF MG ML MN MP MT MV)) (va_Qi (fun (r : Int32) (u : Unit) => post r) (fun u t => va_P (dC, dI) clZ (wM cI cL cZ q MA MD MF MG ML MN MP MT MV) t.heap) (aM q)) 0 0 (aM q) := by
  refine Met.ofW (cc := b_M_lock) (maxL := 3) (ret := (some .int)) (by decide) rfl ?_
  intro p e s m args below meth c s₁ B hml hv
  obtain ⟨rfl, hP, hK⟩ := hv
  have hx := B.exec
  have hb := B.bytes
  have hr := B.returns
  have hts := atoms_spec (ws := ws_M_lock) B.pre
  have hown : s.vm.findClass R_M = some m.cls := findClass_of_methodNamed B.named
  have hlocks := B.notSynchronized
  have hiM : ∀ w ∈ u_ws R_M F_M 39, w ∈ ws_M_lock := fun w h => List.mem_cons_of_mem _ (in_M w h)
  have lk71 := hts _ (List.mem_cons_of_mem _ k_M_71)
  have hS : va_S (aM q) s.heap s.heap [] := va_S.rf
  have hl := lv_entry ([.ref (q 0), .int a1, .int a2]) (n := 3) (Nat.le_of_ble_eq_true rfl)
  rw [lg_entry_eq]
  generalize (lg_sl ([.ref (q 0), .int a1, .int a2]) ++ List.replicate (3 - (lg_sl ([.ref (q 0), .int a1, .int a2])).length) Slot.unset).toArray = ls at hl ⊢
  have hl : lv_has ls 3 [(0, .ref (q 0)), (1, .int a1), (2, .int a2)] := hl
  obtain ⟨Q, hQ⟩ : ∃ Q, Q = MQ below (va_Qi (fun (r : Int32) (u : Unit) => post r) (fun u t => va_P (dC, dI) clZ (wM cI cL cZ q MA MD MF MG ML MN MP MT MV) t.heap) (aM q)) ([.ref (q 0), .int a1, .int a2]).toArray s 0 0 (aM q) := ⟨_, rfl⟩
  rw [← hQ]
  rw [wp_M_lock] at hwp
  refine lv_aload_n hx hb d_M_lock_0 rfl (lv_at hl 0 rfl) ?_
  refine lv_iload_n hx hb d_M_lock_1 rfl (lv_at hl 1 rfl) ?_
  refine ncn_i (As := [.int a1]) (c_M_is hq (MA) (MD) (MF) (MG) (ML) (MN) (MP) (MT) (MV) (a1) _ hwp) (cwV 1 hts g_M_159 rfl rfl rfl hd_M_is ⟨Nat.le_of_ble_eq_true rfl, Nat.le_of_ble_eq_true rfl⟩) hx hb hml hown hts hK hP hS hl.1 d_M_lock_2 (va_recv (q := (R_M, F_M, 39)) hK hP (ci := 7) (q0 := 0) rfl rfl) rfl (lv_room (Nat.le_of_ble_eq_true rfl)) (Nat.zero_le _) (Nat.zero_le _) rfl (fun r1 u H locs hwp hP hS => ?_)
  have hP : va_P (dC, dI) clZ (wM cI cL cZ q MA MD MF MG ML MN MP MT MV) H := hP
  refine lv_if_eq (tgt := 18) hx hb d_M_lock_5 (by decide) (fun hc => ?_) (fun hc => ?_)
  · rw [if_pos hc] at hwp
    refine lv_iconst (v := (-1)) hx hb d_M_lock_18 (by decide) ?_
    refine lv_goto hx hb d_M_lock_19 (tgt := 33) (by decide) ?_
    rw [hQ]
    exact W.iret (v := (-1)) hx hb hr (fun t ht hW => ⟨⟨(-1), (), rfl, hwp, hp_of ht hP⟩, hS.F ht⟩) hS.2.2 d_M_lock_33
  · rw [if_neg hc] at hwp
    refine lv_iload_n hx hb d_M_lock_8 rfl (lv_at hl 2 rfl) ?_
    refine lv_if_lt (tgt := 18) hx hb d_M_lock_9 (by decide) (fun hc => ?_) (fun hc => ?_)
    · rw [if_pos hc] at hwp
      refine lv_iconst (v := (-1)) hx hb d_M_lock_18 (by decide) ?_
      refine lv_goto hx hb d_M_lock_19 (tgt := 33) (by decide) ?_
      rw [hQ]
      exact W.iret (v := (-1)) hx hb hr (fun t ht hW => ⟨⟨(-1), (), rfl, hwp, hp_of ht hP⟩, hS.F ht⟩) hS.2.2 d_M_lock_33
    · rw [if_neg hc] at hwp
      refine lv_iload_n hx hb d_M_lock_12 rfl (lv_at hl 2 rfl) ?_
      refine lv_bipush (v := 32) hx hb d_M_lock_13 (by decide) ?_
      refine lv_icmp_le (tgt := 22) hx hb d_M_lock_15 (by decide) (fun hc => ?_) (fun hc => ?_)
      · rw [if_pos hc] at hwp
        refine lv_aload_n hx hb d_M_lock_22 rfl (lv_at hl 0 rfl) ?_
        refine va_get (D := (dC, dI)) (ci := 7) (v := .ref (q 21)) (C := R_M) (T := F_M) (N := 39) hx hb hts hiM hown hK hP 0 rfl rfl 26 (by decide) lk71 (fun _ h9 => h9) rfl d_M_lock_23 ?_
        refine lv_bipush (v := 33) hx hb d_M_lock_26 (by decide) ?_
        refine lv_iload_n hx hb d_M_lock_28 rfl (lv_at hl 1 rfl) ?_
        refine lv_imul hx hb d_M_lock_29 ?_
        refine lv_iload_n hx hb d_M_lock_30 rfl (lv_at hl 2 rfl) ?_
        refine lv_iadd hx hb d_M_lock_31 ?_
        refine va_iald hx hb hK hP 21 0 rfl rfl hwp.1 d_M_lock_32 ?_
        have hwp := hwp.2
        rw [hQ]
        exact W.iret (v := ((ML_locks ML) (Int32.toNatClampNeg ((33 * a1) + a2)))) hx hb hr (fun t ht hW => ⟨⟨((ML_locks ML) (Int32.toNatClampNeg ((33 * a1) + a2))), (), rfl, hwp, hp_of ht hP⟩, hS.F ht⟩) hS.2.2 d_M_lock_33
      · rw [if_neg hc] at hwp
        refine lv_iconst (v := (-1)) hx hb d_M_lock_18 (by decide) ?_
        refine lv_goto hx hb d_M_lock_19 (tgt := 33) (by decide) ?_
        rw [hQ]
        exact W.iret (v := (-1)) hx hb hr (fun t ht hW => ⟨⟨(-1), (), rfl, hwp, hp_of ht hP⟩, hS.F ht⟩) hS.2.2 d_M_lock_33

set_option maxHeartbeats 4000000 in
set_option maxRecDepth 100000 in
theorem c_M_waits {l : Launch} {dC : Nat → ClassId} {dI : Nat → Nat → Nat} {cI cL cZ : ClassId} {q : Nat → Nat} (hq : iM q) (MA : S_MA) (MD : S_MD) (MF : S_MF) (MG : S_MG) (ML : S_ML) (MN : S_MN) (MP : S_MP) (MT : S_MT) (MV : S_MV) (a1 : Int32) (a2 : Int32) (post : Int32 → S_MP → S_MV → Prop) (hwp : wp_M_waits MA MD ML MP MT MV a1 a2 post) : Met l y_M_waits ws_M_waits rm_M_waits (va_Pc [.ref (q 0), .int a1, .int a2] (bM dC dI cI cL cZ q MA MD MF MG ML MN MP MT MV)) (va_Qi (fun (r : Int32) (u : S_MP × S_MV) => post r u.1 u.2) (fun u t => va_P (dC, dI) clZ (wM cI cL cZ q MA MD MF MG ML MN (u.1) MT (u.2)) t.heap) (aM q)) 0 0 (aM q) := by
  refine Met.ofW (cc := b_M_waits) (maxL := 3) (ret := (some .boolean)) (by decide) rfl ?_
  intro p e s m args below meth c s₁ B hml hv
  obtain ⟨rfl, hP, hK⟩ := hv
  have hx := B.exec
  have hb := B.bytes
  have hr := B.returns
  have hts := atoms_spec (ws := ws_M_waits) B.pre
  have hown : s.vm.findClass R_M = some m.cls := findClass_of_methodNamed B.named
  have hlocks := B.notSynchronized
  have hiM : ∀ w ∈ u_ws R_M F_M 39, w ∈ ws_M_waits := fun w h => List.mem_cons_of_mem _ (in_M w h)
  have lk62 := hts _ (List.mem_cons_of_mem _ k_M_62)
  have lk86 := hts _ (List.mem_cons_of_mem _ k_M_86)
  have lk89 := hts _ (List.mem_cons_of_mem _ k_M_89)
  have hS : va_S (aM q) s.heap s.heap [] := va_S.rf
  have hl := lv_entry ([.ref (q 0), .int a1, .int a2]) (n := 3) (Nat.le_of_ble_eq_true rfl)
  rw [lg_entry_eq]
  generalize (lg_sl ([.ref (q 0), .int a1, .int a2]) ++ List.replicate (3 - (lg_sl ([.ref (q 0), .int a1, .int a2])).length) Slot.unset).toArray = ls at hl ⊢
  have hl : lv_has ls 3 [(0, .ref (q 0)), (1, .int a1), (2, .int a2)] := hl
  obtain ⟨Q, hQ⟩ : ∃ Q, Q = MQ below (va_Qi (fun (r : Int32) (u : S_MP × S_MV) => post r u.1 u.2) (fun u t => va_P (dC, dI) clZ (wM cI cL cZ q MA MD MF MG ML MN (u.1) MT (u.2)) t.heap) (aM q)) ([.ref (q 0), .int a1, .int a2]).toArray s 0 0 (aM q) := ⟨_, rfl⟩
  rw [← hQ]
  rw [wp_M_waits] at hwp
  refine lv_aload_n hx hb d_M_waits_0 rfl (lv_at hl 0 rfl) ?_
  refine lv_iload_n hx hb d_M_waits_1 rfl (lv_at hl 1 rfl) ?_
  refine ncn_i (As := [.int a1]) (c_M_is hq (MA) (MD) (MF) (MG) (ML) (MN) (MP) (MT) (MV) (a1) _ hwp) (cwV 1 hts g_M_159 rfl rfl rfl hd_M_is ⟨Nat.le_of_ble_eq_true rfl, Nat.le_of_ble_eq_true rfl⟩) hx hb hml hown hts hK hP hS hl.1 d_M_waits_2 (va_recv (q := (R_M, F_M, 39)) hK hP (ci := 7) (q0 := 0) rfl rfl) rfl (lv_room (Nat.le_of_ble_eq_true rfl)) (Nat.zero_le _) (Nat.zero_le _) rfl (fun r1 u H locs hwp hP hS => ?_)
  have hP : va_P (dC, dI) clZ (wM cI cL cZ q MA MD MF MG ML MN MP MT MV) H := hP
  refine lv_if_eq (tgt := 26) hx hb d_M_waits_5 (by decide) (fun hc => ?_) (fun hc => ?_)
  · rw [if_pos hc] at hwp
    refine lv_iconst (v := 0) hx hb d_M_waits_26 (by decide) ?_
    rw [hQ]
    exact W.zret (v := 0) hx hb hr rfl (fun t ht hW => ⟨⟨0, (MP, MV), rfl, hwp, hp_of ht hP⟩, hS.F ht⟩) hS.2.2 d_M_waits_27
  · rw [if_neg hc] at hwp
    refine lv_aload_n hx hb d_M_waits_8 rfl (lv_at hl 0 rfl) ?_
    refine lv_iload_n hx hb d_M_waits_9 rfl (lv_at hl 2 rfl) ?_
    refine ncn_i (As := [.int a2]) (c_M_is hq (MA) (MD) (MF) (MG) (ML) (MN) (MP) (MT) (MV) (a2) _ hwp) (cwV 1 hts g_M_159 rfl rfl rfl hd_M_is ⟨Nat.le_of_ble_eq_true rfl, Nat.le_of_ble_eq_true rfl⟩) hx hb hml hown hts hK hP hS hl.1 d_M_waits_10 (va_recv (q := (R_M, F_M, 39)) hK hP (ci := 7) (q0 := 0) rfl rfl) rfl (lv_room (Nat.le_of_ble_eq_true rfl)) (Nat.zero_le _) (Nat.zero_le _) rfl (fun r2 u H locs hwp hP hS => ?_)
    have hP : va_P (dC, dI) clZ (wM cI cL cZ q MA MD MF MG ML MN MP MT MV) H := hP
    refine lv_if_eq (tgt := 26) hx hb d_M_waits_13 (by decide) (fun hc => ?_) (fun hc => ?_)
    · rw [if_pos hc] at hwp
      refine lv_iconst (v := 0) hx hb d_M_waits_26 (by decide) ?_
      rw [hQ]
      exact W.zret (v := 0) hx hb hr rfl (fun t ht hW => ⟨⟨0, (MP, MV), rfl, hwp, hp_of ht hP⟩, hS.F ht⟩) hS.2.2 d_M_waits_27
    · rw [if_neg hc] at hwp
      refine lv_aload_n hx hb d_M_waits_16 rfl (lv_at hl 0 rfl) ?_
      refine va_get (D := (dC, dI)) (ci := 7) (v := .ref (q 18)) (C := R_M) (T := F_M) (N := 39) hx hb hts hiM hown hK hP 0 rfl rfl 23 (by decide) lk62 (fun _ h9 => h9) rfl d_M_waits_17 ?_
      refine lv_iload_n hx hb d_M_waits_20 rfl (lv_at hl 1 rfl) ?_
      refine va_iald hx hb hK hP 18 0 rfl rfl hwp.1 d_M_waits_21 ?_
      have hwp := hwp.2
      refine lv_iconst (v := 2) hx hb d_M_waits_22 (by decide) ?_
      refine lv_icmp_eq (tgt := 28) hx hb d_M_waits_23 (by decide) (fun hc => ?_) (fun hc => ?_)
      · rw [if_pos hc] at hwp
        refine lv_aload_n hx hb d_M_waits_28 rfl (lv_at hl 0 rfl) ?_
        refine ncn_v (As := []) (c_M_look hq (MA) (MD) (MF) (MG) (ML) (MN) (MP) (MT) (MV)  _ hwp) (cwV 0 hts g_M_203 rfl rfl rfl hd_M_look ⟨Nat.le_of_ble_eq_true rfl, Nat.le_of_ble_eq_true rfl⟩) hx hb hml hown hts hK hP hS hl.1 d_M_waits_29 (va_recv (q := (R_M, F_M, 39)) hK hP (ci := 7) (q0 := 0) rfl rfl) rfl (lv_room (Nat.le_of_ble_eq_true rfl)) (Nat.zero_le _) (Nat.zero_le _) rfl (fun u H locs hwp hP hS => ?_)
        obtain ⟨MP3, MV4⟩ := u
        have hP : va_P (dC, dI) clZ (wM cI cL cZ q MA MD MF MG ML MN MP3 MT MV4) H := hP
        refine lv_aload_n hx hb d_M_waits_32 rfl (lv_at hl 0 rfl) ?_
        refine va_get (D := (dC, dI)) (ci := 7) (v := .ref (q 26)) (C := R_M) (T := F_M) (N := 39) hx hb hts hiM hown hK hP 0 rfl rfl 33 (by decide) lk86 (fun _ h9 => h9) rfl d_M_waits_33 ?_
        refine lv_iload_n hx hb d_M_waits_36 rfl (lv_at hl 1 rfl) ?_
        refine va_iald hx hb hK hP 26 0 rfl rfl hwp.1 d_M_waits_37 ?_
        have hwp := hwp.2
        refine lv_if_lt (tgt := 66) hx hb d_M_waits_38 (by decide) (fun hc => ?_) (fun hc => ?_)
        · rw [if_pos hc] at hwp
          refine lv_iconst (v := 0) hx hb d_M_waits_66 (by decide) ?_
          rw [hQ]
          exact W.zret (v := 0) hx hb hr rfl (fun t ht hW => ⟨⟨0, (MP3, MV4), rfl, hwp, hp_of ht hP⟩, hS.F ht⟩) hS.2.2 d_M_waits_67
        · rw [if_neg hc] at hwp
          refine lv_aload_n hx hb d_M_waits_41 rfl (lv_at hl 0 rfl) ?_
          refine lv_iload_n hx hb d_M_waits_42 rfl (lv_at hl 2 rfl) ?_
          refine lv_iload_n hx hb d_M_waits_43 rfl (lv_at hl 1 rfl) ?_
          refine lv_aload_n hx hb d_M_waits_44 rfl (lv_at hl 0 rfl) ?_
          refine va_get (D := (dC, dI)) (ci := 7) (v := .ref (q 26)) (C := R_M) (T := F_M) (N := 39) hx hb hts hiM hown hK hP 0 rfl rfl 33 (by decide) lk86 (fun _ h9 => h9) rfl d_M_waits_45 ?_
          refine lv_iload_n hx hb d_M_waits_48 rfl (lv_at hl 1 rfl) ?_
          refine va_iald hx hb hK hP 26 0 rfl rfl hwp.1 d_M_waits_49 ?_
          have hwp := hwp.2
          refine lv_aload_n hx hb d_M_waits_50 rfl (lv_at hl 0 rfl) ?_
          refine va_get (D := (dC, dI)) (ci := 7) (v := .ref (q 27)) (C := R_M) (T := F_M) (N := 39) hx hb hts hiM hown hK hP 0 rfl rfl 34 (by decide) lk89 (fun _ h9 => h9) rfl d_M_waits_51 ?_
          refine lv_iload_n hx hb d_M_waits_54 rfl (lv_at hl 1 rfl) ?_
          refine va_iald hx hb hK hP 27 0 rfl rfl hwp.1 d_M_waits_55 ?_
          have hwp := hwp.2
          refine ncn_i (As := [.int a2, .int a1, .int ((MV_lacks MV4) (Int32.toNatClampNeg a1)), .int ((MV_lackMode MV4) (Int32.toNatClampNeg a1))]) (c_M_bars hq (MA) (MD) (MF) (MG) (ML) (MN) (MP3) (MT) (MV4) (a2) (a1) (((MV_lacks MV4) (Int32.toNatClampNeg a1))) (((MV_lackMode MV4) (Int32.toNatClampNeg a1))) _ hwp) (cwV 4 hts g_M_191 rfl rfl rfl hd_M_bars ⟨Nat.le_of_ble_eq_true rfl, Nat.le_of_ble_eq_true rfl⟩) hx hb hml hown hts hK hP hS hl.1 d_M_waits_56 (va_recv (q := (R_M, F_M, 39)) hK hP (ci := 7) (q0 := 0) rfl rfl) rfl (lv_room (Nat.le_of_ble_eq_true rfl)) (Nat.zero_le _) (Nat.zero_le _) rfl (fun r5 u H locs hwp hP hS => ?_)
          have hP : va_P (dC, dI) clZ (wM cI cL cZ q MA MD MF MG ML MN MP3 MT MV4) H := hP
          refine lv_if_eq (tgt := 66) hx hb d_M_waits_59 (by decide) (fun hc => ?_) (fun hc => ?_)
          · rw [if_pos hc] at hwp
            refine lv_iconst (v := 0) hx hb d_M_waits_66 (by decide) ?_
            rw [hQ]
            exact W.zret (v := 0) hx hb hr rfl (fun t ht hW => ⟨⟨0, (MP3, MV4), rfl, hwp, hp_of ht hP⟩, hS.F ht⟩) hS.2.2 d_M_waits_67
          · rw [if_neg hc] at hwp
            refine lv_iconst (v := 1) hx hb d_M_waits_62 (by decide) ?_
            refine lv_goto hx hb d_M_waits_63 (tgt := 67) (by decide) ?_
            rw [hQ]
            exact W.zret (v := 1) hx hb hr rfl (fun t ht hW => ⟨⟨1, (MP3, MV4), rfl, hwp, hp_of ht hP⟩, hS.F ht⟩) hS.2.2 d_M_waits_67
      · rw [if_neg hc] at hwp
        refine lv_iconst (v := 0) hx hb d_M_waits_26 (by decide) ?_
        rw [hQ]
        exact W.zret (v := 0) hx hb hr rfl (fun t ht hW => ⟨⟨0, (MP, MV), rfl, hwp, hp_of ht hP⟩, hS.F ht⟩) hS.2.2 d_M_waits_27

set_option maxHeartbeats 4000000 in
set_option maxRecDepth 100000 in
theorem c_M_entry {l : Launch} {dC : Nat → ClassId} {dI : Nat → Nat → Nat} {cI cL cZ : ClassId} {q : Nat → Nat} (hq : iM q) (MA : S_MA) (MD : S_MD) (MF : S_MF) (MG : S_MG) (ML : S_ML) (MN : S_MN) (MP : S_MP) (MT : S_MT) (MV : S_MV) (a1 : Int32) (a2 : Int32) (post : Int32 → Prop) (hwp : wp_M_entry MG a1 a2 post) : Met l y_M_entry ws_M_entry rm_M_entry (va_Pc [.ref (q 0), .int a1, .int a2] (bM dC dI cI cL cZ q MA MD MF MG ML MN MP MT MV)) (va_Qi (fun (r : Int32) (u : Unit) => post r) (fun u t => va_P (dC, dI) clZ (wM cI cL cZ q MA MD MF MG ML MN MP MT MV) t.heap) (aM q)) 0 0 (aM q) := by
  refine Met.ofW (cc := b_M_entry) (maxL := 4) (ret := (some .int)) (by decide) rfl ?_
  intro p e s m args below meth c s₁ B hml hv
  obtain ⟨rfl, hP, hK⟩ := hv
  have hx := B.exec
  have hb := B.bytes
  have hr := B.returns
  have hts := atoms_spec (ws := ws_M_entry) B.pre
  have hown : s.vm.findClass R_M = some m.cls := findClass_of_methodNamed B.named
  have hlocks := B.notSynchronized
  have hiM : ∀ w ∈ u_ws R_M F_M 39, w ∈ ws_M_entry := fun w h => List.mem_cons_of_mem _ (in_M w h)
  have lk38 := hts _ (List.mem_cons_of_mem _ k_M_38)
  have lk41 := hts _ (List.mem_cons_of_mem _ k_M_41)
  have lk44 := hts _ (List.mem_cons_of_mem _ k_M_44)
  have lk47 := hts _ (List.mem_cons_of_mem _ k_M_47)
  have lk50 := hts _ (List.mem_cons_of_mem _ k_M_50)
  have lk56 := hts _ (List.mem_cons_of_mem _ k_M_56)
  have lk59 := hts _ (List.mem_cons_of_mem _ k_M_59)
  have lk115 := hts _ (List.mem_cons_of_mem _ k_M_115)
  have hS : va_S (aM q) s.heap s.heap [] := va_S.rf
  have hl := lv_entry ([.ref (q 0), .int a1, .int a2]) (n := 4) (Nat.le_of_ble_eq_true rfl)
  rw [lg_entry_eq]
  generalize (lg_sl ([.ref (q 0), .int a1, .int a2]) ++ List.replicate (4 - (lg_sl ([.ref (q 0), .int a1, .int a2])).length) Slot.unset).toArray = ls at hl ⊢
  have hl : lv_has ls 4 [(0, .ref (q 0)), (1, .int a1), (2, .int a2)] := hl
  obtain ⟨Q, hQ⟩ : ∃ Q, Q = MQ below (va_Qi (fun (r : Int32) (u : Unit) => post r) (fun u t => va_P (dC, dI) clZ (wM cI cL cZ q MA MD MF MG ML MN MP MT MV) t.heap) (aM q)) ([.ref (q 0), .int a1, .int a2]).toArray s 0 0 (aM q) := ⟨_, rfl⟩
  rw [← hQ]
  rw [wp_M_entry] at hwp
  refine lv_iload_n hx hb d_M_entry_0 rfl (lv_at hl 1 rfl) ?_
  refine lv_aload_n hx hb d_M_entry_1 rfl (lv_at hl 0 rfl) ?_
  refine va_get (D := (dC, dI)) (ci := 7) (v := .int (MG_base MG)) (C := R_M) (T := F_M) (N := 39) hx hb hts hiM hown hK hP 0 rfl rfl 11 (by decide) lk115 (fun _ h9 => h9) rfl d_M_entry_2 ?_
  refine lv_isub hx hb d_M_entry_5 ?_
  refine lv_iconst (v := 1) hx hb d_M_entry_6 (by decide) ?_
  refine lv_isub hx hb d_M_entry_7 ?_
  refine lv_istore_n (lv' := [(3, .int ((a1 - (MG_base MG)) - 1)), (0, .ref (q 0)), (1, .int a1), (2, .int a2)]) hx hb d_M_entry_8 rfl hl (by decide) rfl (fun ls hl => ?_)
  refine lv_iload_n hx hb d_M_entry_9 rfl (lv_at hl 2 rfl) ?_
  refine lv_aload_n hx hb d_M_entry_10 rfl (lv_at hl 1 rfl) ?_
  refine va_get (D := (dC, dI)) (ci := 7) (v := .int (MG_base MG)) (C := R_M) (T := F_M) (N := 39) hx hb hts hiM hown hK hP 0 rfl rfl 11 (by decide) lk115 (fun _ h9 => h9) rfl d_M_entry_11 ?_
  refine lv_icmp_le (tgt := 34) hx hb d_M_entry_14 (by decide) (fun hc => ?_) (fun hc => ?_)
  · rw [if_pos hc] at hwp
    refine lv_iconst (v := (-1)) hx hb d_M_entry_34 (by decide) ?_
    rw [hQ]
    exact W.iret (v := (-1)) hx hb hr (fun t ht hW => ⟨⟨(-1), (), rfl, hwp, hp_of ht hP⟩, hS.F ht⟩) hS.2.2 d_M_entry_35
  · rw [if_neg hc] at hwp
    refine lv_iload_n hx hb d_M_entry_17 rfl (lv_at hl 2 rfl) ?_
    refine lv_aload_n hx hb d_M_entry_18 rfl (lv_at hl 1 rfl) ?_
    refine ncn_i (As := []) (c_M_last hq (MA) (MD) (MF) (MG) (ML) (MN) (MP) (MT) (MV)  _ hwp) (cwV 0 hts g_M_128 rfl rfl rfl hd_M_last ⟨Nat.le_of_ble_eq_true rfl, Nat.le_of_ble_eq_true rfl⟩) hx hb hml hown hts hK hP hS hl.1 d_M_entry_19 (va_recv (q := (R_M, F_M, 39)) hK hP (ci := 7) (q0 := 0) rfl rfl) rfl (lv_room (Nat.le_of_ble_eq_true rfl)) (Nat.zero_le _) (Nat.zero_le _) rfl (fun r1 u H locs hwp hP hS => ?_)
    have hP : va_P (dC, dI) clZ (wM cI cL cZ q MA MD MF MG ML MN MP MT MV) H := hP
    refine lv_icmp_gt (tgt := 34) hx hb d_M_entry_22 (by decide) (fun hc => ?_) (fun hc => ?_)
    · rw [if_pos hc] at hwp
      refine lv_iconst (v := (-1)) hx hb d_M_entry_34 (by decide) ?_
      rw [hQ]
      exact W.iret (v := (-1)) hx hb hr (fun t ht hW => ⟨⟨(-1), (), rfl, hwp, hp_of ht hP⟩, hS.F ht⟩) hS.2.2 d_M_entry_35
    · rw [if_neg hc] at hwp
      refine lv_iload_n hx hb d_M_entry_25 rfl (lv_at hl 3 rfl) ?_
      refine lv_if_lt (tgt := 34) hx hb d_M_entry_26 (by decide) (fun hc => ?_) (fun hc => ?_)
      · rw [if_pos hc] at hwp
        refine lv_iconst (v := (-1)) hx hb d_M_entry_34 (by decide) ?_
        rw [hQ]
        exact W.iret (v := (-1)) hx hb hr (fun t ht hW => ⟨⟨(-1), (), rfl, hwp, hp_of ht hP⟩, hS.F ht⟩) hS.2.2 d_M_entry_35
      · rw [if_neg hc] at hwp
        refine lv_iload_n hx hb d_M_entry_29 rfl (lv_at hl 3 rfl) ?_
        refine lv_iconst (v := 5) hx hb d_M_entry_30 (by decide) ?_
        refine lv_icmp_le (tgt := 36) hx hb d_M_entry_31 (by decide) (fun hc => ?_) (fun hc => ?_)
        · rw [if_pos hc] at hwp
          refine lv_iload_n hx hb d_M_entry_36 rfl (lv_at hl 3 rfl) ?_
          by_cases hc0 : a2 = 0
          · rw [if_pos hc0] at hwp
            refine lv_tableIn (tgt := 72) hx hb d_M_entry_37 (by rw [hc0]; decide) (by rw [hc0]; decide) (by rw [hc0]; rfl) (by decide) ?_
            refine lv_aload_n hx hb d_M_entry_72 rfl (lv_at hl 1 rfl) ?_
            refine va_get (D := (dC, dI)) (ci := 7) (v := .ref (q 10)) (C := R_M) (T := F_M) (N := 39) hx hb hts hiM hown hK hP 0 rfl rfl 14 (by decide) lk38 (fun _ h9 => h9) rfl d_M_entry_73 ?_
            refine lv_iload_n hx hb d_M_entry_76 rfl (lv_at hl 0 rfl) ?_
            refine va_iald hx hb hK hP 10 0 rfl rfl hwp.1 d_M_entry_77 ?_
            have hwp := hwp.2
            rw [hQ]
            exact W.iret (v := ((MG_kind MG) (Int32.toNatClampNeg ((a1 - (MG_base MG)) - 1)))) hx hb hr (fun t ht hW => ⟨⟨((MG_kind MG) (Int32.toNatClampNeg ((a1 - (MG_base MG)) - 1))), (), rfl, hwp, hp_of ht hP⟩, hS.F ht⟩) hS.2.2 d_M_entry_78
          rw [if_neg hc0] at hwp
          by_cases hc1 : a2 = 1
          · rw [if_pos hc1] at hwp
            refine lv_tableIn (tgt := 79) hx hb d_M_entry_37 (by rw [hc1]; decide) (by rw [hc1]; decide) (by rw [hc1]; rfl) (by decide) ?_
            refine lv_aload_n hx hb d_M_entry_79 rfl (lv_at hl 1 rfl) ?_
            refine va_get (D := (dC, dI)) (ci := 7) (v := .ref (q 11)) (C := R_M) (T := F_M) (N := 39) hx hb hts hiM hown hK hP 0 rfl rfl 15 (by decide) lk41 (fun _ h9 => h9) rfl d_M_entry_80 ?_
            refine lv_iload_n hx hb d_M_entry_83 rfl (lv_at hl 0 rfl) ?_
            refine va_iald hx hb hK hP 11 0 rfl rfl hwp.1 d_M_entry_84 ?_
            have hwp := hwp.2
            rw [hQ]
            exact W.iret (v := ((MG_by MG) (Int32.toNatClampNeg ((a1 - (MG_base MG)) - 1)))) hx hb hr (fun t ht hW => ⟨⟨((MG_by MG) (Int32.toNatClampNeg ((a1 - (MG_base MG)) - 1))), (), rfl, hwp, hp_of ht hP⟩, hS.F ht⟩) hS.2.2 d_M_entry_85
          rw [if_neg hc1] at hwp
          by_cases hc2 : a2 = 2
          · rw [if_pos hc2] at hwp
            refine lv_tableIn (tgt := 86) hx hb d_M_entry_37 (by rw [hc2]; decide) (by rw [hc2]; decide) (by rw [hc2]; rfl) (by decide) ?_
            refine lv_aload_n hx hb d_M_entry_86 rfl (lv_at hl 1 rfl) ?_
            refine va_get (D := (dC, dI)) (ci := 7) (v := .ref (q 12)) (C := R_M) (T := F_M) (N := 39) hx hb hts hiM hown hK hP 0 rfl rfl 16 (by decide) lk44 (fun _ h9 => h9) rfl d_M_entry_87 ?_
            refine lv_iload_n hx hb d_M_entry_90 rfl (lv_at hl 0 rfl) ?_
            refine va_iald hx hb hK hP 12 0 rfl rfl hwp.1 d_M_entry_91 ?_
            have hwp := hwp.2
            rw [hQ]
            exact W.iret (v := ((MG_about MG) (Int32.toNatClampNeg ((a1 - (MG_base MG)) - 1)))) hx hb hr (fun t ht hW => ⟨⟨((MG_about MG) (Int32.toNatClampNeg ((a1 - (MG_base MG)) - 1))), (), rfl, hwp, hp_of ht hP⟩, hS.F ht⟩) hS.2.2 d_M_entry_92
          rw [if_neg hc2] at hwp
          by_cases hc3 : a2 = 3
          · rw [if_pos hc3] at hwp
            refine lv_tableIn (tgt := 93) hx hb d_M_entry_37 (by rw [hc3]; decide) (by rw [hc3]; decide) (by rw [hc3]; rfl) (by decide) ?_
            refine lv_aload_n hx hb d_M_entry_93 rfl (lv_at hl 1 rfl) ?_
            refine va_get (D := (dC, dI)) (ci := 7) (v := .ref (q 10)) (C := R_M) (T := F_M) (N := 39) hx hb hts hiM hown hK hP 0 rfl rfl 14 (by decide) lk38 (fun _ h9 => h9) rfl d_M_entry_94 ?_
            refine lv_iload_n hx hb d_M_entry_97 rfl (lv_at hl 0 rfl) ?_
            refine va_iald hx hb hK hP 10 0 rfl rfl hwp.1 d_M_entry_98 ?_
            have hwp := hwp.2
            refine lv_iconst (v := 3) hx hb d_M_entry_99 (by decide) ?_
            refine lv_icmp_ne (tgt := 112) hx hb d_M_entry_100 (by decide) (fun hc => ?_) (fun hc => ?_)
            · rw [if_neg hc] at hwp
              refine lv_aload_n hx hb d_M_entry_112 rfl (lv_at hl 1 rfl) ?_
              refine va_get (D := (dC, dI)) (ci := 7) (v := .ref (q 14)) (C := R_M) (T := F_M) (N := 39) hx hb hts hiM hown hK hP 0 rfl rfl 18 (by decide) lk50 (fun _ h9 => h9) rfl d_M_entry_113 ?_
              refine lv_iload_n hx hb d_M_entry_116 rfl (lv_at hl 0 rfl) ?_
              refine va_zald hx hb hK hP 14 2 rfl rfl hwp.1 d_M_entry_117 ?_
              have hwp := hwp.2
              refine lv_if_eq (tgt := 125) hx hb d_M_entry_118 (by decide) (fun hc => ?_) (fun hc => ?_)
              · rw [if_pos hc] at hwp
                refine lv_iconst (v := 0) hx hb d_M_entry_125 (by decide) ?_
                rw [hQ]
                exact W.iret (v := 0) hx hb hr (fun t ht hW => ⟨⟨0, (), rfl, hwp, hp_of ht hP⟩, hS.F ht⟩) hS.2.2 d_M_entry_126
              · rw [if_neg hc] at hwp
                refine lv_iconst (v := 1) hx hb d_M_entry_121 (by decide) ?_
                refine lv_goto hx hb d_M_entry_122 (tgt := 126) (by decide) ?_
                rw [hQ]
                exact W.iret (v := 1) hx hb hr (fun t ht hW => ⟨⟨1, (), rfl, hwp, hp_of ht hP⟩, hS.F ht⟩) hS.2.2 d_M_entry_126
            · rw [if_pos hc] at hwp
              refine lv_aload_n hx hb d_M_entry_103 rfl (lv_at hl 1 rfl) ?_
              refine va_get (D := (dC, dI)) (ci := 7) (v := .ref (q 13)) (C := R_M) (T := F_M) (N := 39) hx hb hts hiM hown hK hP 0 rfl rfl 17 (by decide) lk47 (fun _ h9 => h9) rfl d_M_entry_104 ?_
              refine lv_iload_n hx hb d_M_entry_107 rfl (lv_at hl 0 rfl) ?_
              refine va_iald hx hb hK hP 13 0 rfl rfl hwp.1 d_M_entry_108 ?_
              have hwp := hwp.2
              refine lv_goto hx hb d_M_entry_109 (tgt := 126) (by decide) ?_
              rw [hQ]
              exact W.iret (v := ((MG_of MG) (Int32.toNatClampNeg ((a1 - (MG_base MG)) - 1)))) hx hb hr (fun t ht hW => ⟨⟨((MG_of MG) (Int32.toNatClampNeg ((a1 - (MG_base MG)) - 1))), (), rfl, hwp, hp_of ht hP⟩, hS.F ht⟩) hS.2.2 d_M_entry_126
          rw [if_neg hc3] at hwp
          by_cases hc4 : a2 = 4
          · rw [if_pos hc4] at hwp
            refine lv_tableIn (tgt := 127) hx hb d_M_entry_37 (by rw [hc4]; decide) (by rw [hc4]; decide) (by rw [hc4]; rfl) (by decide) ?_
            refine lv_aload_n hx hb d_M_entry_127 rfl (lv_at hl 1 rfl) ?_
            refine va_get (D := (dC, dI)) (ci := 7) (v := .ref (q 16)) (C := R_M) (T := F_M) (N := 39) hx hb hts hiM hown hK hP 0 rfl rfl 20 (by decide) lk56 (fun _ h9 => h9) rfl d_M_entry_128 ?_
            refine lv_iload_n hx hb d_M_entry_131 rfl (lv_at hl 0 rfl) ?_
            refine va_zald hx hb hK hP 16 2 rfl rfl hwp.1 d_M_entry_132 ?_
            have hwp := hwp.2
            refine lv_if_eq (tgt := 140) hx hb d_M_entry_133 (by decide) (fun hc => ?_) (fun hc => ?_)
            · rw [if_pos hc] at hwp
              refine lv_iconst (v := 0) hx hb d_M_entry_140 (by decide) ?_
              rw [hQ]
              exact W.iret (v := 0) hx hb hr (fun t ht hW => ⟨⟨0, (), rfl, hwp, hp_of ht hP⟩, hS.F ht⟩) hS.2.2 d_M_entry_141
            · rw [if_neg hc] at hwp
              refine lv_iconst (v := 1) hx hb d_M_entry_136 (by decide) ?_
              refine lv_goto hx hb d_M_entry_137 (tgt := 141) (by decide) ?_
              rw [hQ]
              exact W.iret (v := 1) hx hb hr (fun t ht hW => ⟨⟨1, (), rfl, hwp, hp_of ht hP⟩, hS.F ht⟩) hS.2.2 d_M_entry_141
          rw [if_neg hc4] at hwp
          refine lv_tableOut (tgt := 142) hx hb d_M_entry_37 (by have h0 := lv_neT hc0 (a := 0) rfl; have h1 := lv_neT hc1 (a := 1) rfl; have h2 := lv_neT hc2 (a := 2) rfl; have h3 := lv_neT hc3 (a := 3) rfl; have h4 := lv_neT hc4 (a := 4) rfl; omega) (by decide) ?_
          refine lv_aload_n hx hb d_M_entry_142 rfl (lv_at hl 1 rfl) ?_
          refine va_get (D := (dC, dI)) (ci := 7) (v := .ref (q 17)) (C := R_M) (T := F_M) (N := 39) hx hb hts hiM hown hK hP 0 rfl rfl 21 (by decide) lk59 (fun _ h9 => h9) rfl d_M_entry_143 ?_
          refine lv_iload_n hx hb d_M_entry_146 rfl (lv_at hl 0 rfl) ?_
          refine va_iald hx hb hK hP 17 0 rfl rfl hwp.1 d_M_entry_147 ?_
          have hwp := hwp.2
          rw [hQ]
          exact W.iret (v := ((MG_isValue MG) (Int32.toNatClampNeg ((a1 - (MG_base MG)) - 1)))) hx hb hr (fun t ht hW => ⟨⟨((MG_isValue MG) (Int32.toNatClampNeg ((a1 - (MG_base MG)) - 1))), (), rfl, hwp, hp_of ht hP⟩, hS.F ht⟩) hS.2.2 d_M_entry_148
        · rw [if_neg hc] at hwp
          refine lv_iconst (v := (-1)) hx hb d_M_entry_34 (by decide) ?_
          rw [hQ]
          exact W.iret (v := (-1)) hx hb hr (fun t ht hW => ⟨⟨(-1), (), rfl, hwp, hp_of ht hP⟩, hS.F ht⟩) hS.2.2 d_M_entry_35

set_option maxHeartbeats 4000000 in
set_option maxRecDepth 100000 in
theorem c_M_log {l : Launch} {dC : Nat → ClassId} {dI : Nat → Nat → Nat} {cI cL cZ : ClassId} {q : Nat → Nat} (hq : iM q) (MA : S_MA) (MD : S_MD) (MF : S_MF) (MG : S_MG) (ML : S_ML) (MN : S_MN) (MP : S_MP) (MT : S_MT) (MV : S_MV) (a1 : Int32) (post : Int32 → Prop) (hwp : wp_M_log MG MT a1 post) : Met l y_M_log ws_M_log rm_M_log (va_Pc [.ref (q 0), .int a1] (bM dC dI cI cL cZ q MA MD MF MG ML MN MP MT MV)) (va_Qi (fun (r : Int32) (u : Unit) => post r) (fun u t => va_P (dC, dI) clZ (wM cI cL cZ q MA MD MF MG ML MN MP MT MV) t.heap) (aM q)) 0 0 (aM q) := by
  refine Met.ofW (cc := b_M_log) (maxL := 2) (ret := (some .int)) (by decide) rfl ?_
  intro p e s m args below meth c s₁ B hml hv
  obtain ⟨rfl, hP, hK⟩ := hv
  have hx := B.exec
  have hb := B.bytes
  have hr := B.returns
  have hts := atoms_spec (ws := ws_M_log) B.pre
  have hown : s.vm.findClass R_M = some m.cls := findClass_of_methodNamed B.named
  have hlocks := B.notSynchronized
  have hiM : ∀ w ∈ u_ws R_M F_M 39, w ∈ ws_M_log := fun w h => List.mem_cons_of_mem _ (in_M w h)
  have lk105 := hts _ (List.mem_cons_of_mem _ k_M_105)
  have lk118 := hts _ (List.mem_cons_of_mem _ k_M_118)
  have hS : va_S (aM q) s.heap s.heap [] := va_S.rf
  have hl := lv_entry ([.ref (q 0), .int a1]) (n := 2) (Nat.le_of_ble_eq_true rfl)
  rw [lg_entry_eq]
  generalize (lg_sl ([.ref (q 0), .int a1]) ++ List.replicate (2 - (lg_sl ([.ref (q 0), .int a1])).length) Slot.unset).toArray = ls at hl ⊢
  have hl : lv_has ls 2 [(0, .ref (q 0)), (1, .int a1)] := hl
  obtain ⟨Q, hQ⟩ : ∃ Q, Q = MQ below (va_Qi (fun (r : Int32) (u : Unit) => post r) (fun u t => va_P (dC, dI) clZ (wM cI cL cZ q MA MD MF MG ML MN MP MT MV) t.heap) (aM q)) ([.ref (q 0), .int a1]).toArray s 0 0 (aM q) := ⟨_, rfl⟩
  rw [← hQ]
  rw [wp_M_log] at hwp
  refine lv_iload_n hx hb d_M_log_0 rfl (lv_at hl 1 rfl) ?_
  by_cases hc0 : a1 = 0
  · rw [if_pos hc0] at hwp
    refine lv_tableIn (tgt := 36) hx hb d_M_log_1 (by rw [hc0]; decide) (by rw [hc0]; decide) (by rw [hc0]; rfl) (by decide) ?_
    refine lv_aload_n hx hb d_M_log_36 rfl (lv_at hl 0 rfl) ?_
    refine ncn_i (As := []) (c_M_last hq (MA) (MD) (MF) (MG) (ML) (MN) (MP) (MT) (MV)  _ hwp) (cwV 0 hts g_M_128 rfl rfl rfl hd_M_last ⟨Nat.le_of_ble_eq_true rfl, Nat.le_of_ble_eq_true rfl⟩) hx hb hml hown hts hK hP hS hl.1 d_M_log_37 (va_recv (q := (R_M, F_M, 39)) hK hP (ci := 7) (q0 := 0) rfl rfl) rfl (lv_room (Nat.le_of_ble_eq_true rfl)) (Nat.zero_le _) (Nat.zero_le _) rfl (fun r1 u H locs hwp hP hS => ?_)
    have hP : va_P (dC, dI) clZ (wM cI cL cZ q MA MD MF MG ML MN MP MT MV) H := hP
    rw [hQ]
    exact W.iret (v := r1) hx hb hr (fun t ht hW => ⟨⟨r1, (), rfl, hwp, hp_of ht hP⟩, hS.F ht⟩) hS.2.2 d_M_log_40
  rw [if_neg hc0] at hwp
  by_cases hc1 : a1 = 1
  · rw [if_pos hc1] at hwp
    refine lv_tableIn (tgt := 41) hx hb d_M_log_1 (by rw [hc1]; decide) (by rw [hc1]; decide) (by rw [hc1]; rfl) (by decide) ?_
    refine lv_aload_n hx hb d_M_log_41 rfl (lv_at hl 0 rfl) ?_
    refine va_get (D := (dC, dI)) (ci := 7) (v := .int (MG_flushed MG)) (C := R_M) (T := F_M) (N := 39) hx hb hts hiM hown hK hP 0 rfl rfl 13 (by decide) lk105 (fun _ h9 => h9) rfl d_M_log_42 ?_
    rw [hQ]
    exact W.iret (v := (MG_flushed MG)) hx hb hr (fun t ht hW => ⟨⟨(MG_flushed MG), (), rfl, hwp, hp_of ht hP⟩, hS.F ht⟩) hS.2.2 d_M_log_45
  rw [if_neg hc1] at hwp
  by_cases hc2 : a1 = 2
  · rw [if_pos hc2] at hwp
    refine lv_tableIn (tgt := 46) hx hb d_M_log_1 (by rw [hc2]; decide) (by rw [hc2]; decide) (by rw [hc2]; rfl) (by decide) ?_
    refine lv_aload_n hx hb d_M_log_46 rfl (lv_at hl 0 rfl) ?_
    refine va_get (D := (dC, dI)) (ci := 7) (v := .int (MG_records MG)) (C := R_M) (T := F_M) (N := 39) hx hb hts hiM hown hK hP 0 rfl rfl 12 (by decide) lk118 (fun _ h9 => h9) rfl d_M_log_47 ?_
    rw [hQ]
    exact W.iret (v := (MG_records MG)) hx hb hr (fun t ht hW => ⟨⟨(MG_records MG), (), rfl, hwp, hp_of ht hP⟩, hS.F ht⟩) hS.2.2 d_M_log_50
  rw [if_neg hc2] at hwp
  by_cases hc3 : a1 = 3
  · rw [if_pos hc3] at hwp
    refine lv_tableIn (tgt := 51) hx hb d_M_log_1 (by rw [hc3]; decide) (by rw [hc3]; decide) (by rw [hc3]; rfl) (by decide) ?_
    refine lv_aload_n hx hb d_M_log_51 rfl (lv_at hl 0 rfl) ?_
    refine ncn_i (As := []) (c_M_opens hq (MA) (MD) (MF) (MG) (ML) (MN) (MP) (MT) (MV)  _ hwp) (cwV 0 hts g_M_153 rfl rfl rfl hd_M_opens ⟨Nat.le_of_ble_eq_true rfl, Nat.le_of_ble_eq_true rfl⟩) hx hb hml hown hts hK hP hS hl.1 d_M_log_52 (va_recv (q := (R_M, F_M, 39)) hK hP (ci := 7) (q0 := 0) rfl rfl) rfl (lv_room (Nat.le_of_ble_eq_true rfl)) (Nat.zero_le _) (Nat.zero_le _) rfl (fun r2 u H locs hwp hP hS => ?_)
    have hP : va_P (dC, dI) clZ (wM cI cL cZ q MA MD MF MG ML MN MP MT MV) H := hP
    rw [hQ]
    exact W.iret (v := r2) hx hb hr (fun t ht hW => ⟨⟨r2, (), rfl, hwp, hp_of ht hP⟩, hS.F ht⟩) hS.2.2 d_M_log_55
  rw [if_neg hc3] at hwp
  by_cases hc4 : a1 = 4
  · rw [if_pos hc4] at hwp
    refine lv_tableIn (tgt := 56) hx hb d_M_log_1 (by rw [hc4]; decide) (by rw [hc4]; decide) (by rw [hc4]; rfl) (by decide) ?_
    refine lv_aload_n hx hb d_M_log_56 rfl (lv_at hl 0 rfl) ?_
    refine ncn_i (As := []) (c_M_lives hq (MA) (MD) (MF) (MG) (ML) (MN) (MP) (MT) (MV)  _ hwp) (cwV 0 hts g_M_156 rfl rfl rfl hd_M_lives ⟨Nat.le_of_ble_eq_true rfl, Nat.le_of_ble_eq_true rfl⟩) hx hb hml hown hts hK hP hS hl.1 d_M_log_57 (va_recv (q := (R_M, F_M, 39)) hK hP (ci := 7) (q0 := 0) rfl rfl) rfl (lv_room (Nat.le_of_ble_eq_true rfl)) (Nat.zero_le _) (Nat.zero_le _) rfl (fun r3 u H locs hwp hP hS => ?_)
    have hP : va_P (dC, dI) clZ (wM cI cL cZ q MA MD MF MG ML MN MP MT MV) H := hP
    rw [hQ]
    exact W.iret (v := r3) hx hb hr (fun t ht hW => ⟨⟨r3, (), rfl, hwp, hp_of ht hP⟩, hS.F ht⟩) hS.2.2 d_M_log_60
  rw [if_neg hc4] at hwp
  refine lv_tableOut (tgt := 61) hx hb d_M_log_1 (by have h0 := lv_neT hc0 (a := 0) rfl; have h1 := lv_neT hc1 (a := 1) rfl; have h2 := lv_neT hc2 (a := 2) rfl; have h3 := lv_neT hc3 (a := 3) rfl; have h4 := lv_neT hc4 (a := 4) rfl; omega) (by decide) ?_
  refine lv_iconst (v := (-1)) hx hb d_M_log_61 (by decide) ?_
  rw [hQ]
  exact W.iret (v := (-1)) hx hb hr (fun t ht hW => ⟨⟨(-1), (), rfl, hwp, hp_of ht hP⟩, hS.F ht⟩) hS.2.2 d_M_log_62

set_option maxHeartbeats 4000000 in
set_option maxRecDepth 100000 in
theorem c_M_key {l : Launch} {dC : Nat → ClassId} {dI : Nat → Nat → Nat} {cI cL cZ : ClassId} {q : Nat → Nat} (hq : iM q) (MA : S_MA) (MD : S_MD) (MF : S_MF) (MG : S_MG) (ML : S_ML) (MN : S_MN) (MP : S_MP) (MT : S_MT) (MV : S_MV) (a1 : Int32) (a2 : Int32) (post : Int32 → Prop) (hwp : wp_M_key MA MD a1 a2 post) : Met l y_M_key ws_M_key rm_M_key (va_Pc [.ref (q 0), .int a1, .int a2] (bM dC dI cI cL cZ q MA MD MF MG ML MN MP MT MV)) (va_Qi (fun (r : Int32) (u : Unit) => post r) (fun u t => va_P (dC, dI) clZ (wM cI cL cZ q MA MD MF MG ML MN MP MT MV) t.heap) (aM q)) 0 0 (aM q) := by
  refine Met.ofW (cc := b_M_key) (maxL := 3) (ret := (some .int)) (by decide) rfl ?_
  intro p e s m args below meth c s₁ B hml hv
  obtain ⟨rfl, hP, hK⟩ := hv
  have hx := B.exec
  have hb := B.bytes
  have hr := B.returns
  have hts := atoms_spec (ws := ws_M_key) B.pre
  have hown : s.vm.findClass R_M = some m.cls := findClass_of_methodNamed B.named
  have hlocks := B.notSynchronized
  have hiM : ∀ w ∈ u_ws R_M F_M 39, w ∈ ws_M_key := fun w h => List.mem_cons_of_mem _ (in_M w h)
  have lk7 := hts _ (List.mem_cons_of_mem _ k_M_7)
  have lk13 := hts _ (List.mem_cons_of_mem _ k_M_13)
  have hS : va_S (aM q) s.heap s.heap [] := va_S.rf
  have hl := lv_entry ([.ref (q 0), .int a1, .int a2]) (n := 3) (Nat.le_of_ble_eq_true rfl)
  rw [lg_entry_eq]
  generalize (lg_sl ([.ref (q 0), .int a1, .int a2]) ++ List.replicate (3 - (lg_sl ([.ref (q 0), .int a1, .int a2])).length) Slot.unset).toArray = ls at hl ⊢
  have hl : lv_has ls 3 [(0, .ref (q 0)), (1, .int a1), (2, .int a2)] := hl
  obtain ⟨Q, hQ⟩ : ∃ Q, Q = MQ below (va_Qi (fun (r : Int32) (u : Unit) => post r) (fun u t => va_P (dC, dI) clZ (wM cI cL cZ q MA MD MF MG ML MN MP MT MV) t.heap) (aM q)) ([.ref (q 0), .int a1, .int a2]).toArray s 0 0 (aM q) := ⟨_, rfl⟩
  rw [← hQ]
  rw [wp_M_key] at hwp
  refine lv_iload_n hx hb d_M_key_0 rfl (lv_at hl 1 rfl) ?_
  refine ncs_i (As := [.int a1]) (c_M_isKey hq (MA) (MD) (MF) (MG) (ML) (MN) (MP) (MT) (MV) (a1) _ hwp) (cwS 1 hts g_M_239 rfl rfl rfl hd_M_isKey ⟨Nat.le_of_ble_eq_true rfl, Nat.le_of_ble_eq_true rfl⟩) hx hb hml hown hts hK hP hS hl.1 d_M_key_1 rfl (lv_room (Nat.le_of_ble_eq_true rfl)) (Nat.zero_le _) (Nat.zero_le _) rfl (fun r1 u H locs hwp hP hS => ?_)
  have hP : va_P (dC, dI) clZ (wM cI cL cZ q MA MD MF MG ML MN MP MT MV) H := hP
  refine lv_if_eq (tgt := 16) hx hb d_M_key_4 (by decide) (fun hc => ?_) (fun hc => ?_)
  · rw [if_pos hc] at hwp
    refine lv_iconst (v := (-1)) hx hb d_M_key_16 (by decide) ?_
    rw [hQ]
    exact W.iret (v := (-1)) hx hb hr (fun t ht hW => ⟨⟨(-1), (), rfl, hwp, hp_of ht hP⟩, hS.F ht⟩) hS.2.2 d_M_key_17
  · rw [if_neg hc] at hwp
    refine lv_iload_n hx hb d_M_key_7 rfl (lv_at hl 2 rfl) ?_
    refine lv_if_lt (tgt := 16) hx hb d_M_key_8 (by decide) (fun hc => ?_) (fun hc => ?_)
    · rw [if_pos hc] at hwp
      refine lv_iconst (v := (-1)) hx hb d_M_key_16 (by decide) ?_
      rw [hQ]
      exact W.iret (v := (-1)) hx hb hr (fun t ht hW => ⟨⟨(-1), (), rfl, hwp, hp_of ht hP⟩, hS.F ht⟩) hS.2.2 d_M_key_17
    · rw [if_neg hc] at hwp
      refine lv_iload_n hx hb d_M_key_11 rfl (lv_at hl 2 rfl) ?_
      refine lv_iconst (v := 3) hx hb d_M_key_12 (by decide) ?_
      refine lv_icmp_le (tgt := 18) hx hb d_M_key_13 (by decide) (fun hc => ?_) (fun hc => ?_)
      · rw [if_pos hc] at hwp
        refine lv_iload_n hx hb d_M_key_18 rfl (lv_at hl 2 rfl) ?_
        refine lv_iconst (v := 2) hx hb d_M_key_19 (by decide) ?_
        refine lv_icmp_ge (tgt := 49) hx hb d_M_key_20 (by decide) (fun hc => ?_) (fun hc => ?_)
        · rw [if_pos hc] at hwp
          refine lv_iload_n hx hb d_M_key_49 rfl (lv_at hl 2 rfl) ?_
          refine lv_iconst (v := 2) hx hb d_M_key_50 (by decide) ?_
          refine lv_icmp_ne (tgt := 71) hx hb d_M_key_51 (by decide) (fun hc => ?_) (fun hc => ?_)
          · rw [if_neg hc] at hwp
            refine lv_aload_n hx hb d_M_key_71 rfl (lv_at hl 0 rfl) ?_
            refine va_get (D := (dC, dI)) (ci := 7) (v := .ref (q 2)) (C := R_M) (T := F_M) (N := 39) hx hb hts hiM hown hK hP 0 rfl rfl 2 (by decide) lk13 (fun _ h9 => h9) rfl d_M_key_72 ?_
            refine lv_iload_n hx hb d_M_key_75 rfl (lv_at hl 1 rfl) ?_
            refine va_iald hx hb hK hP 2 0 rfl rfl hwp.1 d_M_key_76 ?_
            have hwp := hwp.2
            rw [hQ]
            exact W.iret (v := ((MD_diskValue MD) (Int32.toNatClampNeg a1))) hx hb hr (fun t ht hW => ⟨⟨((MD_diskValue MD) (Int32.toNatClampNeg a1)), (), rfl, hwp, hp_of ht hP⟩, hS.F ht⟩) hS.2.2 d_M_key_77
          · rw [if_pos hc] at hwp
            refine lv_aload_n hx hb d_M_key_54 rfl (lv_at hl 0 rfl) ?_
            refine va_get (D := (dC, dI)) (ci := 7) (v := .ref (q 1)) (C := R_M) (T := F_M) (N := 39) hx hb hts hiM hown hK hP 0 rfl rfl 1 (by decide) lk7 (fun _ h9 => h9) rfl d_M_key_55 ?_
            refine lv_iload_n hx hb d_M_key_58 rfl (lv_at hl 1 rfl) ?_
            refine va_zald hx hb hK hP 1 2 rfl rfl hwp.1 d_M_key_59 ?_
            have hwp := hwp.2
            refine lv_if_eq (tgt := 67) hx hb d_M_key_60 (by decide) (fun hc => ?_) (fun hc => ?_)
            · rw [if_pos hc] at hwp
              refine lv_iconst (v := 0) hx hb d_M_key_67 (by decide) ?_
              refine lv_goto hx hb d_M_key_68 (tgt := 77) (by decide) ?_
              rw [hQ]
              exact W.iret (v := 0) hx hb hr (fun t ht hW => ⟨⟨0, (), rfl, hwp, hp_of ht hP⟩, hS.F ht⟩) hS.2.2 d_M_key_77
            · rw [if_neg hc] at hwp
              refine lv_iconst (v := 1) hx hb d_M_key_63 (by decide) ?_
              refine lv_goto hx hb d_M_key_64 (tgt := 77) (by decide) ?_
              rw [hQ]
              exact W.iret (v := 1) hx hb hr (fun t ht hW => ⟨⟨1, (), rfl, hwp, hp_of ht hP⟩, hS.F ht⟩) hS.2.2 d_M_key_77
        · rw [if_neg hc] at hwp
          refine lv_iload_n hx hb d_M_key_23 rfl (lv_at hl 2 rfl) ?_
          refine lv_if_ne (tgt := 43) hx hb d_M_key_24 (by decide) (fun hc => ?_) (fun hc => ?_)
          · rw [if_neg hc] at hwp
            refine lv_aload_n hx hb d_M_key_43 rfl (lv_at hl 0 rfl) ?_
            refine lv_iload_n hx hb d_M_key_44 rfl (lv_at hl 1 rfl) ?_
            refine ncn_i (As := [.int a1]) (c_M_valueNow hq (MA) (MD) (MF) (MG) (ML) (MN) (MP) (MT) (MV) (a1) _ hwp) (cwV 1 hts g_M_213 rfl rfl rfl hd_M_valueNow ⟨Nat.le_of_ble_eq_true rfl, Nat.le_of_ble_eq_true rfl⟩) hx hb hml hown hts hK hP hS hl.1 d_M_key_45 (va_recv (q := (R_M, F_M, 39)) hK hP (ci := 7) (q0 := 0) rfl rfl) rfl (lv_room (Nat.le_of_ble_eq_true rfl)) (Nat.zero_le _) (Nat.zero_le _) rfl (fun r2 u H locs hwp hP hS => ?_)
            have hP : va_P (dC, dI) clZ (wM cI cL cZ q MA MD MF MG ML MN MP MT MV) H := hP
            rw [hQ]
            exact W.iret (v := r2) hx hb hr (fun t ht hW => ⟨⟨r2, (), rfl, hwp, hp_of ht hP⟩, hS.F ht⟩) hS.2.2 d_M_key_48
          · rw [if_pos hc] at hwp
            refine lv_aload_n hx hb d_M_key_27 rfl (lv_at hl 0 rfl) ?_
            refine lv_iload_n hx hb d_M_key_28 rfl (lv_at hl 1 rfl) ?_
            refine ncn_i (As := [.int a1]) (c_M_isThereNow hq (MA) (MD) (MF) (MG) (ML) (MN) (MP) (MT) (MV) (a1) _ hwp) (cwV 1 hts g_M_172 rfl rfl rfl hd_M_isThereNow ⟨Nat.le_of_ble_eq_true rfl, Nat.le_of_ble_eq_true rfl⟩) hx hb hml hown hts hK hP hS hl.1 d_M_key_29 (va_recv (q := (R_M, F_M, 39)) hK hP (ci := 7) (q0 := 0) rfl rfl) rfl (lv_room (Nat.le_of_ble_eq_true rfl)) (Nat.zero_le _) (Nat.zero_le _) rfl (fun r3 u H locs hwp hP hS => ?_)
            have hP : va_P (dC, dI) clZ (wM cI cL cZ q MA MD MF MG ML MN MP MT MV) H := hP
            refine lv_if_eq (tgt := 39) hx hb d_M_key_32 (by decide) (fun hc => ?_) (fun hc => ?_)
            · rw [if_pos hc] at hwp
              refine lv_iconst (v := 0) hx hb d_M_key_39 (by decide) ?_
              refine lv_goto hx hb d_M_key_40 (tgt := 48) (by decide) ?_
              rw [hQ]
              exact W.iret (v := 0) hx hb hr (fun t ht hW => ⟨⟨0, (), rfl, hwp, hp_of ht hP⟩, hS.F ht⟩) hS.2.2 d_M_key_48
            · rw [if_neg hc] at hwp
              refine lv_iconst (v := 1) hx hb d_M_key_35 (by decide) ?_
              refine lv_goto hx hb d_M_key_36 (tgt := 48) (by decide) ?_
              rw [hQ]
              exact W.iret (v := 1) hx hb hr (fun t ht hW => ⟨⟨1, (), rfl, hwp, hp_of ht hP⟩, hS.F ht⟩) hS.2.2 d_M_key_48
      · rw [if_neg hc] at hwp
        refine lv_iconst (v := (-1)) hx hb d_M_key_16 (by decide) ?_
        rw [hQ]
        exact W.iret (v := (-1)) hx hb hr (fun t ht hW => ⟨⟨(-1), (), rfl, hwp, hp_of ht hP⟩, hS.F ht⟩) hS.2.2 d_M_key_17

set_option maxHeartbeats 4000000 in
set_option maxRecDepth 100000 in
theorem c_M_frame {l : Launch} {dC : Nat → ClassId} {dI : Nat → Nat → Nat} {cI cL cZ : ClassId} {q : Nat → Nat} (hq : iM q) (MA : S_MA) (MD : S_MD) (MF : S_MF) (MG : S_MG) (ML : S_ML) (MN : S_MN) (MP : S_MP) (MT : S_MT) (MV : S_MV) (a1 : Int32) (post : Int32 → Prop) (hwp : wp_M_frame MA a1 post) : Met l y_M_frame ws_M_frame rm_M_frame (va_Pc [.ref (q 0), .int a1] (bM dC dI cI cL cZ q MA MD MF MG ML MN MP MT MV)) (va_Qi (fun (r : Int32) (u : Unit) => post r) (fun u t => va_P (dC, dI) clZ (wM cI cL cZ q MA MD MF MG ML MN MP MT MV) t.heap) (aM q)) 0 0 (aM q) := by
  refine Met.ofW (cc := b_M_frame) (maxL := 5) (ret := (some .int)) (by decide) rfl ?_
  intro p e s m args below meth c s₁ B hml hv
  obtain ⟨rfl, hP, hK⟩ := hv
  have hx := B.exec
  have hb := B.bytes
  have hr := B.returns
  have hts := atoms_spec (ws := ws_M_frame) B.pre
  have hown : s.vm.findClass R_M = some m.cls := findClass_of_methodNamed B.named
  have hlocks := B.notSynchronized
  have hiM : ∀ w ∈ u_ws R_M F_M 39, w ∈ ws_M_frame := fun w h => List.mem_cons_of_mem _ (in_M w h)
  have lk29 := hts _ (List.mem_cons_of_mem _ k_M_29)
  have lk32 := hts _ (List.mem_cons_of_mem _ k_M_32)
  have lk35 := hts _ (List.mem_cons_of_mem _ k_M_35)
  have hS : va_S (aM q) s.heap s.heap [] := va_S.rf
  have hl := lv_entry ([.ref (q 0), .int a1]) (n := 5) (Nat.le_of_ble_eq_true rfl)
  rw [lg_entry_eq]
  generalize (lg_sl ([.ref (q 0), .int a1]) ++ List.replicate (5 - (lg_sl ([.ref (q 0), .int a1])).length) Slot.unset).toArray = ls at hl ⊢
  have hl : lv_has ls 5 [(0, .ref (q 0)), (1, .int a1)] := hl
  obtain ⟨Q, hQ⟩ : ∃ Q, Q = MQ below (va_Qi (fun (r : Int32) (u : Unit) => post r) (fun u t => va_P (dC, dI) clZ (wM cI cL cZ q MA MD MF MG ML MN MP MT MV) t.heap) (aM q)) ([.ref (q 0), .int a1]).toArray s 0 0 (aM q) := ⟨_, rfl⟩
  rw [← hQ]
  have L17 : ∀ (Kx : Int32 → Prop) (v1 : Int32) (v2 : Int32) (n : Nat) (v3 : Int32) (v4 : Int32) (H : Heap) (locs : List Loc) (ls : Array Slot), lv_has ls 5 [(0, .ref (q 0)), (1, .int v1), (2, .int v2), (3, .int v3), (4, .int v4)] → va_P (dC, dI) clZ (wM cI cL cZ q MA MD MF MG ML MN MP MT MV) H → va_S (aM q) s.heap H locs → wp_M_frame_L17 MA v1 v2 Kx n v3 v4 → (∀ (x3 : Int32) (H : Heap) (locs : List Loc) (ls : Array Slot), lv_has ls 5 [(0, .ref (q 0)), (1, .int v1), (2, .int v2), (3, .int x3)] → va_P (dC, dI) clZ (wM cI cL cZ q MA MD MF MG ML MN MP MT MV) H → va_S (aM q) s.heap H locs → Kx x3 → W p l e (headSpec ws_M_frame rm_M_frame).room s m ([.ref (q 0), .int a1]).toArray below meth c H locs 0 0 Q (F0 m 64 ls [])) → W p l e (headSpec ws_M_frame rm_M_frame).room s m ([.ref (q 0), .int a1]).toArray below meth c H locs 0 0 Q (F0 m 17 ls []) := by
    intro Kx v1 v2 n
    induction n with
    | zero =>
      intros
      rename_i hwp _
      exact hwp.elim
    | succ n17 ih =>
      intro v3 v4 H locs ls hl hP hS hwp hX
      rw [wp_M_frame_L17] at hwp
      refine lv_iload hx hb d_M_frame_17 (lv_at hl 4 rfl) ?_
      refine lv_bipush (v := 8) hx hb d_M_frame_19 (by decide) ?_
      refine lv_icmp_ge (tgt := 64) hx hb d_M_frame_21 (by decide) (fun hc => ?_) (fun hc => ?_)
      · rw [if_pos hc] at hwp
        exact hX (v3) _ _ _ (lv_sub hl [0, 1, 2, 3] rfl) hP hS hwp
      · rw [if_neg hc] at hwp
        refine lv_iload_n hx hb d_M_frame_24 rfl (lv_at hl 3 rfl) ?_
        refine lv_aload_n hx hb d_M_frame_25 rfl (lv_at hl 0 rfl) ?_
        refine va_get (D := (dC, dI)) (ci := 7) (v := .ref (q 7)) (C := R_M) (T := F_M) (N := 39) hx hb hts hiM hown hK hP 0 rfl rfl 7 (by decide) lk29 (fun _ h9 => h9) rfl d_M_frame_26 ?_
        refine lv_iload hx hb d_M_frame_29 (lv_at hl 4 rfl) ?_
        refine va_zald hx hb hK hP 7 2 rfl rfl hwp.1 d_M_frame_31 ?_
        have hwp := hwp.2
        refine lv_if_eq (tgt := 55) hx hb d_M_frame_32 (by decide) (fun hc => ?_) (fun hc => ?_)
        · rw [if_pos hc] at hwp
          refine lv_iconst (v := 0) hx hb d_M_frame_55 (by decide) ?_
          refine lv_iadd hx hb d_M_frame_56 ?_
          refine lv_istore_n (lv' := [(3, .int (v3 + 0)), (0, .ref (q 0)), (1, .int v1), (2, .int v2), (4, .int v4)]) hx hb d_M_frame_57 rfl hl (by decide) rfl (fun ls hl => ?_)
          refine lv_iinc (k := 4) (v := (v4 + 1)) (lv' := [(4, .int (v4 + 1)), (3, .int (v3 + 0)), (0, .ref (q 0)), (1, .int v1), (2, .int v2)]) hx hb d_M_frame_58 hl rfl (ii_1 _) (by decide) rfl (fun ls hl => ?_)
          refine lv_goto hx hb d_M_frame_61 (tgt := 17) (by decide) ?_
          exact ih ((v3 + 0)) ((v4 + 1)) _ _ _ (lv_sub hl [2, 3, 4, 1, 0] rfl) hP hS hwp hX
        · rw [if_neg hc] at hwp
          refine lv_aload_n hx hb d_M_frame_35 rfl (lv_at hl 0 rfl) ?_
          refine va_get (D := (dC, dI)) (ci := 7) (v := .ref (q 9)) (C := R_M) (T := F_M) (N := 39) hx hb hts hiM hown hK hP 0 rfl rfl 9 (by decide) lk35 (fun _ h9 => h9) rfl d_M_frame_36 ?_
          refine lv_iload hx hb d_M_frame_39 (lv_at hl 4 rfl) ?_
          refine va_iald hx hb hK hP 9 0 rfl rfl hwp.1 d_M_frame_41 ?_
          have hwp := hwp.2
          refine lv_aload_n hx hb d_M_frame_42 rfl (lv_at hl 0 rfl) ?_
          refine va_get (D := (dC, dI)) (ci := 7) (v := .ref (q 9)) (C := R_M) (T := F_M) (N := 39) hx hb hts hiM hown hK hP 0 rfl rfl 9 (by decide) lk35 (fun _ h9 => h9) rfl d_M_frame_43 ?_
          refine lv_iload_n hx hb d_M_frame_46 rfl (lv_at hl 2 rfl) ?_
          refine va_iald hx hb hK hP 9 0 rfl rfl hwp.1 d_M_frame_47 ?_
          have hwp := hwp.2
          refine lv_icmp_le (tgt := 55) hx hb d_M_frame_48 (by decide) (fun hc => ?_) (fun hc => ?_)
          · rw [if_pos hc] at hwp
            refine lv_iconst (v := 0) hx hb d_M_frame_55 (by decide) ?_
            refine lv_iadd hx hb d_M_frame_56 ?_
            refine lv_istore_n (lv' := [(3, .int (v3 + 0)), (0, .ref (q 0)), (1, .int v1), (2, .int v2), (4, .int v4)]) hx hb d_M_frame_57 rfl hl (by decide) rfl (fun ls hl => ?_)
            refine lv_iinc (k := 4) (v := (v4 + 1)) (lv' := [(4, .int (v4 + 1)), (3, .int (v3 + 0)), (0, .ref (q 0)), (1, .int v1), (2, .int v2)]) hx hb d_M_frame_58 hl rfl (ii_1 _) (by decide) rfl (fun ls hl => ?_)
            refine lv_goto hx hb d_M_frame_61 (tgt := 17) (by decide) ?_
            exact ih ((v3 + 0)) ((v4 + 1)) _ _ _ (lv_sub hl [2, 3, 4, 1, 0] rfl) hP hS hwp hX
          · rw [if_neg hc] at hwp
            refine lv_iconst (v := 1) hx hb d_M_frame_51 (by decide) ?_
            refine lv_goto hx hb d_M_frame_52 (tgt := 56) (by decide) ?_
            refine lv_iadd hx hb d_M_frame_56 ?_
            refine lv_istore_n (lv' := [(3, .int (v3 + 1)), (0, .ref (q 0)), (1, .int v1), (2, .int v2), (4, .int v4)]) hx hb d_M_frame_57 rfl hl (by decide) rfl (fun ls hl => ?_)
            refine lv_iinc (k := 4) (v := (v4 + 1)) (lv' := [(4, .int (v4 + 1)), (3, .int (v3 + 1)), (0, .ref (q 0)), (1, .int v1), (2, .int v2)]) hx hb d_M_frame_58 hl rfl (ii_1 _) (by decide) rfl (fun ls hl => ?_)
            refine lv_goto hx hb d_M_frame_61 (tgt := 17) (by decide) ?_
            exact ih ((v3 + 1)) ((v4 + 1)) _ _ _ (lv_sub hl [2, 3, 4, 1, 0] rfl) hP hS hwp hX
  have L2 : ∀ (Kx : Prop) (v1 : Int32) (n : Nat) (v2 : Int32) (H : Heap) (locs : List Loc) (ls : Array Slot), lv_has ls 5 [(0, .ref (q 0)), (1, .int v1), (2, .int v2)] → va_P (dC, dI) clZ (wM cI cL cZ q MA MD MF MG ML MN MP MT MV) H → va_S (aM q) s.heap H locs → wp_M_frame_L2 MA v1 post Kx n v2 → (∀ (H : Heap) (locs : List Loc) (ls : Array Slot), lv_has ls 5 [] → va_P (dC, dI) clZ (wM cI cL cZ q MA MD MF MG ML MN MP MT MV) H → va_S (aM q) s.heap H locs → Kx → W p l e (headSpec ws_M_frame rm_M_frame).room s m ([.ref (q 0), .int a1]).toArray below meth c H locs 0 0 Q (F0 m 103 ls [])) → W p l e (headSpec ws_M_frame rm_M_frame).room s m ([.ref (q 0), .int a1]).toArray below meth c H locs 0 0 Q (F0 m 2 ls []) := by
    intro Kx v1 n
    induction n with
    | zero =>
      intros
      rename_i hwp _
      exact hwp.elim
    | succ n2 ih =>
      intro v2 H locs ls hl hP hS hwp hX
      rw [wp_M_frame_L2] at hwp
      refine lv_iload_n hx hb d_M_frame_2 rfl (lv_at hl 2 rfl) ?_
      refine lv_bipush (v := 8) hx hb d_M_frame_3 (by decide) ?_
      refine lv_icmp_ge (tgt := 103) hx hb d_M_frame_5 (by decide) (fun hc => ?_) (fun hc => ?_)
      · rw [if_pos hc] at hwp
        exact hX  _ _ _ (lv_sub hl [] rfl) hP hS hwp
      · rw [if_neg hc] at hwp
        refine lv_iload_n hx hb d_M_frame_8 rfl (lv_at hl 1 rfl) ?_
        refine lv_if_lt (tgt := 103) hx hb d_M_frame_9 (by decide) (fun hc => ?_) (fun hc => ?_)
        · rw [if_pos hc] at hwp
          exact hX  _ _ _ (lv_sub hl [] rfl) hP hS hwp
        · rw [if_neg hc] at hwp
          refine lv_iconst (v := 0) hx hb d_M_frame_12 (by decide) ?_
          refine lv_istore_n (lv' := [(3, .int 0), (0, .ref (q 0)), (1, .int v1), (2, .int v2)]) hx hb d_M_frame_13 rfl hl (by decide) rfl (fun ls hl => ?_)
          refine lv_iconst (v := 0) hx hb d_M_frame_14 (by decide) ?_
          refine lv_istore (lv' := [(4, .int 0), (3, .int 0), (0, .ref (q 0)), (1, .int v1), (2, .int v2)]) hx hb d_M_frame_15 hl (by decide) rfl (fun ls hl => ?_)
          obtain ⟨e17, hwp⟩ := hwp
          refine L17 _ (v1) (v2) e17 (0) (0) _ _ _ (lv_sub hl [2, 3, 4, 1, 0] rfl) hP hS hwp (fun x1 H locs ls hl hP hS hwp => ?_)
          refine lv_aload_n hx hb d_M_frame_64 rfl (lv_at hl 0 rfl) ?_
          refine va_get (D := (dC, dI)) (ci := 7) (v := .ref (q 7)) (C := R_M) (T := F_M) (N := 39) hx hb hts hiM hown hK hP 0 rfl rfl 7 (by decide) lk29 (fun _ h9 => h9) rfl d_M_frame_65 ?_
          refine lv_iload_n hx hb d_M_frame_68 rfl (lv_at hl 2 rfl) ?_
          refine va_zald hx hb hK hP 7 2 rfl rfl hwp.1 d_M_frame_69 ?_
          have hwp := hwp.2
          refine lv_if_eq (tgt := 97) hx hb d_M_frame_70 (by decide) (fun hc => ?_) (fun hc => ?_)
          · rw [if_pos hc] at hwp
            refine lv_iinc (k := 2) (v := (v2 + 1)) (lv' := [(2, .int (v2 + 1)), (0, .ref (q 0)), (1, .int v1), (3, .int x1)]) hx hb d_M_frame_97 hl rfl (ii_1 _) (by decide) rfl (fun ls hl => ?_)
            refine lv_goto hx hb d_M_frame_100 (tgt := 2) (by decide) ?_
            exact ih ((v2 + 1)) _ _ _ (lv_sub hl [1, 2, 0] rfl) hP hS hwp hX
          · rw [if_neg hc] at hwp
            refine lv_iload_n hx hb d_M_frame_73 rfl (lv_at hl 3 rfl) ?_
            refine lv_iload_n hx hb d_M_frame_74 rfl (lv_at hl 1 rfl) ?_
            refine lv_icmp_ne (tgt := 97) hx hb d_M_frame_75 (by decide) (fun hc => ?_) (fun hc => ?_)
            · rw [if_neg hc] at hwp
              refine lv_iinc (k := 2) (v := (v2 + 1)) (lv' := [(2, .int (v2 + 1)), (0, .ref (q 0)), (1, .int v1), (3, .int x1)]) hx hb d_M_frame_97 hl rfl (ii_1 _) (by decide) rfl (fun ls hl => ?_)
              refine lv_goto hx hb d_M_frame_100 (tgt := 2) (by decide) ?_
              exact ih ((v2 + 1)) _ _ _ (lv_sub hl [1, 2, 0] rfl) hP hS hwp hX
            · rw [if_pos hc] at hwp
              refine lv_iconst (v := 2) hx hb d_M_frame_78 (by decide) ?_
              refine lv_iload_n hx hb d_M_frame_79 rfl (lv_at hl 2 rfl) ?_
              refine lv_imul hx hb d_M_frame_80 ?_
              refine lv_aload_n hx hb d_M_frame_81 rfl (lv_at hl 0 rfl) ?_
              refine va_get (D := (dC, dI)) (ci := 7) (v := .ref (q 8)) (C := R_M) (T := F_M) (N := 39) hx hb hts hiM hown hK hP 0 rfl rfl 8 (by decide) lk32 (fun _ h9 => h9) rfl d_M_frame_82 ?_
              refine lv_iload_n hx hb d_M_frame_85 rfl (lv_at hl 2 rfl) ?_
              refine va_zald hx hb hK hP 8 2 rfl rfl hwp.1 d_M_frame_86 ?_
              have hwp := hwp.2
              refine lv_if_eq (tgt := 94) hx hb d_M_frame_87 (by decide) (fun hc => ?_) (fun hc => ?_)
              · rw [if_pos hc] at hwp
                refine lv_iconst (v := 0) hx hb d_M_frame_94 (by decide) ?_
                refine lv_iadd hx hb d_M_frame_95 ?_
                rw [hQ]
                exact W.iret (v := ((2 * v2) + 0)) hx hb hr (fun t ht hW => ⟨⟨((2 * v2) + 0), (), rfl, hwp, hp_of ht hP⟩, hS.F ht⟩) hS.2.2 d_M_frame_96
              · rw [if_neg hc] at hwp
                refine lv_iconst (v := 1) hx hb d_M_frame_90 (by decide) ?_
                refine lv_goto hx hb d_M_frame_91 (tgt := 95) (by decide) ?_
                refine lv_iadd hx hb d_M_frame_95 ?_
                rw [hQ]
                exact W.iret (v := ((2 * v2) + 1)) hx hb hr (fun t ht hW => ⟨⟨((2 * v2) + 1), (), rfl, hwp, hp_of ht hP⟩, hS.F ht⟩) hS.2.2 d_M_frame_96
  rw [wp_M_frame] at hwp
  refine lv_iconst (v := 0) hx hb d_M_frame_0 (by decide) ?_
  refine lv_istore_n (lv' := [(2, .int 0), (0, .ref (q 0)), (1, .int a1)]) hx hb d_M_frame_1 rfl hl (by decide) rfl (fun ls hl => ?_)
  obtain ⟨e2, hwp⟩ := hwp
  refine L2 _ (a1) e2 (0) _ _ _ (lv_sub hl [1, 2, 0] rfl) hP hS hwp (fun  H locs ls hl hP hS hwp => ?_)
  refine lv_iconst (v := (-1)) hx hb d_M_frame_103 (by decide) ?_
  rw [hQ]
  exact W.iret (v := (-1)) hx hb hr (fun t ht hW => ⟨⟨(-1), (), rfl, hwp, hp_of ht hP⟩, hS.F ht⟩) hS.2.2 d_M_frame_104

set_option maxHeartbeats 4000000 in
set_option maxRecDepth 100000 in
theorem c_M_page {l : Launch} {dC : Nat → ClassId} {dI : Nat → Nat → Nat} {cI cL cZ : ClassId} {q : Nat → Nat} (hq : iM q) (MA : S_MA) (MD : S_MD) (MF : S_MF) (MG : S_MG) (ML : S_ML) (MN : S_MN) (MP : S_MP) (MT : S_MT) (MV : S_MV) (a1 : Int32) (post : Int32 → Prop) (hwp : wp_M_page MA MD a1 post) : Met l y_M_page ws_M_page rm_M_page (va_Pc [.ref (q 0), .int a1] (bM dC dI cI cL cZ q MA MD MF MG ML MN MP MT MV)) (va_Qi (fun (r : Int32) (u : Unit) => post r) (fun u t => va_P (dC, dI) clZ (wM cI cL cZ q MA MD MF MG ML MN MP MT MV) t.heap) (aM q)) 0 0 (aM q) := by
  refine Met.ofW (cc := b_M_page) (maxL := 2) (ret := (some .int)) (by decide) rfl ?_
  intro p e s m args below meth c s₁ B hml hv
  obtain ⟨rfl, hP, hK⟩ := hv
  have hx := B.exec
  have hb := B.bytes
  have hr := B.returns
  have hts := atoms_spec (ws := ws_M_page) B.pre
  have hown : s.vm.findClass R_M = some m.cls := findClass_of_methodNamed B.named
  have hlocks := B.notSynchronized
  have hS : va_S (aM q) s.heap s.heap [] := va_S.rf
  have hl := lv_entry ([.ref (q 0), .int a1]) (n := 2) (Nat.le_of_ble_eq_true rfl)
  rw [lg_entry_eq]
  generalize (lg_sl ([.ref (q 0), .int a1]) ++ List.replicate (2 - (lg_sl ([.ref (q 0), .int a1])).length) Slot.unset).toArray = ls at hl ⊢
  have hl : lv_has ls 2 [(0, .ref (q 0)), (1, .int a1)] := hl
  obtain ⟨Q, hQ⟩ : ∃ Q, Q = MQ below (va_Qi (fun (r : Int32) (u : Unit) => post r) (fun u t => va_P (dC, dI) clZ (wM cI cL cZ q MA MD MF MG ML MN MP MT MV) t.heap) (aM q)) ([.ref (q 0), .int a1]).toArray s 0 0 (aM q) := ⟨_, rfl⟩
  rw [← hQ]
  rw [wp_M_page] at hwp
  refine lv_iload_n hx hb d_M_page_0 rfl (lv_at hl 1 rfl) ?_
  refine ncs_i (As := [.int a1]) (c_M_isPage hq (MA) (MD) (MF) (MG) (ML) (MN) (MP) (MT) (MV) (a1) _ hwp) (cwS 1 hts g_M_255 rfl rfl rfl hd_M_isPage ⟨Nat.le_of_ble_eq_true rfl, Nat.le_of_ble_eq_true rfl⟩) hx hb hml hown hts hK hP hS hl.1 d_M_page_1 rfl (lv_room (Nat.le_of_ble_eq_true rfl)) (Nat.zero_le _) (Nat.zero_le _) rfl (fun r1 u H locs hwp hP hS => ?_)
  have hP : va_P (dC, dI) clZ (wM cI cL cZ q MA MD MF MG ML MN MP MT MV) H := hP
  refine lv_if_eq (tgt := 15) hx hb d_M_page_4 (by decide) (fun hc => ?_) (fun hc => ?_)
  · rw [if_pos hc] at hwp
    refine lv_iconst (v := (-1)) hx hb d_M_page_15 (by decide) ?_
    rw [hQ]
    exact W.iret (v := (-1)) hx hb hr (fun t ht hW => ⟨⟨(-1), (), rfl, hwp, hp_of ht hP⟩, hS.F ht⟩) hS.2.2 d_M_page_16
  · rw [if_neg hc] at hwp
    refine lv_aload_n hx hb d_M_page_7 rfl (lv_at hl 0 rfl) ?_
    refine lv_iload_n hx hb d_M_page_8 rfl (lv_at hl 1 rfl) ?_
    refine ncn_i (As := [.int a1]) (c_M_lsnNow hq (MA) (MD) (MF) (MG) (ML) (MN) (MP) (MT) (MV) (a1) _ hwp) (cwV 1 hts g_M_264 rfl rfl rfl hd_M_lsnNow ⟨Nat.le_of_ble_eq_true rfl, Nat.le_of_ble_eq_true rfl⟩) hx hb hml hown hts hK hP hS hl.1 d_M_page_9 (va_recv (q := (R_M, F_M, 39)) hK hP (ci := 7) (q0 := 0) rfl rfl) rfl (lv_room (Nat.le_of_ble_eq_true rfl)) (Nat.zero_le _) (Nat.zero_le _) rfl (fun r2 u H locs hwp hP hS => ?_)
    have hP : va_P (dC, dI) clZ (wM cI cL cZ q MA MD MF MG ML MN MP MT MV) H := hP
    refine lv_goto hx hb d_M_page_12 (tgt := 16) (by decide) ?_
    rw [hQ]
    exact W.iret (v := r2) hx hb hr (fun t ht hW => ⟨⟨r2, (), rfl, hwp, hp_of ht hP⟩, hS.F ht⟩) hS.2.2 d_M_page_16
