set_option maxHeartbeats 4000000 in
set_option maxRecDepth 100000 in
theorem c_M_isKey {l : Launch} {dC : Nat → ClassId} {dI : Nat → Nat → Nat} {cI cL cZ : ClassId} {q : Nat → Nat} (hq : iM q) (MA : S_MA) (MD : S_MD) (MF : S_MF) (MG : S_MG) (ML : S_ML) (MN : S_MN) (MP : S_MP) (MT : S_MT) (MV : S_MV) (a0 : Int32) (post : Int32 → Prop) (hwp : wp_M_isKey a0 post) : Met l y_M_isKey ws_M_isKey rm_M_isKey (va_Pc [.int a0] (bM dC dI cI cL cZ q MA MD MF MG ML MN MP MT MV)) (va_Qi (fun (r : Int32) (u : Unit) => post r) (fun u t => va_P (dC, dI) clZ (wM cI cL cZ q MA MD MF MG ML MN MP MT MV) t.heap) (aM q)) 0 0 (aM q) := by
  refine Met.ofW (cc := b_M_isKey) (maxL := 1) (ret := (some .boolean)) (by decide) rfl ?_
  intro p e s m args below meth c s₁ B hml hv
  obtain ⟨rfl, hP, hK⟩ := hv
  have hx := B.exec
  have hb := B.bytes
  have hr := B.returns
  have hts := atoms_spec (ws := ws_M_isKey) B.pre
  have hown : s.vm.findClass R_M = some m.cls := findClass_of_methodNamed B.named
  have hlocks := B.notSynchronized
  have hS : va_S (aM q) s.heap s.heap [] := va_S.rf
  have hl := lv_entry ([.int a0]) (n := 1) (Nat.le_of_ble_eq_true rfl)
  rw [lg_entry_eq]
  generalize (lg_sl ([.int a0]) ++ List.replicate (1 - (lg_sl ([.int a0])).length) Slot.unset).toArray = ls at hl ⊢
  have hl : lv_has ls 1 [(0, .int a0)] := hl
  obtain ⟨Q, hQ⟩ : ∃ Q, Q = MQ below (va_Qi (fun (r : Int32) (u : Unit) => post r) (fun u t => va_P (dC, dI) clZ (wM cI cL cZ q MA MD MF MG ML MN MP MT MV) t.heap) (aM q)) ([.int a0]).toArray s 0 0 (aM q) := ⟨_, rfl⟩
  rw [← hQ]
  rw [wp_M_isKey] at hwp
  refine lv_iload_n hx hb d_M_isKey_0 rfl (lv_at hl 0 rfl) ?_
  refine lv_if_lt (tgt := 14) hx hb d_M_isKey_1 (by decide) (fun hc => ?_) (fun hc => ?_)
  · rw [if_pos hc] at hwp
    refine lv_iconst (v := 0) hx hb d_M_isKey_14 (by decide) ?_
    rw [hQ]
    exact W.zret (v := 0) hx hb hr rfl (fun t ht hW => ⟨⟨0, (), rfl, hwp, hp_of ht hP⟩, hS.F ht⟩) hS.2.2 d_M_isKey_15
  · rw [if_neg hc] at hwp
    refine lv_iload_n hx hb d_M_isKey_4 rfl (lv_at hl 0 rfl) ?_
    refine lv_bipush (v := 31) hx hb d_M_isKey_5 (by decide) ?_
    refine lv_icmp_gt (tgt := 14) hx hb d_M_isKey_7 (by decide) (fun hc => ?_) (fun hc => ?_)
    · rw [if_pos hc] at hwp
      refine lv_iconst (v := 0) hx hb d_M_isKey_14 (by decide) ?_
      rw [hQ]
      exact W.zret (v := 0) hx hb hr rfl (fun t ht hW => ⟨⟨0, (), rfl, hwp, hp_of ht hP⟩, hS.F ht⟩) hS.2.2 d_M_isKey_15
    · rw [if_neg hc] at hwp
      refine lv_iconst (v := 1) hx hb d_M_isKey_10 (by decide) ?_
      refine lv_goto hx hb d_M_isKey_11 (tgt := 15) (by decide) ?_
      rw [hQ]
      exact W.zret (v := 1) hx hb hr rfl (fun t ht hW => ⟨⟨1, (), rfl, hwp, hp_of ht hP⟩, hS.F ht⟩) hS.2.2 d_M_isKey_15

set_option maxHeartbeats 4000000 in
set_option maxRecDepth 100000 in
theorem c_M_isPage {l : Launch} {dC : Nat → ClassId} {dI : Nat → Nat → Nat} {cI cL cZ : ClassId} {q : Nat → Nat} (hq : iM q) (MA : S_MA) (MD : S_MD) (MF : S_MF) (MG : S_MG) (ML : S_ML) (MN : S_MN) (MP : S_MP) (MT : S_MT) (MV : S_MV) (a0 : Int32) (post : Int32 → Prop) (hwp : wp_M_isPage a0 post) : Met l y_M_isPage ws_M_isPage rm_M_isPage (va_Pc [.int a0] (bM dC dI cI cL cZ q MA MD MF MG ML MN MP MT MV)) (va_Qi (fun (r : Int32) (u : Unit) => post r) (fun u t => va_P (dC, dI) clZ (wM cI cL cZ q MA MD MF MG ML MN MP MT MV) t.heap) (aM q)) 0 0 (aM q) := by
  refine Met.ofW (cc := b_M_isPage) (maxL := 1) (ret := (some .boolean)) (by decide) rfl ?_
  intro p e s m args below meth c s₁ B hml hv
  obtain ⟨rfl, hP, hK⟩ := hv
  have hx := B.exec
  have hb := B.bytes
  have hr := B.returns
  have hts := atoms_spec (ws := ws_M_isPage) B.pre
  have hown : s.vm.findClass R_M = some m.cls := findClass_of_methodNamed B.named
  have hlocks := B.notSynchronized
  have hS : va_S (aM q) s.heap s.heap [] := va_S.rf
  have hl := lv_entry ([.int a0]) (n := 1) (Nat.le_of_ble_eq_true rfl)
  rw [lg_entry_eq]
  generalize (lg_sl ([.int a0]) ++ List.replicate (1 - (lg_sl ([.int a0])).length) Slot.unset).toArray = ls at hl ⊢
  have hl : lv_has ls 1 [(0, .int a0)] := hl
  obtain ⟨Q, hQ⟩ : ∃ Q, Q = MQ below (va_Qi (fun (r : Int32) (u : Unit) => post r) (fun u t => va_P (dC, dI) clZ (wM cI cL cZ q MA MD MF MG ML MN MP MT MV) t.heap) (aM q)) ([.int a0]).toArray s 0 0 (aM q) := ⟨_, rfl⟩
  rw [← hQ]
  rw [wp_M_isPage] at hwp
  refine lv_iload_n hx hb d_M_isPage_0 rfl (lv_at hl 0 rfl) ?_
  refine lv_if_lt (tgt := 14) hx hb d_M_isPage_1 (by decide) (fun hc => ?_) (fun hc => ?_)
  · rw [if_pos hc] at hwp
    refine lv_iconst (v := 0) hx hb d_M_isPage_14 (by decide) ?_
    rw [hQ]
    exact W.zret (v := 0) hx hb hr rfl (fun t ht hW => ⟨⟨0, (), rfl, hwp, hp_of ht hP⟩, hS.F ht⟩) hS.2.2 d_M_isPage_15
  · rw [if_neg hc] at hwp
    refine lv_iload_n hx hb d_M_isPage_4 rfl (lv_at hl 0 rfl) ?_
    refine lv_bipush (v := 7) hx hb d_M_isPage_5 (by decide) ?_
    refine lv_icmp_gt (tgt := 14) hx hb d_M_isPage_7 (by decide) (fun hc => ?_) (fun hc => ?_)
    · rw [if_pos hc] at hwp
      refine lv_iconst (v := 0) hx hb d_M_isPage_14 (by decide) ?_
      rw [hQ]
      exact W.zret (v := 0) hx hb hr rfl (fun t ht hW => ⟨⟨0, (), rfl, hwp, hp_of ht hP⟩, hS.F ht⟩) hS.2.2 d_M_isPage_15
    · rw [if_neg hc] at hwp
      refine lv_iconst (v := 1) hx hb d_M_isPage_10 (by decide) ?_
      refine lv_goto hx hb d_M_isPage_11 (tgt := 15) (by decide) ?_
      rw [hQ]
      exact W.zret (v := 1) hx hb hr rfl (fun t ht hW => ⟨⟨1, (), rfl, hwp, hp_of ht hP⟩, hS.F ht⟩) hS.2.2 d_M_isPage_15

set_option maxHeartbeats 4000000 in
set_option maxRecDepth 100000 in
theorem c_M_isThereNow {l : Launch} {dC : Nat → ClassId} {dI : Nat → Nat → Nat} {cI cL cZ : ClassId} {q : Nat → Nat} (hq : iM q) (MA : S_MA) (MD : S_MD) (MF : S_MF) (MG : S_MG) (ML : S_ML) (MN : S_MN) (MP : S_MP) (MT : S_MT) (MV : S_MV) (a1 : Int32) (post : Int32 → Prop) (hwp : wp_M_isThereNow MA MD a1 post) : Met l y_M_isThereNow ws_M_isThereNow rm_M_isThereNow (va_Pc [.ref (q 0), .int a1] (bM dC dI cI cL cZ q MA MD MF MG ML MN MP MT MV)) (va_Qi (fun (r : Int32) (u : Unit) => post r) (fun u t => va_P (dC, dI) clZ (wM cI cL cZ q MA MD MF MG ML MN MP MT MV) t.heap) (aM q)) 0 0 (aM q) := by
  refine Met.ofW (cc := b_M_isThereNow) (maxL := 2) (ret := (some .boolean)) (by decide) rfl ?_
  intro p e s m args below meth c s₁ B hml hv
  obtain ⟨rfl, hP, hK⟩ := hv
  have hx := B.exec
  have hb := B.bytes
  have hr := B.returns
  have hts := atoms_spec (ws := ws_M_isThereNow) B.pre
  have hown : s.vm.findClass R_M = some m.cls := findClass_of_methodNamed B.named
  have hlocks := B.notSynchronized
  have hiM : ∀ w ∈ u_ws R_M F_M 39, w ∈ ws_M_isThereNow := fun w h => List.mem_cons_of_mem _ (in_M w h)
  have lk7 := hts _ (List.mem_cons_of_mem _ k_M_7)
  have lk20 := hts _ (List.mem_cons_of_mem _ k_M_20)
  have lk29 := hts _ (List.mem_cons_of_mem _ k_M_29)
  have hS : va_S (aM q) s.heap s.heap [] := va_S.rf
  have hl := lv_entry ([.ref (q 0), .int a1]) (n := 2) (Nat.le_of_ble_eq_true rfl)
  rw [lg_entry_eq]
  generalize (lg_sl ([.ref (q 0), .int a1]) ++ List.replicate (2 - (lg_sl ([.ref (q 0), .int a1])).length) Slot.unset).toArray = ls at hl ⊢
  have hl : lv_has ls 2 [(0, .ref (q 0)), (1, .int a1)] := hl
  obtain ⟨Q, hQ⟩ : ∃ Q, Q = MQ below (va_Qi (fun (r : Int32) (u : Unit) => post r) (fun u t => va_P (dC, dI) clZ (wM cI cL cZ q MA MD MF MG ML MN MP MT MV) t.heap) (aM q)) ([.ref (q 0), .int a1]).toArray s 0 0 (aM q) := ⟨_, rfl⟩
  rw [← hQ]
  rw [wp_M_isThereNow] at hwp
  refine lv_aload_n hx hb d_M_isThereNow_0 rfl (lv_at hl 0 rfl) ?_
  refine va_get (D := (dC, dI)) (ci := 7) (v := .ref (q 7)) (C := R_M) (T := F_M) (N := 39) hx hb hts hiM hown hK hP 0 rfl rfl 7 (by decide) lk29 (fun _ h9 => h9) rfl d_M_isThereNow_1 ?_
  refine lv_iload_n hx hb d_M_isThereNow_4 rfl (lv_at hl 1 rfl) ?_
  refine lv_iconst (v := 4) hx hb d_M_isThereNow_5 (by decide) ?_
  refine lv_idiv hx hb d_M_isThereNow_6 (by decide) ?_
  refine va_zald hx hb hK hP 7 2 rfl rfl hwp.1 d_M_isThereNow_7 ?_
  have hwp := hwp.2
  refine lv_if_eq (tgt := 20) hx hb d_M_isThereNow_8 (by decide) (fun hc => ?_) (fun hc => ?_)
  · rw [if_pos hc] at hwp
    refine lv_aload_n hx hb d_M_isThereNow_20 rfl (lv_at hl 0 rfl) ?_
    refine va_get (D := (dC, dI)) (ci := 7) (v := .ref (q 1)) (C := R_M) (T := F_M) (N := 39) hx hb hts hiM hown hK hP 0 rfl rfl 1 (by decide) lk7 (fun _ h9 => h9) rfl d_M_isThereNow_21 ?_
    refine lv_iload_n hx hb d_M_isThereNow_24 rfl (lv_at hl 1 rfl) ?_
    refine va_zald hx hb hK hP 1 2 rfl rfl hwp.1 d_M_isThereNow_25 ?_
    have hwp := hwp.2
    rw [hQ]
    exact W.zret (v := ((MD_diskThere MD) (Int32.toNatClampNeg a1))) hx hb hr (nb_ok hwp.1) (fun t ht hW => ⟨⟨((MD_diskThere MD) (Int32.toNatClampNeg a1)), (), rfl, hwp.2, hp_of ht hP⟩, hS.F ht⟩) hS.2.2 d_M_isThereNow_26
  · rw [if_neg hc] at hwp
    refine lv_aload_n hx hb d_M_isThereNow_11 rfl (lv_at hl 0 rfl) ?_
    refine va_get (D := (dC, dI)) (ci := 7) (v := .ref (q 4)) (C := R_M) (T := F_M) (N := 39) hx hb hts hiM hown hK hP 0 rfl rfl 4 (by decide) lk20 (fun _ h9 => h9) rfl d_M_isThereNow_12 ?_
    refine lv_iload_n hx hb d_M_isThereNow_15 rfl (lv_at hl 1 rfl) ?_
    refine va_zald hx hb hK hP 4 2 rfl rfl hwp.1 d_M_isThereNow_16 ?_
    have hwp := hwp.2
    refine lv_goto hx hb d_M_isThereNow_17 (tgt := 26) (by decide) ?_
    rw [hQ]
    exact W.zret (v := ((MA_there MA) (Int32.toNatClampNeg a1))) hx hb hr (nb_ok hwp.1) (fun t ht hW => ⟨⟨((MA_there MA) (Int32.toNatClampNeg a1)), (), rfl, hwp.2, hp_of ht hP⟩, hS.F ht⟩) hS.2.2 d_M_isThereNow_26

set_option maxHeartbeats 4000000 in
set_option maxRecDepth 100000 in
theorem c_M_valueNow {l : Launch} {dC : Nat → ClassId} {dI : Nat → Nat → Nat} {cI cL cZ : ClassId} {q : Nat → Nat} (hq : iM q) (MA : S_MA) (MD : S_MD) (MF : S_MF) (MG : S_MG) (ML : S_ML) (MN : S_MN) (MP : S_MP) (MT : S_MT) (MV : S_MV) (a1 : Int32) (post : Int32 → Prop) (hwp : wp_M_valueNow MA MD a1 post) : Met l y_M_valueNow ws_M_valueNow rm_M_valueNow (va_Pc [.ref (q 0), .int a1] (bM dC dI cI cL cZ q MA MD MF MG ML MN MP MT MV)) (va_Qi (fun (r : Int32) (u : Unit) => post r) (fun u t => va_P (dC, dI) clZ (wM cI cL cZ q MA MD MF MG ML MN MP MT MV) t.heap) (aM q)) 0 0 (aM q) := by
  refine Met.ofW (cc := b_M_valueNow) (maxL := 2) (ret := (some .int)) (by decide) rfl ?_
  intro p e s m args below meth c s₁ B hml hv
  obtain ⟨rfl, hP, hK⟩ := hv
  have hx := B.exec
  have hb := B.bytes
  have hr := B.returns
  have hts := atoms_spec (ws := ws_M_valueNow) B.pre
  have hown : s.vm.findClass R_M = some m.cls := findClass_of_methodNamed B.named
  have hlocks := B.notSynchronized
  have hiM : ∀ w ∈ u_ws R_M F_M 39, w ∈ ws_M_valueNow := fun w h => List.mem_cons_of_mem _ (in_M w h)
  have lk13 := hts _ (List.mem_cons_of_mem _ k_M_13)
  have lk23 := hts _ (List.mem_cons_of_mem _ k_M_23)
  have lk29 := hts _ (List.mem_cons_of_mem _ k_M_29)
  have hS : va_S (aM q) s.heap s.heap [] := va_S.rf
  have hl := lv_entry ([.ref (q 0), .int a1]) (n := 2) (Nat.le_of_ble_eq_true rfl)
  rw [lg_entry_eq]
  generalize (lg_sl ([.ref (q 0), .int a1]) ++ List.replicate (2 - (lg_sl ([.ref (q 0), .int a1])).length) Slot.unset).toArray = ls at hl ⊢
  have hl : lv_has ls 2 [(0, .ref (q 0)), (1, .int a1)] := hl
  obtain ⟨Q, hQ⟩ : ∃ Q, Q = MQ below (va_Qi (fun (r : Int32) (u : Unit) => post r) (fun u t => va_P (dC, dI) clZ (wM cI cL cZ q MA MD MF MG ML MN MP MT MV) t.heap) (aM q)) ([.ref (q 0), .int a1]).toArray s 0 0 (aM q) := ⟨_, rfl⟩
  rw [← hQ]
  rw [wp_M_valueNow] at hwp
  refine lv_aload_n hx hb d_M_valueNow_0 rfl (lv_at hl 0 rfl) ?_
  refine va_get (D := (dC, dI)) (ci := 7) (v := .ref (q 7)) (C := R_M) (T := F_M) (N := 39) hx hb hts hiM hown hK hP 0 rfl rfl 7 (by decide) lk29 (fun _ h9 => h9) rfl d_M_valueNow_1 ?_
  refine lv_iload_n hx hb d_M_valueNow_4 rfl (lv_at hl 1 rfl) ?_
  refine lv_iconst (v := 4) hx hb d_M_valueNow_5 (by decide) ?_
  refine lv_idiv hx hb d_M_valueNow_6 (by decide) ?_
  refine va_zald hx hb hK hP 7 2 rfl rfl hwp.1 d_M_valueNow_7 ?_
  have hwp := hwp.2
  refine lv_if_eq (tgt := 20) hx hb d_M_valueNow_8 (by decide) (fun hc => ?_) (fun hc => ?_)
  · rw [if_pos hc] at hwp
    refine lv_aload_n hx hb d_M_valueNow_20 rfl (lv_at hl 0 rfl) ?_
    refine va_get (D := (dC, dI)) (ci := 7) (v := .ref (q 2)) (C := R_M) (T := F_M) (N := 39) hx hb hts hiM hown hK hP 0 rfl rfl 2 (by decide) lk13 (fun _ h9 => h9) rfl d_M_valueNow_21 ?_
    refine lv_iload_n hx hb d_M_valueNow_24 rfl (lv_at hl 1 rfl) ?_
    refine va_iald hx hb hK hP 2 0 rfl rfl hwp.1 d_M_valueNow_25 ?_
    have hwp := hwp.2
    rw [hQ]
    exact W.iret (v := ((MD_diskValue MD) (Int32.toNatClampNeg a1))) hx hb hr (fun t ht hW => ⟨⟨((MD_diskValue MD) (Int32.toNatClampNeg a1)), (), rfl, hwp, hp_of ht hP⟩, hS.F ht⟩) hS.2.2 d_M_valueNow_26
  · rw [if_neg hc] at hwp
    refine lv_aload_n hx hb d_M_valueNow_11 rfl (lv_at hl 0 rfl) ?_
    refine va_get (D := (dC, dI)) (ci := 7) (v := .ref (q 5)) (C := R_M) (T := F_M) (N := 39) hx hb hts hiM hown hK hP 0 rfl rfl 5 (by decide) lk23 (fun _ h9 => h9) rfl d_M_valueNow_12 ?_
    refine lv_iload_n hx hb d_M_valueNow_15 rfl (lv_at hl 1 rfl) ?_
    refine va_iald hx hb hK hP 5 0 rfl rfl hwp.1 d_M_valueNow_16 ?_
    have hwp := hwp.2
    refine lv_goto hx hb d_M_valueNow_17 (tgt := 26) (by decide) ?_
    rw [hQ]
    exact W.iret (v := ((MA_value MA) (Int32.toNatClampNeg a1))) hx hb hr (fun t ht hW => ⟨⟨((MA_value MA) (Int32.toNatClampNeg a1)), (), rfl, hwp, hp_of ht hP⟩, hS.F ht⟩) hS.2.2 d_M_valueNow_26

set_option maxHeartbeats 4000000 in
set_option maxRecDepth 100000 in
theorem c_M_lsnNow {l : Launch} {dC : Nat → ClassId} {dI : Nat → Nat → Nat} {cI cL cZ : ClassId} {q : Nat → Nat} (hq : iM q) (MA : S_MA) (MD : S_MD) (MF : S_MF) (MG : S_MG) (ML : S_ML) (MN : S_MN) (MP : S_MP) (MT : S_MT) (MV : S_MV) (a1 : Int32) (post : Int32 → Prop) (hwp : wp_M_lsnNow MA MD a1 post) : Met l y_M_lsnNow ws_M_lsnNow rm_M_lsnNow (va_Pc [.ref (q 0), .int a1] (bM dC dI cI cL cZ q MA MD MF MG ML MN MP MT MV)) (va_Qi (fun (r : Int32) (u : Unit) => post r) (fun u t => va_P (dC, dI) clZ (wM cI cL cZ q MA MD MF MG ML MN MP MT MV) t.heap) (aM q)) 0 0 (aM q) := by
  refine Met.ofW (cc := b_M_lsnNow) (maxL := 2) (ret := (some .int)) (by decide) rfl ?_
  intro p e s m args below meth c s₁ B hml hv
  obtain ⟨rfl, hP, hK⟩ := hv
  have hx := B.exec
  have hb := B.bytes
  have hr := B.returns
  have hts := atoms_spec (ws := ws_M_lsnNow) B.pre
  have hown : s.vm.findClass R_M = some m.cls := findClass_of_methodNamed B.named
  have hlocks := B.notSynchronized
  have hiM : ∀ w ∈ u_ws R_M F_M 39, w ∈ ws_M_lsnNow := fun w h => List.mem_cons_of_mem _ (in_M w h)
  have lk17 := hts _ (List.mem_cons_of_mem _ k_M_17)
  have lk26 := hts _ (List.mem_cons_of_mem _ k_M_26)
  have lk29 := hts _ (List.mem_cons_of_mem _ k_M_29)
  have hS : va_S (aM q) s.heap s.heap [] := va_S.rf
  have hl := lv_entry ([.ref (q 0), .int a1]) (n := 2) (Nat.le_of_ble_eq_true rfl)
  rw [lg_entry_eq]
  generalize (lg_sl ([.ref (q 0), .int a1]) ++ List.replicate (2 - (lg_sl ([.ref (q 0), .int a1])).length) Slot.unset).toArray = ls at hl ⊢
  have hl : lv_has ls 2 [(0, .ref (q 0)), (1, .int a1)] := hl
  obtain ⟨Q, hQ⟩ : ∃ Q, Q = MQ below (va_Qi (fun (r : Int32) (u : Unit) => post r) (fun u t => va_P (dC, dI) clZ (wM cI cL cZ q MA MD MF MG ML MN MP MT MV) t.heap) (aM q)) ([.ref (q 0), .int a1]).toArray s 0 0 (aM q) := ⟨_, rfl⟩
  rw [← hQ]
  rw [wp_M_lsnNow] at hwp
  refine lv_aload_n hx hb d_M_lsnNow_0 rfl (lv_at hl 0 rfl) ?_
  refine va_get (D := (dC, dI)) (ci := 7) (v := .ref (q 7)) (C := R_M) (T := F_M) (N := 39) hx hb hts hiM hown hK hP 0 rfl rfl 7 (by decide) lk29 (fun _ h9 => h9) rfl d_M_lsnNow_1 ?_
  refine lv_iload_n hx hb d_M_lsnNow_4 rfl (lv_at hl 1 rfl) ?_
  refine va_zald hx hb hK hP 7 2 rfl rfl hwp.1 d_M_lsnNow_5 ?_
  have hwp := hwp.2
  refine lv_if_eq (tgt := 18) hx hb d_M_lsnNow_6 (by decide) (fun hc => ?_) (fun hc => ?_)
  · rw [if_pos hc] at hwp
    refine lv_aload_n hx hb d_M_lsnNow_18 rfl (lv_at hl 0 rfl) ?_
    refine va_get (D := (dC, dI)) (ci := 7) (v := .ref (q 3)) (C := R_M) (T := F_M) (N := 39) hx hb hts hiM hown hK hP 0 rfl rfl 3 (by decide) lk17 (fun _ h9 => h9) rfl d_M_lsnNow_19 ?_
    refine lv_iload_n hx hb d_M_lsnNow_22 rfl (lv_at hl 1 rfl) ?_
    refine va_iald hx hb hK hP 3 0 rfl rfl hwp.1 d_M_lsnNow_23 ?_
    have hwp := hwp.2
    rw [hQ]
    exact W.iret (v := ((MD_diskLsn MD) (Int32.toNatClampNeg a1))) hx hb hr (fun t ht hW => ⟨⟨((MD_diskLsn MD) (Int32.toNatClampNeg a1)), (), rfl, hwp, hp_of ht hP⟩, hS.F ht⟩) hS.2.2 d_M_lsnNow_24
  · rw [if_neg hc] at hwp
    refine lv_aload_n hx hb d_M_lsnNow_9 rfl (lv_at hl 0 rfl) ?_
    refine va_get (D := (dC, dI)) (ci := 7) (v := .ref (q 6)) (C := R_M) (T := F_M) (N := 39) hx hb hts hiM hown hK hP 0 rfl rfl 6 (by decide) lk26 (fun _ h9 => h9) rfl d_M_lsnNow_10 ?_
    refine lv_iload_n hx hb d_M_lsnNow_13 rfl (lv_at hl 1 rfl) ?_
    refine va_iald hx hb hK hP 6 0 rfl rfl hwp.1 d_M_lsnNow_14 ?_
    have hwp := hwp.2
    refine lv_goto hx hb d_M_lsnNow_15 (tgt := 24) (by decide) ?_
    rw [hQ]
    exact W.iret (v := ((MA_lsn MA) (Int32.toNatClampNeg a1))) hx hb hr (fun t ht hW => ⟨⟨((MA_lsn MA) (Int32.toNatClampNeg a1)), (), rfl, hwp, hp_of ht hP⟩, hS.F ht⟩) hS.2.2 d_M_lsnNow_24

set_option maxHeartbeats 4000000 in
set_option maxRecDepth 100000 in
theorem c_M_writes {l : Launch} {dC : Nat → ClassId} {dI : Nat → Nat → Nat} {cI cL cZ : ClassId} {q : Nat → Nat} (hq : iM q) (MA : S_MA) (MD : S_MD) (MF : S_MF) (MG : S_MG) (ML : S_ML) (MN : S_MN) (MP : S_MP) (MT : S_MT) (MV : S_MV) (a1 : Int32) (post : S_MA → S_MD → S_MG → Prop) (hwp : wp_M_writes MA MD MG a1 post) : Met l y_M_writes ws_M_writes rm_M_writes (va_Pc [.ref (q 0), .int a1] (bM dC dI cI cL cZ q MA MD MF MG ML MN MP MT MV)) (va_Qv (fun (u : S_MA × S_MD × S_MG) => post u.1 u.2.1 u.2.2) (fun u t => va_P (dC, dI) clZ (wM cI cL cZ q (u.1) (u.2.1) MF (u.2.2) ML MN MP MT MV) t.heap) (aM q)) 0 0 (aM q) := by
  refine Met.ofW (cc := b_M_writes) (maxL := 3) (ret := none) (by decide) rfl ?_
  intro p e s m args below meth c s₁ B hml hv
  obtain ⟨rfl, hP, hK⟩ := hv
  have hx := B.exec
  have hb := B.bytes
  have hr := B.returns
  have hts := atoms_spec (ws := ws_M_writes) B.pre
  have hown : s.vm.findClass R_M = some m.cls := findClass_of_methodNamed B.named
  have hlocks := B.notSynchronized
  have hiM : ∀ w ∈ u_ws R_M F_M 39, w ∈ ws_M_writes := fun w h => List.mem_cons_of_mem _ (in_M w h)
  have lk7 := hts _ (List.mem_cons_of_mem _ k_M_7)
  have lk13 := hts _ (List.mem_cons_of_mem _ k_M_13)
  have lk17 := hts _ (List.mem_cons_of_mem _ k_M_17)
  have lk20 := hts _ (List.mem_cons_of_mem _ k_M_20)
  have lk23 := hts _ (List.mem_cons_of_mem _ k_M_23)
  have lk26 := hts _ (List.mem_cons_of_mem _ k_M_26)
  have lk32 := hts _ (List.mem_cons_of_mem _ k_M_32)
  have lk105 := hts _ (List.mem_cons_of_mem _ k_M_105)
  have hS : va_S (aM q) s.heap s.heap [] := va_S.rf
  have hl := lv_entry ([.ref (q 0), .int a1]) (n := 3) (Nat.le_of_ble_eq_true rfl)
  rw [lg_entry_eq]
  generalize (lg_sl ([.ref (q 0), .int a1]) ++ List.replicate (3 - (lg_sl ([.ref (q 0), .int a1])).length) Slot.unset).toArray = ls at hl ⊢
  have hl : lv_has ls 3 [(0, .ref (q 0)), (1, .int a1)] := hl
  obtain ⟨Q, hQ⟩ : ∃ Q, Q = MQ below (va_Qv (fun (u : S_MA × S_MD × S_MG) => post u.1 u.2.1 u.2.2) (fun u t => va_P (dC, dI) clZ (wM cI cL cZ q (u.1) (u.2.1) MF (u.2.2) ML MN MP MT MV) t.heap) (aM q)) ([.ref (q 0), .int a1]).toArray s 0 0 (aM q) := ⟨_, rfl⟩
  rw [← hQ]
  have L34 : ∀ (Kx : S_MD → Prop) (MA : S_MA) (MG : S_MG) (v1 : Int32) (n : Nat) (v2 : Int32) (MD : S_MD) (H : Heap) (locs : List Loc) (ls : Array Slot), lv_has ls 3 [(0, .ref (q 0)), (1, .int v1), (2, .int v2)] → va_P (dC, dI) clZ (wM cI cL cZ q MA MD MF MG ML MN MP MT MV) H → va_S (aM q) s.heap H locs → wp_M_writes_L34 MA v1 Kx n v2 MD → (∀ (MD1 : S_MD) (H : Heap) (locs : List Loc) (ls : Array Slot), lv_has ls 3 [(0, .ref (q 0)), (1, .int v1)] → va_P (dC, dI) clZ (wM cI cL cZ q MA MD1 MF MG ML MN MP MT MV) H → va_S (aM q) s.heap H locs → Kx MD1 → W p l e (headSpec ws_M_writes rm_M_writes).room s m ([.ref (q 0), .int a1]).toArray below meth c H locs 0 0 Q (F0 m 73 ls [])) → W p l e (headSpec ws_M_writes rm_M_writes).room s m ([.ref (q 0), .int a1]).toArray below meth c H locs 0 0 Q (F0 m 34 ls []) := by
    intro Kx MA MG v1 n
    induction n with
    | zero =>
      intros
      rename_i hwp _
      exact hwp.elim
    | succ n34 ih =>
      intro v2 MD H locs ls hl hP hS hwp hX
      rw [wp_M_writes_L34] at hwp
      refine lv_iload_n hx hb d_M_writes_34 rfl (lv_at hl 2 rfl) ?_
      refine lv_iconst (v := 4) hx hb d_M_writes_35 (by decide) ?_
      refine lv_iload_n hx hb d_M_writes_36 rfl (lv_at hl 1 rfl) ?_
      refine lv_imul hx hb d_M_writes_37 ?_
      refine lv_iconst (v := 4) hx hb d_M_writes_38 (by decide) ?_
      refine lv_iadd hx hb d_M_writes_39 ?_
      refine lv_icmp_ge (tgt := 73) hx hb d_M_writes_40 (by decide) (fun hc => ?_) (fun hc => ?_)
      · rw [if_pos hc] at hwp
        exact hX (MD) _ _ _ (lv_sub hl [0, 1] rfl) hP hS hwp
      · rw [if_neg hc] at hwp
        refine lv_aload_n hx hb d_M_writes_43 rfl (lv_at hl 0 rfl) ?_
        refine va_get (D := (dC, dI)) (ci := 7) (v := .ref (q 1)) (C := R_M) (T := F_M) (N := 39) hx hb hts hiM hown hK hP 0 rfl rfl 1 (by decide) lk7 (fun _ h9 => h9) rfl d_M_writes_44 ?_
        refine lv_iload_n hx hb d_M_writes_47 rfl (lv_at hl 2 rfl) ?_
        refine lv_aload_n hx hb d_M_writes_48 rfl (lv_at hl 0 rfl) ?_
        refine va_get (D := (dC, dI)) (ci := 7) (v := .ref (q 4)) (C := R_M) (T := F_M) (N := 39) hx hb hts hiM hown hK hP 0 rfl rfl 4 (by decide) lk20 (fun _ h9 => h9) rfl d_M_writes_49 ?_
        refine lv_iload_n hx hb d_M_writes_52 rfl (lv_at hl 2 rfl) ?_
        refine va_zald hx hb hK hP 4 2 rfl rfl hwp.1 d_M_writes_53 ?_
        have hwp := hwp.2
        refine va_zast hx hb hK hP (dM hq) hS 1 2 rfl rfl hwp.1 d_M_writes_54 (fun H locs hP _ hS => ?_)
        have hwp := hwp.2
        have hP : va_P (dC, dI) clZ (wM cI cL cZ q MA (MD_diskThere' MD (upd (MD_diskThere MD) (Int32.toNatClampNeg v2) (vp_nar .boolean ((MA_there MA) (Int32.toNatClampNeg v2))))) MF MG ML MN MP MT MV) H := hP
        refine lv_aload_n hx hb d_M_writes_55 rfl (lv_at hl 0 rfl) ?_
        refine va_get (D := (dC, dI)) (ci := 7) (v := .ref (q 2)) (C := R_M) (T := F_M) (N := 39) hx hb hts hiM hown hK hP 0 rfl rfl 2 (by decide) lk13 (fun _ h9 => h9) rfl d_M_writes_56 ?_
        refine lv_iload_n hx hb d_M_writes_59 rfl (lv_at hl 2 rfl) ?_
        refine lv_aload_n hx hb d_M_writes_60 rfl (lv_at hl 0 rfl) ?_
        refine va_get (D := (dC, dI)) (ci := 7) (v := .ref (q 5)) (C := R_M) (T := F_M) (N := 39) hx hb hts hiM hown hK hP 0 rfl rfl 5 (by decide) lk23 (fun _ h9 => h9) rfl d_M_writes_61 ?_
        refine lv_iload_n hx hb d_M_writes_64 rfl (lv_at hl 2 rfl) ?_
        refine va_iald hx hb hK hP 5 0 rfl rfl hwp.1 d_M_writes_65 ?_
        have hwp := hwp.2
        refine va_iast hx hb hK hP (dM hq) hS 2 0 rfl rfl hwp.1 d_M_writes_66 (fun H locs hP _ hS => ?_)
        have hwp := hwp.2
        have hP : va_P (dC, dI) clZ (wM cI cL cZ q MA (MD_diskValue' (MD_diskThere' MD (upd (MD_diskThere MD) (Int32.toNatClampNeg v2) (vp_nar .boolean ((MA_there MA) (Int32.toNatClampNeg v2))))) (upd (MD_diskValue MD) (Int32.toNatClampNeg v2) ((MA_value MA) (Int32.toNatClampNeg v2)))) MF MG ML MN MP MT MV) H := hP
        refine lv_iinc (k := 2) (v := (v2 + 1)) (lv' := [(2, .int (v2 + 1)), (0, .ref (q 0)), (1, .int v1)]) hx hb d_M_writes_67 hl rfl (ii_1 _) (by decide) rfl (fun ls hl => ?_)
        refine lv_goto hx hb d_M_writes_70 (tgt := 34) (by decide) ?_
        exact ih ((v2 + 1)) ((MD_diskValue' (MD_diskThere' MD (upd (MD_diskThere MD) (Int32.toNatClampNeg v2) (vp_nar .boolean ((MA_there MA) (Int32.toNatClampNeg v2))))) (upd (MD_diskValue MD) (Int32.toNatClampNeg v2) ((MA_value MA) (Int32.toNatClampNeg v2))))) _ _ _ (lv_sub hl [1, 2, 0] rfl) hP hS hwp hX
  rw [wp_M_writes] at hwp
  refine lv_aload_n hx hb d_M_writes_0 rfl (lv_at hl 0 rfl) ?_
  refine lv_aload_n hx hb d_M_writes_1 rfl (lv_at hl 0 rfl) ?_
  refine va_get (D := (dC, dI)) (ci := 7) (v := .ref (q 6)) (C := R_M) (T := F_M) (N := 39) hx hb hts hiM hown hK hP 0 rfl rfl 6 (by decide) lk26 (fun _ h9 => h9) rfl d_M_writes_2 ?_
  refine lv_iload_n hx hb d_M_writes_5 rfl (lv_at hl 1 rfl) ?_
  refine va_iald hx hb hK hP 6 0 rfl rfl hwp.1 d_M_writes_6 ?_
  have hwp := hwp.2
  refine lv_aload_n hx hb d_M_writes_7 rfl (lv_at hl 0 rfl) ?_
  refine va_get (D := (dC, dI)) (ci := 7) (v := .int (MG_flushed MG)) (C := R_M) (T := F_M) (N := 39) hx hb hts hiM hown hK hP 0 rfl rfl 13 (by decide) lk105 (fun _ h9 => h9) rfl d_M_writes_8 ?_
  refine jn_split hwp (fun jk27 hjk hwp => ?_)
  have J27 : ∀ (b1 : Int32) (H : Heap) (locs : List Loc) (ls : Array Slot), lv_has ls 3 [(0, .ref (q 0)), (1, .int a1)] → va_P (dC, dI) clZ (wM cI cL cZ q MA MD MF MG ML MN MP MT MV) H → va_S (aM q) s.heap H locs → jk27 b1 → W p l e (headSpec ws_M_writes rm_M_writes).room s m ([.ref (q 0), .int a1]).toArray below meth c H locs 0 0 Q (F0 m 27 ls [.int b1, .ref (q 0)]) := by
    intro b1 H locs ls hl hP hS hwp
    rw [hjk] at hwp
    refine va_put (D := (dC, dI)) (ci := 7) (v := .int b1) (ty := .int) (C := R_M) (T := F_M) (N := 39) hx hb hts hiM ty_M ty_M_ok nmx_M hown hK hP (dM hq) hS 0 rfl rfl 13 (by decide) lk105 (fun _ h9 => h9) rfl (by decide +kernel) rfl rfl (Nat.le_of_ble_eq_true rfl) d_M_writes_27 (fun H locs hP _ hS => ?_)
    have hP : va_P (dC, dI) clZ (wM cI cL cZ q MA MD MF (MG_flushed' MG b1) ML MN MP MT MV) H := hP
    refine lv_iconst (v := 4) hx hb d_M_writes_30 (by decide) ?_
    refine lv_iload_n hx hb d_M_writes_31 rfl (lv_at hl 1 rfl) ?_
    refine lv_imul hx hb d_M_writes_32 ?_
    refine lv_istore_n (lv' := [(2, .int (4 * a1)), (0, .ref (q 0)), (1, .int a1)]) hx hb d_M_writes_33 rfl hl (by decide) rfl (fun ls hl => ?_)
    obtain ⟨e34, hwp⟩ := hwp
    refine L34 _ (MA) ((MG_flushed' MG b1)) (a1) e34 ((4 * a1)) (MD) _ _ _ (lv_sub hl [1, 2, 0] rfl) hP hS hwp (fun MD2 H locs ls hl hP hS hwp => ?_)
    refine lv_aload_n hx hb d_M_writes_73 rfl (lv_at hl 0 rfl) ?_
    refine va_get (D := (dC, dI)) (ci := 7) (v := .ref (q 3)) (C := R_M) (T := F_M) (N := 39) hx hb hts hiM hown hK hP 0 rfl rfl 3 (by decide) lk17 (fun _ h9 => h9) rfl d_M_writes_74 ?_
    refine lv_iload_n hx hb d_M_writes_77 rfl (lv_at hl 1 rfl) ?_
    refine lv_aload_n hx hb d_M_writes_78 rfl (lv_at hl 0 rfl) ?_
    refine va_get (D := (dC, dI)) (ci := 7) (v := .ref (q 6)) (C := R_M) (T := F_M) (N := 39) hx hb hts hiM hown hK hP 0 rfl rfl 6 (by decide) lk26 (fun _ h9 => h9) rfl d_M_writes_79 ?_
    refine lv_iload_n hx hb d_M_writes_82 rfl (lv_at hl 1 rfl) ?_
    refine va_iald hx hb hK hP 6 0 rfl rfl hwp.1 d_M_writes_83 ?_
    have hwp := hwp.2
    refine va_iast hx hb hK hP (dM hq) hS 3 0 rfl rfl hwp.1 d_M_writes_84 (fun H locs hP _ hS => ?_)
    have hwp := hwp.2
    have hP : va_P (dC, dI) clZ (wM cI cL cZ q MA (MD_diskLsn' MD2 (upd (MD_diskLsn MD2) (Int32.toNatClampNeg a1) ((MA_lsn MA) (Int32.toNatClampNeg a1)))) MF (MG_flushed' MG b1) ML MN MP MT MV) H := hP
    refine lv_aload_n hx hb d_M_writes_85 rfl (lv_at hl 0 rfl) ?_
    refine va_get (D := (dC, dI)) (ci := 7) (v := .ref (q 8)) (C := R_M) (T := F_M) (N := 39) hx hb hts hiM hown hK hP 0 rfl rfl 8 (by decide) lk32 (fun _ h9 => h9) rfl d_M_writes_86 ?_
    refine lv_iload_n hx hb d_M_writes_89 rfl (lv_at hl 1 rfl) ?_
    refine lv_iconst (v := 0) hx hb d_M_writes_90 (by decide) ?_
    refine va_zast hx hb hK hP (dM hq) hS 8 2 rfl rfl hwp.1 d_M_writes_91 (fun H locs hP _ hS => ?_)
    have hwp := hwp.2
    have hP : va_P (dC, dI) clZ (wM cI cL cZ q (MA_dirty' MA (upd (MA_dirty MA) (Int32.toNatClampNeg a1) (vp_nar .boolean 0))) (MD_diskLsn' MD2 (upd (MD_diskLsn MD2) (Int32.toNatClampNeg a1) ((MA_lsn MA) (Int32.toNatClampNeg a1)))) MF (MG_flushed' MG b1) ML MN MP MT MV) H := hP
    rw [hQ]
    exact W.vret hx hb hr (fun t ht hW => ⟨⟨((MA_dirty' MA (upd (MA_dirty MA) (Int32.toNatClampNeg a1) (vp_nar .boolean 0))), (MD_diskLsn' MD2 (upd (MD_diskLsn MD2) (Int32.toNatClampNeg a1) ((MA_lsn MA) (Int32.toNatClampNeg a1)))), (MG_flushed' MG b1)), rfl, hwp, hp_of ht hP⟩, hS.F ht⟩) hS.2.2 d_M_writes_92
  clear hjk
  refine lv_icmp_le (tgt := 23) hx hb d_M_writes_11 (by decide) (fun hc => ?_) (fun hc => ?_)
  · rw [if_pos hc] at hwp
    refine lv_aload_n hx hb d_M_writes_23 rfl (lv_at hl 0 rfl) ?_
    refine va_get (D := (dC, dI)) (ci := 7) (v := .int (MG_flushed MG)) (C := R_M) (T := F_M) (N := 39) hx hb hts hiM hown hK hP 0 rfl rfl 13 (by decide) lk105 (fun _ h9 => h9) rfl d_M_writes_24 ?_
    exact J27 ((MG_flushed MG)) _ _ _ (lv_sub hl [0, 1] rfl) hP hS hwp
  · rw [if_neg hc] at hwp
    refine lv_aload_n hx hb d_M_writes_14 rfl (lv_at hl 0 rfl) ?_
    refine va_get (D := (dC, dI)) (ci := 7) (v := .ref (q 6)) (C := R_M) (T := F_M) (N := 39) hx hb hts hiM hown hK hP 0 rfl rfl 6 (by decide) lk26 (fun _ h9 => h9) rfl d_M_writes_15 ?_
    refine lv_iload_n hx hb d_M_writes_18 rfl (lv_at hl 1 rfl) ?_
    refine va_iald hx hb hK hP 6 0 rfl rfl hwp.1 d_M_writes_19 ?_
    have hwp := hwp.2
    refine lv_goto hx hb d_M_writes_20 (tgt := 27) (by decide) ?_
    exact J27 (((MA_lsn MA) (Int32.toNatClampNeg a1))) _ _ _ (lv_sub hl [0, 1] rfl) hP hS hwp

set_option maxHeartbeats 4000000 in
set_option maxRecDepth 100000 in
theorem c_M_touch {l : Launch} {dC : Nat → ClassId} {dI : Nat → Nat → Nat} {cI cL cZ : ClassId} {q : Nat → Nat} (hq : iM q) (MA : S_MA) (MD : S_MD) (MF : S_MF) (MG : S_MG) (ML : S_ML) (MN : S_MN) (MP : S_MP) (MT : S_MT) (MV : S_MV) (a1 : Int32) (post : S_MA → S_MD → S_MG → Prop) (hwp : wp_M_touch MA MD MG a1 post) : Met l y_M_touch ws_M_touch rm_M_touch (va_Pc [.ref (q 0), .int a1] (bM dC dI cI cL cZ q MA MD MF MG ML MN MP MT MV)) (va_Qv (fun (u : S_MA × S_MD × S_MG) => post u.1 u.2.1 u.2.2) (fun u t => va_P (dC, dI) clZ (wM cI cL cZ q (u.1) (u.2.1) MF (u.2.2) ML MN MP MT MV) t.heap) (aM q)) 0 0 (aM q) := by
  refine Met.ofW (cc := b_M_touch) (maxL := 5) (ret := none) (by decide) rfl ?_
  intro p e s m args below meth c s₁ B hml hv
  obtain ⟨rfl, hP, hK⟩ := hv
  have hx := B.exec
  have hb := B.bytes
  have hr := B.returns
  have hts := atoms_spec (ws := ws_M_touch) B.pre
  have hown : s.vm.findClass R_M = some m.cls := findClass_of_methodNamed B.named
  have hlocks := B.notSynchronized
  have hiM : ∀ w ∈ u_ws R_M F_M 39, w ∈ ws_M_touch := fun w h => List.mem_cons_of_mem _ (in_M w h)
  have lk7 := hts _ (List.mem_cons_of_mem _ k_M_7)
  have lk13 := hts _ (List.mem_cons_of_mem _ k_M_13)
  have lk17 := hts _ (List.mem_cons_of_mem _ k_M_17)
  have lk20 := hts _ (List.mem_cons_of_mem _ k_M_20)
  have lk23 := hts _ (List.mem_cons_of_mem _ k_M_23)
  have lk26 := hts _ (List.mem_cons_of_mem _ k_M_26)
  have lk29 := hts _ (List.mem_cons_of_mem _ k_M_29)
  have lk32 := hts _ (List.mem_cons_of_mem _ k_M_32)
  have lk35 := hts _ (List.mem_cons_of_mem _ k_M_35)
  have lk101 := hts _ (List.mem_cons_of_mem _ k_M_101)
  have lk108 := hts _ (List.mem_cons_of_mem _ k_M_108)
  have hS : va_S (aM q) s.heap s.heap [] := va_S.rf
  have hl := lv_entry ([.ref (q 0), .int a1]) (n := 5) (Nat.le_of_ble_eq_true rfl)
  rw [lg_entry_eq]
  generalize (lg_sl ([.ref (q 0), .int a1]) ++ List.replicate (5 - (lg_sl ([.ref (q 0), .int a1])).length) Slot.unset).toArray = ls at hl ⊢
  have hl : lv_has ls 5 [(0, .ref (q 0)), (1, .int a1)] := hl
  obtain ⟨Q, hQ⟩ : ∃ Q, Q = MQ below (va_Qv (fun (u : S_MA × S_MD × S_MG) => post u.1 u.2.1 u.2.2) (fun u t => va_P (dC, dI) clZ (wM cI cL cZ q (u.1) (u.2.1) MF (u.2.2) ML MN MP MT MV) t.heap) (aM q)) ([.ref (q 0), .int a1]).toArray s 0 0 (aM q) := ⟨_, rfl⟩
  rw [← hQ]
  have L26 : ∀ (Kx : Int32 → Int32 → Prop) (MA : S_MA) (MD : S_MD) (MG : S_MG) (v1 : Int32) (n : Nat) (v2 : Int32) (v3 : Int32) (v4 : Int32) (H : Heap) (locs : List Loc) (ls : Array Slot), lv_has ls 5 [(0, .ref (q 0)), (1, .int v1), (2, .int v2), (3, .int v3), (4, .int v4)] → va_P (dC, dI) clZ (wM cI cL cZ q MA MD MF MG ML MN MP MT MV) H → va_S (aM q) s.heap H locs → wp_M_touch_L26 MA v1 Kx n v2 v3 v4 → (∀ (x2 : Int32) (x3 : Int32) (H : Heap) (locs : List Loc) (ls : Array Slot), lv_has ls 5 [(0, .ref (q 0)), (1, .int v1), (2, .int x2), (3, .int x3)] → va_P (dC, dI) clZ (wM cI cL cZ q MA MD MF MG ML MN MP MT MV) H → va_S (aM q) s.heap H locs → Kx x2 x3 → W p l e (headSpec ws_M_touch rm_M_touch).room s m ([.ref (q 0), .int a1]).toArray below meth c H locs 0 0 Q (F0 m 94 ls [])) → W p l e (headSpec ws_M_touch rm_M_touch).room s m ([.ref (q 0), .int a1]).toArray below meth c H locs 0 0 Q (F0 m 26 ls []) := by
    intro Kx MA MD MG v1 n
    induction n with
    | zero =>
      intros
      rename_i hwp _
      exact hwp.elim
    | succ n26 ih =>
      intro v2 v3 v4 H locs ls hl hP hS hwp hX
      rw [wp_M_touch_L26] at hwp
      refine lv_iload hx hb d_M_touch_26 (lv_at hl 4 rfl) ?_
      refine lv_bipush (v := 8) hx hb d_M_touch_28 (by decide) ?_
      refine lv_icmp_ge (tgt := 94) hx hb d_M_touch_30 (by decide) (fun hc => ?_) (fun hc => ?_)
      · rw [if_pos hc] at hwp
        exact hX (v2) (v3) _ _ _ (lv_sub hl [0, 1, 2, 3] rfl) hP hS hwp
      · rw [if_neg hc] at hwp
        refine lv_iload_n hx hb d_M_touch_33 rfl (lv_at hl 2 rfl) ?_
        refine lv_aload_n hx hb d_M_touch_34 rfl (lv_at hl 0 rfl) ?_
        refine va_get (D := (dC, dI)) (ci := 7) (v := .ref (q 7)) (C := R_M) (T := F_M) (N := 39) hx hb hts hiM hown hK hP 0 rfl rfl 7 (by decide) lk29 (fun _ h9 => h9) rfl d_M_touch_35 ?_
        refine lv_iload hx hb d_M_touch_38 (lv_at hl 4 rfl) ?_
        refine va_zald hx hb hK hP 7 2 rfl rfl hwp.1 d_M_touch_40 ?_
        have hwp := hwp.2
        refine jn_split hwp (fun jk49 hjk hwp => ?_)
        have J49 : ∀ (b1 : Int32) (H : Heap) (locs : List Loc) (ls : Array Slot), lv_has ls 5 [(0, .ref (q 0)), (1, .int v1), (3, .int v3), (4, .int v4)] → va_P (dC, dI) clZ (wM cI cL cZ q MA MD MF MG ML MN MP MT MV) H → va_S (aM q) s.heap H locs → jk49 b1 → W p l e (headSpec ws_M_touch rm_M_touch).room s m ([.ref (q 0), .int a1]).toArray below meth c H locs 0 0 Q (F0 m 49 ls [.int b1, .int v2]) := by
          intro b1 H locs ls hl hP hS hwp
          rw [hjk] at hwp
          refine lv_iadd hx hb d_M_touch_49 ?_
          refine lv_istore_n (lv' := [(2, .int (v2 + b1)), (0, .ref (q 0)), (1, .int v1), (3, .int v3), (4, .int v4)]) hx hb d_M_touch_50 rfl hl (by decide) rfl (fun ls hl => ?_)
          refine lv_aload_n hx hb d_M_touch_51 rfl (lv_at hl 1 rfl) ?_
          refine va_get (D := (dC, dI)) (ci := 7) (v := .ref (q 7)) (C := R_M) (T := F_M) (N := 39) hx hb hts hiM hown hK hP 0 rfl rfl 7 (by decide) lk29 (fun _ h9 => h9) rfl d_M_touch_52 ?_
          refine lv_iload hx hb d_M_touch_55 (lv_at hl 4 rfl) ?_
          refine va_zald hx hb hK hP 7 2 rfl rfl hwp.1 d_M_touch_57 ?_
          have hwp := hwp.2
          refine lv_if_eq (tgt := 86) hx hb d_M_touch_58 (by decide) (fun hc => ?_) (fun hc => ?_)
          · rw [if_pos hc] at hwp
            refine lv_iload_n hx hb d_M_touch_86 rfl (lv_at hl 3 rfl) ?_
            refine lv_istore_n (lv' := [(3, .int v3), (2, .int (v2 + b1)), (0, .ref (q 0)), (1, .int v1), (4, .int v4)]) hx hb d_M_touch_87 rfl hl (by decide) rfl (fun ls hl => ?_)
            refine lv_iinc (k := 4) (v := (v4 + 1)) (lv' := [(4, .int (v4 + 1)), (3, .int v3), (2, .int (v2 + b1)), (0, .ref (q 0)), (1, .int v1)]) hx hb d_M_touch_88 hl rfl (ii_1 _) (by decide) rfl (fun ls hl => ?_)
            refine lv_goto hx hb d_M_touch_91 (tgt := 26) (by decide) ?_
            exact ih ((v2 + b1)) (v3) ((v4 + 1)) _ _ _ (lv_sub hl [3, 4, 2, 1, 0] rfl) hP hS hwp hX
          · rw [if_neg hc] at hwp
            refine lv_iload_n hx hb d_M_touch_61 rfl (lv_at hl 3 rfl) ?_
            refine lv_if_lt (tgt := 81) hx hb d_M_touch_62 (by decide) (fun hc => ?_) (fun hc => ?_)
            · rw [if_pos hc] at hwp
              refine lv_iload hx hb d_M_touch_81 (lv_at hl 4 rfl) ?_
              refine lv_goto hx hb d_M_touch_83 (tgt := 87) (by decide) ?_
              refine lv_istore_n (lv' := [(3, .int v4), (2, .int (v2 + b1)), (0, .ref (q 0)), (1, .int v1), (4, .int v4)]) hx hb d_M_touch_87 rfl hl (by decide) rfl (fun ls hl => ?_)
              refine lv_iinc (k := 4) (v := (v4 + 1)) (lv' := [(4, .int (v4 + 1)), (3, .int v4), (2, .int (v2 + b1)), (0, .ref (q 0)), (1, .int v1)]) hx hb d_M_touch_88 hl rfl (ii_1 _) (by decide) rfl (fun ls hl => ?_)
              refine lv_goto hx hb d_M_touch_91 (tgt := 26) (by decide) ?_
              exact ih ((v2 + b1)) (v4) ((v4 + 1)) _ _ _ (lv_sub hl [3, 4, 2, 1, 0] rfl) hP hS hwp hX
            · rw [if_neg hc] at hwp
              refine lv_aload_n hx hb d_M_touch_65 rfl (lv_at hl 1 rfl) ?_
              refine va_get (D := (dC, dI)) (ci := 7) (v := .ref (q 9)) (C := R_M) (T := F_M) (N := 39) hx hb hts hiM hown hK hP 0 rfl rfl 9 (by decide) lk35 (fun _ h9 => h9) rfl d_M_touch_66 ?_
              refine lv_iload hx hb d_M_touch_69 (lv_at hl 4 rfl) ?_
              refine va_iald hx hb hK hP 9 0 rfl rfl hwp.1 d_M_touch_71 ?_
              have hwp := hwp.2
              refine lv_aload_n hx hb d_M_touch_72 rfl (lv_at hl 1 rfl) ?_
              refine va_get (D := (dC, dI)) (ci := 7) (v := .ref (q 9)) (C := R_M) (T := F_M) (N := 39) hx hb hts hiM hown hK hP 0 rfl rfl 9 (by decide) lk35 (fun _ h9 => h9) rfl d_M_touch_73 ?_
              refine lv_iload_n hx hb d_M_touch_76 rfl (lv_at hl 3 rfl) ?_
              refine va_iald hx hb hK hP 9 0 rfl rfl hwp.1 d_M_touch_77 ?_
              have hwp := hwp.2
              refine lv_icmp_ge (tgt := 86) hx hb d_M_touch_78 (by decide) (fun hc => ?_) (fun hc => ?_)
              · rw [if_pos hc] at hwp
                refine lv_iload_n hx hb d_M_touch_86 rfl (lv_at hl 3 rfl) ?_
                refine lv_istore_n (lv' := [(3, .int v3), (2, .int (v2 + b1)), (0, .ref (q 0)), (1, .int v1), (4, .int v4)]) hx hb d_M_touch_87 rfl hl (by decide) rfl (fun ls hl => ?_)
                refine lv_iinc (k := 4) (v := (v4 + 1)) (lv' := [(4, .int (v4 + 1)), (3, .int v3), (2, .int (v2 + b1)), (0, .ref (q 0)), (1, .int v1)]) hx hb d_M_touch_88 hl rfl (ii_1 _) (by decide) rfl (fun ls hl => ?_)
                refine lv_goto hx hb d_M_touch_91 (tgt := 26) (by decide) ?_
                exact ih ((v2 + b1)) (v3) ((v4 + 1)) _ _ _ (lv_sub hl [3, 4, 2, 1, 0] rfl) hP hS hwp hX
              · rw [if_neg hc] at hwp
                refine lv_iload hx hb d_M_touch_81 (lv_at hl 4 rfl) ?_
                refine lv_goto hx hb d_M_touch_83 (tgt := 87) (by decide) ?_
                refine lv_istore_n (lv' := [(3, .int v4), (2, .int (v2 + b1)), (0, .ref (q 0)), (1, .int v1), (4, .int v4)]) hx hb d_M_touch_87 rfl hl (by decide) rfl (fun ls hl => ?_)
                refine lv_iinc (k := 4) (v := (v4 + 1)) (lv' := [(4, .int (v4 + 1)), (3, .int v4), (2, .int (v2 + b1)), (0, .ref (q 0)), (1, .int v1)]) hx hb d_M_touch_88 hl rfl (ii_1 _) (by decide) rfl (fun ls hl => ?_)
                refine lv_goto hx hb d_M_touch_91 (tgt := 26) (by decide) ?_
                exact ih ((v2 + b1)) (v4) ((v4 + 1)) _ _ _ (lv_sub hl [3, 4, 2, 1, 0] rfl) hP hS hwp hX
        clear hjk
        refine lv_if_eq (tgt := 48) hx hb d_M_touch_41 (by decide) (fun hc => ?_) (fun hc => ?_)
        · rw [if_pos hc] at hwp
          refine lv_iconst (v := 0) hx hb d_M_touch_48 (by decide) ?_
          exact J49 (0) _ _ _ (lv_sub hl [0, 1, 3, 4] rfl) hP hS hwp
        · rw [if_neg hc] at hwp
          refine lv_iconst (v := 1) hx hb d_M_touch_44 (by decide) ?_
          refine lv_goto hx hb d_M_touch_45 (tgt := 49) (by decide) ?_
          exact J49 (1) _ _ _ (lv_sub hl [0, 1, 3, 4] rfl) hP hS hwp
  have L128 : ∀ (Kx : S_MA → Prop) (MD : S_MD) (MG : S_MG) (v1 : Int32) (n : Nat) (v4 : Int32) (MA : S_MA) (H : Heap) (locs : List Loc) (ls : Array Slot), lv_has ls 5 [(0, .ref (q 0)), (1, .int v1), (4, .int v4)] → va_P (dC, dI) clZ (wM cI cL cZ q MA MD MF MG ML MN MP MT MV) H → va_S (aM q) s.heap H locs → wp_M_touch_L128 MD v1 Kx n v4 MA → (∀ (MA1 : S_MA) (H : Heap) (locs : List Loc) (ls : Array Slot), lv_has ls 5 [(0, .ref (q 0)), (1, .int v1)] → va_P (dC, dI) clZ (wM cI cL cZ q MA1 MD MF MG ML MN MP MT MV) H → va_S (aM q) s.heap H locs → Kx MA1 → W p l e (headSpec ws_M_touch rm_M_touch).room s m ([.ref (q 0), .int a1]).toArray below meth c H locs 0 0 Q (F0 m 172 ls [])) → W p l e (headSpec ws_M_touch rm_M_touch).room s m ([.ref (q 0), .int a1]).toArray below meth c H locs 0 0 Q (F0 m 128 ls []) := by
    intro Kx MD MG v1 n
    induction n with
    | zero =>
      intros
      rename_i hwp _
      exact hwp.elim
    | succ n128 ih =>
      intro v4 MA H locs ls hl hP hS hwp hX
      rw [wp_M_touch_L128] at hwp
      refine lv_iload hx hb d_M_touch_128 (lv_at hl 2 rfl) ?_
      refine lv_iconst (v := 4) hx hb d_M_touch_130 (by decide) ?_
      refine lv_iload_n hx hb d_M_touch_131 rfl (lv_at hl 1 rfl) ?_
      refine lv_imul hx hb d_M_touch_132 ?_
      refine lv_iconst (v := 4) hx hb d_M_touch_133 (by decide) ?_
      refine lv_iadd hx hb d_M_touch_134 ?_
      refine lv_icmp_ge (tgt := 172) hx hb d_M_touch_135 (by decide) (fun hc => ?_) (fun hc => ?_)
      · rw [if_pos hc] at hwp
        exact hX (MA) _ _ _ (lv_sub hl [0, 1] rfl) hP hS hwp
      · rw [if_neg hc] at hwp
        refine lv_aload_n hx hb d_M_touch_138 rfl (lv_at hl 0 rfl) ?_
        refine va_get (D := (dC, dI)) (ci := 7) (v := .ref (q 4)) (C := R_M) (T := F_M) (N := 39) hx hb hts hiM hown hK hP 0 rfl rfl 4 (by decide) lk20 (fun _ h9 => h9) rfl d_M_touch_139 ?_
        refine lv_iload hx hb d_M_touch_142 (lv_at hl 2 rfl) ?_
        refine lv_aload_n hx hb d_M_touch_144 rfl (lv_at hl 0 rfl) ?_
        refine va_get (D := (dC, dI)) (ci := 7) (v := .ref (q 1)) (C := R_M) (T := F_M) (N := 39) hx hb hts hiM hown hK hP 0 rfl rfl 1 (by decide) lk7 (fun _ h9 => h9) rfl d_M_touch_145 ?_
        refine lv_iload hx hb d_M_touch_148 (lv_at hl 2 rfl) ?_
        refine va_zald hx hb hK hP 1 2 rfl rfl hwp.1 d_M_touch_150 ?_
        have hwp := hwp.2
        refine va_zast hx hb hK hP (dM hq) hS 4 2 rfl rfl hwp.1 d_M_touch_151 (fun H locs hP _ hS => ?_)
        have hwp := hwp.2
        have hP : va_P (dC, dI) clZ (wM cI cL cZ q (MA_there' MA (upd (MA_there MA) (Int32.toNatClampNeg v4) (vp_nar .boolean ((MD_diskThere MD) (Int32.toNatClampNeg v4))))) MD MF MG ML MN MP MT MV) H := hP
        refine lv_aload_n hx hb d_M_touch_152 rfl (lv_at hl 0 rfl) ?_
        refine va_get (D := (dC, dI)) (ci := 7) (v := .ref (q 5)) (C := R_M) (T := F_M) (N := 39) hx hb hts hiM hown hK hP 0 rfl rfl 5 (by decide) lk23 (fun _ h9 => h9) rfl d_M_touch_153 ?_
        refine lv_iload hx hb d_M_touch_156 (lv_at hl 2 rfl) ?_
        refine lv_aload_n hx hb d_M_touch_158 rfl (lv_at hl 0 rfl) ?_
        refine va_get (D := (dC, dI)) (ci := 7) (v := .ref (q 2)) (C := R_M) (T := F_M) (N := 39) hx hb hts hiM hown hK hP 0 rfl rfl 2 (by decide) lk13 (fun _ h9 => h9) rfl d_M_touch_159 ?_
        refine lv_iload hx hb d_M_touch_162 (lv_at hl 2 rfl) ?_
        refine va_iald hx hb hK hP 2 0 rfl rfl hwp.1 d_M_touch_164 ?_
        have hwp := hwp.2
        refine va_iast hx hb hK hP (dM hq) hS 5 0 rfl rfl hwp.1 d_M_touch_165 (fun H locs hP _ hS => ?_)
        have hwp := hwp.2
        have hP : va_P (dC, dI) clZ (wM cI cL cZ q (MA_value' (MA_there' MA (upd (MA_there MA) (Int32.toNatClampNeg v4) (vp_nar .boolean ((MD_diskThere MD) (Int32.toNatClampNeg v4))))) (upd (MA_value MA) (Int32.toNatClampNeg v4) ((MD_diskValue MD) (Int32.toNatClampNeg v4)))) MD MF MG ML MN MP MT MV) H := hP
        refine lv_iinc (k := 2) (v := (v4 + 1)) (lv' := [(4, .int (v4 + 1)), (0, .ref (q 0)), (1, .int v1)]) hx hb d_M_touch_166 hl rfl (ii_1 _) (by decide) rfl (fun ls hl => ?_)
        refine lv_goto hx hb d_M_touch_169 (tgt := 128) (by decide) ?_
        exact ih ((v4 + 1)) ((MA_value' (MA_there' MA (upd (MA_there MA) (Int32.toNatClampNeg v4) (vp_nar .boolean ((MD_diskThere MD) (Int32.toNatClampNeg v4))))) (upd (MA_value MA) (Int32.toNatClampNeg v4) ((MD_diskValue MD) (Int32.toNatClampNeg v4))))) _ _ _ (lv_sub hl [1, 2, 0] rfl) hP hS hwp hX
  rw [wp_M_touch] at hwp
  refine lv_aload_n hx hb d_M_touch_0 rfl (lv_at hl 0 rfl) ?_
  refine lv_dup hx hb d_M_touch_1 rfl ?_
  refine va_get (D := (dC, dI)) (ci := 7) (v := .int (MA_clock MA)) (C := R_M) (T := F_M) (N := 39) hx hb hts hiM hown hK hP 0 rfl rfl 10 (by decide) lk108 (fun _ h9 => h9) rfl d_M_touch_2 ?_
  refine lv_iconst (v := 1) hx hb d_M_touch_5 (by decide) ?_
  refine lv_iadd hx hb d_M_touch_6 ?_
  refine va_put (D := (dC, dI)) (ci := 7) (v := .int ((MA_clock MA) + 1)) (ty := .int) (C := R_M) (T := F_M) (N := 39) hx hb hts hiM ty_M ty_M_ok nmx_M hown hK hP (dM hq) hS 0 rfl rfl 10 (by decide) lk108 (fun _ h9 => h9) rfl (by decide +kernel) rfl rfl (Nat.le_of_ble_eq_true rfl) d_M_touch_7 (fun H locs hP _ hS => ?_)
  have hP : va_P (dC, dI) clZ (wM cI cL cZ q (MA_clock' MA ((MA_clock MA) + 1)) MD MF MG ML MN MP MT MV) H := hP
  refine lv_aload_n hx hb d_M_touch_10 rfl (lv_at hl 0 rfl) ?_
  refine va_get (D := (dC, dI)) (ci := 7) (v := .ref (q 7)) (C := R_M) (T := F_M) (N := 39) hx hb hts hiM hown hK hP 0 rfl rfl 7 (by decide) lk29 (fun _ h9 => h9) rfl d_M_touch_11 ?_
  refine lv_iload_n hx hb d_M_touch_14 rfl (lv_at hl 1 rfl) ?_
  refine va_zald hx hb hK hP 7 2 rfl rfl hwp.1 d_M_touch_15 ?_
  have hwp := hwp.2
  refine lv_if_ne (tgt := 198) hx hb d_M_touch_16 (by decide) (fun hc => ?_) (fun hc => ?_)
  · rw [if_neg hc] at hwp
    refine lv_aload_n hx hb d_M_touch_198 rfl (lv_at hl 0 rfl) ?_
    refine va_get (D := (dC, dI)) (ci := 7) (v := .ref (q 9)) (C := R_M) (T := F_M) (N := 39) hx hb hts hiM hown hK hP 0 rfl rfl 9 (by decide) lk35 (fun _ h9 => h9) rfl d_M_touch_199 ?_
    refine lv_iload_n hx hb d_M_touch_202 rfl (lv_at hl 1 rfl) ?_
    refine lv_aload_n hx hb d_M_touch_203 rfl (lv_at hl 0 rfl) ?_
    refine va_get (D := (dC, dI)) (ci := 7) (v := .int ((MA_clock MA) + 1)) (C := R_M) (T := F_M) (N := 39) hx hb hts hiM hown hK hP 0 rfl rfl 10 (by decide) lk108 (fun _ h9 => h9) rfl d_M_touch_204 ?_
    refine va_iast hx hb hK hP (dM hq) hS 9 0 rfl rfl hwp.1 d_M_touch_207 (fun H locs hP _ hS => ?_)
    have hwp := hwp.2
    have hP : va_P (dC, dI) clZ (wM cI cL cZ q (MA_touched' (MA_clock' MA ((MA_clock MA) + 1)) (upd (MA_touched MA) (Int32.toNatClampNeg a1) ((MA_clock MA) + 1))) MD MF MG ML MN MP MT MV) H := hP
    rw [hQ]
    exact W.vret hx hb hr (fun t ht hW => ⟨⟨((MA_touched' (MA_clock' MA ((MA_clock MA) + 1)) (upd (MA_touched MA) (Int32.toNatClampNeg a1) ((MA_clock MA) + 1))), MD, MG), rfl, hwp, hp_of ht hP⟩, hS.F ht⟩) hS.2.2 d_M_touch_208
  · rw [if_pos hc] at hwp
    refine lv_iconst (v := 0) hx hb d_M_touch_19 (by decide) ?_
    refine lv_istore_n (lv' := [(2, .int 0), (0, .ref (q 0)), (1, .int a1)]) hx hb d_M_touch_20 rfl hl (by decide) rfl (fun ls hl => ?_)
    refine lv_iconst (v := (-1)) hx hb d_M_touch_21 (by decide) ?_
    refine lv_istore_n (lv' := [(3, .int (-1)), (2, .int 0), (0, .ref (q 0)), (1, .int a1)]) hx hb d_M_touch_22 rfl hl (by decide) rfl (fun ls hl => ?_)
    refine lv_iconst (v := 0) hx hb d_M_touch_23 (by decide) ?_
    refine lv_istore (lv' := [(4, .int 0), (3, .int (-1)), (2, .int 0), (0, .ref (q 0)), (1, .int a1)]) hx hb d_M_touch_24 hl (by decide) rfl (fun ls hl => ?_)
    obtain ⟨e26, hwp⟩ := hwp
    refine L26 _ ((MA_clock' MA ((MA_clock MA) + 1))) (MD) (MG) (a1) e26 (0) ((-1)) (0) _ _ _ (lv_sub hl [3, 4, 2, 1, 0] rfl) hP hS hwp (fun x2 x3 H locs ls hl hP hS hwp => ?_)
    refine lv_iload_n hx hb d_M_touch_94 rfl (lv_at hl 2 rfl) ?_
    refine lv_aload_n hx hb d_M_touch_95 rfl (lv_at hl 0 rfl) ?_
    refine va_get (D := (dC, dI)) (ci := 7) (v := .int (MA_frames MA)) (C := R_M) (T := F_M) (N := 39) hx hb hts hiM hown hK hP 0 rfl rfl 0 (by decide) lk101 (fun _ h9 => h9) rfl d_M_touch_96 ?_
    refine jn_split hwp (fun jk123 hjk hwp => ?_)
    have J123 : ∀ (MA7 : S_MA) (MD8 : S_MD) (MG9 : S_MG) (H : Heap) (locs : List Loc) (ls : Array Slot), lv_has ls 5 [(0, .ref (q 0)), (1, .int a1)] → va_P (dC, dI) clZ (wM cI cL cZ q MA7 MD8 MF MG9 ML MN MP MT MV) H → va_S (aM q) s.heap H locs → jk123 MA7 MD8 MG9 → W p l e (headSpec ws_M_touch rm_M_touch).room s m ([.ref (q 0), .int a1]).toArray below meth c H locs 0 0 Q (F0 m 123 ls []) := by
      intro MA7 MD8 MG9 H locs ls hl hP hS hwp
      rw [hjk] at hwp
      refine lv_iconst (v := 4) hx hb d_M_touch_123 (by decide) ?_
      refine lv_iload_n hx hb d_M_touch_124 rfl (lv_at hl 1 rfl) ?_
      refine lv_imul hx hb d_M_touch_125 ?_
      refine lv_istore (lv' := [(4, .int (4 * a1)), (0, .ref (q 0)), (1, .int a1)]) hx hb d_M_touch_126 hl (by decide) rfl (fun ls hl => ?_)
      obtain ⟨e128, hwp⟩ := hwp
      refine L128 _ (MD8) (MG9) (a1) e128 ((4 * a1)) (MA7) _ _ _ (lv_sub hl [1, 2, 0] rfl) hP hS hwp (fun MA10 H locs ls hl hP hS hwp => ?_)
      refine lv_aload_n hx hb d_M_touch_172 rfl (lv_at hl 0 rfl) ?_
      refine va_get (D := (dC, dI)) (ci := 7) (v := .ref (q 6)) (C := R_M) (T := F_M) (N := 39) hx hb hts hiM hown hK hP 0 rfl rfl 6 (by decide) lk26 (fun _ h9 => h9) rfl d_M_touch_173 ?_
      refine lv_iload_n hx hb d_M_touch_176 rfl (lv_at hl 1 rfl) ?_
      refine lv_aload_n hx hb d_M_touch_177 rfl (lv_at hl 0 rfl) ?_
      refine va_get (D := (dC, dI)) (ci := 7) (v := .ref (q 3)) (C := R_M) (T := F_M) (N := 39) hx hb hts hiM hown hK hP 0 rfl rfl 3 (by decide) lk17 (fun _ h9 => h9) rfl d_M_touch_178 ?_
      refine lv_iload_n hx hb d_M_touch_181 rfl (lv_at hl 1 rfl) ?_
      refine va_iald hx hb hK hP 3 0 rfl rfl hwp.1 d_M_touch_182 ?_
      have hwp := hwp.2
      refine va_iast hx hb hK hP (dM hq) hS 6 0 rfl rfl hwp.1 d_M_touch_183 (fun H locs hP _ hS => ?_)
      have hwp := hwp.2
      have hP : va_P (dC, dI) clZ (wM cI cL cZ q (MA_lsn' MA10 (upd (MA_lsn MA10) (Int32.toNatClampNeg a1) ((MD_diskLsn MD8) (Int32.toNatClampNeg a1)))) MD8 MF MG9 ML MN MP MT MV) H := hP
      refine lv_aload_n hx hb d_M_touch_184 rfl (lv_at hl 0 rfl) ?_
      refine va_get (D := (dC, dI)) (ci := 7) (v := .ref (q 8)) (C := R_M) (T := F_M) (N := 39) hx hb hts hiM hown hK hP 0 rfl rfl 8 (by decide) lk32 (fun _ h9 => h9) rfl d_M_touch_185 ?_
      refine lv_iload_n hx hb d_M_touch_188 rfl (lv_at hl 1 rfl) ?_
      refine lv_iconst (v := 0) hx hb d_M_touch_189 (by decide) ?_
      refine va_zast hx hb hK hP (dM hq) hS 8 2 rfl rfl hwp.1 d_M_touch_190 (fun H locs hP _ hS => ?_)
      have hwp := hwp.2
      have hP : va_P (dC, dI) clZ (wM cI cL cZ q (MA_dirty' (MA_lsn' MA10 (upd (MA_lsn MA10) (Int32.toNatClampNeg a1) ((MD_diskLsn MD8) (Int32.toNatClampNeg a1)))) (upd (MA_dirty MA10) (Int32.toNatClampNeg a1) (vp_nar .boolean 0))) MD8 MF MG9 ML MN MP MT MV) H := hP
      refine lv_aload_n hx hb d_M_touch_191 rfl (lv_at hl 0 rfl) ?_
      refine va_get (D := (dC, dI)) (ci := 7) (v := .ref (q 7)) (C := R_M) (T := F_M) (N := 39) hx hb hts hiM hown hK hP 0 rfl rfl 7 (by decide) lk29 (fun _ h9 => h9) rfl d_M_touch_192 ?_
      refine lv_iload_n hx hb d_M_touch_195 rfl (lv_at hl 1 rfl) ?_
      refine lv_iconst (v := 1) hx hb d_M_touch_196 (by decide) ?_
      refine va_zast hx hb hK hP (dM hq) hS 7 2 rfl rfl hwp.1 d_M_touch_197 (fun H locs hP _ hS => ?_)
      have hwp := hwp.2
      have hP : va_P (dC, dI) clZ (wM cI cL cZ q (MA_inFrame' (MA_dirty' (MA_lsn' MA10 (upd (MA_lsn MA10) (Int32.toNatClampNeg a1) ((MD_diskLsn MD8) (Int32.toNatClampNeg a1)))) (upd (MA_dirty MA10) (Int32.toNatClampNeg a1) (vp_nar .boolean 0))) (upd (MA_inFrame MA10) (Int32.toNatClampNeg a1) (vp_nar .boolean 1))) MD8 MF MG9 ML MN MP MT MV) H := hP
      refine lv_aload_n hx hb d_M_touch_198 rfl (lv_at hl 0 rfl) ?_
      refine va_get (D := (dC, dI)) (ci := 7) (v := .ref (q 9)) (C := R_M) (T := F_M) (N := 39) hx hb hts hiM hown hK hP 0 rfl rfl 9 (by decide) lk35 (fun _ h9 => h9) rfl d_M_touch_199 ?_
      refine lv_iload_n hx hb d_M_touch_202 rfl (lv_at hl 1 rfl) ?_
      refine lv_aload_n hx hb d_M_touch_203 rfl (lv_at hl 0 rfl) ?_
      refine va_get (D := (dC, dI)) (ci := 7) (v := .int (MA_clock MA10)) (C := R_M) (T := F_M) (N := 39) hx hb hts hiM hown hK hP 0 rfl rfl 10 (by decide) lk108 (fun _ h9 => h9) rfl d_M_touch_204 ?_
      refine va_iast hx hb hK hP (dM hq) hS 9 0 rfl rfl hwp.1 d_M_touch_207 (fun H locs hP _ hS => ?_)
      have hwp := hwp.2
      have hP : va_P (dC, dI) clZ (wM cI cL cZ q (MA_touched' (MA_inFrame' (MA_dirty' (MA_lsn' MA10 (upd (MA_lsn MA10) (Int32.toNatClampNeg a1) ((MD_diskLsn MD8) (Int32.toNatClampNeg a1)))) (upd (MA_dirty MA10) (Int32.toNatClampNeg a1) (vp_nar .boolean 0))) (upd (MA_inFrame MA10) (Int32.toNatClampNeg a1) (vp_nar .boolean 1))) (upd (MA_touched MA10) (Int32.toNatClampNeg a1) (MA_clock MA10))) MD8 MF MG9 ML MN MP MT MV) H := hP
      rw [hQ]
      exact W.vret hx hb hr (fun t ht hW => ⟨⟨((MA_touched' (MA_inFrame' (MA_dirty' (MA_lsn' MA10 (upd (MA_lsn MA10) (Int32.toNatClampNeg a1) ((MD_diskLsn MD8) (Int32.toNatClampNeg a1)))) (upd (MA_dirty MA10) (Int32.toNatClampNeg a1) (vp_nar .boolean 0))) (upd (MA_inFrame MA10) (Int32.toNatClampNeg a1) (vp_nar .boolean 1))) (upd (MA_touched MA10) (Int32.toNatClampNeg a1) (MA_clock MA10))), MD8, MG9), rfl, hwp, hp_of ht hP⟩, hS.F ht⟩) hS.2.2 d_M_touch_208
    clear hjk
    refine lv_icmp_ne (tgt := 123) hx hb d_M_touch_99 (by decide) (fun hc => ?_) (fun hc => ?_)
    · rw [if_neg hc] at hwp
      exact J123 ((MA_clock' MA ((MA_clock MA) + 1))) (MD) (MG) _ _ _ (lv_sub hl [0, 1] rfl) hP hS hwp
    · rw [if_pos hc] at hwp
      refine lv_aload_n hx hb d_M_touch_102 rfl (lv_at hl 0 rfl) ?_
      refine va_get (D := (dC, dI)) (ci := 7) (v := .ref (q 8)) (C := R_M) (T := F_M) (N := 39) hx hb hts hiM hown hK hP 0 rfl rfl 8 (by decide) lk32 (fun _ h9 => h9) rfl d_M_touch_103 ?_
      refine lv_iload_n hx hb d_M_touch_106 rfl (lv_at hl 3 rfl) ?_
      refine va_zald hx hb hK hP 8 2 rfl rfl hwp.1 d_M_touch_107 ?_
      have hwp := hwp.2
      refine lv_if_eq (tgt := 116) hx hb d_M_touch_108 (by decide) (fun hc => ?_) (fun hc => ?_)
      · rw [if_pos hc] at hwp
        refine lv_aload_n hx hb d_M_touch_116 rfl (lv_at hl 0 rfl) ?_
        refine va_get (D := (dC, dI)) (ci := 7) (v := .ref (q 7)) (C := R_M) (T := F_M) (N := 39) hx hb hts hiM hown hK hP 0 rfl rfl 7 (by decide) lk29 (fun _ h9 => h9) rfl d_M_touch_117 ?_
        refine lv_iload_n hx hb d_M_touch_120 rfl (lv_at hl 3 rfl) ?_
        refine lv_iconst (v := 0) hx hb d_M_touch_121 (by decide) ?_
        refine va_zast hx hb hK hP (dM hq) hS 7 2 rfl rfl hwp.1 d_M_touch_122 (fun H locs hP _ hS => ?_)
        have hwp := hwp.2
        have hP : va_P (dC, dI) clZ (wM cI cL cZ q (MA_inFrame' (MA_clock' MA ((MA_clock MA) + 1)) (upd (MA_inFrame MA) (Int32.toNatClampNeg x3) (vp_nar .boolean 0))) MD MF MG ML MN MP MT MV) H := hP
        exact J123 ((MA_inFrame' (MA_clock' MA ((MA_clock MA) + 1)) (upd (MA_inFrame MA) (Int32.toNatClampNeg x3) (vp_nar .boolean 0)))) (MD) (MG) _ _ _ (lv_sub hl [0, 1] rfl) hP hS hwp
      · rw [if_neg hc] at hwp
        refine lv_aload_n hx hb d_M_touch_111 rfl (lv_at hl 0 rfl) ?_
        refine lv_iload_n hx hb d_M_touch_112 rfl (lv_at hl 3 rfl) ?_
        refine ncn_v (As := [.int x3]) (c_M_writes hq ((MA_clock' MA ((MA_clock MA) + 1))) (MD) (MF) (MG) (ML) (MN) (MP) (MT) (MV) (x3) _ hwp) (cwV 1 hts g_M_111 rfl rfl rfl hd_M_writes ⟨Nat.le_of_ble_eq_true rfl, Nat.le_of_ble_eq_true rfl⟩) hx hb hml hown hts hK hP hS hl.1 d_M_touch_113 (va_recv (q := (R_M, F_M, 39)) hK hP (ci := 7) (q0 := 0) rfl rfl) rfl (lv_room (Nat.le_of_ble_eq_true rfl)) (Nat.zero_le _) (Nat.zero_le _) rfl (fun u H locs hwp hP hS => ?_)
        obtain ⟨MA4, MD5, MG6⟩ := u
        have hP : va_P (dC, dI) clZ (wM cI cL cZ q MA4 MD5 MF MG6 ML MN MP MT MV) H := hP
        refine lv_aload_n hx hb d_M_touch_116 rfl (lv_at hl 0 rfl) ?_
        refine va_get (D := (dC, dI)) (ci := 7) (v := .ref (q 7)) (C := R_M) (T := F_M) (N := 39) hx hb hts hiM hown hK hP 0 rfl rfl 7 (by decide) lk29 (fun _ h9 => h9) rfl d_M_touch_117 ?_
        refine lv_iload_n hx hb d_M_touch_120 rfl (lv_at hl 3 rfl) ?_
        refine lv_iconst (v := 0) hx hb d_M_touch_121 (by decide) ?_
        refine va_zast hx hb hK hP (dM hq) hS 7 2 rfl rfl hwp.1 d_M_touch_122 (fun H locs hP _ hS => ?_)
        have hwp := hwp.2
        have hP : va_P (dC, dI) clZ (wM cI cL cZ q (MA_inFrame' MA4 (upd (MA_inFrame MA4) (Int32.toNatClampNeg x3) (vp_nar .boolean 0))) MD5 MF MG6 ML MN MP MT MV) H := hP
        exact J123 ((MA_inFrame' MA4 (upd (MA_inFrame MA4) (Int32.toNatClampNeg x3) (vp_nar .boolean 0)))) (MD5) (MG6) _ _ _ (lv_sub hl [0, 1] rfl) hP hS hwp

set_option maxHeartbeats 4000000 in
set_option maxRecDepth 100000 in
theorem c_M_become {l : Launch} {dC : Nat → ClassId} {dI : Nat → Nat → Nat} {cI cL cZ : ClassId} {q : Nat → Nat} (hq : iM q) (MA : S_MA) (MD : S_MD) (MF : S_MF) (MG : S_MG) (ML : S_ML) (MN : S_MN) (MP : S_MP) (MT : S_MT) (MV : S_MV) (a1 : Int32) (a2 : Int32) (a3 : Int32) (a4 : Int32) (post : S_MA → Prop) (hwp : wp_M_become MA a1 a2 a3 a4 post) : Met l y_M_become ws_M_become rm_M_become (va_Pc [.ref (q 0), .int a1, .int a2, .int a3, .int a4] (bM dC dI cI cL cZ q MA MD MF MG ML MN MP MT MV)) (va_Qv (fun (u : S_MA) => post u) (fun u t => va_P (dC, dI) clZ (wM cI cL cZ q (u) MD MF MG ML MN MP MT MV) t.heap) (aM q)) 0 0 (aM q) := by
  refine Met.ofW (cc := b_M_become) (maxL := 5) (ret := none) (by decide) rfl ?_
  intro p e s m args below meth c s₁ B hml hv
  obtain ⟨rfl, hP, hK⟩ := hv
  have hx := B.exec
  have hb := B.bytes
  have hr := B.returns
  have hts := atoms_spec (ws := ws_M_become) B.pre
  have hown : s.vm.findClass R_M = some m.cls := findClass_of_methodNamed B.named
  have hlocks := B.notSynchronized
  have hiM : ∀ w ∈ u_ws R_M F_M 39, w ∈ ws_M_become := fun w h => List.mem_cons_of_mem _ (in_M w h)
  have lk20 := hts _ (List.mem_cons_of_mem _ k_M_20)
  have lk23 := hts _ (List.mem_cons_of_mem _ k_M_23)
  have lk26 := hts _ (List.mem_cons_of_mem _ k_M_26)
  have lk32 := hts _ (List.mem_cons_of_mem _ k_M_32)
  have hS : va_S (aM q) s.heap s.heap [] := va_S.rf
  have hl := lv_entry ([.ref (q 0), .int a1, .int a2, .int a3, .int a4]) (n := 5) (Nat.le_of_ble_eq_true rfl)
  rw [lg_entry_eq]
  generalize (lg_sl ([.ref (q 0), .int a1, .int a2, .int a3, .int a4]) ++ List.replicate (5 - (lg_sl ([.ref (q 0), .int a1, .int a2, .int a3, .int a4])).length) Slot.unset).toArray = ls at hl ⊢
  have hl : lv_has ls 5 [(0, .ref (q 0)), (1, .int a1), (2, .int a2), (3, .int a3), (4, .int a4)] := hl
  obtain ⟨Q, hQ⟩ : ∃ Q, Q = MQ below (va_Qv (fun (u : S_MA) => post u) (fun u t => va_P (dC, dI) clZ (wM cI cL cZ q (u) MD MF MG ML MN MP MT MV) t.heap) (aM q)) ([.ref (q 0), .int a1, .int a2, .int a3, .int a4]).toArray s 0 0 (aM q) := ⟨_, rfl⟩
  rw [← hQ]
  rw [wp_M_become] at hwp
  refine lv_aload_n hx hb d_M_become_0 rfl (lv_at hl 0 rfl) ?_
  refine va_get (D := (dC, dI)) (ci := 7) (v := .ref (q 4)) (C := R_M) (T := F_M) (N := 39) hx hb hts hiM hown hK hP 0 rfl rfl 4 (by decide) lk20 (fun _ h9 => h9) rfl d_M_become_1 ?_
  refine lv_iload_n hx hb d_M_become_4 rfl (lv_at hl 1 rfl) ?_
  refine lv_iload_n hx hb d_M_become_5 rfl (lv_at hl 2 rfl) ?_
  refine va_zast hx hb hK hP (dM hq) hS 4 2 rfl rfl hwp.1 d_M_become_6 (fun H locs hP _ hS => ?_)
  have hwp := hwp.2
  have hP : va_P (dC, dI) clZ (wM cI cL cZ q (MA_there' MA (upd (MA_there MA) (Int32.toNatClampNeg a1) (vp_nar .boolean a2))) MD MF MG ML MN MP MT MV) H := hP
  refine lv_aload_n hx hb d_M_become_7 rfl (lv_at hl 0 rfl) ?_
  refine va_get (D := (dC, dI)) (ci := 7) (v := .ref (q 5)) (C := R_M) (T := F_M) (N := 39) hx hb hts hiM hown hK hP 0 rfl rfl 5 (by decide) lk23 (fun _ h9 => h9) rfl d_M_become_8 ?_
  refine lv_iload_n hx hb d_M_become_11 rfl (lv_at hl 1 rfl) ?_
  refine lv_iload_n hx hb d_M_become_12 rfl (lv_at hl 2 rfl) ?_
  refine jn_split hwp (fun jk21 hjk hwp => ?_)
  have J21 : ∀ (b1 : Int32) (H : Heap) (locs : List Loc) (ls : Array Slot), lv_has ls 5 [(0, .ref (q 0)), (1, .int a1), (4, .int a4)] → va_P (dC, dI) clZ (wM cI cL cZ q (MA_there' MA (upd (MA_there MA) (Int32.toNatClampNeg a1) (vp_nar .boolean a2))) MD MF MG ML MN MP MT MV) H → va_S (aM q) s.heap H locs → jk21 b1 → W p l e (headSpec ws_M_become rm_M_become).room s m ([.ref (q 0), .int a1, .int a2, .int a3, .int a4]).toArray below meth c H locs 0 0 Q (F0 m 21 ls [.int b1, .int a1, .ref (q 5)]) := by
    intro b1 H locs ls hl hP hS hwp
    rw [hjk] at hwp
    refine va_iast hx hb hK hP (dM hq) hS 5 0 rfl rfl hwp.1 d_M_become_21 (fun H locs hP _ hS => ?_)
    have hwp := hwp.2
    have hP : va_P (dC, dI) clZ (wM cI cL cZ q (MA_value' (MA_there' MA (upd (MA_there MA) (Int32.toNatClampNeg a1) (vp_nar .boolean a2))) (upd (MA_value MA) (Int32.toNatClampNeg a1) b1)) MD MF MG ML MN MP MT MV) H := hP
    refine lv_aload_n hx hb d_M_become_22 rfl (lv_at hl 0 rfl) ?_
    refine va_get (D := (dC, dI)) (ci := 7) (v := .ref (q 6)) (C := R_M) (T := F_M) (N := 39) hx hb hts hiM hown hK hP 0 rfl rfl 6 (by decide) lk26 (fun _ h9 => h9) rfl d_M_become_23 ?_
    refine lv_iload_n hx hb d_M_become_26 rfl (lv_at hl 1 rfl) ?_
    refine lv_iconst (v := 4) hx hb d_M_become_27 (by decide) ?_
    refine lv_idiv hx hb d_M_become_28 (by decide) ?_
    refine lv_iload hx hb d_M_become_29 (lv_at hl 2 rfl) ?_
    refine va_iast hx hb hK hP (dM hq) hS 6 0 rfl rfl hwp.1 d_M_become_31 (fun H locs hP _ hS => ?_)
    have hwp := hwp.2
    have hP : va_P (dC, dI) clZ (wM cI cL cZ q (MA_lsn' (MA_value' (MA_there' MA (upd (MA_there MA) (Int32.toNatClampNeg a1) (vp_nar .boolean a2))) (upd (MA_value MA) (Int32.toNatClampNeg a1) b1)) (upd (MA_lsn MA) (Int32.toNatClampNeg (a1 / 4)) a4)) MD MF MG ML MN MP MT MV) H := hP
    refine lv_aload_n hx hb d_M_become_32 rfl (lv_at hl 0 rfl) ?_
    refine va_get (D := (dC, dI)) (ci := 7) (v := .ref (q 8)) (C := R_M) (T := F_M) (N := 39) hx hb hts hiM hown hK hP 0 rfl rfl 8 (by decide) lk32 (fun _ h9 => h9) rfl d_M_become_33 ?_
    refine lv_iload_n hx hb d_M_become_36 rfl (lv_at hl 1 rfl) ?_
    refine lv_iconst (v := 4) hx hb d_M_become_37 (by decide) ?_
    refine lv_idiv hx hb d_M_become_38 (by decide) ?_
    refine lv_iconst (v := 1) hx hb d_M_become_39 (by decide) ?_
    refine va_zast hx hb hK hP (dM hq) hS 8 2 rfl rfl hwp.1 d_M_become_40 (fun H locs hP _ hS => ?_)
    have hwp := hwp.2
    have hP : va_P (dC, dI) clZ (wM cI cL cZ q (MA_dirty' (MA_lsn' (MA_value' (MA_there' MA (upd (MA_there MA) (Int32.toNatClampNeg a1) (vp_nar .boolean a2))) (upd (MA_value MA) (Int32.toNatClampNeg a1) b1)) (upd (MA_lsn MA) (Int32.toNatClampNeg (a1 / 4)) a4)) (upd (MA_dirty MA) (Int32.toNatClampNeg (a1 / 4)) (vp_nar .boolean 1))) MD MF MG ML MN MP MT MV) H := hP
    rw [hQ]
    exact W.vret hx hb hr (fun t ht hW => ⟨⟨(MA_dirty' (MA_lsn' (MA_value' (MA_there' MA (upd (MA_there MA) (Int32.toNatClampNeg a1) (vp_nar .boolean a2))) (upd (MA_value MA) (Int32.toNatClampNeg a1) b1)) (upd (MA_lsn MA) (Int32.toNatClampNeg (a1 / 4)) a4)) (upd (MA_dirty MA) (Int32.toNatClampNeg (a1 / 4)) (vp_nar .boolean 1))), rfl, hwp, hp_of ht hP⟩, hS.F ht⟩) hS.2.2 d_M_become_41
  clear hjk
  refine lv_if_eq (tgt := 20) hx hb d_M_become_13 (by decide) (fun hc => ?_) (fun hc => ?_)
  · rw [if_pos hc] at hwp
    refine lv_iconst (v := 0) hx hb d_M_become_20 (by decide) ?_
    exact J21 (0) _ _ _ (lv_sub hl [0, 1, 4] rfl) hP hS hwp
  · rw [if_neg hc] at hwp
    refine lv_iload_n hx hb d_M_become_16 rfl (lv_at hl 3 rfl) ?_
    refine lv_goto hx hb d_M_become_17 (tgt := 21) (by decide) ?_
    exact J21 (a3) _ _ _ (lv_sub hl [0, 1, 4] rfl) hP hS hwp

set_option maxHeartbeats 4000000 in
set_option maxRecDepth 100000 in
theorem c_M_last {l : Launch} {dC : Nat → ClassId} {dI : Nat → Nat → Nat} {cI cL cZ : ClassId} {q : Nat → Nat} (hq : iM q) (MA : S_MA) (MD : S_MD) (MF : S_MF) (MG : S_MG) (ML : S_ML) (MN : S_MN) (MP : S_MP) (MT : S_MT) (MV : S_MV)  (post : Int32 → Prop) (hwp : wp_M_last MG post) : Met l y_M_last ws_M_last rm_M_last (va_Pc [.ref (q 0)] (bM dC dI cI cL cZ q MA MD MF MG ML MN MP MT MV)) (va_Qi (fun (r : Int32) (u : Unit) => post r) (fun u t => va_P (dC, dI) clZ (wM cI cL cZ q MA MD MF MG ML MN MP MT MV) t.heap) (aM q)) 0 0 (aM q) := by
  refine Met.ofW (cc := b_M_last) (maxL := 1) (ret := (some .int)) (by decide) rfl ?_
  intro p e s m args below meth c s₁ B hml hv
  obtain ⟨rfl, hP, hK⟩ := hv
  have hx := B.exec
  have hb := B.bytes
  have hr := B.returns
  have hts := atoms_spec (ws := ws_M_last) B.pre
  have hown : s.vm.findClass R_M = some m.cls := findClass_of_methodNamed B.named
  have hlocks := B.notSynchronized
  have hiM : ∀ w ∈ u_ws R_M F_M 39, w ∈ ws_M_last := fun w h => List.mem_cons_of_mem _ (in_M w h)
  have lk115 := hts _ (List.mem_cons_of_mem _ k_M_115)
  have lk118 := hts _ (List.mem_cons_of_mem _ k_M_118)
  have hS : va_S (aM q) s.heap s.heap [] := va_S.rf
  have hl := lv_entry ([.ref (q 0)]) (n := 1) (Nat.le_of_ble_eq_true rfl)
  rw [lg_entry_eq]
  generalize (lg_sl ([.ref (q 0)]) ++ List.replicate (1 - (lg_sl ([.ref (q 0)])).length) Slot.unset).toArray = ls at hl ⊢
  have hl : lv_has ls 1 [(0, .ref (q 0))] := hl
  obtain ⟨Q, hQ⟩ : ∃ Q, Q = MQ below (va_Qi (fun (r : Int32) (u : Unit) => post r) (fun u t => va_P (dC, dI) clZ (wM cI cL cZ q MA MD MF MG ML MN MP MT MV) t.heap) (aM q)) ([.ref (q 0)]).toArray s 0 0 (aM q) := ⟨_, rfl⟩
  rw [← hQ]
  rw [wp_M_last] at hwp
  refine lv_aload_n hx hb d_M_last_0 rfl (lv_at hl 0 rfl) ?_
  refine va_get (D := (dC, dI)) (ci := 7) (v := .int (MG_base MG)) (C := R_M) (T := F_M) (N := 39) hx hb hts hiM hown hK hP 0 rfl rfl 11 (by decide) lk115 (fun _ h9 => h9) rfl d_M_last_1 ?_
  refine lv_aload_n hx hb d_M_last_4 rfl (lv_at hl 0 rfl) ?_
  refine va_get (D := (dC, dI)) (ci := 7) (v := .int (MG_records MG)) (C := R_M) (T := F_M) (N := 39) hx hb hts hiM hown hK hP 0 rfl rfl 12 (by decide) lk118 (fun _ h9 => h9) rfl d_M_last_5 ?_
  refine lv_iadd hx hb d_M_last_8 ?_
  rw [hQ]
  exact W.iret (v := ((MG_base MG) + (MG_records MG))) hx hb hr (fun t ht hW => ⟨⟨((MG_base MG) + (MG_records MG)), (), rfl, hwp, hp_of ht hP⟩, hS.F ht⟩) hS.2.2 d_M_last_9

set_option maxHeartbeats 4000000 in
set_option maxRecDepth 100000 in
theorem c_M_append {l : Launch} {dC : Nat → ClassId} {dI : Nat → Nat → Nat} {cI cL cZ : ClassId} {q : Nat → Nat} (hq : iM q) (MA : S_MA) (MD : S_MD) (MF : S_MF) (MG : S_MG) (ML : S_ML) (MN : S_MN) (MP : S_MP) (MT : S_MT) (MV : S_MV) (a1 : Int32) (a2 : Int32) (a3 : Int32) (post : Int32 → S_MG → Prop) (hwp : wp_M_append MG a1 a2 a3 post) : Met l y_M_append ws_M_append rm_M_append (va_Pc [.ref (q 0), .int a1, .int a2, .int a3] (bM dC dI cI cL cZ q MA MD MF MG ML MN MP MT MV)) (va_Qi (fun (r : Int32) (u : S_MG) => post r u) (fun u t => va_P (dC, dI) clZ (wM cI cL cZ q MA MD MF (u) ML MN MP MT MV) t.heap) (aM q)) 0 0 (aM q) := by
  refine Met.ofW (cc := b_M_append) (maxL := 5) (ret := (some .int)) (by decide) rfl ?_
  intro p e s m args below meth c s₁ B hml hv
  obtain ⟨rfl, hP, hK⟩ := hv
  have hx := B.exec
  have hb := B.bytes
  have hr := B.returns
  have hts := atoms_spec (ws := ws_M_append) B.pre
  have hown : s.vm.findClass R_M = some m.cls := findClass_of_methodNamed B.named
  have hlocks := B.notSynchronized
  have hiM : ∀ w ∈ u_ws R_M F_M 39, w ∈ ws_M_append := fun w h => List.mem_cons_of_mem _ (in_M w h)
  have lk38 := hts _ (List.mem_cons_of_mem _ k_M_38)
  have lk41 := hts _ (List.mem_cons_of_mem _ k_M_41)
  have lk44 := hts _ (List.mem_cons_of_mem _ k_M_44)
  have lk47 := hts _ (List.mem_cons_of_mem _ k_M_47)
  have lk50 := hts _ (List.mem_cons_of_mem _ k_M_50)
  have lk53 := hts _ (List.mem_cons_of_mem _ k_M_53)
  have lk56 := hts _ (List.mem_cons_of_mem _ k_M_56)
  have lk59 := hts _ (List.mem_cons_of_mem _ k_M_59)
  have lk118 := hts _ (List.mem_cons_of_mem _ k_M_118)
  have hS : va_S (aM q) s.heap s.heap [] := va_S.rf
  have hl := lv_entry ([.ref (q 0), .int a1, .int a2, .int a3]) (n := 5) (Nat.le_of_ble_eq_true rfl)
  rw [lg_entry_eq]
  generalize (lg_sl ([.ref (q 0), .int a1, .int a2, .int a3]) ++ List.replicate (5 - (lg_sl ([.ref (q 0), .int a1, .int a2, .int a3])).length) Slot.unset).toArray = ls at hl ⊢
  have hl : lv_has ls 5 [(0, .ref (q 0)), (1, .int a1), (2, .int a2), (3, .int a3)] := hl
  obtain ⟨Q, hQ⟩ : ∃ Q, Q = MQ below (va_Qi (fun (r : Int32) (u : S_MG) => post r u) (fun u t => va_P (dC, dI) clZ (wM cI cL cZ q MA MD MF (u) ML MN MP MT MV) t.heap) (aM q)) ([.ref (q 0), .int a1, .int a2, .int a3]).toArray s 0 0 (aM q) := ⟨_, rfl⟩
  rw [← hQ]
  rw [wp_M_append] at hwp
  refine lv_aload_n hx hb d_M_append_0 rfl (lv_at hl 0 rfl) ?_
  refine va_get (D := (dC, dI)) (ci := 7) (v := .int (MG_records MG)) (C := R_M) (T := F_M) (N := 39) hx hb hts hiM hown hK hP 0 rfl rfl 12 (by decide) lk118 (fun _ h9 => h9) rfl d_M_append_1 ?_
  refine lv_istore (lv' := [(4, .int (MG_records MG)), (0, .ref (q 0)), (1, .int a1), (2, .int a2), (3, .int a3)]) hx hb d_M_append_4 hl (by decide) rfl (fun ls hl => ?_)
  refine lv_aload_n hx hb d_M_append_6 rfl (lv_at hl 1 rfl) ?_
  refine va_get (D := (dC, dI)) (ci := 7) (v := .ref (q 10)) (C := R_M) (T := F_M) (N := 39) hx hb hts hiM hown hK hP 0 rfl rfl 14 (by decide) lk38 (fun _ h9 => h9) rfl d_M_append_7 ?_
  refine lv_iload hx hb d_M_append_10 (lv_at hl 0 rfl) ?_
  refine lv_iload_n hx hb d_M_append_12 rfl (lv_at hl 2 rfl) ?_
  refine va_iast hx hb hK hP (dM hq) hS 10 0 rfl rfl hwp.1 d_M_append_13 (fun H locs hP _ hS => ?_)
  have hwp := hwp.2
  have hP : va_P (dC, dI) clZ (wM cI cL cZ q MA MD MF (MG_kind' MG (upd (MG_kind MG) (Int32.toNatClampNeg (MG_records MG)) a1)) ML MN MP MT MV) H := hP
  refine lv_aload_n hx hb d_M_append_14 rfl (lv_at hl 1 rfl) ?_
  refine va_get (D := (dC, dI)) (ci := 7) (v := .ref (q 11)) (C := R_M) (T := F_M) (N := 39) hx hb hts hiM hown hK hP 0 rfl rfl 15 (by decide) lk41 (fun _ h9 => h9) rfl d_M_append_15 ?_
  refine lv_iload hx hb d_M_append_18 (lv_at hl 0 rfl) ?_
  refine lv_iload_n hx hb d_M_append_20 rfl (lv_at hl 3 rfl) ?_
  refine va_iast hx hb hK hP (dM hq) hS 11 0 rfl rfl hwp.1 d_M_append_21 (fun H locs hP _ hS => ?_)
  have hwp := hwp.2
  have hP : va_P (dC, dI) clZ (wM cI cL cZ q MA MD MF (MG_by' (MG_kind' MG (upd (MG_kind MG) (Int32.toNatClampNeg (MG_records MG)) a1)) (upd (MG_by MG) (Int32.toNatClampNeg (MG_records MG)) a2)) ML MN MP MT MV) H := hP
  refine lv_aload_n hx hb d_M_append_22 rfl (lv_at hl 1 rfl) ?_
  refine va_get (D := (dC, dI)) (ci := 7) (v := .ref (q 12)) (C := R_M) (T := F_M) (N := 39) hx hb hts hiM hown hK hP 0 rfl rfl 16 (by decide) lk44 (fun _ h9 => h9) rfl d_M_append_23 ?_
  refine lv_iload hx hb d_M_append_26 (lv_at hl 0 rfl) ?_
  refine lv_iload_n hx hb d_M_append_28 rfl (lv_at hl 4 rfl) ?_
  refine va_iast hx hb hK hP (dM hq) hS 12 0 rfl rfl hwp.1 d_M_append_29 (fun H locs hP _ hS => ?_)
  have hwp := hwp.2
  have hP : va_P (dC, dI) clZ (wM cI cL cZ q MA MD MF (MG_about' (MG_by' (MG_kind' MG (upd (MG_kind MG) (Int32.toNatClampNeg (MG_records MG)) a1)) (upd (MG_by MG) (Int32.toNatClampNeg (MG_records MG)) a2)) (upd (MG_about MG) (Int32.toNatClampNeg (MG_records MG)) a3)) ML MN MP MT MV) H := hP
  refine lv_aload_n hx hb d_M_append_30 rfl (lv_at hl 1 rfl) ?_
  refine va_get (D := (dC, dI)) (ci := 7) (v := .ref (q 13)) (C := R_M) (T := F_M) (N := 39) hx hb hts hiM hown hK hP 0 rfl rfl 17 (by decide) lk47 (fun _ h9 => h9) rfl d_M_append_31 ?_
  refine lv_iload hx hb d_M_append_34 (lv_at hl 0 rfl) ?_
  refine lv_iconst (v := 0) hx hb d_M_append_36 (by decide) ?_
  refine va_iast hx hb hK hP (dM hq) hS 13 0 rfl rfl hwp.1 d_M_append_37 (fun H locs hP _ hS => ?_)
  have hwp := hwp.2
  have hP : va_P (dC, dI) clZ (wM cI cL cZ q MA MD MF (MG_of' (MG_about' (MG_by' (MG_kind' MG (upd (MG_kind MG) (Int32.toNatClampNeg (MG_records MG)) a1)) (upd (MG_by MG) (Int32.toNatClampNeg (MG_records MG)) a2)) (upd (MG_about MG) (Int32.toNatClampNeg (MG_records MG)) a3)) (upd (MG_of MG) (Int32.toNatClampNeg (MG_records MG)) 0)) ML MN MP MT MV) H := hP
  refine lv_aload_n hx hb d_M_append_38 rfl (lv_at hl 1 rfl) ?_
  refine va_get (D := (dC, dI)) (ci := 7) (v := .ref (q 14)) (C := R_M) (T := F_M) (N := 39) hx hb hts hiM hown hK hP 0 rfl rfl 18 (by decide) lk50 (fun _ h9 => h9) rfl d_M_append_39 ?_
  refine lv_iload hx hb d_M_append_42 (lv_at hl 0 rfl) ?_
  refine lv_iconst (v := 0) hx hb d_M_append_44 (by decide) ?_
  refine va_zast hx hb hK hP (dM hq) hS 14 2 rfl rfl hwp.1 d_M_append_45 (fun H locs hP _ hS => ?_)
  have hwp := hwp.2
  have hP : va_P (dC, dI) clZ (wM cI cL cZ q MA MD MF (MG_wasThere' (MG_of' (MG_about' (MG_by' (MG_kind' MG (upd (MG_kind MG) (Int32.toNatClampNeg (MG_records MG)) a1)) (upd (MG_by MG) (Int32.toNatClampNeg (MG_records MG)) a2)) (upd (MG_about MG) (Int32.toNatClampNeg (MG_records MG)) a3)) (upd (MG_of MG) (Int32.toNatClampNeg (MG_records MG)) 0)) (upd (MG_wasThere MG) (Int32.toNatClampNeg (MG_records MG)) (vp_nar .boolean 0))) ML MN MP MT MV) H := hP
  refine lv_aload_n hx hb d_M_append_46 rfl (lv_at hl 1 rfl) ?_
  refine va_get (D := (dC, dI)) (ci := 7) (v := .ref (q 15)) (C := R_M) (T := F_M) (N := 39) hx hb hts hiM hown hK hP 0 rfl rfl 19 (by decide) lk53 (fun _ h9 => h9) rfl d_M_append_47 ?_
  refine lv_iload hx hb d_M_append_50 (lv_at hl 0 rfl) ?_
  refine lv_iconst (v := 0) hx hb d_M_append_52 (by decide) ?_
  refine va_iast hx hb hK hP (dM hq) hS 15 0 rfl rfl hwp.1 d_M_append_53 (fun H locs hP _ hS => ?_)
  have hwp := hwp.2
  have hP : va_P (dC, dI) clZ (wM cI cL cZ q MA MD MF (MG_wasValue' (MG_wasThere' (MG_of' (MG_about' (MG_by' (MG_kind' MG (upd (MG_kind MG) (Int32.toNatClampNeg (MG_records MG)) a1)) (upd (MG_by MG) (Int32.toNatClampNeg (MG_records MG)) a2)) (upd (MG_about MG) (Int32.toNatClampNeg (MG_records MG)) a3)) (upd (MG_of MG) (Int32.toNatClampNeg (MG_records MG)) 0)) (upd (MG_wasThere MG) (Int32.toNatClampNeg (MG_records MG)) (vp_nar .boolean 0))) (upd (MG_wasValue MG) (Int32.toNatClampNeg (MG_records MG)) 0)) ML MN MP MT MV) H := hP
  refine lv_aload_n hx hb d_M_append_54 rfl (lv_at hl 1 rfl) ?_
  refine va_get (D := (dC, dI)) (ci := 7) (v := .ref (q 16)) (C := R_M) (T := F_M) (N := 39) hx hb hts hiM hown hK hP 0 rfl rfl 20 (by decide) lk56 (fun _ h9 => h9) rfl d_M_append_55 ?_
  refine lv_iload hx hb d_M_append_58 (lv_at hl 0 rfl) ?_
  refine lv_iconst (v := 0) hx hb d_M_append_60 (by decide) ?_
  refine va_zast hx hb hK hP (dM hq) hS 16 2 rfl rfl hwp.1 d_M_append_61 (fun H locs hP _ hS => ?_)
  have hwp := hwp.2
  have hP : va_P (dC, dI) clZ (wM cI cL cZ q MA MD MF (MG_isThere' (MG_wasValue' (MG_wasThere' (MG_of' (MG_about' (MG_by' (MG_kind' MG (upd (MG_kind MG) (Int32.toNatClampNeg (MG_records MG)) a1)) (upd (MG_by MG) (Int32.toNatClampNeg (MG_records MG)) a2)) (upd (MG_about MG) (Int32.toNatClampNeg (MG_records MG)) a3)) (upd (MG_of MG) (Int32.toNatClampNeg (MG_records MG)) 0)) (upd (MG_wasThere MG) (Int32.toNatClampNeg (MG_records MG)) (vp_nar .boolean 0))) (upd (MG_wasValue MG) (Int32.toNatClampNeg (MG_records MG)) 0)) (upd (MG_isThere MG) (Int32.toNatClampNeg (MG_records MG)) (vp_nar .boolean 0))) ML MN MP MT MV) H := hP
  refine lv_aload_n hx hb d_M_append_62 rfl (lv_at hl 1 rfl) ?_
  refine va_get (D := (dC, dI)) (ci := 7) (v := .ref (q 17)) (C := R_M) (T := F_M) (N := 39) hx hb hts hiM hown hK hP 0 rfl rfl 21 (by decide) lk59 (fun _ h9 => h9) rfl d_M_append_63 ?_
  refine lv_iload hx hb d_M_append_66 (lv_at hl 0 rfl) ?_
  refine lv_iconst (v := 0) hx hb d_M_append_68 (by decide) ?_
  refine va_iast hx hb hK hP (dM hq) hS 17 0 rfl rfl hwp.1 d_M_append_69 (fun H locs hP _ hS => ?_)
  have hwp := hwp.2
  have hP : va_P (dC, dI) clZ (wM cI cL cZ q MA MD MF (MG_isValue' (MG_isThere' (MG_wasValue' (MG_wasThere' (MG_of' (MG_about' (MG_by' (MG_kind' MG (upd (MG_kind MG) (Int32.toNatClampNeg (MG_records MG)) a1)) (upd (MG_by MG) (Int32.toNatClampNeg (MG_records MG)) a2)) (upd (MG_about MG) (Int32.toNatClampNeg (MG_records MG)) a3)) (upd (MG_of MG) (Int32.toNatClampNeg (MG_records MG)) 0)) (upd (MG_wasThere MG) (Int32.toNatClampNeg (MG_records MG)) (vp_nar .boolean 0))) (upd (MG_wasValue MG) (Int32.toNatClampNeg (MG_records MG)) 0)) (upd (MG_isThere MG) (Int32.toNatClampNeg (MG_records MG)) (vp_nar .boolean 0))) (upd (MG_isValue MG) (Int32.toNatClampNeg (MG_records MG)) 0)) ML MN MP MT MV) H := hP
  refine lv_aload_n hx hb d_M_append_70 rfl (lv_at hl 1 rfl) ?_
  refine lv_dup hx hb d_M_append_71 rfl ?_
  refine va_get (D := (dC, dI)) (ci := 7) (v := .int (MG_records MG)) (C := R_M) (T := F_M) (N := 39) hx hb hts hiM hown hK hP 0 rfl rfl 12 (by decide) lk118 (fun _ h9 => h9) rfl d_M_append_72 ?_
  refine lv_iconst (v := 1) hx hb d_M_append_75 (by decide) ?_
  refine lv_iadd hx hb d_M_append_76 ?_
  refine va_put (D := (dC, dI)) (ci := 7) (v := .int ((MG_records MG) + 1)) (ty := .int) (C := R_M) (T := F_M) (N := 39) hx hb hts hiM ty_M ty_M_ok nmx_M hown hK hP (dM hq) hS 0 rfl rfl 12 (by decide) lk118 (fun _ h9 => h9) rfl (by decide +kernel) rfl rfl (Nat.le_of_ble_eq_true rfl) d_M_append_77 (fun H locs hP _ hS => ?_)
  have hP : va_P (dC, dI) clZ (wM cI cL cZ q MA MD MF (MG_records' (MG_isValue' (MG_isThere' (MG_wasValue' (MG_wasThere' (MG_of' (MG_about' (MG_by' (MG_kind' MG (upd (MG_kind MG) (Int32.toNatClampNeg (MG_records MG)) a1)) (upd (MG_by MG) (Int32.toNatClampNeg (MG_records MG)) a2)) (upd (MG_about MG) (Int32.toNatClampNeg (MG_records MG)) a3)) (upd (MG_of MG) (Int32.toNatClampNeg (MG_records MG)) 0)) (upd (MG_wasThere MG) (Int32.toNatClampNeg (MG_records MG)) (vp_nar .boolean 0))) (upd (MG_wasValue MG) (Int32.toNatClampNeg (MG_records MG)) 0)) (upd (MG_isThere MG) (Int32.toNatClampNeg (MG_records MG)) (vp_nar .boolean 0))) (upd (MG_isValue MG) (Int32.toNatClampNeg (MG_records MG)) 0)) ((MG_records MG) + 1)) ML MN MP MT MV) H := hP
  refine lv_iload hx hb d_M_append_80 (lv_at hl 0 rfl) ?_
  rw [hQ]
  exact W.iret (v := (MG_records MG)) hx hb hr (fun t ht hW => ⟨⟨(MG_records MG), (MG_records' (MG_isValue' (MG_isThere' (MG_wasValue' (MG_wasThere' (MG_of' (MG_about' (MG_by' (MG_kind' MG (upd (MG_kind MG) (Int32.toNatClampNeg (MG_records MG)) a1)) (upd (MG_by MG) (Int32.toNatClampNeg (MG_records MG)) a2)) (upd (MG_about MG) (Int32.toNatClampNeg (MG_records MG)) a3)) (upd (MG_of MG) (Int32.toNatClampNeg (MG_records MG)) 0)) (upd (MG_wasThere MG) (Int32.toNatClampNeg (MG_records MG)) (vp_nar .boolean 0))) (upd (MG_wasValue MG) (Int32.toNatClampNeg (MG_records MG)) 0)) (upd (MG_isThere MG) (Int32.toNatClampNeg (MG_records MG)) (vp_nar .boolean 0))) (upd (MG_isValue MG) (Int32.toNatClampNeg (MG_records MG)) 0)) ((MG_records MG) + 1)), rfl, hwp, hp_of ht hP⟩, hS.F ht⟩) hS.2.2 d_M_append_82

set_option maxHeartbeats 4000000 in
set_option maxRecDepth 100000 in
theorem c_M_update {l : Launch} {dC : Nat → ClassId} {dI : Nat → Nat → Nat} {cI cL cZ : ClassId} {q : Nat → Nat} (hq : iM q) (MA : S_MA) (MD : S_MD) (MF : S_MF) (MG : S_MG) (ML : S_ML) (MN : S_MN) (MP : S_MP) (MT : S_MT) (MV : S_MV) (a1 : Int32) (a2 : Int32) (a3 : Int32) (a4 : Int32) (post : S_MA → S_MD → S_MG → Prop) (hwp : wp_M_update MA MD MG a1 a2 a3 a4 post) : Met l y_M_update ws_M_update rm_M_update (va_Pc [.ref (q 0), .int a1, .int a2, .int a3, .int a4] (bM dC dI cI cL cZ q MA MD MF MG ML MN MP MT MV)) (va_Qv (fun (u : S_MA × S_MD × S_MG) => post u.1 u.2.1 u.2.2) (fun u t => va_P (dC, dI) clZ (wM cI cL cZ q (u.1) (u.2.1) MF (u.2.2) ML MN MP MT MV) t.heap) (aM q)) 0 0 (aM q) := by
  refine Met.ofW (cc := b_M_update) (maxL := 6) (ret := none) (by decide) rfl ?_
  intro p e s m args below meth c s₁ B hml hv
  obtain ⟨rfl, hP, hK⟩ := hv
  have hx := B.exec
  have hb := B.bytes
  have hr := B.returns
  have hts := atoms_spec (ws := ws_M_update) B.pre
  have hown : s.vm.findClass R_M = some m.cls := findClass_of_methodNamed B.named
  have hlocks := B.notSynchronized
  have hiM : ∀ w ∈ u_ws R_M F_M 39, w ∈ ws_M_update := fun w h => List.mem_cons_of_mem _ (in_M w h)
  have lk20 := hts _ (List.mem_cons_of_mem _ k_M_20)
  have lk23 := hts _ (List.mem_cons_of_mem _ k_M_23)
  have lk50 := hts _ (List.mem_cons_of_mem _ k_M_50)
  have lk53 := hts _ (List.mem_cons_of_mem _ k_M_53)
  have lk56 := hts _ (List.mem_cons_of_mem _ k_M_56)
  have lk59 := hts _ (List.mem_cons_of_mem _ k_M_59)
  have hS : va_S (aM q) s.heap s.heap [] := va_S.rf
  have hl := lv_entry ([.ref (q 0), .int a1, .int a2, .int a3, .int a4]) (n := 6) (Nat.le_of_ble_eq_true rfl)
  rw [lg_entry_eq]
  generalize (lg_sl ([.ref (q 0), .int a1, .int a2, .int a3, .int a4]) ++ List.replicate (6 - (lg_sl ([.ref (q 0), .int a1, .int a2, .int a3, .int a4])).length) Slot.unset).toArray = ls at hl ⊢
  have hl : lv_has ls 6 [(0, .ref (q 0)), (1, .int a1), (2, .int a2), (3, .int a3), (4, .int a4)] := hl
  obtain ⟨Q, hQ⟩ : ∃ Q, Q = MQ below (va_Qv (fun (u : S_MA × S_MD × S_MG) => post u.1 u.2.1 u.2.2) (fun u t => va_P (dC, dI) clZ (wM cI cL cZ q (u.1) (u.2.1) MF (u.2.2) ML MN MP MT MV) t.heap) (aM q)) ([.ref (q 0), .int a1, .int a2, .int a3, .int a4]).toArray s 0 0 (aM q) := ⟨_, rfl⟩
  rw [← hQ]
  rw [wp_M_update] at hwp
  refine lv_aload_n hx hb d_M_update_0 rfl (lv_at hl 0 rfl) ?_
  refine lv_iconst (v := 2) hx hb d_M_update_1 (by decide) ?_
  refine lv_iload_n hx hb d_M_update_2 rfl (lv_at hl 1 rfl) ?_
  refine lv_iload_n hx hb d_M_update_3 rfl (lv_at hl 2 rfl) ?_
  refine ncn_i (As := [.int 2, .int a1, .int a2]) (c_M_append hq (MA) (MD) (MF) (MG) (ML) (MN) (MP) (MT) (MV) (2) (a1) (a2) _ hwp) (cwV 3 hts g_M_121 rfl rfl rfl hd_M_append ⟨Nat.le_of_ble_eq_true rfl, Nat.le_of_ble_eq_true rfl⟩) hx hb hml hown hts hK hP hS hl.1 d_M_update_4 (va_recv (q := (R_M, F_M, 39)) hK hP (ci := 7) (q0 := 0) rfl rfl) rfl (lv_room (Nat.le_of_ble_eq_true rfl)) (Nat.zero_le _) (Nat.zero_le _) rfl (fun r1 MG2 H locs hwp hP hS => ?_)
  have hP : va_P (dC, dI) clZ (wM cI cL cZ q MA MD MF MG2 ML MN MP MT MV) H := hP
  refine lv_istore (lv' := [(5, .int r1), (0, .ref (q 0)), (1, .int a1), (2, .int a2), (3, .int a3), (4, .int a4)]) hx hb d_M_update_7 hl (by decide) rfl (fun ls hl => ?_)
  refine lv_aload_n hx hb d_M_update_9 rfl (lv_at hl 1 rfl) ?_
  refine lv_iload_n hx hb d_M_update_10 rfl (lv_at hl 3 rfl) ?_
  refine lv_iconst (v := 4) hx hb d_M_update_11 (by decide) ?_
  refine lv_idiv hx hb d_M_update_12 (by decide) ?_
  refine ncn_v (As := [.int (a2 / 4)]) (c_M_touch hq (MA) (MD) (MF) (MG2) (ML) (MN) (MP) (MT) (MV) ((a2 / 4)) _ hwp) (cwV 1 hts g_M_125 rfl rfl rfl hd_M_touch ⟨Nat.le_of_ble_eq_true rfl, Nat.le_of_ble_eq_true rfl⟩) hx hb hml hown hts hK hP hS hl.1 d_M_update_13 (va_recv (q := (R_M, F_M, 39)) hK hP (ci := 7) (q0 := 0) rfl rfl) rfl (lv_room (Nat.le_of_ble_eq_true rfl)) (Nat.zero_le _) (Nat.zero_le _) rfl (fun u H locs hwp hP hS => ?_)
  obtain ⟨MA3, MD4, MG5⟩ := u
  have hP : va_P (dC, dI) clZ (wM cI cL cZ q MA3 MD4 MF MG5 ML MN MP MT MV) H := hP
  refine lv_aload_n hx hb d_M_update_16 rfl (lv_at hl 1 rfl) ?_
  refine va_get (D := (dC, dI)) (ci := 7) (v := .ref (q 14)) (C := R_M) (T := F_M) (N := 39) hx hb hts hiM hown hK hP 0 rfl rfl 18 (by decide) lk50 (fun _ h9 => h9) rfl d_M_update_17 ?_
  refine lv_iload hx hb d_M_update_20 (lv_at hl 0 rfl) ?_
  refine lv_aload_n hx hb d_M_update_22 rfl (lv_at hl 1 rfl) ?_
  refine va_get (D := (dC, dI)) (ci := 7) (v := .ref (q 4)) (C := R_M) (T := F_M) (N := 39) hx hb hts hiM hown hK hP 0 rfl rfl 4 (by decide) lk20 (fun _ h9 => h9) rfl d_M_update_23 ?_
  refine lv_iload_n hx hb d_M_update_26 rfl (lv_at hl 3 rfl) ?_
  refine va_zald hx hb hK hP 4 2 rfl rfl hwp.1 d_M_update_27 ?_
  have hwp := hwp.2
  refine va_zast hx hb hK hP (dM hq) hS 14 2 rfl rfl hwp.1 d_M_update_28 (fun H locs hP _ hS => ?_)
  have hwp := hwp.2
  have hP : va_P (dC, dI) clZ (wM cI cL cZ q MA3 MD4 MF (MG_wasThere' MG5 (upd (MG_wasThere MG5) (Int32.toNatClampNeg r1) (vp_nar .boolean ((MA_there MA3) (Int32.toNatClampNeg a2))))) ML MN MP MT MV) H := hP
  refine lv_aload_n hx hb d_M_update_29 rfl (lv_at hl 1 rfl) ?_
  refine va_get (D := (dC, dI)) (ci := 7) (v := .ref (q 15)) (C := R_M) (T := F_M) (N := 39) hx hb hts hiM hown hK hP 0 rfl rfl 19 (by decide) lk53 (fun _ h9 => h9) rfl d_M_update_30 ?_
  refine lv_iload hx hb d_M_update_33 (lv_at hl 0 rfl) ?_
  refine lv_aload_n hx hb d_M_update_35 rfl (lv_at hl 1 rfl) ?_
  refine va_get (D := (dC, dI)) (ci := 7) (v := .ref (q 5)) (C := R_M) (T := F_M) (N := 39) hx hb hts hiM hown hK hP 0 rfl rfl 5 (by decide) lk23 (fun _ h9 => h9) rfl d_M_update_36 ?_
  refine lv_iload_n hx hb d_M_update_39 rfl (lv_at hl 3 rfl) ?_
  refine va_iald hx hb hK hP 5 0 rfl rfl hwp.1 d_M_update_40 ?_
  have hwp := hwp.2
  refine va_iast hx hb hK hP (dM hq) hS 15 0 rfl rfl hwp.1 d_M_update_41 (fun H locs hP _ hS => ?_)
  have hwp := hwp.2
  have hP : va_P (dC, dI) clZ (wM cI cL cZ q MA3 MD4 MF (MG_wasValue' (MG_wasThere' MG5 (upd (MG_wasThere MG5) (Int32.toNatClampNeg r1) (vp_nar .boolean ((MA_there MA3) (Int32.toNatClampNeg a2))))) (upd (MG_wasValue MG5) (Int32.toNatClampNeg r1) ((MA_value MA3) (Int32.toNatClampNeg a2)))) ML MN MP MT MV) H := hP
  refine lv_aload_n hx hb d_M_update_42 rfl (lv_at hl 1 rfl) ?_
  refine va_get (D := (dC, dI)) (ci := 7) (v := .ref (q 16)) (C := R_M) (T := F_M) (N := 39) hx hb hts hiM hown hK hP 0 rfl rfl 20 (by decide) lk56 (fun _ h9 => h9) rfl d_M_update_43 ?_
  refine lv_iload hx hb d_M_update_46 (lv_at hl 0 rfl) ?_
  refine lv_iload_n hx hb d_M_update_48 rfl (lv_at hl 4 rfl) ?_
  refine va_zast hx hb hK hP (dM hq) hS 16 2 rfl rfl hwp.1 d_M_update_49 (fun H locs hP _ hS => ?_)
  have hwp := hwp.2
  have hP : va_P (dC, dI) clZ (wM cI cL cZ q MA3 MD4 MF (MG_isThere' (MG_wasValue' (MG_wasThere' MG5 (upd (MG_wasThere MG5) (Int32.toNatClampNeg r1) (vp_nar .boolean ((MA_there MA3) (Int32.toNatClampNeg a2))))) (upd (MG_wasValue MG5) (Int32.toNatClampNeg r1) ((MA_value MA3) (Int32.toNatClampNeg a2)))) (upd (MG_isThere MG5) (Int32.toNatClampNeg r1) (vp_nar .boolean a3))) ML MN MP MT MV) H := hP
  refine lv_aload_n hx hb d_M_update_50 rfl (lv_at hl 1 rfl) ?_
  refine va_get (D := (dC, dI)) (ci := 7) (v := .ref (q 17)) (C := R_M) (T := F_M) (N := 39) hx hb hts hiM hown hK hP 0 rfl rfl 21 (by decide) lk59 (fun _ h9 => h9) rfl d_M_update_51 ?_
  refine lv_iload hx hb d_M_update_54 (lv_at hl 0 rfl) ?_
  refine lv_iload_n hx hb d_M_update_56 rfl (lv_at hl 4 rfl) ?_
  refine jn_split hwp (fun jk66 hjk hwp => ?_)
  have J66 : ∀ (b6 : Int32) (H : Heap) (locs : List Loc) (ls : Array Slot), lv_has ls 6 [(0, .ref (q 0)), (2, .int a2), (3, .int a3), (4, .int a4)] → va_P (dC, dI) clZ (wM cI cL cZ q MA3 MD4 MF (MG_isThere' (MG_wasValue' (MG_wasThere' MG5 (upd (MG_wasThere MG5) (Int32.toNatClampNeg r1) (vp_nar .boolean ((MA_there MA3) (Int32.toNatClampNeg a2))))) (upd (MG_wasValue MG5) (Int32.toNatClampNeg r1) ((MA_value MA3) (Int32.toNatClampNeg a2)))) (upd (MG_isThere MG5) (Int32.toNatClampNeg r1) (vp_nar .boolean a3))) ML MN MP MT MV) H → va_S (aM q) s.heap H locs → jk66 b6 → W p l e (headSpec ws_M_update rm_M_update).room s m ([.ref (q 0), .int a1, .int a2, .int a3, .int a4]).toArray below meth c H locs 0 0 Q (F0 m 66 ls [.int b6, .int r1, .ref (q 17)]) := by
    intro b6 H locs ls hl hP hS hwp
    rw [hjk] at hwp
    refine va_iast hx hb hK hP (dM hq) hS 17 0 rfl rfl hwp.1 d_M_update_66 (fun H locs hP _ hS => ?_)
    have hwp := hwp.2
    have hP : va_P (dC, dI) clZ (wM cI cL cZ q MA3 MD4 MF (MG_isValue' (MG_isThere' (MG_wasValue' (MG_wasThere' MG5 (upd (MG_wasThere MG5) (Int32.toNatClampNeg r1) (vp_nar .boolean ((MA_there MA3) (Int32.toNatClampNeg a2))))) (upd (MG_wasValue MG5) (Int32.toNatClampNeg r1) ((MA_value MA3) (Int32.toNatClampNeg a2)))) (upd (MG_isThere MG5) (Int32.toNatClampNeg r1) (vp_nar .boolean a3))) (upd (MG_isValue MG5) (Int32.toNatClampNeg r1) b6)) ML MN MP MT MV) H := hP
    refine lv_aload_n hx hb d_M_update_67 rfl (lv_at hl 0 rfl) ?_
    refine lv_iload_n hx hb d_M_update_68 rfl (lv_at hl 1 rfl) ?_
    refine lv_iload_n hx hb d_M_update_69 rfl (lv_at hl 2 rfl) ?_
    refine lv_iload hx hb d_M_update_70 (lv_at hl 3 rfl) ?_
    refine lv_aload_n hx hb d_M_update_72 rfl (lv_at hl 0 rfl) ?_
    refine ncn_i (As := []) (c_M_last hq (MA3) (MD4) (MF) ((MG_isValue' (MG_isThere' (MG_wasValue' (MG_wasThere' MG5 (upd (MG_wasThere MG5) (Int32.toNatClampNeg r1) (vp_nar .boolean ((MA_there MA3) (Int32.toNatClampNeg a2))))) (upd (MG_wasValue MG5) (Int32.toNatClampNeg r1) ((MA_value MA3) (Int32.toNatClampNeg a2)))) (upd (MG_isThere MG5) (Int32.toNatClampNeg r1) (vp_nar .boolean a3))) (upd (MG_isValue MG5) (Int32.toNatClampNeg r1) b6))) (ML) (MN) (MP) (MT) (MV)  _ hwp) (cwV 0 hts g_M_128 rfl rfl rfl hd_M_last ⟨Nat.le_of_ble_eq_true rfl, Nat.le_of_ble_eq_true rfl⟩) hx hb hml hown hts hK hP hS hl.1 d_M_update_73 (va_recv (q := (R_M, F_M, 39)) hK hP (ci := 7) (q0 := 0) rfl rfl) rfl (lv_room (Nat.le_of_ble_eq_true rfl)) (Nat.zero_le _) (Nat.zero_le _) rfl (fun r7 u H locs hwp hP hS => ?_)
    have hP : va_P (dC, dI) clZ (wM cI cL cZ q MA3 MD4 MF (MG_isValue' (MG_isThere' (MG_wasValue' (MG_wasThere' MG5 (upd (MG_wasThere MG5) (Int32.toNatClampNeg r1) (vp_nar .boolean ((MA_there MA3) (Int32.toNatClampNeg a2))))) (upd (MG_wasValue MG5) (Int32.toNatClampNeg r1) ((MA_value MA3) (Int32.toNatClampNeg a2)))) (upd (MG_isThere MG5) (Int32.toNatClampNeg r1) (vp_nar .boolean a3))) (upd (MG_isValue MG5) (Int32.toNatClampNeg r1) b6)) ML MN MP MT MV) H := hP
    refine ncn_v (As := [.int a2, .int a3, .int a4, .int r7]) (c_M_become hq (MA3) (MD4) (MF) ((MG_isValue' (MG_isThere' (MG_wasValue' (MG_wasThere' MG5 (upd (MG_wasThere MG5) (Int32.toNatClampNeg r1) (vp_nar .boolean ((MA_there MA3) (Int32.toNatClampNeg a2))))) (upd (MG_wasValue MG5) (Int32.toNatClampNeg r1) ((MA_value MA3) (Int32.toNatClampNeg a2)))) (upd (MG_isThere MG5) (Int32.toNatClampNeg r1) (vp_nar .boolean a3))) (upd (MG_isValue MG5) (Int32.toNatClampNeg r1) b6))) (ML) (MN) (MP) (MT) (MV) (a2) (a3) (a4) (r7) _ hwp) (cwV 4 hts g_M_132 rfl rfl rfl hd_M_become ⟨Nat.le_of_ble_eq_true rfl, Nat.le_of_ble_eq_true rfl⟩) hx hb hml hown hts hK hP hS hl.1 d_M_update_76 (va_recv (q := (R_M, F_M, 39)) hK hP (ci := 7) (q0 := 0) rfl rfl) rfl (lv_room (Nat.le_of_ble_eq_true rfl)) (Nat.zero_le _) (Nat.zero_le _) rfl (fun MA8 H locs hwp hP hS => ?_)
    have hP : va_P (dC, dI) clZ (wM cI cL cZ q MA8 MD4 MF (MG_isValue' (MG_isThere' (MG_wasValue' (MG_wasThere' MG5 (upd (MG_wasThere MG5) (Int32.toNatClampNeg r1) (vp_nar .boolean ((MA_there MA3) (Int32.toNatClampNeg a2))))) (upd (MG_wasValue MG5) (Int32.toNatClampNeg r1) ((MA_value MA3) (Int32.toNatClampNeg a2)))) (upd (MG_isThere MG5) (Int32.toNatClampNeg r1) (vp_nar .boolean a3))) (upd (MG_isValue MG5) (Int32.toNatClampNeg r1) b6)) ML MN MP MT MV) H := hP
    rw [hQ]
    exact W.vret hx hb hr (fun t ht hW => ⟨⟨(MA8, MD4, (MG_isValue' (MG_isThere' (MG_wasValue' (MG_wasThere' MG5 (upd (MG_wasThere MG5) (Int32.toNatClampNeg r1) (vp_nar .boolean ((MA_there MA3) (Int32.toNatClampNeg a2))))) (upd (MG_wasValue MG5) (Int32.toNatClampNeg r1) ((MA_value MA3) (Int32.toNatClampNeg a2)))) (upd (MG_isThere MG5) (Int32.toNatClampNeg r1) (vp_nar .boolean a3))) (upd (MG_isValue MG5) (Int32.toNatClampNeg r1) b6))), rfl, hwp, hp_of ht hP⟩, hS.F ht⟩) hS.2.2 d_M_update_79
  clear hjk
  refine lv_if_eq (tgt := 65) hx hb d_M_update_57 (by decide) (fun hc => ?_) (fun hc => ?_)
  · rw [if_pos hc] at hwp
    refine lv_iconst (v := 0) hx hb d_M_update_65 (by decide) ?_
    exact J66 (0) _ _ _ (lv_sub hl [1, 3, 4, 5] rfl) hP hS hwp
  · rw [if_neg hc] at hwp
    refine lv_iload hx hb d_M_update_60 (lv_at hl 5 rfl) ?_
    refine lv_goto hx hb d_M_update_62 (tgt := 66) (by decide) ?_
    exact J66 (a4) _ _ _ (lv_sub hl [1, 3, 4, 5] rfl) hP hS hwp

set_option maxHeartbeats 4000000 in
set_option maxRecDepth 100000 in
theorem c_M_undo {l : Launch} {dC : Nat → ClassId} {dI : Nat → Nat → Nat} {cI cL cZ : ClassId} {q : Nat → Nat} (hq : iM q) (MA : S_MA) (MD : S_MD) (MF : S_MF) (MG : S_MG) (ML : S_ML) (MN : S_MN) (MP : S_MP) (MT : S_MT) (MV : S_MV) (a1 : Int32) (a2 : Int32) (post : S_MA → S_MD → S_MG → Prop) (hwp : wp_M_undo MA MD MG a1 a2 post) : Met l y_M_undo ws_M_undo rm_M_undo (va_Pc [.ref (q 0), .int a1, .int a2] (bM dC dI cI cL cZ q MA MD MF MG ML MN MP MT MV)) (va_Qv (fun (u : S_MA × S_MD × S_MG) => post u.1 u.2.1 u.2.2) (fun u t => va_P (dC, dI) clZ (wM cI cL cZ q (u.1) (u.2.1) MF (u.2.2) ML MN MP MT MV) t.heap) (aM q)) 0 0 (aM q) := by
  refine Met.ofW (cc := b_M_undo) (maxL := 4) (ret := none) (by decide) rfl ?_
  intro p e s m args below meth c s₁ B hml hv
  obtain ⟨rfl, hP, hK⟩ := hv
  have hx := B.exec
  have hb := B.bytes
  have hr := B.returns
  have hts := atoms_spec (ws := ws_M_undo) B.pre
  have hown : s.vm.findClass R_M = some m.cls := findClass_of_methodNamed B.named
  have hlocks := B.notSynchronized
  have hiM : ∀ w ∈ u_ws R_M F_M 39, w ∈ ws_M_undo := fun w h => List.mem_cons_of_mem _ (in_M w h)
  have lk44 := hts _ (List.mem_cons_of_mem _ k_M_44)
  have lk47 := hts _ (List.mem_cons_of_mem _ k_M_47)
  have lk50 := hts _ (List.mem_cons_of_mem _ k_M_50)
  have lk53 := hts _ (List.mem_cons_of_mem _ k_M_53)
  have lk56 := hts _ (List.mem_cons_of_mem _ k_M_56)
  have lk59 := hts _ (List.mem_cons_of_mem _ k_M_59)
  have lk115 := hts _ (List.mem_cons_of_mem _ k_M_115)
  have hS : va_S (aM q) s.heap s.heap [] := va_S.rf
  have hl := lv_entry ([.ref (q 0), .int a1, .int a2]) (n := 4) (Nat.le_of_ble_eq_true rfl)
  rw [lg_entry_eq]
  generalize (lg_sl ([.ref (q 0), .int a1, .int a2]) ++ List.replicate (4 - (lg_sl ([.ref (q 0), .int a1, .int a2])).length) Slot.unset).toArray = ls at hl ⊢
  have hl : lv_has ls 4 [(0, .ref (q 0)), (1, .int a1), (2, .int a2)] := hl
  obtain ⟨Q, hQ⟩ : ∃ Q, Q = MQ below (va_Qv (fun (u : S_MA × S_MD × S_MG) => post u.1 u.2.1 u.2.2) (fun u t => va_P (dC, dI) clZ (wM cI cL cZ q (u.1) (u.2.1) MF (u.2.2) ML MN MP MT MV) t.heap) (aM q)) ([.ref (q 0), .int a1, .int a2]).toArray s 0 0 (aM q) := ⟨_, rfl⟩
  rw [← hQ]
  rw [wp_M_undo] at hwp
  refine lv_aload_n hx hb d_M_undo_0 rfl (lv_at hl 0 rfl) ?_
  refine lv_iconst (v := 3) hx hb d_M_undo_1 (by decide) ?_
  refine lv_iload_n hx hb d_M_undo_2 rfl (lv_at hl 1 rfl) ?_
  refine lv_aload_n hx hb d_M_undo_3 rfl (lv_at hl 0 rfl) ?_
  refine va_get (D := (dC, dI)) (ci := 7) (v := .ref (q 12)) (C := R_M) (T := F_M) (N := 39) hx hb hts hiM hown hK hP 0 rfl rfl 16 (by decide) lk44 (fun _ h9 => h9) rfl d_M_undo_4 ?_
  refine lv_iload_n hx hb d_M_undo_7 rfl (lv_at hl 2 rfl) ?_
  refine va_iald hx hb hK hP 12 0 rfl rfl hwp.1 d_M_undo_8 ?_
  have hwp := hwp.2
  refine ncn_i (As := [.int 3, .int a1, .int ((MG_about MG) (Int32.toNatClampNeg a2))]) (c_M_append hq (MA) (MD) (MF) (MG) (ML) (MN) (MP) (MT) (MV) (3) (a1) (((MG_about MG) (Int32.toNatClampNeg a2))) _ hwp) (cwV 3 hts g_M_121 rfl rfl rfl hd_M_append ⟨Nat.le_of_ble_eq_true rfl, Nat.le_of_ble_eq_true rfl⟩) hx hb hml hown hts hK hP hS hl.1 d_M_undo_9 (va_recv (q := (R_M, F_M, 39)) hK hP (ci := 7) (q0 := 0) rfl rfl) rfl (lv_room (Nat.le_of_ble_eq_true rfl)) (Nat.zero_le _) (Nat.zero_le _) rfl (fun r1 MG2 H locs hwp hP hS => ?_)
  have hP : va_P (dC, dI) clZ (wM cI cL cZ q MA MD MF MG2 ML MN MP MT MV) H := hP
  refine lv_istore_n (lv' := [(3, .int r1), (0, .ref (q 0)), (1, .int a1), (2, .int a2)]) hx hb d_M_undo_12 rfl hl (by decide) rfl (fun ls hl => ?_)
  refine lv_aload_n hx hb d_M_undo_13 rfl (lv_at hl 1 rfl) ?_
  refine va_get (D := (dC, dI)) (ci := 7) (v := .ref (q 13)) (C := R_M) (T := F_M) (N := 39) hx hb hts hiM hown hK hP 0 rfl rfl 17 (by decide) lk47 (fun _ h9 => h9) rfl d_M_undo_14 ?_
  refine lv_iload_n hx hb d_M_undo_17 rfl (lv_at hl 0 rfl) ?_
  refine lv_aload_n hx hb d_M_undo_18 rfl (lv_at hl 1 rfl) ?_
  refine va_get (D := (dC, dI)) (ci := 7) (v := .int (MG_base MG2)) (C := R_M) (T := F_M) (N := 39) hx hb hts hiM hown hK hP 0 rfl rfl 11 (by decide) lk115 (fun _ h9 => h9) rfl d_M_undo_19 ?_
  refine lv_iload_n hx hb d_M_undo_22 rfl (lv_at hl 3 rfl) ?_
  refine lv_iadd hx hb d_M_undo_23 ?_
  refine lv_iconst (v := 1) hx hb d_M_undo_24 (by decide) ?_
  refine lv_iadd hx hb d_M_undo_25 ?_
  refine va_iast hx hb hK hP (dM hq) hS 13 0 rfl rfl hwp.1 d_M_undo_26 (fun H locs hP _ hS => ?_)
  have hwp := hwp.2
  have hP : va_P (dC, dI) clZ (wM cI cL cZ q MA MD MF (MG_of' MG2 (upd (MG_of MG2) (Int32.toNatClampNeg r1) (((MG_base MG2) + a2) + 1))) ML MN MP MT MV) H := hP
  refine lv_aload_n hx hb d_M_undo_27 rfl (lv_at hl 1 rfl) ?_
  refine va_get (D := (dC, dI)) (ci := 7) (v := .ref (q 16)) (C := R_M) (T := F_M) (N := 39) hx hb hts hiM hown hK hP 0 rfl rfl 20 (by decide) lk56 (fun _ h9 => h9) rfl d_M_undo_28 ?_
  refine lv_iload_n hx hb d_M_undo_31 rfl (lv_at hl 0 rfl) ?_
  refine lv_aload_n hx hb d_M_undo_32 rfl (lv_at hl 1 rfl) ?_
  refine va_get (D := (dC, dI)) (ci := 7) (v := .ref (q 14)) (C := R_M) (T := F_M) (N := 39) hx hb hts hiM hown hK hP 0 rfl rfl 18 (by decide) lk50 (fun _ h9 => h9) rfl d_M_undo_33 ?_
  refine lv_iload_n hx hb d_M_undo_36 rfl (lv_at hl 3 rfl) ?_
  refine va_zald hx hb hK hP 14 2 rfl rfl hwp.1 d_M_undo_37 ?_
  have hwp := hwp.2
  refine va_zast hx hb hK hP (dM hq) hS 16 2 rfl rfl hwp.1 d_M_undo_38 (fun H locs hP _ hS => ?_)
  have hwp := hwp.2
  have hP : va_P (dC, dI) clZ (wM cI cL cZ q MA MD MF (MG_isThere' (MG_of' MG2 (upd (MG_of MG2) (Int32.toNatClampNeg r1) (((MG_base MG2) + a2) + 1))) (upd (MG_isThere MG2) (Int32.toNatClampNeg r1) (vp_nar .boolean ((MG_wasThere MG2) (Int32.toNatClampNeg a2))))) ML MN MP MT MV) H := hP
  refine lv_aload_n hx hb d_M_undo_39 rfl (lv_at hl 1 rfl) ?_
  refine va_get (D := (dC, dI)) (ci := 7) (v := .ref (q 17)) (C := R_M) (T := F_M) (N := 39) hx hb hts hiM hown hK hP 0 rfl rfl 21 (by decide) lk59 (fun _ h9 => h9) rfl d_M_undo_40 ?_
  refine lv_iload_n hx hb d_M_undo_43 rfl (lv_at hl 0 rfl) ?_
  refine lv_aload_n hx hb d_M_undo_44 rfl (lv_at hl 1 rfl) ?_
  refine va_get (D := (dC, dI)) (ci := 7) (v := .ref (q 15)) (C := R_M) (T := F_M) (N := 39) hx hb hts hiM hown hK hP 0 rfl rfl 19 (by decide) lk53 (fun _ h9 => h9) rfl d_M_undo_45 ?_
  refine lv_iload_n hx hb d_M_undo_48 rfl (lv_at hl 3 rfl) ?_
  refine va_iald hx hb hK hP 15 0 rfl rfl hwp.1 d_M_undo_49 ?_
  have hwp := hwp.2
  refine va_iast hx hb hK hP (dM hq) hS 17 0 rfl rfl hwp.1 d_M_undo_50 (fun H locs hP _ hS => ?_)
  have hwp := hwp.2
  have hP : va_P (dC, dI) clZ (wM cI cL cZ q MA MD MF (MG_isValue' (MG_isThere' (MG_of' MG2 (upd (MG_of MG2) (Int32.toNatClampNeg r1) (((MG_base MG2) + a2) + 1))) (upd (MG_isThere MG2) (Int32.toNatClampNeg r1) (vp_nar .boolean ((MG_wasThere MG2) (Int32.toNatClampNeg a2))))) (upd (MG_isValue MG2) (Int32.toNatClampNeg r1) ((MG_wasValue MG2) (Int32.toNatClampNeg a2)))) ML MN MP MT MV) H := hP
  refine lv_aload_n hx hb d_M_undo_51 rfl (lv_at hl 1 rfl) ?_
  refine lv_aload_n hx hb d_M_undo_52 rfl (lv_at hl 1 rfl) ?_
  refine va_get (D := (dC, dI)) (ci := 7) (v := .ref (q 12)) (C := R_M) (T := F_M) (N := 39) hx hb hts hiM hown hK hP 0 rfl rfl 16 (by decide) lk44 (fun _ h9 => h9) rfl d_M_undo_53 ?_
  refine lv_iload_n hx hb d_M_undo_56 rfl (lv_at hl 3 rfl) ?_
  refine va_iald hx hb hK hP 12 0 rfl rfl hwp.1 d_M_undo_57 ?_
  have hwp := hwp.2
  refine lv_iconst (v := 4) hx hb d_M_undo_58 (by decide) ?_
  refine lv_idiv hx hb d_M_undo_59 (by decide) ?_
  refine ncn_v (As := [.int (((MG_about MG2) (Int32.toNatClampNeg a2)) / 4)]) (c_M_touch hq (MA) (MD) (MF) ((MG_isValue' (MG_isThere' (MG_of' MG2 (upd (MG_of MG2) (Int32.toNatClampNeg r1) (((MG_base MG2) + a2) + 1))) (upd (MG_isThere MG2) (Int32.toNatClampNeg r1) (vp_nar .boolean ((MG_wasThere MG2) (Int32.toNatClampNeg a2))))) (upd (MG_isValue MG2) (Int32.toNatClampNeg r1) ((MG_wasValue MG2) (Int32.toNatClampNeg a2))))) (ML) (MN) (MP) (MT) (MV) ((((MG_about MG2) (Int32.toNatClampNeg a2)) / 4)) _ hwp) (cwV 1 hts g_M_125 rfl rfl rfl hd_M_touch ⟨Nat.le_of_ble_eq_true rfl, Nat.le_of_ble_eq_true rfl⟩) hx hb hml hown hts hK hP hS hl.1 d_M_undo_60 (va_recv (q := (R_M, F_M, 39)) hK hP (ci := 7) (q0 := 0) rfl rfl) rfl (lv_room (Nat.le_of_ble_eq_true rfl)) (Nat.zero_le _) (Nat.zero_le _) rfl (fun u H locs hwp hP hS => ?_)
  obtain ⟨MA3, MD4, MG5⟩ := u
  have hP : va_P (dC, dI) clZ (wM cI cL cZ q MA3 MD4 MF MG5 ML MN MP MT MV) H := hP
  refine lv_aload_n hx hb d_M_undo_63 rfl (lv_at hl 1 rfl) ?_
  refine lv_aload_n hx hb d_M_undo_64 rfl (lv_at hl 1 rfl) ?_
  refine va_get (D := (dC, dI)) (ci := 7) (v := .ref (q 12)) (C := R_M) (T := F_M) (N := 39) hx hb hts hiM hown hK hP 0 rfl rfl 16 (by decide) lk44 (fun _ h9 => h9) rfl d_M_undo_65 ?_
  refine lv_iload_n hx hb d_M_undo_68 rfl (lv_at hl 3 rfl) ?_
  refine va_iald hx hb hK hP 12 0 rfl rfl hwp.1 d_M_undo_69 ?_
  have hwp := hwp.2
  refine lv_aload_n hx hb d_M_undo_70 rfl (lv_at hl 1 rfl) ?_
  refine va_get (D := (dC, dI)) (ci := 7) (v := .ref (q 16)) (C := R_M) (T := F_M) (N := 39) hx hb hts hiM hown hK hP 0 rfl rfl 20 (by decide) lk56 (fun _ h9 => h9) rfl d_M_undo_71 ?_
  refine lv_iload_n hx hb d_M_undo_74 rfl (lv_at hl 0 rfl) ?_
  refine va_zald hx hb hK hP 16 2 rfl rfl hwp.1 d_M_undo_75 ?_
  have hwp := hwp.2
  refine lv_aload_n hx hb d_M_undo_76 rfl (lv_at hl 1 rfl) ?_
  refine va_get (D := (dC, dI)) (ci := 7) (v := .ref (q 17)) (C := R_M) (T := F_M) (N := 39) hx hb hts hiM hown hK hP 0 rfl rfl 21 (by decide) lk59 (fun _ h9 => h9) rfl d_M_undo_77 ?_
  refine lv_iload_n hx hb d_M_undo_80 rfl (lv_at hl 0 rfl) ?_
  refine va_iald hx hb hK hP 17 0 rfl rfl hwp.1 d_M_undo_81 ?_
  have hwp := hwp.2
  refine lv_aload_n hx hb d_M_undo_82 rfl (lv_at hl 1 rfl) ?_
  refine ncn_i (As := []) (c_M_last hq (MA3) (MD4) (MF) (MG5) (ML) (MN) (MP) (MT) (MV)  _ hwp) (cwV 0 hts g_M_128 rfl rfl rfl hd_M_last ⟨Nat.le_of_ble_eq_true rfl, Nat.le_of_ble_eq_true rfl⟩) hx hb hml hown hts hK hP hS hl.1 d_M_undo_83 (va_recv (q := (R_M, F_M, 39)) hK hP (ci := 7) (q0 := 0) rfl rfl) rfl (lv_room (Nat.le_of_ble_eq_true rfl)) (Nat.zero_le _) (Nat.zero_le _) rfl (fun r6 u H locs hwp hP hS => ?_)
  have hP : va_P (dC, dI) clZ (wM cI cL cZ q MA3 MD4 MF MG5 ML MN MP MT MV) H := hP
  refine ncn_v (As := [.int ((MG_about MG5) (Int32.toNatClampNeg a2)), .int ((MG_isThere MG5) (Int32.toNatClampNeg r1)), .int ((MG_isValue MG5) (Int32.toNatClampNeg r1)), .int r6]) (c_M_become hq (MA3) (MD4) (MF) (MG5) (ML) (MN) (MP) (MT) (MV) (((MG_about MG5) (Int32.toNatClampNeg a2))) (((MG_isThere MG5) (Int32.toNatClampNeg r1))) (((MG_isValue MG5) (Int32.toNatClampNeg r1))) (r6) _ hwp) (cwV 4 hts g_M_132 rfl rfl rfl hd_M_become ⟨Nat.le_of_ble_eq_true rfl, Nat.le_of_ble_eq_true rfl⟩) hx hb hml hown hts hK hP hS hl.1 d_M_undo_86 (va_recv (q := (R_M, F_M, 39)) hK hP (ci := 7) (q0 := 0) rfl rfl) rfl (lv_room (Nat.le_of_ble_eq_true rfl)) (Nat.zero_le _) (Nat.zero_le _) rfl (fun MA7 H locs hwp hP hS => ?_)
  have hP : va_P (dC, dI) clZ (wM cI cL cZ q MA7 MD4 MF MG5 ML MN MP MT MV) H := hP
  rw [hQ]
  exact W.vret hx hb hr (fun t ht hW => ⟨⟨(MA7, MD4, MG5), rfl, hwp, hp_of ht hP⟩, hS.F ht⟩) hS.2.2 d_M_undo_89

set_option maxHeartbeats 4000000 in
set_option maxRecDepth 100000 in
theorem c_M_undone {l : Launch} {dC : Nat → ClassId} {dI : Nat → Nat → Nat} {cI cL cZ : ClassId} {q : Nat → Nat} (hq : iM q) (MA : S_MA) (MD : S_MD) (MF : S_MF) (MG : S_MG) (ML : S_ML) (MN : S_MN) (MP : S_MP) (MT : S_MT) (MV : S_MV) (a1 : Int32) (post : Int32 → Prop) (hwp : wp_M_undone MG a1 post) : Met l y_M_undone ws_M_undone rm_M_undone (va_Pc [.ref (q 0), .int a1] (bM dC dI cI cL cZ q MA MD MF MG ML MN MP MT MV)) (va_Qi (fun (r : Int32) (u : Unit) => post r) (fun u t => va_P (dC, dI) clZ (wM cI cL cZ q MA MD MF MG ML MN MP MT MV) t.heap) (aM q)) 0 0 (aM q) := by
  refine Met.ofW (cc := b_M_undone) (maxL := 4) (ret := (some .boolean)) (by decide) rfl ?_
  intro p e s m args below meth c s₁ B hml hv
  obtain ⟨rfl, hP, hK⟩ := hv
  have hx := B.exec
  have hb := B.bytes
  have hr := B.returns
  have hts := atoms_spec (ws := ws_M_undone) B.pre
  have hown : s.vm.findClass R_M = some m.cls := findClass_of_methodNamed B.named
  have hlocks := B.notSynchronized
  have hiM : ∀ w ∈ u_ws R_M F_M 39, w ∈ ws_M_undone := fun w h => List.mem_cons_of_mem _ (in_M w h)
  have lk38 := hts _ (List.mem_cons_of_mem _ k_M_38)
  have lk47 := hts _ (List.mem_cons_of_mem _ k_M_47)
  have lk115 := hts _ (List.mem_cons_of_mem _ k_M_115)
  have lk118 := hts _ (List.mem_cons_of_mem _ k_M_118)
  have hS : va_S (aM q) s.heap s.heap [] := va_S.rf
  have hl := lv_entry ([.ref (q 0), .int a1]) (n := 4) (Nat.le_of_ble_eq_true rfl)
  rw [lg_entry_eq]
  generalize (lg_sl ([.ref (q 0), .int a1]) ++ List.replicate (4 - (lg_sl ([.ref (q 0), .int a1])).length) Slot.unset).toArray = ls at hl ⊢
  have hl : lv_has ls 4 [(0, .ref (q 0)), (1, .int a1)] := hl
  obtain ⟨Q, hQ⟩ : ∃ Q, Q = MQ below (va_Qi (fun (r : Int32) (u : Unit) => post r) (fun u t => va_P (dC, dI) clZ (wM cI cL cZ q MA MD MF MG ML MN MP MT MV) t.heap) (aM q)) ([.ref (q 0), .int a1]).toArray s 0 0 (aM q) := ⟨_, rfl⟩
  rw [← hQ]
  have L6 : ∀ (Kx : Int32 → Prop) (v1 : Int32) (n : Nat) (v2 : Int32) (v3 : Int32) (H : Heap) (locs : List Loc) (ls : Array Slot), lv_has ls 4 [(0, .ref (q 0)), (1, .int v1), (2, .int v2), (3, .int v3)] → va_P (dC, dI) clZ (wM cI cL cZ q MA MD MF MG ML MN MP MT MV) H → va_S (aM q) s.heap H locs → wp_M_undone_L6 MG v1 Kx n v2 v3 → (∀ (x2 : Int32) (H : Heap) (locs : List Loc) (ls : Array Slot), lv_has ls 4 [(2, .int x2)] → va_P (dC, dI) clZ (wM cI cL cZ q MA MD MF MG ML MN MP MT MV) H → va_S (aM q) s.heap H locs → Kx x2 → W p l e (headSpec ws_M_undone rm_M_undone).room s m ([.ref (q 0), .int a1]).toArray below meth c H locs 0 0 Q (F0 m 57 ls [])) → W p l e (headSpec ws_M_undone rm_M_undone).room s m ([.ref (q 0), .int a1]).toArray below meth c H locs 0 0 Q (F0 m 6 ls []) := by
    intro Kx v1 n
    induction n with
    | zero =>
      intros
      rename_i hwp _
      exact hwp.elim
    | succ n6 ih =>
      intro v2 v3 H locs ls hl hP hS hwp hX
      rw [wp_M_undone_L6] at hwp
      refine lv_iload_n hx hb d_M_undone_6 rfl (lv_at hl 3 rfl) ?_
      refine lv_aload_n hx hb d_M_undone_7 rfl (lv_at hl 0 rfl) ?_
      refine va_get (D := (dC, dI)) (ci := 7) (v := .int (MG_records MG)) (C := R_M) (T := F_M) (N := 39) hx hb hts hiM hown hK hP 0 rfl rfl 12 (by decide) lk118 (fun _ h9 => h9) rfl d_M_undone_8 ?_
      refine lv_icmp_ge (tgt := 57) hx hb d_M_undone_11 (by decide) (fun hc => ?_) (fun hc => ?_)
      · rw [if_pos hc] at hwp
        exact hX (v2) _ _ _ (lv_sub hl [2] rfl) hP hS hwp
      · rw [if_neg hc] at hwp
        refine lv_iload_n hx hb d_M_undone_14 rfl (lv_at hl 2 rfl) ?_
        refine lv_if_ne (tgt := 45) hx hb d_M_undone_15 (by decide) (fun hc => ?_) (fun hc => ?_)
        · rw [if_neg hc] at hwp
          refine lv_iconst (v := 1) hx hb d_M_undone_45 (by decide) ?_
          refine lv_goto hx hb d_M_undone_46 (tgt := 50) (by decide) ?_
          refine lv_istore_n (lv' := [(2, .int 1), (0, .ref (q 0)), (1, .int v1), (3, .int v3)]) hx hb d_M_undone_50 rfl hl (by decide) rfl (fun ls hl => ?_)
          refine lv_iinc (k := 3) (v := (v3 + 1)) (lv' := [(3, .int (v3 + 1)), (2, .int 1), (0, .ref (q 0)), (1, .int v1)]) hx hb d_M_undone_51 hl rfl (ii_1 _) (by decide) rfl (fun ls hl => ?_)
          refine lv_goto hx hb d_M_undone_54 (tgt := 6) (by decide) ?_
          exact ih (1) ((v3 + 1)) _ _ _ (lv_sub hl [2, 3, 1, 0] rfl) hP hS hwp hX
        · rw [if_pos hc] at hwp
          refine lv_aload_n hx hb d_M_undone_18 rfl (lv_at hl 0 rfl) ?_
          refine va_get (D := (dC, dI)) (ci := 7) (v := .ref (q 10)) (C := R_M) (T := F_M) (N := 39) hx hb hts hiM hown hK hP 0 rfl rfl 14 (by decide) lk38 (fun _ h9 => h9) rfl d_M_undone_19 ?_
          refine lv_iload_n hx hb d_M_undone_22 rfl (lv_at hl 3 rfl) ?_
          refine va_iald hx hb hK hP 10 0 rfl rfl hwp.1 d_M_undone_23 ?_
          have hwp := hwp.2
          refine lv_iconst (v := 3) hx hb d_M_undone_24 (by decide) ?_
          refine lv_icmp_ne (tgt := 49) hx hb d_M_undone_25 (by decide) (fun hc => ?_) (fun hc => ?_)
          · rw [if_neg hc] at hwp
            refine lv_iconst (v := 0) hx hb d_M_undone_49 (by decide) ?_
            refine lv_istore_n (lv' := [(2, .int 0), (0, .ref (q 0)), (1, .int v1), (3, .int v3)]) hx hb d_M_undone_50 rfl hl (by decide) rfl (fun ls hl => ?_)
            refine lv_iinc (k := 3) (v := (v3 + 1)) (lv' := [(3, .int (v3 + 1)), (2, .int 0), (0, .ref (q 0)), (1, .int v1)]) hx hb d_M_undone_51 hl rfl (ii_1 _) (by decide) rfl (fun ls hl => ?_)
            refine lv_goto hx hb d_M_undone_54 (tgt := 6) (by decide) ?_
            exact ih (0) ((v3 + 1)) _ _ _ (lv_sub hl [2, 3, 1, 0] rfl) hP hS hwp hX
          · rw [if_pos hc] at hwp
            refine lv_aload_n hx hb d_M_undone_28 rfl (lv_at hl 0 rfl) ?_
            refine va_get (D := (dC, dI)) (ci := 7) (v := .ref (q 13)) (C := R_M) (T := F_M) (N := 39) hx hb hts hiM hown hK hP 0 rfl rfl 17 (by decide) lk47 (fun _ h9 => h9) rfl d_M_undone_29 ?_
            refine lv_iload_n hx hb d_M_undone_32 rfl (lv_at hl 3 rfl) ?_
            refine va_iald hx hb hK hP 13 0 rfl rfl hwp.1 d_M_undone_33 ?_
            have hwp := hwp.2
            refine lv_aload_n hx hb d_M_undone_34 rfl (lv_at hl 0 rfl) ?_
            refine va_get (D := (dC, dI)) (ci := 7) (v := .int (MG_base MG)) (C := R_M) (T := F_M) (N := 39) hx hb hts hiM hown hK hP 0 rfl rfl 11 (by decide) lk115 (fun _ h9 => h9) rfl d_M_undone_35 ?_
            refine lv_iload_n hx hb d_M_undone_38 rfl (lv_at hl 1 rfl) ?_
            refine lv_iadd hx hb d_M_undone_39 ?_
            refine lv_iconst (v := 1) hx hb d_M_undone_40 (by decide) ?_
            refine lv_iadd hx hb d_M_undone_41 ?_
            refine lv_icmp_ne (tgt := 49) hx hb d_M_undone_42 (by decide) (fun hc => ?_) (fun hc => ?_)
            · rw [if_neg hc] at hwp
              refine lv_iconst (v := 0) hx hb d_M_undone_49 (by decide) ?_
              refine lv_istore_n (lv' := [(2, .int 0), (0, .ref (q 0)), (1, .int v1), (3, .int v3)]) hx hb d_M_undone_50 rfl hl (by decide) rfl (fun ls hl => ?_)
              refine lv_iinc (k := 3) (v := (v3 + 1)) (lv' := [(3, .int (v3 + 1)), (2, .int 0), (0, .ref (q 0)), (1, .int v1)]) hx hb d_M_undone_51 hl rfl (ii_1 _) (by decide) rfl (fun ls hl => ?_)
              refine lv_goto hx hb d_M_undone_54 (tgt := 6) (by decide) ?_
              exact ih (0) ((v3 + 1)) _ _ _ (lv_sub hl [2, 3, 1, 0] rfl) hP hS hwp hX
            · rw [if_pos hc] at hwp
              refine lv_iconst (v := 1) hx hb d_M_undone_45 (by decide) ?_
              refine lv_goto hx hb d_M_undone_46 (tgt := 50) (by decide) ?_
              refine lv_istore_n (lv' := [(2, .int 1), (0, .ref (q 0)), (1, .int v1), (3, .int v3)]) hx hb d_M_undone_50 rfl hl (by decide) rfl (fun ls hl => ?_)
              refine lv_iinc (k := 3) (v := (v3 + 1)) (lv' := [(3, .int (v3 + 1)), (2, .int 1), (0, .ref (q 0)), (1, .int v1)]) hx hb d_M_undone_51 hl rfl (ii_1 _) (by decide) rfl (fun ls hl => ?_)
              refine lv_goto hx hb d_M_undone_54 (tgt := 6) (by decide) ?_
              exact ih (1) ((v3 + 1)) _ _ _ (lv_sub hl [2, 3, 1, 0] rfl) hP hS hwp hX
  rw [wp_M_undone] at hwp
  refine lv_iconst (v := 0) hx hb d_M_undone_0 (by decide) ?_
  refine lv_istore_n (lv' := [(2, .int 0), (0, .ref (q 0)), (1, .int a1)]) hx hb d_M_undone_1 rfl hl (by decide) rfl (fun ls hl => ?_)
  refine lv_iload_n hx hb d_M_undone_2 rfl (lv_at hl 2 rfl) ?_
  refine lv_iconst (v := 1) hx hb d_M_undone_3 (by decide) ?_
  refine lv_iadd hx hb d_M_undone_4 ?_
  refine lv_istore_n (lv' := [(3, .int (a1 + 1)), (2, .int 0), (0, .ref (q 0)), (1, .int a1)]) hx hb d_M_undone_5 rfl hl (by decide) rfl (fun ls hl => ?_)
  obtain ⟨e6, hwp⟩ := hwp
  refine L6 _ (a1) e6 (0) ((a1 + 1)) _ _ _ (lv_sub hl [2, 3, 1, 0] rfl) hP hS hwp (fun x1 H locs ls hl hP hS hwp => ?_)
  refine lv_iload_n hx hb d_M_undone_57 rfl (lv_at hl 0 rfl) ?_
  rw [hQ]
  exact W.zret (v := x1) hx hb hr (nb_ok hwp.1) (fun t ht hW => ⟨⟨x1, (), rfl, hwp.2, hp_of ht hP⟩, hS.F ht⟩) hS.2.2 d_M_undone_58

set_option maxHeartbeats 4000000 in
set_option maxRecDepth 100000 in
theorem c_M_top {l : Launch} {dC : Nat → ClassId} {dI : Nat → Nat → Nat} {cI cL cZ : ClassId} {q : Nat → Nat} (hq : iM q) (MA : S_MA) (MD : S_MD) (MF : S_MF) (MG : S_MG) (ML : S_ML) (MN : S_MN) (MP : S_MP) (MT : S_MT) (MV : S_MV) (a1 : Int32) (post : Int32 → Prop) (hwp : wp_M_top MT a1 post) : Met l y_M_top ws_M_top rm_M_top (va_Pc [.ref (q 0), .int a1] (bM dC dI cI cL cZ q MA MD MF MG ML MN MP MT MV)) (va_Qi (fun (r : Int32) (u : Unit) => post r) (fun u t => va_P (dC, dI) clZ (wM cI cL cZ q MA MD MF MG ML MN MP MT MV) t.heap) (aM q)) 0 0 (aM q) := by
  refine Met.ofW (cc := b_M_top) (maxL := 4) (ret := (some .int)) (by decide) rfl ?_
  intro p e s m args below meth c s₁ B hml hv
  obtain ⟨rfl, hP, hK⟩ := hv
  have hx := B.exec
  have hb := B.bytes
  have hr := B.returns
  have hts := atoms_spec (ws := ws_M_top) B.pre
  have hown : s.vm.findClass R_M = some m.cls := findClass_of_methodNamed B.named
  have hlocks := B.notSynchronized
  have hiM : ∀ w ∈ u_ws R_M F_M 39, w ∈ ws_M_top := fun w h => List.mem_cons_of_mem _ (in_M w h)
  have lk65 := hts _ (List.mem_cons_of_mem _ k_M_65)
  have hS : va_S (aM q) s.heap s.heap [] := va_S.rf
  have hl := lv_entry ([.ref (q 0), .int a1]) (n := 4) (Nat.le_of_ble_eq_true rfl)
  rw [lg_entry_eq]
  generalize (lg_sl ([.ref (q 0), .int a1]) ++ List.replicate (4 - (lg_sl ([.ref (q 0), .int a1])).length) Slot.unset).toArray = ls at hl ⊢
  have hl : lv_has ls 4 [(0, .ref (q 0)), (1, .int a1)] := hl
  obtain ⟨Q, hQ⟩ : ∃ Q, Q = MQ below (va_Qi (fun (r : Int32) (u : Unit) => post r) (fun u t => va_P (dC, dI) clZ (wM cI cL cZ q MA MD MF MG ML MN MP MT MV) t.heap) (aM q)) ([.ref (q 0), .int a1]).toArray s 0 0 (aM q) := ⟨_, rfl⟩
  rw [← hQ]
  have L4 : ∀ (Kx : Int32 → Prop) (n : Nat) (v2 : Int32) (v3 : Int32) (H : Heap) (locs : List Loc) (ls : Array Slot), lv_has ls 4 [(0, .ref (q 0)), (2, .int v2), (3, .int v3)] → va_P (dC, dI) clZ (wM cI cL cZ q MA MD MF MG ML MN MP MT MV) H → va_S (aM q) s.heap H locs → wp_M_top_L4 MT Kx n v2 v3 → (∀ (x2 : Int32) (H : Heap) (locs : List Loc) (ls : Array Slot), lv_has ls 4 [(2, .int x2)] → va_P (dC, dI) clZ (wM cI cL cZ q MA MD MF MG ML MN MP MT MV) H → va_S (aM q) s.heap H locs → Kx x2 → W p l e (headSpec ws_M_top rm_M_top).room s m ([.ref (q 0), .int a1]).toArray below meth c H locs 0 0 Q (F0 m 31 ls [])) → W p l e (headSpec ws_M_top rm_M_top).room s m ([.ref (q 0), .int a1]).toArray below meth c H locs 0 0 Q (F0 m 4 ls []) := by
    intro Kx  n
    induction n with
    | zero =>
      intros
      rename_i hwp _
      exact hwp.elim
    | succ n4 ih =>
      intro v2 v3 H locs ls hl hP hS hwp hX
      rw [wp_M_top_L4] at hwp
      refine lv_iload_n hx hb d_M_top_4 rfl (lv_at hl 2 rfl) ?_
      refine lv_iconst (v := 4) hx hb d_M_top_5 (by decide) ?_
      refine lv_icmp_ge (tgt := 31) hx hb d_M_top_6 (by decide) (fun hc => ?_) (fun hc => ?_)
      · rw [if_pos hc] at hwp
        exact hX (v2) _ _ _ (lv_sub hl [1] rfl) hP hS hwp
      · rw [if_neg hc] at hwp
        refine lv_aload_n hx hb d_M_top_9 rfl (lv_at hl 0 rfl) ?_
        refine va_get (D := (dC, dI)) (ci := 7) (v := .ref (q 19)) (C := R_M) (T := F_M) (N := 39) hx hb hts hiM hown hK hP 0 rfl rfl 24 (by decide) lk65 (fun _ h9 => h9) rfl d_M_top_10 ?_
        refine lv_iload_n hx hb d_M_top_13 rfl (lv_at hl 1 rfl) ?_
        refine va_iald hx hb hK hP 19 0 rfl rfl hwp.1 d_M_top_14 ?_
        have hwp := hwp.2
        refine lv_if_lt (tgt := 31) hx hb d_M_top_15 (by decide) (fun hc => ?_) (fun hc => ?_)
        · rw [if_pos hc] at hwp
          exact hX (v2) _ _ _ (lv_sub hl [1] rfl) hP hS hwp
        · rw [if_neg hc] at hwp
          refine lv_aload_n hx hb d_M_top_18 rfl (lv_at hl 0 rfl) ?_
          refine va_get (D := (dC, dI)) (ci := 7) (v := .ref (q 19)) (C := R_M) (T := F_M) (N := 39) hx hb hts hiM hown hK hP 0 rfl rfl 24 (by decide) lk65 (fun _ h9 => h9) rfl d_M_top_19 ?_
          refine lv_iload_n hx hb d_M_top_22 rfl (lv_at hl 1 rfl) ?_
          refine va_iald hx hb hK hP 19 0 rfl rfl hwp.1 d_M_top_23 ?_
          have hwp := hwp.2
          refine lv_istore_n (lv' := [(2, .int ((MT_parent MT) (Int32.toNatClampNeg v2))), (0, .ref (q 0)), (3, .int v3)]) hx hb d_M_top_24 rfl hl (by decide) rfl (fun ls hl => ?_)
          refine lv_iinc (k := 2) (v := (v3 + 1)) (lv' := [(3, .int (v3 + 1)), (2, .int ((MT_parent MT) (Int32.toNatClampNeg v2))), (0, .ref (q 0))]) hx hb d_M_top_25 hl rfl (ii_1 _) (by decide) rfl (fun ls hl => ?_)
          refine lv_goto hx hb d_M_top_28 (tgt := 4) (by decide) ?_
          exact ih (((MT_parent MT) (Int32.toNatClampNeg v2))) ((v3 + 1)) _ _ _ (lv_sub hl [2, 1, 0] rfl) hP hS hwp hX
  rw [wp_M_top] at hwp
  refine lv_iload_n hx hb d_M_top_0 rfl (lv_at hl 1 rfl) ?_
  refine lv_istore_n (lv' := [(2, .int a1), (0, .ref (q 0)), (1, .int a1)]) hx hb d_M_top_1 rfl hl (by decide) rfl (fun ls hl => ?_)
  refine lv_iconst (v := 0) hx hb d_M_top_2 (by decide) ?_
  refine lv_istore_n (lv' := [(3, .int 0), (2, .int a1), (0, .ref (q 0)), (1, .int a1)]) hx hb d_M_top_3 rfl hl (by decide) rfl (fun ls hl => ?_)
  obtain ⟨e4, hwp⟩ := hwp
  refine L4 _  e4 (a1) (0) _ _ _ (lv_sub hl [2, 1, 0] rfl) hP hS hwp (fun x1 H locs ls hl hP hS hwp => ?_)
  refine lv_iload_n hx hb d_M_top_31 rfl (lv_at hl 0 rfl) ?_
  rw [hQ]
  exact W.iret (v := x1) hx hb hr (fun t ht hW => ⟨⟨x1, (), rfl, hwp, hp_of ht hP⟩, hS.F ht⟩) hS.2.2 d_M_top_32

set_option maxHeartbeats 4000000 in
set_option maxRecDepth 100000 in
theorem c_M_open {l : Launch} {dC : Nat → ClassId} {dI : Nat → Nat → Nat} {cI cL cZ : ClassId} {q : Nat → Nat} (hq : iM q) (MA : S_MA) (MD : S_MD) (MF : S_MF) (MG : S_MG) (ML : S_ML) (MN : S_MN) (MP : S_MP) (MT : S_MT) (MV : S_MV) (a1 : Int32) (post : Int32 → Prop) (hwp : wp_M_open MG MT a1 post) : Met l y_M_open ws_M_open rm_M_open (va_Pc [.ref (q 0), .int a1] (bM dC dI cI cL cZ q MA MD MF MG ML MN MP MT MV)) (va_Qi (fun (r : Int32) (u : Unit) => post r) (fun u t => va_P (dC, dI) clZ (wM cI cL cZ q MA MD MF MG ML MN MP MT MV) t.heap) (aM q)) 0 0 (aM q) := by
  refine Met.ofW (cc := b_M_open) (maxL := 2) (ret := (some .boolean)) (by decide) rfl ?_
  intro p e s m args below meth c s₁ B hml hv
  obtain ⟨rfl, hP, hK⟩ := hv
  have hx := B.exec
  have hb := B.bytes
  have hr := B.returns
  have hts := atoms_spec (ws := ws_M_open) B.pre
  have hown : s.vm.findClass R_M = some m.cls := findClass_of_methodNamed B.named
  have hlocks := B.notSynchronized
  have hiM : ∀ w ∈ u_ws R_M F_M 39, w ∈ ws_M_open := fun w h => List.mem_cons_of_mem _ (in_M w h)
  have lk38 := hts _ (List.mem_cons_of_mem _ k_M_38)
  have lk41 := hts _ (List.mem_cons_of_mem _ k_M_41)
  have lk62 := hts _ (List.mem_cons_of_mem _ k_M_62)
  have hS : va_S (aM q) s.heap s.heap [] := va_S.rf
  have hl := lv_entry ([.ref (q 0), .int a1]) (n := 2) (Nat.le_of_ble_eq_true rfl)
  rw [lg_entry_eq]
  generalize (lg_sl ([.ref (q 0), .int a1]) ++ List.replicate (2 - (lg_sl ([.ref (q 0), .int a1])).length) Slot.unset).toArray = ls at hl ⊢
  have hl : lv_has ls 2 [(0, .ref (q 0)), (1, .int a1)] := hl
  obtain ⟨Q, hQ⟩ : ∃ Q, Q = MQ below (va_Qi (fun (r : Int32) (u : Unit) => post r) (fun u t => va_P (dC, dI) clZ (wM cI cL cZ q MA MD MF MG ML MN MP MT MV) t.heap) (aM q)) ([.ref (q 0), .int a1]).toArray s 0 0 (aM q) := ⟨_, rfl⟩
  rw [← hQ]
  rw [wp_M_open] at hwp
  refine lv_aload_n hx hb d_M_open_0 rfl (lv_at hl 0 rfl) ?_
  refine va_get (D := (dC, dI)) (ci := 7) (v := .ref (q 10)) (C := R_M) (T := F_M) (N := 39) hx hb hts hiM hown hK hP 0 rfl rfl 14 (by decide) lk38 (fun _ h9 => h9) rfl d_M_open_1 ?_
  refine lv_iload_n hx hb d_M_open_4 rfl (lv_at hl 1 rfl) ?_
  refine va_iald hx hb hK hP 10 0 rfl rfl hwp.1 d_M_open_5 ?_
  have hwp := hwp.2
  refine lv_iconst (v := 2) hx hb d_M_open_6 (by decide) ?_
  refine lv_icmp_ne (tgt := 60) hx hb d_M_open_7 (by decide) (fun hc => ?_) (fun hc => ?_)
  · rw [if_neg hc] at hwp
    refine lv_iconst (v := 0) hx hb d_M_open_60 (by decide) ?_
    rw [hQ]
    exact W.zret (v := 0) hx hb hr rfl (fun t ht hW => ⟨⟨0, (), rfl, hwp, hp_of ht hP⟩, hS.F ht⟩) hS.2.2 d_M_open_61
  · rw [if_pos hc] at hwp
    refine lv_aload_n hx hb d_M_open_10 rfl (lv_at hl 0 rfl) ?_
    refine va_get (D := (dC, dI)) (ci := 7) (v := .ref (q 18)) (C := R_M) (T := F_M) (N := 39) hx hb hts hiM hown hK hP 0 rfl rfl 23 (by decide) lk62 (fun _ h9 => h9) rfl d_M_open_11 ?_
    refine lv_aload_n hx hb d_M_open_14 rfl (lv_at hl 0 rfl) ?_
    refine lv_aload_n hx hb d_M_open_15 rfl (lv_at hl 0 rfl) ?_
    refine va_get (D := (dC, dI)) (ci := 7) (v := .ref (q 11)) (C := R_M) (T := F_M) (N := 39) hx hb hts hiM hown hK hP 0 rfl rfl 15 (by decide) lk41 (fun _ h9 => h9) rfl d_M_open_16 ?_
    refine lv_iload_n hx hb d_M_open_19 rfl (lv_at hl 1 rfl) ?_
    refine va_iald hx hb hK hP 11 0 rfl rfl hwp.1 d_M_open_20 ?_
    have hwp := hwp.2
    refine ncn_i (As := [.int ((MG_by MG) (Int32.toNatClampNeg a1))]) (c_M_top hq (MA) (MD) (MF) (MG) (ML) (MN) (MP) (MT) (MV) (((MG_by MG) (Int32.toNatClampNeg a1))) _ hwp) (cwV 1 hts g_M_136 rfl rfl rfl hd_M_top ⟨Nat.le_of_ble_eq_true rfl, Nat.le_of_ble_eq_true rfl⟩) hx hb hml hown hts hK hP hS hl.1 d_M_open_21 (va_recv (q := (R_M, F_M, 39)) hK hP (ci := 7) (q0 := 0) rfl rfl) rfl (lv_room (Nat.le_of_ble_eq_true rfl)) (Nat.zero_le _) (Nat.zero_le _) rfl (fun r1 u H locs hwp hP hS => ?_)
    have hP : va_P (dC, dI) clZ (wM cI cL cZ q MA MD MF MG ML MN MP MT MV) H := hP
    refine va_iald hx hb hK hP 18 0 rfl rfl hwp.1 d_M_open_24 ?_
    have hwp := hwp.2
    refine lv_iconst (v := 3) hx hb d_M_open_25 (by decide) ?_
    refine lv_icmp_eq (tgt := 60) hx hb d_M_open_26 (by decide) (fun hc => ?_) (fun hc => ?_)
    · rw [if_pos hc] at hwp
      refine lv_iconst (v := 0) hx hb d_M_open_60 (by decide) ?_
      rw [hQ]
      exact W.zret (v := 0) hx hb hr rfl (fun t ht hW => ⟨⟨0, (), rfl, hwp, hp_of ht hP⟩, hS.F ht⟩) hS.2.2 d_M_open_61
    · rw [if_neg hc] at hwp
      refine lv_aload_n hx hb d_M_open_29 rfl (lv_at hl 0 rfl) ?_
      refine va_get (D := (dC, dI)) (ci := 7) (v := .ref (q 18)) (C := R_M) (T := F_M) (N := 39) hx hb hts hiM hown hK hP 0 rfl rfl 23 (by decide) lk62 (fun _ h9 => h9) rfl d_M_open_30 ?_
      refine lv_aload_n hx hb d_M_open_33 rfl (lv_at hl 0 rfl) ?_
      refine lv_aload_n hx hb d_M_open_34 rfl (lv_at hl 0 rfl) ?_
      refine va_get (D := (dC, dI)) (ci := 7) (v := .ref (q 11)) (C := R_M) (T := F_M) (N := 39) hx hb hts hiM hown hK hP 0 rfl rfl 15 (by decide) lk41 (fun _ h9 => h9) rfl d_M_open_35 ?_
      refine lv_iload_n hx hb d_M_open_38 rfl (lv_at hl 1 rfl) ?_
      refine va_iald hx hb hK hP 11 0 rfl rfl hwp.1 d_M_open_39 ?_
      have hwp := hwp.2
      refine ncn_i (As := [.int ((MG_by MG) (Int32.toNatClampNeg a1))]) (c_M_top hq (MA) (MD) (MF) (MG) (ML) (MN) (MP) (MT) (MV) (((MG_by MG) (Int32.toNatClampNeg a1))) _ hwp) (cwV 1 hts g_M_136 rfl rfl rfl hd_M_top ⟨Nat.le_of_ble_eq_true rfl, Nat.le_of_ble_eq_true rfl⟩) hx hb hml hown hts hK hP hS hl.1 d_M_open_40 (va_recv (q := (R_M, F_M, 39)) hK hP (ci := 7) (q0 := 0) rfl rfl) rfl (lv_room (Nat.le_of_ble_eq_true rfl)) (Nat.zero_le _) (Nat.zero_le _) rfl (fun r2 u H locs hwp hP hS => ?_)
      have hP : va_P (dC, dI) clZ (wM cI cL cZ q MA MD MF MG ML MN MP MT MV) H := hP
      refine va_iald hx hb hK hP 18 0 rfl rfl hwp.1 d_M_open_43 ?_
      have hwp := hwp.2
      refine lv_iconst (v := 4) hx hb d_M_open_44 (by decide) ?_
      refine lv_icmp_eq (tgt := 60) hx hb d_M_open_45 (by decide) (fun hc => ?_) (fun hc => ?_)
      · rw [if_pos hc] at hwp
        refine lv_iconst (v := 0) hx hb d_M_open_60 (by decide) ?_
        rw [hQ]
        exact W.zret (v := 0) hx hb hr rfl (fun t ht hW => ⟨⟨0, (), rfl, hwp, hp_of ht hP⟩, hS.F ht⟩) hS.2.2 d_M_open_61
      · rw [if_neg hc] at hwp
        refine lv_aload_n hx hb d_M_open_48 rfl (lv_at hl 0 rfl) ?_
        refine lv_iload_n hx hb d_M_open_49 rfl (lv_at hl 1 rfl) ?_
        refine ncn_i (As := [.int a1]) (c_M_undone hq (MA) (MD) (MF) (MG) (ML) (MN) (MP) (MT) (MV) (a1) _ hwp) (cwV 1 hts g_M_140 rfl rfl rfl hd_M_undone ⟨Nat.le_of_ble_eq_true rfl, Nat.le_of_ble_eq_true rfl⟩) hx hb hml hown hts hK hP hS hl.1 d_M_open_50 (va_recv (q := (R_M, F_M, 39)) hK hP (ci := 7) (q0 := 0) rfl rfl) rfl (lv_room (Nat.le_of_ble_eq_true rfl)) (Nat.zero_le _) (Nat.zero_le _) rfl (fun r3 u H locs hwp hP hS => ?_)
        have hP : va_P (dC, dI) clZ (wM cI cL cZ q MA MD MF MG ML MN MP MT MV) H := hP
        refine lv_if_ne (tgt := 60) hx hb d_M_open_53 (by decide) (fun hc => ?_) (fun hc => ?_)
        · rw [if_neg hc] at hwp
          refine lv_iconst (v := 0) hx hb d_M_open_60 (by decide) ?_
          rw [hQ]
          exact W.zret (v := 0) hx hb hr rfl (fun t ht hW => ⟨⟨0, (), rfl, hwp, hp_of ht hP⟩, hS.F ht⟩) hS.2.2 d_M_open_61
        · rw [if_pos hc] at hwp
          refine lv_iconst (v := 1) hx hb d_M_open_56 (by decide) ?_
          refine lv_goto hx hb d_M_open_57 (tgt := 61) (by decide) ?_
          rw [hQ]
          exact W.zret (v := 1) hx hb hr rfl (fun t ht hW => ⟨⟨1, (), rfl, hwp, hp_of ht hP⟩, hS.F ht⟩) hS.2.2 d_M_open_61

set_option maxHeartbeats 4000000 in
set_option maxRecDepth 100000 in
theorem c_M_opens {l : Launch} {dC : Nat → ClassId} {dI : Nat → Nat → Nat} {cI cL cZ : ClassId} {q : Nat → Nat} (hq : iM q) (MA : S_MA) (MD : S_MD) (MF : S_MF) (MG : S_MG) (ML : S_ML) (MN : S_MN) (MP : S_MP) (MT : S_MT) (MV : S_MV)  (post : Int32 → Prop) (hwp : wp_M_opens MG MT post) : Met l y_M_opens ws_M_opens rm_M_opens (va_Pc [.ref (q 0)] (bM dC dI cI cL cZ q MA MD MF MG ML MN MP MT MV)) (va_Qi (fun (r : Int32) (u : Unit) => post r) (fun u t => va_P (dC, dI) clZ (wM cI cL cZ q MA MD MF MG ML MN MP MT MV) t.heap) (aM q)) 0 0 (aM q) := by
  refine Met.ofW (cc := b_M_opens) (maxL := 3) (ret := (some .int)) (by decide) rfl ?_
  intro p e s m args below meth c s₁ B hml hv
  obtain ⟨rfl, hP, hK⟩ := hv
  have hx := B.exec
  have hb := B.bytes
  have hr := B.returns
  have hts := atoms_spec (ws := ws_M_opens) B.pre
  have hown : s.vm.findClass R_M = some m.cls := findClass_of_methodNamed B.named
  have hlocks := B.notSynchronized
  have hiM : ∀ w ∈ u_ws R_M F_M 39, w ∈ ws_M_opens := fun w h => List.mem_cons_of_mem _ (in_M w h)
  have lk118 := hts _ (List.mem_cons_of_mem _ k_M_118)
  have hS : va_S (aM q) s.heap s.heap [] := va_S.rf
  have hl := lv_entry ([.ref (q 0)]) (n := 3) (Nat.le_of_ble_eq_true rfl)
  rw [lg_entry_eq]
  generalize (lg_sl ([.ref (q 0)]) ++ List.replicate (3 - (lg_sl ([.ref (q 0)])).length) Slot.unset).toArray = ls at hl ⊢
  have hl : lv_has ls 3 [(0, .ref (q 0))] := hl
  obtain ⟨Q, hQ⟩ : ∃ Q, Q = MQ below (va_Qi (fun (r : Int32) (u : Unit) => post r) (fun u t => va_P (dC, dI) clZ (wM cI cL cZ q MA MD MF MG ML MN MP MT MV) t.heap) (aM q)) ([.ref (q 0)]).toArray s 0 0 (aM q) := ⟨_, rfl⟩
  rw [← hQ]
  have L4 : ∀ (Kx : Int32 → Prop) (n : Nat) (v1 : Int32) (v2 : Int32) (H : Heap) (locs : List Loc) (ls : Array Slot), lv_has ls 3 [(0, .ref (q 0)), (1, .int v1), (2, .int v2)] → va_P (dC, dI) clZ (wM cI cL cZ q MA MD MF MG ML MN MP MT MV) H → va_S (aM q) s.heap H locs → wp_M_opens_L4 MG MT Kx n v1 v2 → (∀ (x1 : Int32) (H : Heap) (locs : List Loc) (ls : Array Slot), lv_has ls 3 [(1, .int x1)] → va_P (dC, dI) clZ (wM cI cL cZ q MA MD MF MG ML MN MP MT MV) H → va_S (aM q) s.heap H locs → Kx x1 → W p l e (headSpec ws_M_opens rm_M_opens).room s m ([.ref (q 0)]).toArray below meth c H locs 0 0 Q (F0 m 34 ls [])) → W p l e (headSpec ws_M_opens rm_M_opens).room s m ([.ref (q 0)]).toArray below meth c H locs 0 0 Q (F0 m 4 ls []) := by
    intro Kx  n
    induction n with
    | zero =>
      intros
      rename_i hwp _
      exact hwp.elim
    | succ n4 ih =>
      intro v1 v2 H locs ls hl hP hS hwp hX
      rw [wp_M_opens_L4] at hwp
      refine lv_iload_n hx hb d_M_opens_4 rfl (lv_at hl 2 rfl) ?_
      refine lv_aload_n hx hb d_M_opens_5 rfl (lv_at hl 0 rfl) ?_
      refine va_get (D := (dC, dI)) (ci := 7) (v := .int (MG_records MG)) (C := R_M) (T := F_M) (N := 39) hx hb hts hiM hown hK hP 0 rfl rfl 12 (by decide) lk118 (fun _ h9 => h9) rfl d_M_opens_6 ?_
      refine lv_icmp_ge (tgt := 34) hx hb d_M_opens_9 (by decide) (fun hc => ?_) (fun hc => ?_)
      · rw [if_pos hc] at hwp
        exact hX (v1) _ _ _ (lv_sub hl [1] rfl) hP hS hwp
      · rw [if_neg hc] at hwp
        refine lv_iload_n hx hb d_M_opens_12 rfl (lv_at hl 1 rfl) ?_
        refine lv_aload_n hx hb d_M_opens_13 rfl (lv_at hl 0 rfl) ?_
        refine lv_iload_n hx hb d_M_opens_14 rfl (lv_at hl 2 rfl) ?_
        refine ncn_i (As := [.int v2]) (c_M_open hq (MA) (MD) (MF) (MG) (ML) (MN) (MP) (MT) (MV) (v2) _ hwp) (cwV 1 hts g_M_144 rfl rfl rfl hd_M_open ⟨Nat.le_of_ble_eq_true rfl, Nat.le_of_ble_eq_true rfl⟩) hx hb hml hown hts hK hP hS hl.1 d_M_opens_15 (va_recv (q := (R_M, F_M, 39)) hK hP (ci := 7) (q0 := 0) rfl rfl) rfl (lv_room (Nat.le_of_ble_eq_true rfl)) (Nat.zero_le _) (Nat.zero_le _) rfl (fun r1 u H locs hwp hP hS => ?_)
        have hP : va_P (dC, dI) clZ (wM cI cL cZ q MA MD MF MG ML MN MP MT MV) H := hP
        refine lv_if_eq (tgt := 25) hx hb d_M_opens_18 (by decide) (fun hc => ?_) (fun hc => ?_)
        · rw [if_pos hc] at hwp
          refine lv_iconst (v := 0) hx hb d_M_opens_25 (by decide) ?_
          refine lv_iadd hx hb d_M_opens_26 ?_
          refine lv_istore_n (lv' := [(1, .int (v1 + 0)), (0, .ref (q 0)), (2, .int v2)]) hx hb d_M_opens_27 rfl hl (by decide) rfl (fun ls hl => ?_)
          refine lv_iinc (k := 2) (v := (v2 + 1)) (lv' := [(2, .int (v2 + 1)), (1, .int (v1 + 0)), (0, .ref (q 0))]) hx hb d_M_opens_28 hl rfl (ii_1 _) (by decide) rfl (fun ls hl => ?_)
          refine lv_goto hx hb d_M_opens_31 (tgt := 4) (by decide) ?_
          exact ih ((v1 + 0)) ((v2 + 1)) _ _ _ (lv_sub hl [2, 1, 0] rfl) hP hS hwp hX
        · rw [if_neg hc] at hwp
          refine lv_iconst (v := 1) hx hb d_M_opens_21 (by decide) ?_
          refine lv_goto hx hb d_M_opens_22 (tgt := 26) (by decide) ?_
          refine lv_iadd hx hb d_M_opens_26 ?_
          refine lv_istore_n (lv' := [(1, .int (v1 + 1)), (0, .ref (q 0)), (2, .int v2)]) hx hb d_M_opens_27 rfl hl (by decide) rfl (fun ls hl => ?_)
          refine lv_iinc (k := 2) (v := (v2 + 1)) (lv' := [(2, .int (v2 + 1)), (1, .int (v1 + 1)), (0, .ref (q 0))]) hx hb d_M_opens_28 hl rfl (ii_1 _) (by decide) rfl (fun ls hl => ?_)
          refine lv_goto hx hb d_M_opens_31 (tgt := 4) (by decide) ?_
          exact ih ((v1 + 1)) ((v2 + 1)) _ _ _ (lv_sub hl [2, 1, 0] rfl) hP hS hwp hX
  rw [wp_M_opens] at hwp
  refine lv_iconst (v := 0) hx hb d_M_opens_0 (by decide) ?_
  refine lv_istore_n (lv' := [(1, .int 0), (0, .ref (q 0))]) hx hb d_M_opens_1 rfl hl (by decide) rfl (fun ls hl => ?_)
  refine lv_iconst (v := 0) hx hb d_M_opens_2 (by decide) ?_
  refine lv_istore_n (lv' := [(2, .int 0), (1, .int 0), (0, .ref (q 0))]) hx hb d_M_opens_3 rfl hl (by decide) rfl (fun ls hl => ?_)
  obtain ⟨e4, hwp⟩ := hwp
  refine L4 _  e4 (0) (0) _ _ _ (lv_sub hl [2, 1, 0] rfl) hP hS hwp (fun x2 H locs ls hl hP hS hwp => ?_)
  refine lv_iload_n hx hb d_M_opens_34 rfl (lv_at hl 0 rfl) ?_
  rw [hQ]
  exact W.iret (v := x2) hx hb hr (fun t ht hW => ⟨⟨x2, (), rfl, hwp, hp_of ht hP⟩, hS.F ht⟩) hS.2.2 d_M_opens_35
