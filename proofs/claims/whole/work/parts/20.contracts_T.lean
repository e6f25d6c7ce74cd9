set_option maxHeartbeats 4000000 in
set_option maxRecDepth 100000 in
theorem c_T_exists {l : Launch} {dC : Nat → ClassId} {dI : Nat → Nat → Nat} {cI cL cZ : ClassId} {q : Nat → Nat} (hq : iN q) (A : S_A) (D : S_D) (G : S_G) (K : S_K) (N : S_N) (P : S_P) (T : S_T) (a1 : Int32) (post : Int32 → Prop) (hwp : wp_T_exists T a1 post) : Met l y_T_exists ws_T_exists rm_T_exists (va_Pc [.ref (q 1), .int a1] (bN dC dI cI cL cZ q A D G K N P T)) (va_Qi (fun (r : Int32) (u : Unit) => post r) (fun u t => va_P (dC, dI) clZ (wN cI cL cZ q A D G K N P T) t.heap) (aN q)) 0 0 (aN q) := by
  refine Met.ofW (cc := b_T_exists) (maxL := 2) (ret := (some .boolean)) (by decide) rfl ?_
  intro p e s m args below meth c s₁ B hml hv
  obtain ⟨rfl, hP, hK⟩ := hv
  have hx := B.exec
  have hb := B.bytes
  have hr := B.returns
  have hts := atoms_spec (ws := ws_T_exists) B.pre
  have hown : s.vm.findClass R_T = some m.cls := findClass_of_methodNamed B.named
  have hlocks := B.notSynchronized
  have hiT : ∀ w ∈ u_ws R_T F_T 11, w ∈ ws_T_exists := fun w h => List.mem_cons_of_mem _ (in_T w h)
  have lk43 := hts _ (List.mem_cons_of_mem _ k_T_43)
  have hS : va_S (aN q) s.heap s.heap [] := va_S.rf
  have hl := lv_entry ([.ref (q 1), .int a1]) (n := 2) (Nat.le_of_ble_eq_true rfl)
  rw [lg_entry_eq]
  generalize (lg_sl ([.ref (q 1), .int a1]) ++ List.replicate (2 - (lg_sl ([.ref (q 1), .int a1])).length) Slot.unset).toArray = ls at hl ⊢
  have hl : lv_has ls 2 [(0, .ref (q 1)), (1, .int a1)] := hl
  obtain ⟨Q, hQ⟩ : ∃ Q, Q = MQ below (va_Qi (fun (r : Int32) (u : Unit) => post r) (fun u t => va_P (dC, dI) clZ (wN cI cL cZ q A D G K N P T) t.heap) (aN q)) ([.ref (q 1), .int a1]).toArray s 0 0 (aN q) := ⟨_, rfl⟩
  rw [← hQ]
  rw [wp_T_exists] at hwp
  refine lv_iload_n hx hb d_T_exists_0 rfl (lv_at hl 1 rfl) ?_
  refine lv_if_lt (tgt := 16) hx hb d_T_exists_1 (by decide) (fun hc => ?_) (fun hc => ?_)
  · rw [if_pos hc] at hwp
    refine lv_iconst (v := 0) hx hb d_T_exists_16 (by decide) ?_
    rw [hQ]
    exact W.zret (v := 0) hx hb hr rfl (fun t ht hW => ⟨⟨0, (), rfl, hwp, hp_of ht hP⟩, hS.F ht⟩) hS.2.2 d_T_exists_17
  · rw [if_neg hc] at hwp
    refine lv_iload_n hx hb d_T_exists_4 rfl (lv_at hl 1 rfl) ?_
    refine lv_aload_n hx hb d_T_exists_5 rfl (lv_at hl 0 rfl) ?_
    refine va_get (D := (dC, dI)) (ci := 1) (v := .int (T_count T)) (C := R_T) (T := F_T) (N := 11) hx hb hts hiT hown hK hP 1 rfl rfl 0 (by decide) lk43 (fun _ h9 => h9) rfl d_T_exists_6 ?_
    refine lv_icmp_ge (tgt := 16) hx hb d_T_exists_9 (by decide) (fun hc => ?_) (fun hc => ?_)
    · rw [if_pos hc] at hwp
      refine lv_iconst (v := 0) hx hb d_T_exists_16 (by decide) ?_
      rw [hQ]
      exact W.zret (v := 0) hx hb hr rfl (fun t ht hW => ⟨⟨0, (), rfl, hwp, hp_of ht hP⟩, hS.F ht⟩) hS.2.2 d_T_exists_17
    · rw [if_neg hc] at hwp
      refine lv_iconst (v := 1) hx hb d_T_exists_12 (by decide) ?_
      refine lv_goto hx hb d_T_exists_13 (tgt := 17) (by decide) ?_
      rw [hQ]
      exact W.zret (v := 1) hx hb hr rfl (fun t ht hW => ⟨⟨1, (), rfl, hwp, hp_of ht hP⟩, hS.F ht⟩) hS.2.2 d_T_exists_17

set_option maxHeartbeats 4000000 in
set_option maxRecDepth 100000 in
theorem c_T_isActive {l : Launch} {dC : Nat → ClassId} {dI : Nat → Nat → Nat} {cI cL cZ : ClassId} {q : Nat → Nat} (hq : iN q) (A : S_A) (D : S_D) (G : S_G) (K : S_K) (N : S_N) (P : S_P) (T : S_T) (a1 : Int32) (post : Int32 → Prop) (hwp : wp_T_isActive T a1 post) : Met l y_T_isActive ws_T_isActive rm_T_isActive (va_Pc [.ref (q 1), .int a1] (bN dC dI cI cL cZ q A D G K N P T)) (va_Qi (fun (r : Int32) (u : Unit) => post r) (fun u t => va_P (dC, dI) clZ (wN cI cL cZ q A D G K N P T) t.heap) (aN q)) 0 0 (aN q) := by
  refine Met.ofW (cc := b_T_isActive) (maxL := 2) (ret := (some .boolean)) (by decide) rfl ?_
  intro p e s m args below meth c s₁ B hml hv
  obtain ⟨rfl, hP, hK⟩ := hv
  have hx := B.exec
  have hb := B.bytes
  have hr := B.returns
  have hts := atoms_spec (ws := ws_T_isActive) B.pre
  have hown : s.vm.findClass R_T = some m.cls := findClass_of_methodNamed B.named
  have hlocks := B.notSynchronized
  have hiT : ∀ w ∈ u_ws R_T F_T 11, w ∈ ws_T_isActive := fun w h => List.mem_cons_of_mem _ (in_T w h)
  have lk21 := hts _ (List.mem_cons_of_mem _ k_T_21)
  have hS : va_S (aN q) s.heap s.heap [] := va_S.rf
  have hl := lv_entry ([.ref (q 1), .int a1]) (n := 2) (Nat.le_of_ble_eq_true rfl)
  rw [lg_entry_eq]
  generalize (lg_sl ([.ref (q 1), .int a1]) ++ List.replicate (2 - (lg_sl ([.ref (q 1), .int a1])).length) Slot.unset).toArray = ls at hl ⊢
  have hl : lv_has ls 2 [(0, .ref (q 1)), (1, .int a1)] := hl
  obtain ⟨Q, hQ⟩ : ∃ Q, Q = MQ below (va_Qi (fun (r : Int32) (u : Unit) => post r) (fun u t => va_P (dC, dI) clZ (wN cI cL cZ q A D G K N P T) t.heap) (aN q)) ([.ref (q 1), .int a1]).toArray s 0 0 (aN q) := ⟨_, rfl⟩
  rw [← hQ]
  rw [wp_T_isActive] at hwp
  refine lv_aload_n hx hb d_T_isActive_0 rfl (lv_at hl 0 rfl) ?_
  refine lv_iload_n hx hb d_T_isActive_1 rfl (lv_at hl 1 rfl) ?_
  refine ncn_i (As := [.int a1]) (c_T_exists hq (A) (D) (G) (K) (N) (P) (T) (a1) _ hwp) (cwV 1 hts g_T_47 rfl rfl rfl hd_T_exists ⟨Nat.le_of_ble_eq_true rfl, Nat.le_of_ble_eq_true rfl⟩) hx hb hml hown hts hK hP hS hl.1 d_T_isActive_2 (va_recv (q := (R_T, F_T, 11)) hK hP (ci := 1) (q0 := 1) rfl rfl) rfl (lv_room (Nat.le_of_ble_eq_true rfl)) (Nat.zero_le _) (Nat.zero_le _) rfl (fun r1 u H locs hwp hP hS => ?_)
  have hP : va_P (dC, dI) clZ (wN cI cL cZ q A D G K N P T) H := hP
  refine lv_if_eq (tgt := 22) hx hb d_T_isActive_5 (by decide) (fun hc => ?_) (fun hc => ?_)
  · rw [if_pos hc] at hwp
    refine lv_iconst (v := 0) hx hb d_T_isActive_22 (by decide) ?_
    rw [hQ]
    exact W.zret (v := 0) hx hb hr rfl (fun t ht hW => ⟨⟨0, (), rfl, hwp, hp_of ht hP⟩, hS.F ht⟩) hS.2.2 d_T_isActive_23
  · rw [if_neg hc] at hwp
    refine lv_aload_n hx hb d_T_isActive_8 rfl (lv_at hl 0 rfl) ?_
    refine va_get (D := (dC, dI)) (ci := 1) (v := .ref (q 10)) (C := R_T) (T := F_T) (N := 11) hx hb hts hiT hown hK hP 1 rfl rfl 4 (by decide) lk21 (fun _ h9 => h9) rfl d_T_isActive_9 ?_
    refine lv_iload_n hx hb d_T_isActive_12 rfl (lv_at hl 1 rfl) ?_
    refine va_iald hx hb hK hP 10 0 rfl rfl hwp.1 d_T_isActive_13 ?_
    have hwp := hwp.2
    refine lv_iconst (v := 1) hx hb d_T_isActive_14 (by decide) ?_
    refine lv_icmp_ne (tgt := 22) hx hb d_T_isActive_15 (by decide) (fun hc => ?_) (fun hc => ?_)
    · rw [if_neg hc] at hwp
      refine lv_iconst (v := 0) hx hb d_T_isActive_22 (by decide) ?_
      rw [hQ]
      exact W.zret (v := 0) hx hb hr rfl (fun t ht hW => ⟨⟨0, (), rfl, hwp, hp_of ht hP⟩, hS.F ht⟩) hS.2.2 d_T_isActive_23
    · rw [if_pos hc] at hwp
      refine lv_iconst (v := 1) hx hb d_T_isActive_18 (by decide) ?_
      refine lv_goto hx hb d_T_isActive_19 (tgt := 23) (by decide) ?_
      rw [hQ]
      exact W.zret (v := 1) hx hb hr rfl (fun t ht hW => ⟨⟨1, (), rfl, hwp, hp_of ht hP⟩, hS.F ht⟩) hS.2.2 d_T_isActive_23

set_option maxHeartbeats 4000000 in
set_option maxRecDepth 100000 in
theorem c_T_isTopLive {l : Launch} {dC : Nat → ClassId} {dI : Nat → Nat → Nat} {cI cL cZ : ClassId} {q : Nat → Nat} (hq : iN q) (A : S_A) (D : S_D) (G : S_G) (K : S_K) (N : S_N) (P : S_P) (T : S_T) (a1 : Int32) (post : Int32 → Prop) (hwp : wp_T_isTopLive T a1 post) : Met l y_T_isTopLive ws_T_isTopLive rm_T_isTopLive (va_Pc [.ref (q 1), .int a1] (bN dC dI cI cL cZ q A D G K N P T)) (va_Qi (fun (r : Int32) (u : Unit) => post r) (fun u t => va_P (dC, dI) clZ (wN cI cL cZ q A D G K N P T) t.heap) (aN q)) 0 0 (aN q) := by
  refine Met.ofW (cc := b_T_isTopLive) (maxL := 3) (ret := (some .boolean)) (by decide) rfl ?_
  intro p e s m args below meth c s₁ B hml hv
  obtain ⟨rfl, hP, hK⟩ := hv
  have hx := B.exec
  have hb := B.bytes
  have hr := B.returns
  have hts := atoms_spec (ws := ws_T_isTopLive) B.pre
  have hown : s.vm.findClass R_T = some m.cls := findClass_of_methodNamed B.named
  have hlocks := B.notSynchronized
  have hiT : ∀ w ∈ u_ws R_T F_T 11, w ∈ ws_T_isTopLive := fun w h => List.mem_cons_of_mem _ (in_T w h)
  have lk15 := hts _ (List.mem_cons_of_mem _ k_T_15)
  have lk21 := hts _ (List.mem_cons_of_mem _ k_T_21)
  have hS : va_S (aN q) s.heap s.heap [] := va_S.rf
  have hl := lv_entry ([.ref (q 1), .int a1]) (n := 3) (Nat.le_of_ble_eq_true rfl)
  rw [lg_entry_eq]
  generalize (lg_sl ([.ref (q 1), .int a1]) ++ List.replicate (3 - (lg_sl ([.ref (q 1), .int a1])).length) Slot.unset).toArray = ls at hl ⊢
  have hl : lv_has ls 3 [(0, .ref (q 1)), (1, .int a1)] := hl
  obtain ⟨Q, hQ⟩ : ∃ Q, Q = MQ below (va_Qi (fun (r : Int32) (u : Unit) => post r) (fun u t => va_P (dC, dI) clZ (wN cI cL cZ q A D G K N P T) t.heap) (aN q)) ([.ref (q 1), .int a1]).toArray s 0 0 (aN q) := ⟨_, rfl⟩
  rw [← hQ]
  rw [wp_T_isTopLive] at hwp
  refine lv_aload_n hx hb d_T_isTopLive_0 rfl (lv_at hl 0 rfl) ?_
  refine va_get (D := (dC, dI)) (ci := 1) (v := .ref (q 10)) (C := R_T) (T := F_T) (N := 11) hx hb hts hiT hown hK hP 1 rfl rfl 4 (by decide) lk21 (fun _ h9 => h9) rfl d_T_isTopLive_1 ?_
  refine lv_aload_n hx hb d_T_isTopLive_4 rfl (lv_at hl 0 rfl) ?_
  refine va_get (D := (dC, dI)) (ci := 1) (v := .ref (q 8)) (C := R_T) (T := F_T) (N := 11) hx hb hts hiT hown hK hP 1 rfl rfl 2 (by decide) lk15 (fun _ h9 => h9) rfl d_T_isTopLive_5 ?_
  refine lv_iload_n hx hb d_T_isTopLive_8 rfl (lv_at hl 1 rfl) ?_
  refine va_iald hx hb hK hP 8 0 rfl rfl hwp.1 d_T_isTopLive_9 ?_
  have hwp := hwp.2
  refine va_iald hx hb hK hP 10 0 rfl rfl hwp.1 d_T_isTopLive_10 ?_
  have hwp := hwp.2
  refine lv_istore_n (lv' := [(2, .int ((T_state T) (Int32.toNatClampNeg ((T_top T) (Int32.toNatClampNeg a1))))), (0, .ref (q 1)), (1, .int a1)]) hx hb d_T_isTopLive_11 rfl hl (by decide) rfl (fun ls hl => ?_)
  refine lv_iload_n hx hb d_T_isTopLive_12 rfl (lv_at hl 0 rfl) ?_
  refine lv_iconst (v := 1) hx hb d_T_isTopLive_13 (by decide) ?_
  refine lv_icmp_eq (tgt := 22) hx hb d_T_isTopLive_14 (by decide) (fun hc => ?_) (fun hc => ?_)
  · rw [if_pos hc] at hwp
    refine lv_iconst (v := 1) hx hb d_T_isTopLive_22 (by decide) ?_
    refine lv_goto hx hb d_T_isTopLive_23 (tgt := 27) (by decide) ?_
    rw [hQ]
    exact W.zret (v := 1) hx hb hr rfl (fun t ht hW => ⟨⟨1, (), rfl, hwp, hp_of ht hP⟩, hS.F ht⟩) hS.2.2 d_T_isTopLive_27
  · rw [if_neg hc] at hwp
    refine lv_iload_n hx hb d_T_isTopLive_17 rfl (lv_at hl 0 rfl) ?_
    refine lv_iconst (v := 2) hx hb d_T_isTopLive_18 (by decide) ?_
    refine lv_icmp_ne (tgt := 26) hx hb d_T_isTopLive_19 (by decide) (fun hc => ?_) (fun hc => ?_)
    · rw [if_neg hc] at hwp
      refine lv_iconst (v := 0) hx hb d_T_isTopLive_26 (by decide) ?_
      rw [hQ]
      exact W.zret (v := 0) hx hb hr rfl (fun t ht hW => ⟨⟨0, (), rfl, hwp, hp_of ht hP⟩, hS.F ht⟩) hS.2.2 d_T_isTopLive_27
    · rw [if_pos hc] at hwp
      refine lv_iconst (v := 1) hx hb d_T_isTopLive_22 (by decide) ?_
      refine lv_goto hx hb d_T_isTopLive_23 (tgt := 27) (by decide) ?_
      rw [hQ]
      exact W.zret (v := 1) hx hb hr rfl (fun t ht hW => ⟨⟨1, (), rfl, hwp, hp_of ht hP⟩, hS.F ht⟩) hS.2.2 d_T_isTopLive_27

set_option maxHeartbeats 4000000 in
set_option maxRecDepth 100000 in
theorem c_T_isLive {l : Launch} {dC : Nat → ClassId} {dI : Nat → Nat → Nat} {cI cL cZ : ClassId} {q : Nat → Nat} (hq : iN q) (A : S_A) (D : S_D) (G : S_G) (K : S_K) (N : S_N) (P : S_P) (T : S_T) (a1 : Int32) (post : Int32 → Prop) (hwp : wp_T_isLive T a1 post) : Met l y_T_isLive ws_T_isLive rm_T_isLive (va_Pc [.ref (q 1), .int a1] (bN dC dI cI cL cZ q A D G K N P T)) (va_Qi (fun (r : Int32) (u : Unit) => post r) (fun u t => va_P (dC, dI) clZ (wN cI cL cZ q A D G K N P T) t.heap) (aN q)) 0 0 (aN q) := by
  refine Met.ofW (cc := b_T_isLive) (maxL := 2) (ret := (some .boolean)) (by decide) rfl ?_
  intro p e s m args below meth c s₁ B hml hv
  obtain ⟨rfl, hP, hK⟩ := hv
  have hx := B.exec
  have hb := B.bytes
  have hr := B.returns
  have hts := atoms_spec (ws := ws_T_isLive) B.pre
  have hown : s.vm.findClass R_T = some m.cls := findClass_of_methodNamed B.named
  have hlocks := B.notSynchronized
  have hiT : ∀ w ∈ u_ws R_T F_T 11, w ∈ ws_T_isLive := fun w h => List.mem_cons_of_mem _ (in_T w h)
  have lk21 := hts _ (List.mem_cons_of_mem _ k_T_21)
  have hS : va_S (aN q) s.heap s.heap [] := va_S.rf
  have hl := lv_entry ([.ref (q 1), .int a1]) (n := 2) (Nat.le_of_ble_eq_true rfl)
  rw [lg_entry_eq]
  generalize (lg_sl ([.ref (q 1), .int a1]) ++ List.replicate (2 - (lg_sl ([.ref (q 1), .int a1])).length) Slot.unset).toArray = ls at hl ⊢
  have hl : lv_has ls 2 [(0, .ref (q 1)), (1, .int a1)] := hl
  obtain ⟨Q, hQ⟩ : ∃ Q, Q = MQ below (va_Qi (fun (r : Int32) (u : Unit) => post r) (fun u t => va_P (dC, dI) clZ (wN cI cL cZ q A D G K N P T) t.heap) (aN q)) ([.ref (q 1), .int a1]).toArray s 0 0 (aN q) := ⟨_, rfl⟩
  rw [← hQ]
  rw [wp_T_isLive] at hwp
  refine lv_aload_n hx hb d_T_isLive_0 rfl (lv_at hl 0 rfl) ?_
  refine lv_iload_n hx hb d_T_isLive_1 rfl (lv_at hl 1 rfl) ?_
  refine ncn_i (As := [.int a1]) (c_T_exists hq (A) (D) (G) (K) (N) (P) (T) (a1) _ hwp) (cwV 1 hts g_T_47 rfl rfl rfl hd_T_exists ⟨Nat.le_of_ble_eq_true rfl, Nat.le_of_ble_eq_true rfl⟩) hx hb hml hown hts hK hP hS hl.1 d_T_isLive_2 (va_recv (q := (R_T, F_T, 11)) hK hP (ci := 1) (q0 := 1) rfl rfl) rfl (lv_room (Nat.le_of_ble_eq_true rfl)) (Nat.zero_le _) (Nat.zero_le _) rfl (fun r1 u H locs hwp hP hS => ?_)
  have hP : va_P (dC, dI) clZ (wN cI cL cZ q A D G K N P T) H := hP
  refine lv_if_eq (tgt := 32) hx hb d_T_isLive_5 (by decide) (fun hc => ?_) (fun hc => ?_)
  · rw [if_pos hc] at hwp
    refine lv_iconst (v := 0) hx hb d_T_isLive_32 (by decide) ?_
    rw [hQ]
    exact W.zret (v := 0) hx hb hr rfl (fun t ht hW => ⟨⟨0, (), rfl, hwp, hp_of ht hP⟩, hS.F ht⟩) hS.2.2 d_T_isLive_33
  · rw [if_neg hc] at hwp
    refine lv_aload_n hx hb d_T_isLive_8 rfl (lv_at hl 0 rfl) ?_
    refine va_get (D := (dC, dI)) (ci := 1) (v := .ref (q 10)) (C := R_T) (T := F_T) (N := 11) hx hb hts hiT hown hK hP 1 rfl rfl 4 (by decide) lk21 (fun _ h9 => h9) rfl d_T_isLive_9 ?_
    refine lv_iload_n hx hb d_T_isLive_12 rfl (lv_at hl 1 rfl) ?_
    refine va_iald hx hb hK hP 10 0 rfl rfl hwp.1 d_T_isLive_13 ?_
    have hwp := hwp.2
    refine lv_iconst (v := 1) hx hb d_T_isLive_14 (by decide) ?_
    refine lv_icmp_eq (tgt := 28) hx hb d_T_isLive_15 (by decide) (fun hc => ?_) (fun hc => ?_)
    · rw [if_pos hc] at hwp
      refine lv_iconst (v := 1) hx hb d_T_isLive_28 (by decide) ?_
      refine lv_goto hx hb d_T_isLive_29 (tgt := 33) (by decide) ?_
      rw [hQ]
      exact W.zret (v := 1) hx hb hr rfl (fun t ht hW => ⟨⟨1, (), rfl, hwp, hp_of ht hP⟩, hS.F ht⟩) hS.2.2 d_T_isLive_33
    · rw [if_neg hc] at hwp
      refine lv_aload_n hx hb d_T_isLive_18 rfl (lv_at hl 0 rfl) ?_
      refine va_get (D := (dC, dI)) (ci := 1) (v := .ref (q 10)) (C := R_T) (T := F_T) (N := 11) hx hb hts hiT hown hK hP 1 rfl rfl 4 (by decide) lk21 (fun _ h9 => h9) rfl d_T_isLive_19 ?_
      refine lv_iload_n hx hb d_T_isLive_22 rfl (lv_at hl 1 rfl) ?_
      refine va_iald hx hb hK hP 10 0 rfl rfl hwp.1 d_T_isLive_23 ?_
      have hwp := hwp.2
      refine lv_iconst (v := 2) hx hb d_T_isLive_24 (by decide) ?_
      refine lv_icmp_ne (tgt := 32) hx hb d_T_isLive_25 (by decide) (fun hc => ?_) (fun hc => ?_)
      · rw [if_neg hc] at hwp
        refine lv_iconst (v := 0) hx hb d_T_isLive_32 (by decide) ?_
        rw [hQ]
        exact W.zret (v := 0) hx hb hr rfl (fun t ht hW => ⟨⟨0, (), rfl, hwp, hp_of ht hP⟩, hS.F ht⟩) hS.2.2 d_T_isLive_33
      · rw [if_pos hc] at hwp
        refine lv_iconst (v := 1) hx hb d_T_isLive_28 (by decide) ?_
        refine lv_goto hx hb d_T_isLive_29 (tgt := 33) (by decide) ?_
        rw [hQ]
        exact W.zret (v := 1) hx hb hr rfl (fun t ht hW => ⟨⟨1, (), rfl, hwp, hp_of ht hP⟩, hS.F ht⟩) hS.2.2 d_T_isLive_33

set_option maxHeartbeats 4000000 in
set_option maxRecDepth 100000 in
theorem c_T_liveCount {l : Launch} {dC : Nat → ClassId} {dI : Nat → Nat → Nat} {cI cL cZ : ClassId} {q : Nat → Nat} (hq : iN q) (A : S_A) (D : S_D) (G : S_G) (K : S_K) (N : S_N) (P : S_P) (T : S_T)  (post : Int32 → Prop) (hwp : wp_T_liveCount T post) : Met l y_T_liveCount ws_T_liveCount rm_T_liveCount (va_Pc [.ref (q 1)] (bN dC dI cI cL cZ q A D G K N P T)) (va_Qi (fun (r : Int32) (u : Unit) => post r) (fun u t => va_P (dC, dI) clZ (wN cI cL cZ q A D G K N P T) t.heap) (aN q)) 0 0 (aN q) := by
  refine Met.ofW (cc := b_T_liveCount) (maxL := 3) (ret := (some .int)) (by decide) rfl ?_
  intro p e s m args below meth c s₁ B hml hv
  obtain ⟨rfl, hP, hK⟩ := hv
  have hx := B.exec
  have hb := B.bytes
  have hr := B.returns
  have hts := atoms_spec (ws := ws_T_liveCount) B.pre
  have hown : s.vm.findClass R_T = some m.cls := findClass_of_methodNamed B.named
  have hlocks := B.notSynchronized
  have hiT : ∀ w ∈ u_ws R_T F_T 11, w ∈ ws_T_liveCount := fun w h => List.mem_cons_of_mem _ (in_T w h)
  have lk43 := hts _ (List.mem_cons_of_mem _ k_T_43)
  have hS : va_S (aN q) s.heap s.heap [] := va_S.rf
  have hl := lv_entry ([.ref (q 1)]) (n := 3) (Nat.le_of_ble_eq_true rfl)
  rw [lg_entry_eq]
  generalize (lg_sl ([.ref (q 1)]) ++ List.replicate (3 - (lg_sl ([.ref (q 1)])).length) Slot.unset).toArray = ls at hl ⊢
  have hl : lv_has ls 3 [(0, .ref (q 1))] := hl
  obtain ⟨Q, hQ⟩ : ∃ Q, Q = MQ below (va_Qi (fun (r : Int32) (u : Unit) => post r) (fun u t => va_P (dC, dI) clZ (wN cI cL cZ q A D G K N P T) t.heap) (aN q)) ([.ref (q 1)]).toArray s 0 0 (aN q) := ⟨_, rfl⟩
  rw [← hQ]
  have L4 : ∀ (Kx : Int32 → Prop) (n : Nat) (v1 : Int32) (v2 : Int32) (H : Heap) (locs : List Loc) (ls : Array Slot), lv_has ls 3 [(0, .ref (q 1)), (1, .int v1), (2, .int v2)] → va_P (dC, dI) clZ (wN cI cL cZ q A D G K N P T) H → va_S (aN q) s.heap H locs → wp_T_liveCount_L4 T Kx n v1 v2 → (∀ (x1 : Int32) (H : Heap) (locs : List Loc) (ls : Array Slot), lv_has ls 3 [(1, .int x1)] → va_P (dC, dI) clZ (wN cI cL cZ q A D G K N P T) H → va_S (aN q) s.heap H locs → Kx x1 → W p l e (headSpec ws_T_liveCount rm_T_liveCount).room s m ([.ref (q 1)]).toArray below meth c H locs 0 0 Q (F0 m 29 ls [])) → W p l e (headSpec ws_T_liveCount rm_T_liveCount).room s m ([.ref (q 1)]).toArray below meth c H locs 0 0 Q (F0 m 4 ls []) := by
    intro Kx  n
    induction n with
    | zero =>
      intros
      rename_i hwp _
      exact hwp.elim
    | succ n4 ih =>
      intro v1 v2 H locs ls hl hP hS hwp hX
      rw [wp_T_liveCount_L4] at hwp
      refine lv_iload_n hx hb d_T_liveCount_4 rfl (lv_at hl 2 rfl) ?_
      refine lv_aload_n hx hb d_T_liveCount_5 rfl (lv_at hl 0 rfl) ?_
      refine va_get (D := (dC, dI)) (ci := 1) (v := .int (T_count T)) (C := R_T) (T := F_T) (N := 11) hx hb hts hiT hown hK hP 1 rfl rfl 0 (by decide) lk43 (fun _ h9 => h9) rfl d_T_liveCount_6 ?_
      refine lv_icmp_ge (tgt := 29) hx hb d_T_liveCount_9 (by decide) (fun hc => ?_) (fun hc => ?_)
      · rw [if_pos hc] at hwp
        exact hX (v1) _ _ _ (lv_sub hl [1] rfl) hP hS hwp
      · rw [if_neg hc] at hwp
        refine lv_aload_n hx hb d_T_liveCount_12 rfl (lv_at hl 0 rfl) ?_
        refine lv_iload_n hx hb d_T_liveCount_13 rfl (lv_at hl 2 rfl) ?_
        refine ncn_i (As := [.int v2]) (c_T_isLive hq (A) (D) (G) (K) (N) (P) (T) (v2) _ hwp) (cwV 1 hts g_T_55 rfl rfl rfl hd_T_isLive ⟨Nat.le_of_ble_eq_true rfl, Nat.le_of_ble_eq_true rfl⟩) hx hb hml hown hts hK hP hS hl.1 d_T_liveCount_14 (va_recv (q := (R_T, F_T, 11)) hK hP (ci := 1) (q0 := 1) rfl rfl) rfl (lv_room (Nat.le_of_ble_eq_true rfl)) (Nat.zero_le _) (Nat.zero_le _) rfl (fun r1 u H locs hwp hP hS => ?_)
        have hP : va_P (dC, dI) clZ (wN cI cL cZ q A D G K N P T) H := hP
        refine lv_if_eq (tgt := 23) hx hb d_T_liveCount_17 (by decide) (fun hc => ?_) (fun hc => ?_)
        · rw [if_pos hc] at hwp
          refine lv_iinc (k := 2) (v := (v2 + 1)) (lv' := [(2, .int (v2 + 1)), (0, .ref (q 1)), (1, .int v1)]) hx hb d_T_liveCount_23 hl rfl (ii_1 _) (by decide) rfl (fun ls hl => ?_)
          refine lv_goto hx hb d_T_liveCount_26 (tgt := 4) (by decide) ?_
          exact ih (v1) ((v2 + 1)) _ _ _ (lv_sub hl [1, 2, 0] rfl) hP hS hwp hX
        · rw [if_neg hc] at hwp
          refine lv_iinc (k := 1) (v := (v1 + 1)) (lv' := [(1, .int (v1 + 1)), (0, .ref (q 1)), (2, .int v2)]) hx hb d_T_liveCount_20 hl rfl (ii_1 _) (by decide) rfl (fun ls hl => ?_)
          refine lv_iinc (k := 2) (v := (v2 + 1)) (lv' := [(2, .int (v2 + 1)), (1, .int (v1 + 1)), (0, .ref (q 1))]) hx hb d_T_liveCount_23 hl rfl (ii_1 _) (by decide) rfl (fun ls hl => ?_)
          refine lv_goto hx hb d_T_liveCount_26 (tgt := 4) (by decide) ?_
          exact ih ((v1 + 1)) ((v2 + 1)) _ _ _ (lv_sub hl [2, 1, 0] rfl) hP hS hwp hX
  rw [wp_T_liveCount] at hwp
  refine lv_iconst (v := 0) hx hb d_T_liveCount_0 (by decide) ?_
  refine lv_istore_n (lv' := [(1, .int 0), (0, .ref (q 1))]) hx hb d_T_liveCount_1 rfl hl (by decide) rfl (fun ls hl => ?_)
  refine lv_iconst (v := 0) hx hb d_T_liveCount_2 (by decide) ?_
  refine lv_istore_n (lv' := [(2, .int 0), (1, .int 0), (0, .ref (q 1))]) hx hb d_T_liveCount_3 rfl hl (by decide) rfl (fun ls hl => ?_)
  obtain ⟨e4, hwp⟩ := hwp
  refine L4 _  e4 (0) (0) _ _ _ (lv_sub hl [2, 1, 0] rfl) hP hS hwp (fun x2 H locs ls hl hP hS hwp => ?_)
  refine lv_iload_n hx hb d_T_liveCount_29 rfl (lv_at hl 0 rfl) ?_
  rw [hQ]
  exact W.iret (v := x2) hx hb hr (fun t ht hW => ⟨⟨x2, (), rfl, hwp, hp_of ht hP⟩, hS.F ht⟩) hS.2.2 d_T_liveCount_30

set_option maxHeartbeats 4000000 in
set_option maxRecDepth 100000 in
theorem c_T_add {l : Launch} {dC : Nat → ClassId} {dI : Nat → Nat → Nat} {cI cL cZ : ClassId} {q : Nat → Nat} (hq : iN q) (A : S_A) (D : S_D) (G : S_G) (K : S_K) (N : S_N) (P : S_P) (T : S_T) (a1 : Int32) (a2 : Int32) (post : Int32 → S_T → Prop) (hwp : wp_T_add T a1 a2 post) : Met l y_T_add ws_T_add rm_T_add (va_Pc [.ref (q 1), .int a1, .int a2] (bN dC dI cI cL cZ q A D G K N P T)) (va_Qi (fun (r : Int32) (u : S_T) => post r u) (fun u t => va_P (dC, dI) clZ (wN cI cL cZ q A D G K N P (u)) t.heap) (aN q)) 0 0 (aN q) := by
  refine Met.ofW (cc := b_T_add) (maxL := 5) (ret := (some .int)) (by decide) rfl ?_
  intro p e s m args below meth c s₁ B hml hv
  obtain ⟨rfl, hP, hK⟩ := hv
  have hx := B.exec
  have hb := B.bytes
  have hr := B.returns
  have hts := atoms_spec (ws := ws_T_add) B.pre
  have hown : s.vm.findClass R_T = some m.cls := findClass_of_methodNamed B.named
  have hlocks := B.notSynchronized
  have hiT : ∀ w ∈ u_ws R_T F_T 11, w ∈ ws_T_add := fun w h => List.mem_cons_of_mem _ (in_T w h)
  have lk9 := hts _ (List.mem_cons_of_mem _ k_T_9)
  have lk15 := hts _ (List.mem_cons_of_mem _ k_T_15)
  have lk18 := hts _ (List.mem_cons_of_mem _ k_T_18)
  have lk21 := hts _ (List.mem_cons_of_mem _ k_T_21)
  have lk24 := hts _ (List.mem_cons_of_mem _ k_T_24)
  have lk27 := hts _ (List.mem_cons_of_mem _ k_T_27)
  have lk43 := hts _ (List.mem_cons_of_mem _ k_T_43)
  have hS : va_S (aN q) s.heap s.heap [] := va_S.rf
  have hl := lv_entry ([.ref (q 1), .int a1, .int a2]) (n := 5) (Nat.le_of_ble_eq_true rfl)
  rw [lg_entry_eq]
  generalize (lg_sl ([.ref (q 1), .int a1, .int a2]) ++ List.replicate (5 - (lg_sl ([.ref (q 1), .int a1, .int a2])).length) Slot.unset).toArray = ls at hl ⊢
  have hl : lv_has ls 5 [(0, .ref (q 1)), (1, .int a1), (2, .int a2)] := hl
  obtain ⟨Q, hQ⟩ : ∃ Q, Q = MQ below (va_Qi (fun (r : Int32) (u : S_T) => post r u) (fun u t => va_P (dC, dI) clZ (wN cI cL cZ q A D G K N P (u)) t.heap) (aN q)) ([.ref (q 1), .int a1, .int a2]).toArray s 0 0 (aN q) := ⟨_, rfl⟩
  rw [← hQ]
  rw [wp_T_add] at hwp
  refine lv_aload_n hx hb d_T_add_0 rfl (lv_at hl 0 rfl) ?_
  refine va_get (D := (dC, dI)) (ci := 1) (v := .int (T_count T)) (C := R_T) (T := F_T) (N := 11) hx hb hts hiT hown hK hP 1 rfl rfl 0 (by decide) lk43 (fun _ h9 => h9) rfl d_T_add_1 ?_
  refine lv_istore_n (lv' := [(3, .int (T_count T)), (0, .ref (q 1)), (1, .int a1), (2, .int a2)]) hx hb d_T_add_4 rfl hl (by decide) rfl (fun ls hl => ?_)
  refine lv_aload_n hx hb d_T_add_5 rfl (lv_at hl 1 rfl) ?_
  refine lv_iload_n hx hb d_T_add_6 rfl (lv_at hl 2 rfl) ?_
  refine ncn_i (As := [.int a1]) (c_T_exists hq (A) (D) (G) (K) (N) (P) (T) (a1) _ hwp) (cwV 1 hts g_T_47 rfl rfl rfl hd_T_exists ⟨Nat.le_of_ble_eq_true rfl, Nat.le_of_ble_eq_true rfl⟩) hx hb hml hown hts hK hP hS hl.1 d_T_add_7 (va_recv (q := (R_T, F_T, 11)) hK hP (ci := 1) (q0 := 1) rfl rfl) rfl (lv_room (Nat.le_of_ble_eq_true rfl)) (Nat.zero_le _) (Nat.zero_le _) rfl (fun r1 u H locs hwp hP hS => ?_)
  have hP : va_P (dC, dI) clZ (wN cI cL cZ q A D G K N P T) H := hP
  refine jn_split hwp (fun jk18 hjk hwp => ?_)
  have J18 : ∀ (b2 : Int32) (H : Heap) (locs : List Loc) (ls : Array Slot), lv_has ls 5 [(0, .ref (q 1)), (1, .int a1), (2, .int a2), (3, .int (T_count T))] → va_P (dC, dI) clZ (wN cI cL cZ q A D G K N P T) H → va_S (aN q) s.heap H locs → jk18 b2 → W p l e (headSpec ws_T_add rm_T_add).room s m ([.ref (q 1), .int a1, .int a2]).toArray below meth c H locs 0 0 Q (F0 m 18 ls [.int b2]) := by
    intro b2 H locs ls hl hP hS hwp
    rw [hjk] at hwp
    refine lv_istore (lv' := [(4, .int b2), (0, .ref (q 1)), (1, .int a1), (2, .int a2), (3, .int (T_count T))]) hx hb d_T_add_18 hl (by decide) rfl (fun ls hl => ?_)
    refine lv_aload_n hx hb d_T_add_20 rfl (lv_at hl 1 rfl) ?_
    refine va_get (D := (dC, dI)) (ci := 1) (v := .ref (q 7)) (C := R_T) (T := F_T) (N := 11) hx hb hts hiT hown hK hP 1 rfl rfl 1 (by decide) lk9 (fun _ h9 => h9) rfl d_T_add_21 ?_
    refine lv_iload_n hx hb d_T_add_24 rfl (lv_at hl 4 rfl) ?_
    refine lv_iload_n hx hb d_T_add_25 rfl (lv_at hl 2 rfl) ?_
    refine va_iast hx hb hK hP (dN hq) hS 7 0 rfl rfl hwp.1 d_T_add_26 (fun H locs hP _ hS => ?_)
    have hwp := hwp.2
    have hP : va_P (dC, dI) clZ (wN cI cL cZ q A D G K N P (T_parent' T (upd (T_parent T) (Int32.toNatClampNeg (T_count T)) a1))) H := hP
    refine lv_aload_n hx hb d_T_add_27 rfl (lv_at hl 1 rfl) ?_
    refine va_get (D := (dC, dI)) (ci := 1) (v := .ref (q 8)) (C := R_T) (T := F_T) (N := 11) hx hb hts hiT hown hK hP 1 rfl rfl 2 (by decide) lk15 (fun _ h9 => h9) rfl d_T_add_28 ?_
    refine lv_iload_n hx hb d_T_add_31 rfl (lv_at hl 4 rfl) ?_
    refine lv_iload hx hb d_T_add_32 (lv_at hl 0 rfl) ?_
    refine jn_split hwp (fun jk47 hjk hwp => ?_)
    have J47 : ∀ (b3 : Int32) (H : Heap) (locs : List Loc) (ls : Array Slot), lv_has ls 5 [(0, .ref (q 1)), (1, .int a1), (2, .int a2), (3, .int (T_count T)), (4, .int b2)] → va_P (dC, dI) clZ (wN cI cL cZ q A D G K N P (T_parent' T (upd (T_parent T) (Int32.toNatClampNeg (T_count T)) a1))) H → va_S (aN q) s.heap H locs → jk47 b3 → W p l e (headSpec ws_T_add rm_T_add).room s m ([.ref (q 1), .int a1, .int a2]).toArray below meth c H locs 0 0 Q (F0 m 47 ls [.int b3, .int (T_count T), .ref (q 8)]) := by
      intro b3 H locs ls hl hP hS hwp
      rw [hjk] at hwp
      refine va_iast hx hb hK hP (dN hq) hS 8 0 rfl rfl hwp.1 d_T_add_47 (fun H locs hP _ hS => ?_)
      have hwp := hwp.2
      have hP : va_P (dC, dI) clZ (wN cI cL cZ q A D G K N P (T_top' (T_parent' T (upd (T_parent T) (Int32.toNatClampNeg (T_count T)) a1)) (upd (T_top T) (Int32.toNatClampNeg (T_count T)) b3))) H := hP
      refine lv_aload_n hx hb d_T_add_48 rfl (lv_at hl 0 rfl) ?_
      refine va_get (D := (dC, dI)) (ci := 1) (v := .ref (q 9)) (C := R_T) (T := F_T) (N := 11) hx hb hts hiT hown hK hP 1 rfl rfl 3 (by decide) lk18 (fun _ h9 => h9) rfl d_T_add_49 ?_
      refine lv_iload_n hx hb d_T_add_52 rfl (lv_at hl 3 rfl) ?_
      refine lv_iload hx hb d_T_add_53 (lv_at hl 4 rfl) ?_
      refine jn_split hwp (fun jk70 hjk hwp => ?_)
      have J70 : ∀ (b4 : Int32) (H : Heap) (locs : List Loc) (ls : Array Slot), lv_has ls 5 [(0, .ref (q 1)), (1, .int a1), (2, .int a2), (3, .int (T_count T)), (4, .int b2)] → va_P (dC, dI) clZ (wN cI cL cZ q A D G K N P (T_top' (T_parent' T (upd (T_parent T) (Int32.toNatClampNeg (T_count T)) a1)) (upd (T_top T) (Int32.toNatClampNeg (T_count T)) b3))) H → va_S (aN q) s.heap H locs → jk70 b4 → W p l e (headSpec ws_T_add rm_T_add).room s m ([.ref (q 1), .int a1, .int a2]).toArray below meth c H locs 0 0 Q (F0 m 70 ls [.int b4, .int (T_count T), .ref (q 9)]) := by
        intro b4 H locs ls hl hP hS hwp
        rw [hjk] at hwp
        refine va_iast hx hb hK hP (dN hq) hS 9 0 rfl rfl hwp.1 d_T_add_70 (fun H locs hP _ hS => ?_)
        have hwp := hwp.2
        have hP : va_P (dC, dI) clZ (wN cI cL cZ q A D G K N P (T_depth' (T_top' (T_parent' T (upd (T_parent T) (Int32.toNatClampNeg (T_count T)) a1)) (upd (T_top T) (Int32.toNatClampNeg (T_count T)) b3)) (upd (T_depth T) (Int32.toNatClampNeg (T_count T)) b4))) H := hP
        refine lv_aload_n hx hb d_T_add_71 rfl (lv_at hl 0 rfl) ?_
        refine va_get (D := (dC, dI)) (ci := 1) (v := .ref (q 12)) (C := R_T) (T := F_T) (N := 11) hx hb hts hiT hown hK hP 1 rfl rfl 6 (by decide) lk27 (fun _ h9 => h9) rfl d_T_add_72 ?_
        refine lv_iload_n hx hb d_T_add_75 rfl (lv_at hl 3 rfl) ?_
        refine lv_iload hx hb d_T_add_76 (lv_at hl 4 rfl) ?_
        refine jn_split hwp (fun jk97 hjk hwp => ?_)
        have J97 : ∀ (b5 : Int64) (H : Heap) (locs : List Loc) (ls : Array Slot), lv_has ls 5 [(0, .ref (q 1)), (2, .int a2), (3, .int (T_count T))] → va_P (dC, dI) clZ (wN cI cL cZ q A D G K N P (T_depth' (T_top' (T_parent' T (upd (T_parent T) (Int32.toNatClampNeg (T_count T)) a1)) (upd (T_top T) (Int32.toNatClampNeg (T_count T)) b3)) (upd (T_depth T) (Int32.toNatClampNeg (T_count T)) b4))) H → va_S (aN q) s.heap H locs → jk97 b5 → W p l e (headSpec ws_T_add rm_T_add).room s m ([.ref (q 1), .int a1, .int a2]).toArray below meth c H locs 0 0 Q (F0 m 97 ls [.long b5, .int (T_count T), .ref (q 12)]) := by
          intro b5 H locs ls hl hP hS hwp
          rw [hjk] at hwp
          refine va_last hx hb hK hP (dN hq) hS 12 1 rfl rfl hwp.1 d_T_add_97 (fun H locs hP _ hS => ?_)
          have hwp := hwp.2
          have hP : va_P (dC, dI) clZ (wN cI cL cZ q A D G K N P (T_lineage' (T_depth' (T_top' (T_parent' T (upd (T_parent T) (Int32.toNatClampNeg (T_count T)) a1)) (upd (T_top T) (Int32.toNatClampNeg (T_count T)) b3)) (upd (T_depth T) (Int32.toNatClampNeg (T_count T)) b4)) (vp_updL (T_lineage T) (Int32.toNatClampNeg (T_count T)) b5))) H := hP
          refine lv_aload_n hx hb d_T_add_98 rfl (lv_at hl 0 rfl) ?_
          refine va_get (D := (dC, dI)) (ci := 1) (v := .ref (q 10)) (C := R_T) (T := F_T) (N := 11) hx hb hts hiT hown hK hP 1 rfl rfl 4 (by decide) lk21 (fun _ h9 => h9) rfl d_T_add_99 ?_
          refine lv_iload_n hx hb d_T_add_102 rfl (lv_at hl 2 rfl) ?_
          refine lv_iconst (v := 1) hx hb d_T_add_103 (by decide) ?_
          refine va_iast hx hb hK hP (dN hq) hS 10 0 rfl rfl hwp.1 d_T_add_104 (fun H locs hP _ hS => ?_)
          have hwp := hwp.2
          have hP : va_P (dC, dI) clZ (wN cI cL cZ q A D G K N P (T_state' (T_lineage' (T_depth' (T_top' (T_parent' T (upd (T_parent T) (Int32.toNatClampNeg (T_count T)) a1)) (upd (T_top T) (Int32.toNatClampNeg (T_count T)) b3)) (upd (T_depth T) (Int32.toNatClampNeg (T_count T)) b4)) (vp_updL (T_lineage T) (Int32.toNatClampNeg (T_count T)) b5)) (upd (T_state T) (Int32.toNatClampNeg (T_count T)) 1))) H := hP
          refine lv_aload_n hx hb d_T_add_105 rfl (lv_at hl 0 rfl) ?_
          refine va_get (D := (dC, dI)) (ci := 1) (v := .ref (q 11)) (C := R_T) (T := F_T) (N := 11) hx hb hts hiT hown hK hP 1 rfl rfl 5 (by decide) lk24 (fun _ h9 => h9) rfl d_T_add_106 ?_
          refine lv_iload_n hx hb d_T_add_109 rfl (lv_at hl 2 rfl) ?_
          refine lv_iload_n hx hb d_T_add_110 rfl (lv_at hl 1 rfl) ?_
          refine va_iast hx hb hK hP (dN hq) hS 11 0 rfl rfl hwp.1 d_T_add_111 (fun H locs hP _ hS => ?_)
          have hwp := hwp.2
          have hP : va_P (dC, dI) clZ (wN cI cL cZ q A D G K N P (T_begun' (T_state' (T_lineage' (T_depth' (T_top' (T_parent' T (upd (T_parent T) (Int32.toNatClampNeg (T_count T)) a1)) (upd (T_top T) (Int32.toNatClampNeg (T_count T)) b3)) (upd (T_depth T) (Int32.toNatClampNeg (T_count T)) b4)) (vp_updL (T_lineage T) (Int32.toNatClampNeg (T_count T)) b5)) (upd (T_state T) (Int32.toNatClampNeg (T_count T)) 1)) (upd (T_begun T) (Int32.toNatClampNeg (T_count T)) a2))) H := hP
          refine lv_aload_n hx hb d_T_add_112 rfl (lv_at hl 0 rfl) ?_
          refine lv_dup hx hb d_T_add_113 rfl ?_
          refine va_get (D := (dC, dI)) (ci := 1) (v := .int (T_count T)) (C := R_T) (T := F_T) (N := 11) hx hb hts hiT hown hK hP 1 rfl rfl 0 (by decide) lk43 (fun _ h9 => h9) rfl d_T_add_114 ?_
          refine lv_iconst (v := 1) hx hb d_T_add_117 (by decide) ?_
          refine lv_iadd hx hb d_T_add_118 ?_
          refine va_put (D := (dC, dI)) (ci := 1) (v := .int ((T_count T) + 1)) (ty := .int) (C := R_T) (T := F_T) (N := 11) hx hb hts hiT ty_T ty_T_ok nmx_T hown hK hP (dN hq) hS 1 rfl rfl 0 (by decide) lk43 (fun _ h9 => h9) rfl (by decide +kernel) rfl rfl (Nat.le_of_ble_eq_true rfl) d_T_add_119 (fun H locs hP _ hS => ?_)
          have hP : va_P (dC, dI) clZ (wN cI cL cZ q A D G K N P (T_count' (T_begun' (T_state' (T_lineage' (T_depth' (T_top' (T_parent' T (upd (T_parent T) (Int32.toNatClampNeg (T_count T)) a1)) (upd (T_top T) (Int32.toNatClampNeg (T_count T)) b3)) (upd (T_depth T) (Int32.toNatClampNeg (T_count T)) b4)) (vp_updL (T_lineage T) (Int32.toNatClampNeg (T_count T)) b5)) (upd (T_state T) (Int32.toNatClampNeg (T_count T)) 1)) (upd (T_begun T) (Int32.toNatClampNeg (T_count T)) a2)) ((T_count T) + 1))) H := hP
          refine lv_iload_n hx hb d_T_add_122 rfl (lv_at hl 2 rfl) ?_
          rw [hQ]
          exact W.iret (v := (T_count T)) hx hb hr (fun t ht hW => ⟨⟨(T_count T), (T_count' (T_begun' (T_state' (T_lineage' (T_depth' (T_top' (T_parent' T (upd (T_parent T) (Int32.toNatClampNeg (T_count T)) a1)) (upd (T_top T) (Int32.toNatClampNeg (T_count T)) b3)) (upd (T_depth T) (Int32.toNatClampNeg (T_count T)) b4)) (vp_updL (T_lineage T) (Int32.toNatClampNeg (T_count T)) b5)) (upd (T_state T) (Int32.toNatClampNeg (T_count T)) 1)) (upd (T_begun T) (Int32.toNatClampNeg (T_count T)) a2)) ((T_count T) + 1)), rfl, hwp, hp_of ht hP⟩, hS.F ht⟩) hS.2.2 d_T_add_123
        clear hjk
        refine lv_if_eq (tgt := 87) hx hb d_T_add_78 (by decide) (fun hc => ?_) (fun hc => ?_)
        · rw [if_pos hc] at hwp
          refine lv_aload_n hx hb d_T_add_87 rfl (lv_at hl 0 rfl) ?_
          refine va_get (D := (dC, dI)) (ci := 1) (v := .ref (q 12)) (C := R_T) (T := F_T) (N := 11) hx hb hts hiT hown hK hP 1 rfl rfl 6 (by decide) lk27 (fun _ h9 => h9) rfl d_T_add_88 ?_
          refine lv_iload_n hx hb d_T_add_91 rfl (lv_at hl 1 rfl) ?_
          refine va_lald hx hb hK hP 12 1 rfl rfl hwp.1 d_T_add_92 ?_
          have hwp := hwp.2
          refine lv_lconst (v := (1 : Int64)) hx hb d_T_add_93 (by decide) ?_
          refine lv_iload_n hx hb d_T_add_94 rfl (lv_at hl 3 rfl) ?_
          refine lv_lshl hx hb d_T_add_95 rfl ?_
          refine lv_lor hx hb d_T_add_96 ?_
          exact J97 ((((T_lineage T) (Int32.toNatClampNeg a1)) ||| ((1 : Int64) <<< (Int32.toInt64 (T_count T) &&& 63)))) _ _ _ (lv_sub hl [0, 2, 3] rfl) hP hS hwp
        · rw [if_neg hc] at hwp
          refine lv_lconst (v := (1 : Int64)) hx hb d_T_add_81 (by decide) ?_
          refine lv_iload_n hx hb d_T_add_82 rfl (lv_at hl 3 rfl) ?_
          refine lv_lshl hx hb d_T_add_83 rfl ?_
          refine lv_goto hx hb d_T_add_84 (tgt := 97) (by decide) ?_
          exact J97 (((1 : Int64) <<< (Int32.toInt64 (T_count T) &&& 63))) _ _ _ (lv_sub hl [0, 2, 3] rfl) hP hS hwp
      clear hjk
      refine lv_if_eq (tgt := 62) hx hb d_T_add_55 (by decide) (fun hc => ?_) (fun hc => ?_)
      · rw [if_pos hc] at hwp
        refine lv_aload_n hx hb d_T_add_62 rfl (lv_at hl 0 rfl) ?_
        refine va_get (D := (dC, dI)) (ci := 1) (v := .ref (q 9)) (C := R_T) (T := F_T) (N := 11) hx hb hts hiT hown hK hP 1 rfl rfl 3 (by decide) lk18 (fun _ h9 => h9) rfl d_T_add_63 ?_
        refine lv_iload_n hx hb d_T_add_66 rfl (lv_at hl 1 rfl) ?_
        refine va_iald hx hb hK hP 9 0 rfl rfl hwp.1 d_T_add_67 ?_
        have hwp := hwp.2
        refine lv_iconst (v := 1) hx hb d_T_add_68 (by decide) ?_
        refine lv_iadd hx hb d_T_add_69 ?_
        exact J70 ((((T_depth T) (Int32.toNatClampNeg a1)) + 1)) _ _ _ (lv_sub hl [0, 1, 2, 3, 4] rfl) hP hS hwp
      · rw [if_neg hc] at hwp
        refine lv_iconst (v := 1) hx hb d_T_add_58 (by decide) ?_
        refine lv_goto hx hb d_T_add_59 (tgt := 70) (by decide) ?_
        exact J70 (1) _ _ _ (lv_sub hl [0, 1, 2, 3, 4] rfl) hP hS hwp
    clear hjk
    refine lv_if_eq (tgt := 41) hx hb d_T_add_34 (by decide) (fun hc => ?_) (fun hc => ?_)
    · rw [if_pos hc] at hwp
      refine lv_aload_n hx hb d_T_add_41 rfl (lv_at hl 1 rfl) ?_
      refine va_get (D := (dC, dI)) (ci := 1) (v := .ref (q 8)) (C := R_T) (T := F_T) (N := 11) hx hb hts hiT hown hK hP 1 rfl rfl 2 (by decide) lk15 (fun _ h9 => h9) rfl d_T_add_42 ?_
      refine lv_iload_n hx hb d_T_add_45 rfl (lv_at hl 2 rfl) ?_
      refine va_iald hx hb hK hP 8 0 rfl rfl hwp.1 d_T_add_46 ?_
      have hwp := hwp.2
      exact J47 (((T_top T) (Int32.toNatClampNeg a1))) _ _ _ (lv_sub hl [1, 2, 3, 4, 0] rfl) hP hS hwp
    · rw [if_neg hc] at hwp
      refine lv_iload_n hx hb d_T_add_37 rfl (lv_at hl 4 rfl) ?_
      refine lv_goto hx hb d_T_add_38 (tgt := 47) (by decide) ?_
      exact J47 ((T_count T)) _ _ _ (lv_sub hl [1, 2, 3, 4, 0] rfl) hP hS hwp
  clear hjk
  refine lv_if_ne (tgt := 17) hx hb d_T_add_10 (by decide) (fun hc => ?_) (fun hc => ?_)
  · rw [if_neg hc] at hwp
    refine lv_iconst (v := 0) hx hb d_T_add_17 (by decide) ?_
    exact J18 (0) _ _ _ (lv_sub hl [1, 2, 3, 0] rfl) hP hS hwp
  · rw [if_pos hc] at hwp
    refine lv_iconst (v := 1) hx hb d_T_add_13 (by decide) ?_
    refine lv_goto hx hb d_T_add_14 (tgt := 18) (by decide) ?_
    exact J18 (1) _ _ _ (lv_sub hl [1, 2, 3, 0] rfl) hP hS hwp

set_option maxHeartbeats 4000000 in
set_option maxRecDepth 100000 in
theorem c_T_liveChildren {l : Launch} {dC : Nat → ClassId} {dI : Nat → Nat → Nat} {cI cL cZ : ClassId} {q : Nat → Nat} (hq : iN q) (A : S_A) (D : S_D) (G : S_G) (K : S_K) (N : S_N) (P : S_P) (T : S_T) (a1 : Int32) (post : Int64 → Prop) (hwp : wp_T_liveChildren T a1 post) : Met l y_T_liveChildren ws_T_liveChildren rm_T_liveChildren (va_Pc [.ref (q 1), .int a1] (bN dC dI cI cL cZ q A D G K N P T)) (va_Ql (fun (r : Int64) (u : Unit) => post r) (fun u t => va_P (dC, dI) clZ (wN cI cL cZ q A D G K N P T) t.heap) (aN q)) 0 0 (aN q) := by
  refine Met.ofW (cc := b_T_liveChildren) (maxL := 5) (ret := (some .long)) (by decide) rfl ?_
  intro p e s m args below meth c s₁ B hml hv
  obtain ⟨rfl, hP, hK⟩ := hv
  have hx := B.exec
  have hb := B.bytes
  have hr := B.returns
  have hts := atoms_spec (ws := ws_T_liveChildren) B.pre
  have hown : s.vm.findClass R_T = some m.cls := findClass_of_methodNamed B.named
  have hlocks := B.notSynchronized
  have hiT : ∀ w ∈ u_ws R_T F_T 11, w ∈ ws_T_liveChildren := fun w h => List.mem_cons_of_mem _ (in_T w h)
  have lk9 := hts _ (List.mem_cons_of_mem _ k_T_9)
  have lk43 := hts _ (List.mem_cons_of_mem _ k_T_43)
  have hS : va_S (aN q) s.heap s.heap [] := va_S.rf
  have hl := lv_entry ([.ref (q 1), .int a1]) (n := 5) (Nat.le_of_ble_eq_true rfl)
  rw [lg_entry_eq]
  generalize (lg_sl ([.ref (q 1), .int a1]) ++ List.replicate (5 - (lg_sl ([.ref (q 1), .int a1])).length) Slot.unset).toArray = ls at hl ⊢
  have hl : lv_has ls 5 [(0, .ref (q 1)), (1, .int a1)] := hl
  obtain ⟨Q, hQ⟩ : ∃ Q, Q = MQ below (va_Ql (fun (r : Int64) (u : Unit) => post r) (fun u t => va_P (dC, dI) clZ (wN cI cL cZ q A D G K N P T) t.heap) (aN q)) ([.ref (q 1), .int a1]).toArray s 0 0 (aN q) := ⟨_, rfl⟩
  rw [← hQ]
  have L7 : ∀ (Kx : Int64 → Prop) (v1 : Int32) (n : Nat) (v2 : Int64) (v4 : Int32) (H : Heap) (locs : List Loc) (ls : Array Slot), lv_has ls 5 [(0, .ref (q 1)), (1, .int v1), (2, .long v2), (4, .int v4)] → va_P (dC, dI) clZ (wN cI cL cZ q A D G K N P T) H → va_S (aN q) s.heap H locs → wp_T_liveChildren_L7 T v1 Kx n v2 v4 → (∀ (x2 : Int64) (H : Heap) (locs : List Loc) (ls : Array Slot), lv_has ls 5 [(2, .long x2)] → va_P (dC, dI) clZ (wN cI cL cZ q A D G K N P T) H → va_S (aN q) s.heap H locs → Kx x2 → W p l e (headSpec ws_T_liveChildren rm_T_liveChildren).room s m ([.ref (q 1), .int a1]).toArray below meth c H locs 0 0 Q (F0 m 49 ls [])) → W p l e (headSpec ws_T_liveChildren rm_T_liveChildren).room s m ([.ref (q 1), .int a1]).toArray below meth c H locs 0 0 Q (F0 m 7 ls []) := by
    intro Kx v1 n
    induction n with
    | zero =>
      intros
      rename_i hwp _
      exact hwp.elim
    | succ n7 ih =>
      intro v2 v4 H locs ls hl hP hS hwp hX
      rw [wp_T_liveChildren_L7] at hwp
      refine lv_iload hx hb d_T_liveChildren_7 (lv_at hl 3 rfl) ?_
      refine lv_aload_n hx hb d_T_liveChildren_9 rfl (lv_at hl 0 rfl) ?_
      refine va_get (D := (dC, dI)) (ci := 1) (v := .int (T_count T)) (C := R_T) (T := F_T) (N := 11) hx hb hts hiT hown hK hP 1 rfl rfl 0 (by decide) lk43 (fun _ h9 => h9) rfl d_T_liveChildren_10 ?_
      refine lv_icmp_ge (tgt := 49) hx hb d_T_liveChildren_13 (by decide) (fun hc => ?_) (fun hc => ?_)
      · rw [if_pos hc] at hwp
        exact hX (v2) _ _ _ (lv_sub hl [2] rfl) hP hS hwp
      · rw [if_neg hc] at hwp
        refine lv_aload_n hx hb d_T_liveChildren_16 rfl (lv_at hl 0 rfl) ?_
        refine va_get (D := (dC, dI)) (ci := 1) (v := .ref (q 7)) (C := R_T) (T := F_T) (N := 11) hx hb hts hiT hown hK hP 1 rfl rfl 1 (by decide) lk9 (fun _ h9 => h9) rfl d_T_liveChildren_17 ?_
        refine lv_iload hx hb d_T_liveChildren_20 (lv_at hl 3 rfl) ?_
        refine va_iald hx hb hK hP 7 0 rfl rfl hwp.1 d_T_liveChildren_22 ?_
        have hwp := hwp.2
        refine lv_iload_n hx hb d_T_liveChildren_23 rfl (lv_at hl 1 rfl) ?_
        refine lv_icmp_ne (tgt := 43) hx hb d_T_liveChildren_24 (by decide) (fun hc => ?_) (fun hc => ?_)
        · rw [if_neg hc] at hwp
          refine lv_iinc (k := 3) (v := (v4 + 1)) (lv' := [(4, .int (v4 + 1)), (0, .ref (q 1)), (1, .int v1), (2, .long v2)]) hx hb d_T_liveChildren_43 hl rfl (ii_1 _) (by decide) rfl (fun ls hl => ?_)
          refine lv_goto hx hb d_T_liveChildren_46 (tgt := 7) (by decide) ?_
          exact ih (v2) ((v4 + 1)) _ _ _ (lv_sub hl [1, 2, 3, 0] rfl) hP hS hwp hX
        · rw [if_pos hc] at hwp
          refine lv_aload_n hx hb d_T_liveChildren_27 rfl (lv_at hl 0 rfl) ?_
          refine lv_iload hx hb d_T_liveChildren_28 (lv_at hl 3 rfl) ?_
          refine ncn_i (As := [.int v4]) (c_T_isLive hq (A) (D) (G) (K) (N) (P) (T) (v4) _ hwp) (cwV 1 hts g_T_55 rfl rfl rfl hd_T_isLive ⟨Nat.le_of_ble_eq_true rfl, Nat.le_of_ble_eq_true rfl⟩) hx hb hml hown hts hK hP hS hl.1 d_T_liveChildren_30 (va_recv (q := (R_T, F_T, 11)) hK hP (ci := 1) (q0 := 1) rfl rfl) rfl (lv_room (Nat.le_of_ble_eq_true rfl)) (Nat.zero_le _) (Nat.zero_le _) rfl (fun r1 u H locs hwp hP hS => ?_)
          have hP : va_P (dC, dI) clZ (wN cI cL cZ q A D G K N P T) H := hP
          refine lv_if_eq (tgt := 43) hx hb d_T_liveChildren_33 (by decide) (fun hc => ?_) (fun hc => ?_)
          · rw [if_pos hc] at hwp
            refine lv_iinc (k := 3) (v := (v4 + 1)) (lv' := [(4, .int (v4 + 1)), (0, .ref (q 1)), (1, .int v1), (2, .long v2)]) hx hb d_T_liveChildren_43 hl rfl (ii_1 _) (by decide) rfl (fun ls hl => ?_)
            refine lv_goto hx hb d_T_liveChildren_46 (tgt := 7) (by decide) ?_
            exact ih (v2) ((v4 + 1)) _ _ _ (lv_sub hl [1, 2, 3, 0] rfl) hP hS hwp hX
          · rw [if_neg hc] at hwp
            refine lv_lload_n hx hb d_T_liveChildren_36 rfl (lv_at hl 2 rfl) ?_
            refine lv_lconst (v := (1 : Int64)) hx hb d_T_liveChildren_37 (by decide) ?_
            refine lv_iload hx hb d_T_liveChildren_38 (lv_at hl 3 rfl) ?_
            refine lv_lshl hx hb d_T_liveChildren_40 rfl ?_
            refine lv_lor hx hb d_T_liveChildren_41 ?_
            refine lv_lstore_n (lv' := [(2, .long (v2 ||| ((1 : Int64) <<< (Int32.toInt64 v4 &&& 63)))), (0, .ref (q 1)), (1, .int v1), (4, .int v4)]) hx hb d_T_liveChildren_42 rfl hl (by decide) rfl (fun ls hl => ?_)
            refine lv_iinc (k := 3) (v := (v4 + 1)) (lv' := [(4, .int (v4 + 1)), (2, .long (v2 ||| ((1 : Int64) <<< (Int32.toInt64 v4 &&& 63)))), (0, .ref (q 1)), (1, .int v1)]) hx hb d_T_liveChildren_43 hl rfl (ii_1 _) (by decide) rfl (fun ls hl => ?_)
            refine lv_goto hx hb d_T_liveChildren_46 (tgt := 7) (by decide) ?_
            exact ih ((v2 ||| ((1 : Int64) <<< (Int32.toInt64 v4 &&& 63)))) ((v4 + 1)) _ _ _ (lv_sub hl [2, 3, 1, 0] rfl) hP hS hwp hX
  rw [wp_T_liveChildren] at hwp
  refine lv_lconst (v := (0 : Int64)) hx hb d_T_liveChildren_0 (by decide) ?_
  refine lv_lstore_n (lv' := [(2, .long (0 : Int64)), (0, .ref (q 1)), (1, .int a1)]) hx hb d_T_liveChildren_1 rfl hl (by decide) rfl (fun ls hl => ?_)
  refine lv_iload_n hx hb d_T_liveChildren_2 rfl (lv_at hl 2 rfl) ?_
  refine lv_iconst (v := 1) hx hb d_T_liveChildren_3 (by decide) ?_
  refine lv_iadd hx hb d_T_liveChildren_4 ?_
  refine lv_istore (lv' := [(4, .int (a1 + 1)), (2, .long (0 : Int64)), (0, .ref (q 1)), (1, .int a1)]) hx hb d_T_liveChildren_5 hl (by decide) rfl (fun ls hl => ?_)
  obtain ⟨e7, hwp⟩ := hwp
  refine L7 _ (a1) e7 ((0 : Int64)) ((a1 + 1)) _ _ _ (lv_sub hl [2, 3, 1, 0] rfl) hP hS hwp (fun x2 H locs ls hl hP hS hwp => ?_)
  refine lv_lload_n hx hb d_T_liveChildren_49 rfl (lv_at hl 0 rfl) ?_
  rw [hQ]
  exact W.lret (v := x2) hx hb hr (fun t ht hW => ⟨⟨x2, (), rfl, hwp, hp_of ht hP⟩, hS.F ht⟩) hS.2.2 d_T_liveChildren_50

set_option maxHeartbeats 4000000 in
set_option maxRecDepth 100000 in
theorem c_T_isBusy {l : Launch} {dC : Nat → ClassId} {dI : Nat → Nat → Nat} {cI cL cZ : ClassId} {q : Nat → Nat} (hq : iN q) (A : S_A) (D : S_D) (G : S_G) (K : S_K) (N : S_N) (P : S_P) (T : S_T) (a1 : Int32) (post : Int32 → Prop) (hwp : wp_T_isBusy T a1 post) : Met l y_T_isBusy ws_T_isBusy rm_T_isBusy (va_Pc [.ref (q 1), .int a1] (bN dC dI cI cL cZ q A D G K N P T)) (va_Qi (fun (r : Int32) (u : Unit) => post r) (fun u t => va_P (dC, dI) clZ (wN cI cL cZ q A D G K N P T) t.heap) (aN q)) 0 0 (aN q) := by
  refine Met.ofW (cc := b_T_isBusy) (maxL := 2) (ret := (some .boolean)) (by decide) rfl ?_
  intro p e s m args below meth c s₁ B hml hv
  obtain ⟨rfl, hP, hK⟩ := hv
  have hx := B.exec
  have hb := B.bytes
  have hr := B.returns
  have hts := atoms_spec (ws := ws_T_isBusy) B.pre
  have hown : s.vm.findClass R_T = some m.cls := findClass_of_methodNamed B.named
  have hlocks := B.notSynchronized
  have hS : va_S (aN q) s.heap s.heap [] := va_S.rf
  have hl := lv_entry ([.ref (q 1), .int a1]) (n := 2) (Nat.le_of_ble_eq_true rfl)
  rw [lg_entry_eq]
  generalize (lg_sl ([.ref (q 1), .int a1]) ++ List.replicate (2 - (lg_sl ([.ref (q 1), .int a1])).length) Slot.unset).toArray = ls at hl ⊢
  have hl : lv_has ls 2 [(0, .ref (q 1)), (1, .int a1)] := hl
  obtain ⟨Q, hQ⟩ : ∃ Q, Q = MQ below (va_Qi (fun (r : Int32) (u : Unit) => post r) (fun u t => va_P (dC, dI) clZ (wN cI cL cZ q A D G K N P T) t.heap) (aN q)) ([.ref (q 1), .int a1]).toArray s 0 0 (aN q) := ⟨_, rfl⟩
  rw [← hQ]
  rw [wp_T_isBusy] at hwp
  refine lv_aload_n hx hb d_T_isBusy_0 rfl (lv_at hl 0 rfl) ?_
  refine lv_iload_n hx hb d_T_isBusy_1 rfl (lv_at hl 1 rfl) ?_
  refine ncn_l (As := [.int a1]) (c_T_liveChildren hq (A) (D) (G) (K) (N) (P) (T) (a1) _ hwp) (cwV 1 hts g_T_51 rfl rfl rfl hd_T_liveChildren ⟨Nat.le_of_ble_eq_true rfl, Nat.le_of_ble_eq_true rfl⟩) hx hb hml hown hts hK hP hS hl.1 d_T_isBusy_2 (va_recv (q := (R_T, F_T, 11)) hK hP (ci := 1) (q0 := 1) rfl rfl) rfl (lv_room (Nat.le_of_ble_eq_true rfl)) (Nat.zero_le _) (Nat.zero_le _) rfl (fun r1 u H locs hwp hP hS => ?_)
  have hP : va_P (dC, dI) clZ (wN cI cL cZ q A D G K N P T) H := hP
  refine lv_lconst (v := (0 : Int64)) hx hb d_T_isBusy_5 (by decide) ?_
  refine W.lcmp hx hb d_T_isBusy_6 ?_
  refine lv_if_eq (tgt := 14) hx hb d_T_isBusy_7 (by decide) (fun hc => ?_) (fun hc => ?_)
  · rw [if_pos hc] at hwp
    refine lv_iconst (v := 0) hx hb d_T_isBusy_14 (by decide) ?_
    rw [hQ]
    exact W.zret (v := 0) hx hb hr rfl (fun t ht hW => ⟨⟨0, (), rfl, hwp, hp_of ht hP⟩, hS.F ht⟩) hS.2.2 d_T_isBusy_15
  · rw [if_neg hc] at hwp
    refine lv_iconst (v := 1) hx hb d_T_isBusy_10 (by decide) ?_
    refine lv_goto hx hb d_T_isBusy_11 (tgt := 15) (by decide) ?_
    rw [hQ]
    exact W.zret (v := 1) hx hb hr rfl (fun t ht hW => ⟨⟨1, (), rfl, hwp, hp_of ht hP⟩, hS.F ht⟩) hS.2.2 d_T_isBusy_15

set_option maxHeartbeats 4000000 in
set_option maxRecDepth 100000 in
theorem c_T_setRequest {l : Launch} {dC : Nat → ClassId} {dI : Nat → Nat → Nat} {cI cL cZ : ClassId} {q : Nat → Nat} (hq : iN q) (A : S_A) (D : S_D) (G : S_G) (K : S_K) (N : S_N) (P : S_P) (T : S_T) (a1 : Int32) (a2 : Int32) (a3 : Int32) (a4 : Int32) (a5 : Int32) (post : S_T → Prop) (hwp : wp_T_setRequest T a1 a2 a3 a4 a5 post) : Met l y_T_setRequest ws_T_setRequest rm_T_setRequest (va_Pc [.ref (q 1), .int a1, .int a2, .int a3, .int a4, .int a5] (bN dC dI cI cL cZ q A D G K N P T)) (va_Qv (fun (u : S_T) => post u) (fun u t => va_P (dC, dI) clZ (wN cI cL cZ q A D G K N P (u)) t.heap) (aN q)) 0 0 (aN q) := by
  refine Met.ofW (cc := b_T_setRequest) (maxL := 6) (ret := none) (by decide) rfl ?_
  intro p e s m args below meth c s₁ B hml hv
  obtain ⟨rfl, hP, hK⟩ := hv
  have hx := B.exec
  have hb := B.bytes
  have hr := B.returns
  have hts := atoms_spec (ws := ws_T_setRequest) B.pre
  have hown : s.vm.findClass R_T = some m.cls := findClass_of_methodNamed B.named
  have hlocks := B.notSynchronized
  have hiT : ∀ w ∈ u_ws R_T F_T 11, w ∈ ws_T_setRequest := fun w h => List.mem_cons_of_mem _ (in_T w h)
  have lk31 := hts _ (List.mem_cons_of_mem _ k_T_31)
  have lk34 := hts _ (List.mem_cons_of_mem _ k_T_34)
  have lk37 := hts _ (List.mem_cons_of_mem _ k_T_37)
  have lk40 := hts _ (List.mem_cons_of_mem _ k_T_40)
  have hS : va_S (aN q) s.heap s.heap [] := va_S.rf
  have hl := lv_entry ([.ref (q 1), .int a1, .int a2, .int a3, .int a4, .int a5]) (n := 6) (Nat.le_of_ble_eq_true rfl)
  rw [lg_entry_eq]
  generalize (lg_sl ([.ref (q 1), .int a1, .int a2, .int a3, .int a4, .int a5]) ++ List.replicate (6 - (lg_sl ([.ref (q 1), .int a1, .int a2, .int a3, .int a4, .int a5])).length) Slot.unset).toArray = ls at hl ⊢
  have hl : lv_has ls 6 [(0, .ref (q 1)), (1, .int a1), (2, .int a2), (3, .int a3), (4, .int a4), (5, .int a5)] := hl
  obtain ⟨Q, hQ⟩ : ∃ Q, Q = MQ below (va_Qv (fun (u : S_T) => post u) (fun u t => va_P (dC, dI) clZ (wN cI cL cZ q A D G K N P (u)) t.heap) (aN q)) ([.ref (q 1), .int a1, .int a2, .int a3, .int a4, .int a5]).toArray s 0 0 (aN q) := ⟨_, rfl⟩
  rw [← hQ]
  rw [wp_T_setRequest] at hwp
  refine lv_aload_n hx hb d_T_setRequest_0 rfl (lv_at hl 0 rfl) ?_
  refine va_get (D := (dC, dI)) (ci := 1) (v := .ref (q 13)) (C := R_T) (T := F_T) (N := 11) hx hb hts hiT hown hK hP 1 rfl rfl 7 (by decide) lk31 (fun _ h9 => h9) rfl d_T_setRequest_1 ?_
  refine lv_iload_n hx hb d_T_setRequest_4 rfl (lv_at hl 1 rfl) ?_
  refine lv_iload_n hx hb d_T_setRequest_5 rfl (lv_at hl 2 rfl) ?_
  refine va_iast hx hb hK hP (dN hq) hS 13 0 rfl rfl hwp.1 d_T_setRequest_6 (fun H locs hP _ hS => ?_)
  have hwp := hwp.2
  have hP : va_P (dC, dI) clZ (wN cI cL cZ q A D G K N P (T_kind' T (upd (T_kind T) (Int32.toNatClampNeg a1) a2))) H := hP
  refine lv_aload_n hx hb d_T_setRequest_7 rfl (lv_at hl 0 rfl) ?_
  refine va_get (D := (dC, dI)) (ci := 1) (v := .ref (q 14)) (C := R_T) (T := F_T) (N := 11) hx hb hts hiT hown hK hP 1 rfl rfl 8 (by decide) lk34 (fun _ h9 => h9) rfl d_T_setRequest_8 ?_
  refine lv_iload_n hx hb d_T_setRequest_11 rfl (lv_at hl 1 rfl) ?_
  refine lv_iload_n hx hb d_T_setRequest_12 rfl (lv_at hl 3 rfl) ?_
  refine va_iast hx hb hK hP (dN hq) hS 14 0 rfl rfl hwp.1 d_T_setRequest_13 (fun H locs hP _ hS => ?_)
  have hwp := hwp.2
  have hP : va_P (dC, dI) clZ (wN cI cL cZ q A D G K N P (T_low' (T_kind' T (upd (T_kind T) (Int32.toNatClampNeg a1) a2)) (upd (T_low T) (Int32.toNatClampNeg a1) a3))) H := hP
  refine lv_aload_n hx hb d_T_setRequest_14 rfl (lv_at hl 0 rfl) ?_
  refine va_get (D := (dC, dI)) (ci := 1) (v := .ref (q 15)) (C := R_T) (T := F_T) (N := 11) hx hb hts hiT hown hK hP 1 rfl rfl 9 (by decide) lk37 (fun _ h9 => h9) rfl d_T_setRequest_15 ?_
  refine lv_iload_n hx hb d_T_setRequest_18 rfl (lv_at hl 1 rfl) ?_
  refine lv_iload hx hb d_T_setRequest_19 (lv_at hl 4 rfl) ?_
  refine va_iast hx hb hK hP (dN hq) hS 15 0 rfl rfl hwp.1 d_T_setRequest_21 (fun H locs hP _ hS => ?_)
  have hwp := hwp.2
  have hP : va_P (dC, dI) clZ (wN cI cL cZ q A D G K N P (T_high' (T_low' (T_kind' T (upd (T_kind T) (Int32.toNatClampNeg a1) a2)) (upd (T_low T) (Int32.toNatClampNeg a1) a3)) (upd (T_high T) (Int32.toNatClampNeg a1) a4))) H := hP
  refine lv_aload_n hx hb d_T_setRequest_22 rfl (lv_at hl 0 rfl) ?_
  refine va_get (D := (dC, dI)) (ci := 1) (v := .ref (q 16)) (C := R_T) (T := F_T) (N := 11) hx hb hts hiT hown hK hP 1 rfl rfl 10 (by decide) lk40 (fun _ h9 => h9) rfl d_T_setRequest_23 ?_
  refine lv_iload_n hx hb d_T_setRequest_26 rfl (lv_at hl 1 rfl) ?_
  refine lv_iload hx hb d_T_setRequest_27 (lv_at hl 5 rfl) ?_
  refine va_iast hx hb hK hP (dN hq) hS 16 0 rfl rfl hwp.1 d_T_setRequest_29 (fun H locs hP _ hS => ?_)
  have hwp := hwp.2
  have hP : va_P (dC, dI) clZ (wN cI cL cZ q A D G K N P (T_newValue' (T_high' (T_low' (T_kind' T (upd (T_kind T) (Int32.toNatClampNeg a1) a2)) (upd (T_low T) (Int32.toNatClampNeg a1) a3)) (upd (T_high T) (Int32.toNatClampNeg a1) a4)) (upd (T_newValue T) (Int32.toNatClampNeg a1) a5))) H := hP
  rw [hQ]
  exact W.vret hx hb hr (fun t ht hW => ⟨⟨(T_newValue' (T_high' (T_low' (T_kind' T (upd (T_kind T) (Int32.toNatClampNeg a1) a2)) (upd (T_low T) (Int32.toNatClampNeg a1) a3)) (upd (T_high T) (Int32.toNatClampNeg a1) a4)) (upd (T_newValue T) (Int32.toNatClampNeg a1) a5)), rfl, hwp, hp_of ht hP⟩, hS.F ht⟩) hS.2.2 d_T_setRequest_30

set_option maxHeartbeats 4000000 in
set_option maxRecDepth 100000 in
theorem c_T_isWaiting {l : Launch} {dC : Nat → ClassId} {dI : Nat → Nat → Nat} {cI cL cZ : ClassId} {q : Nat → Nat} (hq : iN q) (A : S_A) (D : S_D) (G : S_G) (K : S_K) (N : S_N) (P : S_P) (T : S_T) (a1 : Int32) (post : Int32 → Prop) (hwp : wp_T_isWaiting T a1 post) : Met l y_T_isWaiting ws_T_isWaiting rm_T_isWaiting (va_Pc [.ref (q 1), .int a1] (bN dC dI cI cL cZ q A D G K N P T)) (va_Qi (fun (r : Int32) (u : Unit) => post r) (fun u t => va_P (dC, dI) clZ (wN cI cL cZ q A D G K N P T) t.heap) (aN q)) 0 0 (aN q) := by
  refine Met.ofW (cc := b_T_isWaiting) (maxL := 2) (ret := (some .boolean)) (by decide) rfl ?_
  intro p e s m args below meth c s₁ B hml hv
  obtain ⟨rfl, hP, hK⟩ := hv
  have hx := B.exec
  have hb := B.bytes
  have hr := B.returns
  have hts := atoms_spec (ws := ws_T_isWaiting) B.pre
  have hown : s.vm.findClass R_T = some m.cls := findClass_of_methodNamed B.named
  have hlocks := B.notSynchronized
  have hiT : ∀ w ∈ u_ws R_T F_T 11, w ∈ ws_T_isWaiting := fun w h => List.mem_cons_of_mem _ (in_T w h)
  have lk21 := hts _ (List.mem_cons_of_mem _ k_T_21)
  have hS : va_S (aN q) s.heap s.heap [] := va_S.rf
  have hl := lv_entry ([.ref (q 1), .int a1]) (n := 2) (Nat.le_of_ble_eq_true rfl)
  rw [lg_entry_eq]
  generalize (lg_sl ([.ref (q 1), .int a1]) ++ List.replicate (2 - (lg_sl ([.ref (q 1), .int a1])).length) Slot.unset).toArray = ls at hl ⊢
  have hl : lv_has ls 2 [(0, .ref (q 1)), (1, .int a1)] := hl
  obtain ⟨Q, hQ⟩ : ∃ Q, Q = MQ below (va_Qi (fun (r : Int32) (u : Unit) => post r) (fun u t => va_P (dC, dI) clZ (wN cI cL cZ q A D G K N P T) t.heap) (aN q)) ([.ref (q 1), .int a1]).toArray s 0 0 (aN q) := ⟨_, rfl⟩
  rw [← hQ]
  rw [wp_T_isWaiting] at hwp
  refine lv_aload_n hx hb d_T_isWaiting_0 rfl (lv_at hl 0 rfl) ?_
  refine lv_iload_n hx hb d_T_isWaiting_1 rfl (lv_at hl 1 rfl) ?_
  refine ncn_i (As := [.int a1]) (c_T_exists hq (A) (D) (G) (K) (N) (P) (T) (a1) _ hwp) (cwV 1 hts g_T_47 rfl rfl rfl hd_T_exists ⟨Nat.le_of_ble_eq_true rfl, Nat.le_of_ble_eq_true rfl⟩) hx hb hml hown hts hK hP hS hl.1 d_T_isWaiting_2 (va_recv (q := (R_T, F_T, 11)) hK hP (ci := 1) (q0 := 1) rfl rfl) rfl (lv_room (Nat.le_of_ble_eq_true rfl)) (Nat.zero_le _) (Nat.zero_le _) rfl (fun r1 u H locs hwp hP hS => ?_)
  have hP : va_P (dC, dI) clZ (wN cI cL cZ q A D G K N P T) H := hP
  refine lv_if_eq (tgt := 22) hx hb d_T_isWaiting_5 (by decide) (fun hc => ?_) (fun hc => ?_)
  · rw [if_pos hc] at hwp
    refine lv_iconst (v := 0) hx hb d_T_isWaiting_22 (by decide) ?_
    rw [hQ]
    exact W.zret (v := 0) hx hb hr rfl (fun t ht hW => ⟨⟨0, (), rfl, hwp, hp_of ht hP⟩, hS.F ht⟩) hS.2.2 d_T_isWaiting_23
  · rw [if_neg hc] at hwp
    refine lv_aload_n hx hb d_T_isWaiting_8 rfl (lv_at hl 0 rfl) ?_
    refine va_get (D := (dC, dI)) (ci := 1) (v := .ref (q 10)) (C := R_T) (T := F_T) (N := 11) hx hb hts hiT hown hK hP 1 rfl rfl 4 (by decide) lk21 (fun _ h9 => h9) rfl d_T_isWaiting_9 ?_
    refine lv_iload_n hx hb d_T_isWaiting_12 rfl (lv_at hl 1 rfl) ?_
    refine va_iald hx hb hK hP 10 0 rfl rfl hwp.1 d_T_isWaiting_13 ?_
    have hwp := hwp.2
    refine lv_iconst (v := 2) hx hb d_T_isWaiting_14 (by decide) ?_
    refine lv_icmp_ne (tgt := 22) hx hb d_T_isWaiting_15 (by decide) (fun hc => ?_) (fun hc => ?_)
    · rw [if_neg hc] at hwp
      refine lv_iconst (v := 0) hx hb d_T_isWaiting_22 (by decide) ?_
      rw [hQ]
      exact W.zret (v := 0) hx hb hr rfl (fun t ht hW => ⟨⟨0, (), rfl, hwp, hp_of ht hP⟩, hS.F ht⟩) hS.2.2 d_T_isWaiting_23
    · rw [if_pos hc] at hwp
      refine lv_iconst (v := 1) hx hb d_T_isWaiting_18 (by decide) ?_
      refine lv_goto hx hb d_T_isWaiting_19 (tgt := 23) (by decide) ?_
      rw [hQ]
      exact W.zret (v := 1) hx hb hr rfl (fun t ht hW => ⟨⟨1, (), rfl, hwp, hp_of ht hP⟩, hS.F ht⟩) hS.2.2 d_T_isWaiting_23

set_option maxHeartbeats 4000000 in
set_option maxRecDepth 100000 in
theorem c_T_isWithin {l : Launch} {dC : Nat → ClassId} {dI : Nat → Nat → Nat} {cI cL cZ : ClassId} {q : Nat → Nat} (hq : iN q) (A : S_A) (D : S_D) (G : S_G) (K : S_K) (N : S_N) (P : S_P) (T : S_T) (a1 : Int32) (a2 : Int32) (post : Int32 → Prop) (hwp : wp_T_isWithin T a1 a2 post) : Met l y_T_isWithin ws_T_isWithin rm_T_isWithin (va_Pc [.ref (q 1), .int a1, .int a2] (bN dC dI cI cL cZ q A D G K N P T)) (va_Qi (fun (r : Int32) (u : Unit) => post r) (fun u t => va_P (dC, dI) clZ (wN cI cL cZ q A D G K N P T) t.heap) (aN q)) 0 0 (aN q) := by
  refine Met.ofW (cc := b_T_isWithin) (maxL := 3) (ret := (some .boolean)) (by decide) rfl ?_
  intro p e s m args below meth c s₁ B hml hv
  obtain ⟨rfl, hP, hK⟩ := hv
  have hx := B.exec
  have hb := B.bytes
  have hr := B.returns
  have hts := atoms_spec (ws := ws_T_isWithin) B.pre
  have hown : s.vm.findClass R_T = some m.cls := findClass_of_methodNamed B.named
  have hlocks := B.notSynchronized
  have hiT : ∀ w ∈ u_ws R_T F_T 11, w ∈ ws_T_isWithin := fun w h => List.mem_cons_of_mem _ (in_T w h)
  have lk27 := hts _ (List.mem_cons_of_mem _ k_T_27)
  have hS : va_S (aN q) s.heap s.heap [] := va_S.rf
  have hl := lv_entry ([.ref (q 1), .int a1, .int a2]) (n := 3) (Nat.le_of_ble_eq_true rfl)
  rw [lg_entry_eq]
  generalize (lg_sl ([.ref (q 1), .int a1, .int a2]) ++ List.replicate (3 - (lg_sl ([.ref (q 1), .int a1, .int a2])).length) Slot.unset).toArray = ls at hl ⊢
  have hl : lv_has ls 3 [(0, .ref (q 1)), (1, .int a1), (2, .int a2)] := hl
  obtain ⟨Q, hQ⟩ : ∃ Q, Q = MQ below (va_Qi (fun (r : Int32) (u : Unit) => post r) (fun u t => va_P (dC, dI) clZ (wN cI cL cZ q A D G K N P T) t.heap) (aN q)) ([.ref (q 1), .int a1, .int a2]).toArray s 0 0 (aN q) := ⟨_, rfl⟩
  rw [← hQ]
  rw [wp_T_isWithin] at hwp
  refine lv_aload_n hx hb d_T_isWithin_0 rfl (lv_at hl 0 rfl) ?_
  refine va_get (D := (dC, dI)) (ci := 1) (v := .ref (q 12)) (C := R_T) (T := F_T) (N := 11) hx hb hts hiT hown hK hP 1 rfl rfl 6 (by decide) lk27 (fun _ h9 => h9) rfl d_T_isWithin_1 ?_
  refine lv_iload_n hx hb d_T_isWithin_4 rfl (lv_at hl 1 rfl) ?_
  refine va_lald hx hb hK hP 12 1 rfl rfl hwp.1 d_T_isWithin_5 ?_
  have hwp := hwp.2
  refine lv_lconst (v := (1 : Int64)) hx hb d_T_isWithin_6 (by decide) ?_
  refine lv_iload_n hx hb d_T_isWithin_7 rfl (lv_at hl 2 rfl) ?_
  refine lv_lshl hx hb d_T_isWithin_8 rfl ?_
  refine lv_land hx hb d_T_isWithin_9 ?_
  refine lv_lconst (v := (0 : Int64)) hx hb d_T_isWithin_10 (by decide) ?_
  refine W.lcmp hx hb d_T_isWithin_11 ?_
  refine lv_if_eq (tgt := 19) hx hb d_T_isWithin_12 (by decide) (fun hc => ?_) (fun hc => ?_)
  · rw [if_pos hc] at hwp
    refine lv_iconst (v := 0) hx hb d_T_isWithin_19 (by decide) ?_
    rw [hQ]
    exact W.zret (v := 0) hx hb hr rfl (fun t ht hW => ⟨⟨0, (), rfl, hwp, hp_of ht hP⟩, hS.F ht⟩) hS.2.2 d_T_isWithin_20
  · rw [if_neg hc] at hwp
    refine lv_iconst (v := 1) hx hb d_T_isWithin_15 (by decide) ?_
    refine lv_goto hx hb d_T_isWithin_16 (tgt := 20) (by decide) ?_
    rw [hQ]
    exact W.zret (v := 1) hx hb hr rfl (fun t ht hW => ⟨⟨1, (), rfl, hwp, hp_of ht hP⟩, hS.F ht⟩) hS.2.2 d_T_isWithin_20

set_option maxHeartbeats 4000000 in
set_option maxRecDepth 100000 in
theorem c_T_abortUncommitted {l : Launch} {dC : Nat → ClassId} {dI : Nat → Nat → Nat} {cI cL cZ : ClassId} {q : Nat → Nat} (hq : iN q) (A : S_A) (D : S_D) (G : S_G) (K : S_K) (N : S_N) (P : S_P) (T : S_T)  (post : S_T → Prop) (hwp : wp_T_abortUncommitted T post) : Met l y_T_abortUncommitted ws_T_abortUncommitted rm_T_abortUncommitted (va_Pc [.ref (q 1)] (bN dC dI cI cL cZ q A D G K N P T)) (va_Qv (fun (u : S_T) => post u) (fun u t => va_P (dC, dI) clZ (wN cI cL cZ q A D G K N P (u)) t.heap) (aN q)) 0 0 (aN q) := by
  refine Met.ofW (cc := b_T_abortUncommitted) (maxL := 2) (ret := none) (by decide) rfl ?_
  intro p e s m args below meth c s₁ B hml hv
  obtain ⟨rfl, hP, hK⟩ := hv
  have hx := B.exec
  have hb := B.bytes
  have hr := B.returns
  have hts := atoms_spec (ws := ws_T_abortUncommitted) B.pre
  have hown : s.vm.findClass R_T = some m.cls := findClass_of_methodNamed B.named
  have hlocks := B.notSynchronized
  have hiT : ∀ w ∈ u_ws R_T F_T 11, w ∈ ws_T_abortUncommitted := fun w h => List.mem_cons_of_mem _ (in_T w h)
  have lk15 := hts _ (List.mem_cons_of_mem _ k_T_15)
  have lk21 := hts _ (List.mem_cons_of_mem _ k_T_21)
  have lk43 := hts _ (List.mem_cons_of_mem _ k_T_43)
  have hS : va_S (aN q) s.heap s.heap [] := va_S.rf
  have hl := lv_entry ([.ref (q 1)]) (n := 2) (Nat.le_of_ble_eq_true rfl)
  rw [lg_entry_eq]
  generalize (lg_sl ([.ref (q 1)]) ++ List.replicate (2 - (lg_sl ([.ref (q 1)])).length) Slot.unset).toArray = ls at hl ⊢
  have hl : lv_has ls 2 [(0, .ref (q 1))] := hl
  obtain ⟨Q, hQ⟩ : ∃ Q, Q = MQ below (va_Qv (fun (u : S_T) => post u) (fun u t => va_P (dC, dI) clZ (wN cI cL cZ q A D G K N P (u)) t.heap) (aN q)) ([.ref (q 1)]).toArray s 0 0 (aN q) := ⟨_, rfl⟩
  rw [← hQ]
  have L2 : ∀ (Kx : S_T → Prop) (n : Nat) (v1 : Int32) (T : S_T) (H : Heap) (locs : List Loc) (ls : Array Slot), lv_has ls 2 [(0, .ref (q 1)), (1, .int v1)] → va_P (dC, dI) clZ (wN cI cL cZ q A D G K N P T) H → va_S (aN q) s.heap H locs → wp_T_abortUncommitted_L2 Kx n v1 T → (∀ (T1 : S_T) (H : Heap) (locs : List Loc) (ls : Array Slot), lv_has ls 2 [] → va_P (dC, dI) clZ (wN cI cL cZ q A D G K N P T1) H → va_S (aN q) s.heap H locs → Kx T1 → W p l e (headSpec ws_T_abortUncommitted rm_T_abortUncommitted).room s m ([.ref (q 1)]).toArray below meth c H locs 0 0 Q (F0 m 38 ls [])) → W p l e (headSpec ws_T_abortUncommitted rm_T_abortUncommitted).room s m ([.ref (q 1)]).toArray below meth c H locs 0 0 Q (F0 m 2 ls []) := by
    intro Kx  n
    induction n with
    | zero =>
      intros
      rename_i hwp _
      exact hwp.elim
    | succ n2 ih =>
      intro v1 T H locs ls hl hP hS hwp hX
      rw [wp_T_abortUncommitted_L2] at hwp
      refine lv_iload_n hx hb d_T_abortUncommitted_2 rfl (lv_at hl 1 rfl) ?_
      refine lv_aload_n hx hb d_T_abortUncommitted_3 rfl (lv_at hl 0 rfl) ?_
      refine va_get (D := (dC, dI)) (ci := 1) (v := .int (T_count T)) (C := R_T) (T := F_T) (N := 11) hx hb hts hiT hown hK hP 1 rfl rfl 0 (by decide) lk43 (fun _ h9 => h9) rfl d_T_abortUncommitted_4 ?_
      refine lv_icmp_ge (tgt := 38) hx hb d_T_abortUncommitted_7 (by decide) (fun hc => ?_) (fun hc => ?_)
      · rw [if_pos hc] at hwp
        exact hX (T) _ _ _ (lv_sub hl [] rfl) hP hS hwp
      · rw [if_neg hc] at hwp
        refine lv_aload_n hx hb d_T_abortUncommitted_10 rfl (lv_at hl 0 rfl) ?_
        refine va_get (D := (dC, dI)) (ci := 1) (v := .ref (q 10)) (C := R_T) (T := F_T) (N := 11) hx hb hts hiT hown hK hP 1 rfl rfl 4 (by decide) lk21 (fun _ h9 => h9) rfl d_T_abortUncommitted_11 ?_
        refine lv_aload_n hx hb d_T_abortUncommitted_14 rfl (lv_at hl 0 rfl) ?_
        refine va_get (D := (dC, dI)) (ci := 1) (v := .ref (q 8)) (C := R_T) (T := F_T) (N := 11) hx hb hts hiT hown hK hP 1 rfl rfl 2 (by decide) lk15 (fun _ h9 => h9) rfl d_T_abortUncommitted_15 ?_
        refine lv_iload_n hx hb d_T_abortUncommitted_18 rfl (lv_at hl 1 rfl) ?_
        refine va_iald hx hb hK hP 8 0 rfl rfl hwp.1 d_T_abortUncommitted_19 ?_
        have hwp := hwp.2
        refine va_iald hx hb hK hP 10 0 rfl rfl hwp.1 d_T_abortUncommitted_20 ?_
        have hwp := hwp.2
        refine lv_iconst (v := 3) hx hb d_T_abortUncommitted_21 (by decide) ?_
        refine lv_icmp_eq (tgt := 32) hx hb d_T_abortUncommitted_22 (by decide) (fun hc => ?_) (fun hc => ?_)
        · rw [if_pos hc] at hwp
          refine lv_iinc (k := 1) (v := (v1 + 1)) (lv' := [(1, .int (v1 + 1)), (0, .ref (q 1))]) hx hb d_T_abortUncommitted_32 hl rfl (ii_1 _) (by decide) rfl (fun ls hl => ?_)
          refine lv_goto hx hb d_T_abortUncommitted_35 (tgt := 2) (by decide) ?_
          exact ih ((v1 + 1)) (T) _ _ _ (lv_sub hl [1, 0] rfl) hP hS hwp hX
        · rw [if_neg hc] at hwp
          refine lv_aload_n hx hb d_T_abortUncommitted_25 rfl (lv_at hl 0 rfl) ?_
          refine va_get (D := (dC, dI)) (ci := 1) (v := .ref (q 10)) (C := R_T) (T := F_T) (N := 11) hx hb hts hiT hown hK hP 1 rfl rfl 4 (by decide) lk21 (fun _ h9 => h9) rfl d_T_abortUncommitted_26 ?_
          refine lv_iload_n hx hb d_T_abortUncommitted_29 rfl (lv_at hl 1 rfl) ?_
          refine lv_iconst (v := 4) hx hb d_T_abortUncommitted_30 (by decide) ?_
          refine va_iast hx hb hK hP (dN hq) hS 10 0 rfl rfl hwp.1 d_T_abortUncommitted_31 (fun H locs hP _ hS => ?_)
          have hwp := hwp.2
          have hP : va_P (dC, dI) clZ (wN cI cL cZ q A D G K N P (T_state' T (upd (T_state T) (Int32.toNatClampNeg v1) 4))) H := hP
          refine lv_iinc (k := 1) (v := (v1 + 1)) (lv' := [(1, .int (v1 + 1)), (0, .ref (q 1))]) hx hb d_T_abortUncommitted_32 hl rfl (ii_1 _) (by decide) rfl (fun ls hl => ?_)
          refine lv_goto hx hb d_T_abortUncommitted_35 (tgt := 2) (by decide) ?_
          exact ih ((v1 + 1)) ((T_state' T (upd (T_state T) (Int32.toNatClampNeg v1) 4))) _ _ _ (lv_sub hl [1, 0] rfl) hP hS hwp hX
  rw [wp_T_abortUncommitted] at hwp
  refine lv_iconst (v := 0) hx hb d_T_abortUncommitted_0 (by decide) ?_
  refine lv_istore_n (lv' := [(1, .int 0), (0, .ref (q 1))]) hx hb d_T_abortUncommitted_1 rfl hl (by decide) rfl (fun ls hl => ?_)
  obtain ⟨e2, hwp⟩ := hwp
  refine L2 _  e2 (0) (T) _ _ _ (lv_sub hl [1, 0] rfl) hP hS hwp (fun T1 H locs ls hl hP hS hwp => ?_)
  rw [hQ]
  exact W.vret hx hb hr (fun t ht hW => ⟨⟨T1, rfl, hwp, hp_of ht hP⟩, hS.F ht⟩) hS.2.2 d_T_abortUncommitted_38
