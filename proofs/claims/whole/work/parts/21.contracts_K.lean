set_option maxHeartbeats 4000000 in
set_option maxRecDepth 100000 in
theorem c_K_heldBy {l : Launch} {dC : Nat → ClassId} {dI : Nat → Nat → Nat} {cI cL cZ : ClassId} {q : Nat → Nat} (hq : iN q) (A : S_A) (D : S_D) (G : S_G) (K : S_K) (N : S_N) (P : S_P) (T : S_T) (a1 : Int32) (a2 : Int32) (post : Int32 → Prop) (hwp : wp_K_heldBy K a1 a2 post) : Met l y_K_heldBy ws_K_heldBy rm_K_heldBy (va_Pc [.ref (q 2), .int a1, .int a2] (bN dC dI cI cL cZ q A D G K N P T)) (va_Qi (fun (r : Int32) (u : Unit) => post r) (fun u t => va_P (dC, dI) clZ (wN cI cL cZ q A D G K N P T) t.heap) (aN q)) 0 0 (aN q) := by
  refine Met.ofW (cc := b_K_heldBy) (maxL := 3) (ret := (some .int)) (by decide) rfl ?_
  intro p e s m args below meth c s₁ B hml hv
  obtain ⟨rfl, hP, hK⟩ := hv
  have hx := B.exec
  have hb := B.bytes
  have hr := B.returns
  have hts := atoms_spec (ws := ws_K_heldBy) B.pre
  have hown : s.vm.findClass R_K = some m.cls := findClass_of_methodNamed B.named
  have hlocks := B.notSynchronized
  have hiK : ∀ w ∈ u_ws R_K F_K 2, w ∈ ws_K_heldBy := fun w h => List.mem_cons_of_mem _ (in_K w h)
  have lk9 := hts _ (List.mem_cons_of_mem _ k_K_9)
  have lk15 := hts _ (List.mem_cons_of_mem _ k_K_15)
  have hS : va_S (aN q) s.heap s.heap [] := va_S.rf
  have hl := lv_entry ([.ref (q 2), .int a1, .int a2]) (n := 3) (Nat.le_of_ble_eq_true rfl)
  rw [lg_entry_eq]
  generalize (lg_sl ([.ref (q 2), .int a1, .int a2]) ++ List.replicate (3 - (lg_sl ([.ref (q 2), .int a1, .int a2])).length) Slot.unset).toArray = ls at hl ⊢
  have hl : lv_has ls 3 [(0, .ref (q 2)), (1, .int a1), (2, .int a2)] := hl
  obtain ⟨Q, hQ⟩ : ∃ Q, Q = MQ below (va_Qi (fun (r : Int32) (u : Unit) => post r) (fun u t => va_P (dC, dI) clZ (wN cI cL cZ q A D G K N P T) t.heap) (aN q)) ([.ref (q 2), .int a1, .int a2]).toArray s 0 0 (aN q) := ⟨_, rfl⟩
  rw [← hQ]
  rw [wp_K_heldBy] at hwp
  refine lv_aload_n hx hb d_K_heldBy_0 rfl (lv_at hl 0 rfl) ?_
  refine va_get (D := (dC, dI)) (ci := 2) (v := .ref (q 18)) (C := R_K) (T := F_K) (N := 2) hx hb hts hiK hown hK hP 2 rfl rfl 1 (by decide) lk15 (fun _ h9 => h9) rfl d_K_heldBy_1 ?_
  refine lv_iload_n hx hb d_K_heldBy_4 rfl (lv_at hl 2 rfl) ?_
  refine va_lald hx hb hK hP 18 1 rfl rfl hwp.1 d_K_heldBy_5 ?_
  have hwp := hwp.2
  refine lv_lconst (v := (1 : Int64)) hx hb d_K_heldBy_6 (by decide) ?_
  refine lv_iload_n hx hb d_K_heldBy_7 rfl (lv_at hl 1 rfl) ?_
  refine lv_lshl hx hb d_K_heldBy_8 rfl ?_
  refine lv_land hx hb d_K_heldBy_9 ?_
  refine lv_lconst (v := (0 : Int64)) hx hb d_K_heldBy_10 (by decide) ?_
  refine W.lcmp hx hb d_K_heldBy_11 ?_
  refine lv_if_eq (tgt := 17) hx hb d_K_heldBy_12 (by decide) (fun hc => ?_) (fun hc => ?_)
  · rw [if_pos hc] at hwp
    refine lv_aload_n hx hb d_K_heldBy_17 rfl (lv_at hl 0 rfl) ?_
    refine va_get (D := (dC, dI)) (ci := 2) (v := .ref (q 17)) (C := R_K) (T := F_K) (N := 2) hx hb hts hiK hown hK hP 2 rfl rfl 0 (by decide) lk9 (fun _ h9 => h9) rfl d_K_heldBy_18 ?_
    refine lv_iload_n hx hb d_K_heldBy_21 rfl (lv_at hl 2 rfl) ?_
    refine va_lald hx hb hK hP 17 1 rfl rfl hwp.1 d_K_heldBy_22 ?_
    have hwp := hwp.2
    refine lv_lconst (v := (1 : Int64)) hx hb d_K_heldBy_23 (by decide) ?_
    refine lv_iload_n hx hb d_K_heldBy_24 rfl (lv_at hl 1 rfl) ?_
    refine lv_lshl hx hb d_K_heldBy_25 rfl ?_
    refine lv_land hx hb d_K_heldBy_26 ?_
    refine lv_lconst (v := (0 : Int64)) hx hb d_K_heldBy_27 (by decide) ?_
    refine W.lcmp hx hb d_K_heldBy_28 ?_
    refine lv_if_eq (tgt := 36) hx hb d_K_heldBy_29 (by decide) (fun hc => ?_) (fun hc => ?_)
    · rw [if_pos hc] at hwp
      refine lv_iconst (v := 0) hx hb d_K_heldBy_36 (by decide) ?_
      rw [hQ]
      exact W.iret (v := 0) hx hb hr (fun t ht hW => ⟨⟨0, (), rfl, hwp, hp_of ht hP⟩, hS.F ht⟩) hS.2.2 d_K_heldBy_37
    · rw [if_neg hc] at hwp
      refine lv_iconst (v := 1) hx hb d_K_heldBy_32 (by decide) ?_
      refine lv_goto hx hb d_K_heldBy_33 (tgt := 37) (by decide) ?_
      rw [hQ]
      exact W.iret (v := 1) hx hb hr (fun t ht hW => ⟨⟨1, (), rfl, hwp, hp_of ht hP⟩, hS.F ht⟩) hS.2.2 d_K_heldBy_37
  · rw [if_neg hc] at hwp
    refine lv_iconst (v := 2) hx hb d_K_heldBy_15 (by decide) ?_
    rw [hQ]
    exact W.iret (v := 2) hx hb hr (fun t ht hW => ⟨⟨2, (), rfl, hwp, hp_of ht hP⟩, hS.F ht⟩) hS.2.2 d_K_heldBy_16

set_option maxHeartbeats 4000000 in
set_option maxRecDepth 100000 in
theorem c_K_blockers {l : Launch} {dC : Nat → ClassId} {dI : Nat → Nat → Nat} {cI cL cZ : ClassId} {q : Nat → Nat} (hq : iN q) (A : S_A) (D : S_D) (G : S_G) (K : S_K) (N : S_N) (P : S_P) (T : S_T) (a1 : Int32) (a2 : Int32) (a3 : Int64) (post : Int64 → Prop) (hwp : wp_K_blockers K a1 a2 a3 post) : Met l y_K_blockers ws_K_blockers rm_K_blockers (va_Pc [.ref (q 2), .int a1, .int a2, .long a3] (bN dC dI cI cL cZ q A D G K N P T)) (va_Ql (fun (r : Int64) (u : Unit) => post r) (fun u t => va_P (dC, dI) clZ (wN cI cL cZ q A D G K N P T) t.heap) (aN q)) 0 0 (aN q) := by
  refine Met.ofW (cc := b_K_blockers) (maxL := 7) (ret := (some .long)) (by decide) rfl ?_
  intro p e s m args below meth c s₁ B hml hv
  obtain ⟨rfl, hP, hK⟩ := hv
  have hx := B.exec
  have hb := B.bytes
  have hr := B.returns
  have hts := atoms_spec (ws := ws_K_blockers) B.pre
  have hown : s.vm.findClass R_K = some m.cls := findClass_of_methodNamed B.named
  have hlocks := B.notSynchronized
  have hiK : ∀ w ∈ u_ws R_K F_K 2, w ∈ ws_K_blockers := fun w h => List.mem_cons_of_mem _ (in_K w h)
  have lk9 := hts _ (List.mem_cons_of_mem _ k_K_9)
  have lk15 := hts _ (List.mem_cons_of_mem _ k_K_15)
  have hS : va_S (aN q) s.heap s.heap [] := va_S.rf
  have hl := lv_entry ([.ref (q 2), .int a1, .int a2, .long a3]) (n := 7) (Nat.le_of_ble_eq_true rfl)
  rw [lg_entry_eq]
  generalize (lg_sl ([.ref (q 2), .int a1, .int a2, .long a3]) ++ List.replicate (7 - (lg_sl ([.ref (q 2), .int a1, .int a2, .long a3])).length) Slot.unset).toArray = ls at hl ⊢
  have hl : lv_has ls 7 [(0, .ref (q 2)), (1, .int a1), (2, .int a2), (3, .long a3)] := hl
  obtain ⟨Q, hQ⟩ : ∃ Q, Q = MQ below (va_Ql (fun (r : Int64) (u : Unit) => post r) (fun u t => va_P (dC, dI) clZ (wN cI cL cZ q A D G K N P T) t.heap) (aN q)) ([.ref (q 2), .int a1, .int a2, .long a3]).toArray s 0 0 (aN q) := ⟨_, rfl⟩
  rw [← hQ]
  rw [wp_K_blockers] at hwp
  refine lv_iload_n hx hb d_K_blockers_0 rfl (lv_at hl 2 rfl) ?_
  refine lv_iconst (v := 2) hx hb d_K_blockers_1 (by decide) ?_
  refine lv_icmp_ne (tgt := 21) hx hb d_K_blockers_2 (by decide) (fun hc => ?_) (fun hc => ?_)
  · rw [if_neg hc] at hwp
    refine lv_aload_n hx hb d_K_blockers_21 rfl (lv_at hl 0 rfl) ?_
    refine va_get (D := (dC, dI)) (ci := 2) (v := .ref (q 18)) (C := R_K) (T := F_K) (N := 2) hx hb hts hiK hown hK hP 2 rfl rfl 1 (by decide) lk15 (fun _ h9 => h9) rfl d_K_blockers_22 ?_
    refine lv_iload_n hx hb d_K_blockers_25 rfl (lv_at hl 1 rfl) ?_
    refine va_lald hx hb hK hP 18 1 rfl rfl hwp.1 d_K_blockers_26 ?_
    have hwp := hwp.2
    refine lv_lstore (lv' := [(5, .long ((K_exclusive K) (Int32.toNatClampNeg a1))), (0, .ref (q 2)), (1, .int a1), (2, .int a2), (3, .long a3)]) hx hb d_K_blockers_27 hl (by decide) rfl (fun ls hl => ?_)
    refine lv_lload hx hb d_K_blockers_29 (lv_at hl 0 rfl) ?_
    refine lv_lload_n hx hb d_K_blockers_31 rfl (lv_at hl 4 rfl) ?_
    refine lv_ldc2 (v := (-1)) hx hb hown (hts _ (List.mem_cons_of_mem _ kc_K_18)) d_K_blockers_32 ?_
    refine lv_lxor hx hb d_K_blockers_35 ?_
    refine lv_land hx hb d_K_blockers_36 ?_
    rw [hQ]
    exact W.lret (v := (((K_exclusive K) (Int32.toNatClampNeg a1)) &&& (a3 ^^^ (-1)))) hx hb hr (fun t ht hW => ⟨⟨(((K_exclusive K) (Int32.toNatClampNeg a1)) &&& (a3 ^^^ (-1))), (), rfl, hwp, hp_of ht hP⟩, hS.F ht⟩) hS.2.2 d_K_blockers_37
  · rw [if_pos hc] at hwp
    refine lv_aload_n hx hb d_K_blockers_5 rfl (lv_at hl 0 rfl) ?_
    refine va_get (D := (dC, dI)) (ci := 2) (v := .ref (q 17)) (C := R_K) (T := F_K) (N := 2) hx hb hts hiK hown hK hP 2 rfl rfl 0 (by decide) lk9 (fun _ h9 => h9) rfl d_K_blockers_6 ?_
    refine lv_iload_n hx hb d_K_blockers_9 rfl (lv_at hl 1 rfl) ?_
    refine va_lald hx hb hK hP 17 1 rfl rfl hwp.1 d_K_blockers_10 ?_
    have hwp := hwp.2
    refine lv_aload_n hx hb d_K_blockers_11 rfl (lv_at hl 0 rfl) ?_
    refine va_get (D := (dC, dI)) (ci := 2) (v := .ref (q 18)) (C := R_K) (T := F_K) (N := 2) hx hb hts hiK hown hK hP 2 rfl rfl 1 (by decide) lk15 (fun _ h9 => h9) rfl d_K_blockers_12 ?_
    refine lv_iload_n hx hb d_K_blockers_15 rfl (lv_at hl 1 rfl) ?_
    refine va_lald hx hb hK hP 18 1 rfl rfl hwp.1 d_K_blockers_16 ?_
    have hwp := hwp.2
    refine lv_lor hx hb d_K_blockers_17 ?_
    refine lv_goto hx hb d_K_blockers_18 (tgt := 27) (by decide) ?_
    refine lv_lstore (lv' := [(5, .long (((K_shared K) (Int32.toNatClampNeg a1)) ||| ((K_exclusive K) (Int32.toNatClampNeg a1)))), (0, .ref (q 2)), (1, .int a1), (2, .int a2), (3, .long a3)]) hx hb d_K_blockers_27 hl (by decide) rfl (fun ls hl => ?_)
    refine lv_lload hx hb d_K_blockers_29 (lv_at hl 0 rfl) ?_
    refine lv_lload_n hx hb d_K_blockers_31 rfl (lv_at hl 4 rfl) ?_
    refine lv_ldc2 (v := (-1)) hx hb hown (hts _ (List.mem_cons_of_mem _ kc_K_18)) d_K_blockers_32 ?_
    refine lv_lxor hx hb d_K_blockers_35 ?_
    refine lv_land hx hb d_K_blockers_36 ?_
    rw [hQ]
    exact W.lret (v := ((((K_shared K) (Int32.toNatClampNeg a1)) ||| ((K_exclusive K) (Int32.toNatClampNeg a1))) &&& (a3 ^^^ (-1)))) hx hb hr (fun t ht hW => ⟨⟨((((K_shared K) (Int32.toNatClampNeg a1)) ||| ((K_exclusive K) (Int32.toNatClampNeg a1))) &&& (a3 ^^^ (-1))), (), rfl, hwp, hp_of ht hP⟩, hS.F ht⟩) hS.2.2 d_K_blockers_37

set_option maxHeartbeats 4000000 in
set_option maxRecDepth 100000 in
theorem c_K_grant {l : Launch} {dC : Nat → ClassId} {dI : Nat → Nat → Nat} {cI cL cZ : ClassId} {q : Nat → Nat} (hq : iN q) (A : S_A) (D : S_D) (G : S_G) (K : S_K) (N : S_N) (P : S_P) (T : S_T) (a1 : Int32) (a2 : Int32) (a3 : Int32) (post : S_K → Prop) (hwp : wp_K_grant K a1 a2 a3 post) : Met l y_K_grant ws_K_grant rm_K_grant (va_Pc [.ref (q 2), .int a1, .int a2, .int a3] (bN dC dI cI cL cZ q A D G K N P T)) (va_Qv (fun (u : S_K) => post u) (fun u t => va_P (dC, dI) clZ (wN cI cL cZ q A D G (u) N P T) t.heap) (aN q)) 0 0 (aN q) := by
  refine Met.ofW (cc := b_K_grant) (maxL := 4) (ret := none) (by decide) rfl ?_
  intro p e s m args below meth c s₁ B hml hv
  obtain ⟨rfl, hP, hK⟩ := hv
  have hx := B.exec
  have hb := B.bytes
  have hr := B.returns
  have hts := atoms_spec (ws := ws_K_grant) B.pre
  have hown : s.vm.findClass R_K = some m.cls := findClass_of_methodNamed B.named
  have hlocks := B.notSynchronized
  have hiK : ∀ w ∈ u_ws R_K F_K 2, w ∈ ws_K_grant := fun w h => List.mem_cons_of_mem _ (in_K w h)
  have lk9 := hts _ (List.mem_cons_of_mem _ k_K_9)
  have lk15 := hts _ (List.mem_cons_of_mem _ k_K_15)
  have hS : va_S (aN q) s.heap s.heap [] := va_S.rf
  have hl := lv_entry ([.ref (q 2), .int a1, .int a2, .int a3]) (n := 4) (Nat.le_of_ble_eq_true rfl)
  rw [lg_entry_eq]
  generalize (lg_sl ([.ref (q 2), .int a1, .int a2, .int a3]) ++ List.replicate (4 - (lg_sl ([.ref (q 2), .int a1, .int a2, .int a3])).length) Slot.unset).toArray = ls at hl ⊢
  have hl : lv_has ls 4 [(0, .ref (q 2)), (1, .int a1), (2, .int a2), (3, .int a3)] := hl
  obtain ⟨Q, hQ⟩ : ∃ Q, Q = MQ below (va_Qv (fun (u : S_K) => post u) (fun u t => va_P (dC, dI) clZ (wN cI cL cZ q A D G (u) N P T) t.heap) (aN q)) ([.ref (q 2), .int a1, .int a2, .int a3]).toArray s 0 0 (aN q) := ⟨_, rfl⟩
  rw [← hQ]
  rw [wp_K_grant] at hwp
  refine lv_iload_n hx hb d_K_grant_0 rfl (lv_at hl 3 rfl) ?_
  refine lv_aload_n hx hb d_K_grant_1 rfl (lv_at hl 0 rfl) ?_
  refine lv_iload_n hx hb d_K_grant_2 rfl (lv_at hl 1 rfl) ?_
  refine lv_iload_n hx hb d_K_grant_3 rfl (lv_at hl 2 rfl) ?_
  refine ncn_i (As := [.int a1, .int a2]) (c_K_heldBy hq (A) (D) (G) (K) (N) (P) (T) (a1) (a2) _ hwp) (cwV 2 hts g_K_20 rfl rfl rfl hd_K_heldBy ⟨Nat.le_of_ble_eq_true rfl, Nat.le_of_ble_eq_true rfl⟩) hx hb hml hown hts hK hP hS hl.1 d_K_grant_4 (va_recv (q := (R_K, F_K, 2)) hK hP (ci := 2) (q0 := 2) rfl rfl) rfl (lv_room (Nat.le_of_ble_eq_true rfl)) (Nat.zero_le _) (Nat.zero_le _) rfl (fun r1 u H locs hwp hP hS => ?_)
  have hP : va_P (dC, dI) clZ (wN cI cL cZ q A D G K N P T) H := hP
  refine lv_icmp_gt (tgt := 11) hx hb d_K_grant_7 (by decide) (fun hc => ?_) (fun hc => ?_)
  · rw [if_pos hc] at hwp
    refine lv_iload_n hx hb d_K_grant_11 rfl (lv_at hl 3 rfl) ?_
    refine lv_iconst (v := 2) hx hb d_K_grant_12 (by decide) ?_
    refine lv_icmp_ne (tgt := 47) hx hb d_K_grant_13 (by decide) (fun hc => ?_) (fun hc => ?_)
    · rw [if_neg hc] at hwp
      refine lv_aload_n hx hb d_K_grant_47 rfl (lv_at hl 0 rfl) ?_
      refine va_get (D := (dC, dI)) (ci := 2) (v := .ref (q 17)) (C := R_K) (T := F_K) (N := 2) hx hb hts hiK hown hK hP 2 rfl rfl 0 (by decide) lk9 (fun _ h9 => h9) rfl d_K_grant_48 ?_
      refine lv_iload_n hx hb d_K_grant_51 rfl (lv_at hl 2 rfl) ?_
      refine lv_dup2_11 hx hb d_K_grant_52 rfl rfl ?_
      refine va_lald hx hb hK hP 17 1 rfl rfl hwp.1 d_K_grant_53 ?_
      have hwp := hwp.2
      refine lv_lconst (v := (1 : Int64)) hx hb d_K_grant_54 (by decide) ?_
      refine lv_iload_n hx hb d_K_grant_55 rfl (lv_at hl 1 rfl) ?_
      refine lv_lshl hx hb d_K_grant_56 rfl ?_
      refine lv_lor hx hb d_K_grant_57 ?_
      refine va_last hx hb hK hP (dN hq) hS 17 1 rfl rfl hwp.1 d_K_grant_58 (fun H locs hP _ hS => ?_)
      have hwp := hwp.2
      have hP : va_P (dC, dI) clZ (wN cI cL cZ q A D G (K_shared' K (vp_updL (K_shared K) (Int32.toNatClampNeg a2) (((K_shared K) (Int32.toNatClampNeg a2)) ||| ((1 : Int64) <<< (Int32.toInt64 a1 &&& 63))))) N P T) H := hP
      rw [hQ]
      exact W.vret hx hb hr (fun t ht hW => ⟨⟨(K_shared' K (vp_updL (K_shared K) (Int32.toNatClampNeg a2) (((K_shared K) (Int32.toNatClampNeg a2)) ||| ((1 : Int64) <<< (Int32.toInt64 a1 &&& 63))))), rfl, hwp, hp_of ht hP⟩, hS.F ht⟩) hS.2.2 d_K_grant_59
    · rw [if_pos hc] at hwp
      refine lv_aload_n hx hb d_K_grant_16 rfl (lv_at hl 0 rfl) ?_
      refine va_get (D := (dC, dI)) (ci := 2) (v := .ref (q 17)) (C := R_K) (T := F_K) (N := 2) hx hb hts hiK hown hK hP 2 rfl rfl 0 (by decide) lk9 (fun _ h9 => h9) rfl d_K_grant_17 ?_
      refine lv_iload_n hx hb d_K_grant_20 rfl (lv_at hl 2 rfl) ?_
      refine lv_dup2_11 hx hb d_K_grant_21 rfl rfl ?_
      refine va_lald hx hb hK hP 17 1 rfl rfl hwp.1 d_K_grant_22 ?_
      have hwp := hwp.2
      refine lv_lconst (v := (1 : Int64)) hx hb d_K_grant_23 (by decide) ?_
      refine lv_iload_n hx hb d_K_grant_24 rfl (lv_at hl 1 rfl) ?_
      refine lv_lshl hx hb d_K_grant_25 rfl ?_
      refine lv_ldc2 (v := (-1)) hx hb hown (hts _ (List.mem_cons_of_mem _ kc_K_18)) d_K_grant_26 ?_
      refine lv_lxor hx hb d_K_grant_29 ?_
      refine lv_land hx hb d_K_grant_30 ?_
      refine va_last hx hb hK hP (dN hq) hS 17 1 rfl rfl hwp.1 d_K_grant_31 (fun H locs hP _ hS => ?_)
      have hwp := hwp.2
      have hP : va_P (dC, dI) clZ (wN cI cL cZ q A D G (K_shared' K (vp_updL (K_shared K) (Int32.toNatClampNeg a2) (((K_shared K) (Int32.toNatClampNeg a2)) &&& (((1 : Int64) <<< (Int32.toInt64 a1 &&& 63)) ^^^ (-1))))) N P T) H := hP
      refine lv_aload_n hx hb d_K_grant_32 rfl (lv_at hl 0 rfl) ?_
      refine va_get (D := (dC, dI)) (ci := 2) (v := .ref (q 18)) (C := R_K) (T := F_K) (N := 2) hx hb hts hiK hown hK hP 2 rfl rfl 1 (by decide) lk15 (fun _ h9 => h9) rfl d_K_grant_33 ?_
      refine lv_iload_n hx hb d_K_grant_36 rfl (lv_at hl 2 rfl) ?_
      refine lv_dup2_11 hx hb d_K_grant_37 rfl rfl ?_
      refine va_lald hx hb hK hP 18 1 rfl rfl hwp.1 d_K_grant_38 ?_
      have hwp := hwp.2
      refine lv_lconst (v := (1 : Int64)) hx hb d_K_grant_39 (by decide) ?_
      refine lv_iload_n hx hb d_K_grant_40 rfl (lv_at hl 1 rfl) ?_
      refine lv_lshl hx hb d_K_grant_41 rfl ?_
      refine lv_lor hx hb d_K_grant_42 ?_
      refine va_last hx hb hK hP (dN hq) hS 18 1 rfl rfl hwp.1 d_K_grant_43 (fun H locs hP _ hS => ?_)
      have hwp := hwp.2
      have hP : va_P (dC, dI) clZ (wN cI cL cZ q A D G (K_exclusive' (K_shared' K (vp_updL (K_shared K) (Int32.toNatClampNeg a2) (((K_shared K) (Int32.toNatClampNeg a2)) &&& (((1 : Int64) <<< (Int32.toInt64 a1 &&& 63)) ^^^ (-1))))) (vp_updL (K_exclusive K) (Int32.toNatClampNeg a2) (((K_exclusive K) (Int32.toNatClampNeg a2)) ||| ((1 : Int64) <<< (Int32.toInt64 a1 &&& 63))))) N P T) H := hP
      refine lv_goto hx hb d_K_grant_44 (tgt := 59) (by decide) ?_
      rw [hQ]
      exact W.vret hx hb hr (fun t ht hW => ⟨⟨(K_exclusive' (K_shared' K (vp_updL (K_shared K) (Int32.toNatClampNeg a2) (((K_shared K) (Int32.toNatClampNeg a2)) &&& (((1 : Int64) <<< (Int32.toInt64 a1 &&& 63)) ^^^ (-1))))) (vp_updL (K_exclusive K) (Int32.toNatClampNeg a2) (((K_exclusive K) (Int32.toNatClampNeg a2)) ||| ((1 : Int64) <<< (Int32.toInt64 a1 &&& 63))))), rfl, hwp, hp_of ht hP⟩, hS.F ht⟩) hS.2.2 d_K_grant_59
  · rw [if_neg hc] at hwp
    rw [hQ]
    exact W.vret hx hb hr (fun t ht hW => ⟨⟨K, rfl, hwp, hp_of ht hP⟩, hS.F ht⟩) hS.2.2 d_K_grant_10

set_option maxHeartbeats 4000000 in
set_option maxRecDepth 100000 in
theorem c_K_release {l : Launch} {dC : Nat → ClassId} {dI : Nat → Nat → Nat} {cI cL cZ : ClassId} {q : Nat → Nat} (hq : iN q) (A : S_A) (D : S_D) (G : S_G) (K : S_K) (N : S_N) (P : S_P) (T : S_T) (a1 : Int32) (post : S_K → Prop) (hwp : wp_K_release K a1 post) : Met l y_K_release ws_K_release rm_K_release (va_Pc [.ref (q 2), .int a1] (bN dC dI cI cL cZ q A D G K N P T)) (va_Qv (fun (u : S_K) => post u) (fun u t => va_P (dC, dI) clZ (wN cI cL cZ q A D G (u) N P T) t.heap) (aN q)) 0 0 (aN q) := by
  refine Met.ofW (cc := b_K_release) (maxL := 3) (ret := none) (by decide) rfl ?_
  intro p e s m args below meth c s₁ B hml hv
  obtain ⟨rfl, hP, hK⟩ := hv
  have hx := B.exec
  have hb := B.bytes
  have hr := B.returns
  have hts := atoms_spec (ws := ws_K_release) B.pre
  have hown : s.vm.findClass R_K = some m.cls := findClass_of_methodNamed B.named
  have hlocks := B.notSynchronized
  have hiK : ∀ w ∈ u_ws R_K F_K 2, w ∈ ws_K_release := fun w h => List.mem_cons_of_mem _ (in_K w h)
  have lk9 := hts _ (List.mem_cons_of_mem _ k_K_9)
  have lk15 := hts _ (List.mem_cons_of_mem _ k_K_15)
  have hS : va_S (aN q) s.heap s.heap [] := va_S.rf
  have hl := lv_entry ([.ref (q 2), .int a1]) (n := 3) (Nat.le_of_ble_eq_true rfl)
  rw [lg_entry_eq]
  generalize (lg_sl ([.ref (q 2), .int a1]) ++ List.replicate (3 - (lg_sl ([.ref (q 2), .int a1])).length) Slot.unset).toArray = ls at hl ⊢
  have hl : lv_has ls 3 [(0, .ref (q 2)), (1, .int a1)] := hl
  obtain ⟨Q, hQ⟩ : ∃ Q, Q = MQ below (va_Qv (fun (u : S_K) => post u) (fun u t => va_P (dC, dI) clZ (wN cI cL cZ q A D G (u) N P T) t.heap) (aN q)) ([.ref (q 2), .int a1]).toArray s 0 0 (aN q) := ⟨_, rfl⟩
  rw [← hQ]
  have L2 : ∀ (Kx : S_K → Prop) (v1 : Int32) (n : Nat) (v2 : Int32) (K : S_K) (H : Heap) (locs : List Loc) (ls : Array Slot), lv_has ls 3 [(0, .ref (q 2)), (1, .int v1), (2, .int v2)] → va_P (dC, dI) clZ (wN cI cL cZ q A D G K N P T) H → va_S (aN q) s.heap H locs → wp_K_release_L2 v1 Kx n v2 K → (∀ (K1 : S_K) (H : Heap) (locs : List Loc) (ls : Array Slot), lv_has ls 3 [] → va_P (dC, dI) clZ (wN cI cL cZ q A D G K1 N P T) H → va_S (aN q) s.heap H locs → Kx K1 → W p l e (headSpec ws_K_release rm_K_release).room s m ([.ref (q 2), .int a1]).toArray below meth c H locs 0 0 Q (F0 m 46 ls [])) → W p l e (headSpec ws_K_release rm_K_release).room s m ([.ref (q 2), .int a1]).toArray below meth c H locs 0 0 Q (F0 m 2 ls []) := by
    intro Kx v1 n
    induction n with
    | zero =>
      intros
      rename_i hwp _
      exact hwp.elim
    | succ n2 ih =>
      intro v2 K H locs ls hl hP hS hwp hX
      rw [wp_K_release_L2] at hwp
      refine lv_iload_n hx hb d_K_release_2 rfl (lv_at hl 2 rfl) ?_
      refine lv_bipush (v := 33) hx hb d_K_release_3 (by decide) ?_
      refine lv_icmp_ge (tgt := 46) hx hb d_K_release_5 (by decide) (fun hc => ?_) (fun hc => ?_)
      · rw [if_pos hc] at hwp
        exact hX (K) _ _ _ (lv_sub hl [] rfl) hP hS hwp
      · rw [if_neg hc] at hwp
        refine lv_aload_n hx hb d_K_release_8 rfl (lv_at hl 0 rfl) ?_
        refine va_get (D := (dC, dI)) (ci := 2) (v := .ref (q 17)) (C := R_K) (T := F_K) (N := 2) hx hb hts hiK hown hK hP 2 rfl rfl 0 (by decide) lk9 (fun _ h9 => h9) rfl d_K_release_9 ?_
        refine lv_iload_n hx hb d_K_release_12 rfl (lv_at hl 2 rfl) ?_
        refine lv_dup2_11 hx hb d_K_release_13 rfl rfl ?_
        refine va_lald hx hb hK hP 17 1 rfl rfl hwp.1 d_K_release_14 ?_
        have hwp := hwp.2
        refine lv_lconst (v := (1 : Int64)) hx hb d_K_release_15 (by decide) ?_
        refine lv_iload_n hx hb d_K_release_16 rfl (lv_at hl 1 rfl) ?_
        refine lv_lshl hx hb d_K_release_17 rfl ?_
        refine lv_ldc2 (v := (-1)) hx hb hown (hts _ (List.mem_cons_of_mem _ kc_K_18)) d_K_release_18 ?_
        refine lv_lxor hx hb d_K_release_21 ?_
        refine lv_land hx hb d_K_release_22 ?_
        refine va_last hx hb hK hP (dN hq) hS 17 1 rfl rfl hwp.1 d_K_release_23 (fun H locs hP _ hS => ?_)
        have hwp := hwp.2
        have hP : va_P (dC, dI) clZ (wN cI cL cZ q A D G (K_shared' K (vp_updL (K_shared K) (Int32.toNatClampNeg v2) (((K_shared K) (Int32.toNatClampNeg v2)) &&& (((1 : Int64) <<< (Int32.toInt64 v1 &&& 63)) ^^^ (-1))))) N P T) H := hP
        refine lv_aload_n hx hb d_K_release_24 rfl (lv_at hl 0 rfl) ?_
        refine va_get (D := (dC, dI)) (ci := 2) (v := .ref (q 18)) (C := R_K) (T := F_K) (N := 2) hx hb hts hiK hown hK hP 2 rfl rfl 1 (by decide) lk15 (fun _ h9 => h9) rfl d_K_release_25 ?_
        refine lv_iload_n hx hb d_K_release_28 rfl (lv_at hl 2 rfl) ?_
        refine lv_dup2_11 hx hb d_K_release_29 rfl rfl ?_
        refine va_lald hx hb hK hP 18 1 rfl rfl hwp.1 d_K_release_30 ?_
        have hwp := hwp.2
        refine lv_lconst (v := (1 : Int64)) hx hb d_K_release_31 (by decide) ?_
        refine lv_iload_n hx hb d_K_release_32 rfl (lv_at hl 1 rfl) ?_
        refine lv_lshl hx hb d_K_release_33 rfl ?_
        refine lv_ldc2 (v := (-1)) hx hb hown (hts _ (List.mem_cons_of_mem _ kc_K_18)) d_K_release_34 ?_
        refine lv_lxor hx hb d_K_release_37 ?_
        refine lv_land hx hb d_K_release_38 ?_
        refine va_last hx hb hK hP (dN hq) hS 18 1 rfl rfl hwp.1 d_K_release_39 (fun H locs hP _ hS => ?_)
        have hwp := hwp.2
        have hP : va_P (dC, dI) clZ (wN cI cL cZ q A D G (K_exclusive' (K_shared' K (vp_updL (K_shared K) (Int32.toNatClampNeg v2) (((K_shared K) (Int32.toNatClampNeg v2)) &&& (((1 : Int64) <<< (Int32.toInt64 v1 &&& 63)) ^^^ (-1))))) (vp_updL (K_exclusive K) (Int32.toNatClampNeg v2) (((K_exclusive K) (Int32.toNatClampNeg v2)) &&& (((1 : Int64) <<< (Int32.toInt64 v1 &&& 63)) ^^^ (-1))))) N P T) H := hP
        refine lv_iinc (k := 2) (v := (v2 + 1)) (lv' := [(2, .int (v2 + 1)), (0, .ref (q 2)), (1, .int v1)]) hx hb d_K_release_40 hl rfl (ii_1 _) (by decide) rfl (fun ls hl => ?_)
        refine lv_goto hx hb d_K_release_43 (tgt := 2) (by decide) ?_
        exact ih ((v2 + 1)) ((K_exclusive' (K_shared' K (vp_updL (K_shared K) (Int32.toNatClampNeg v2) (((K_shared K) (Int32.toNatClampNeg v2)) &&& (((1 : Int64) <<< (Int32.toInt64 v1 &&& 63)) ^^^ (-1))))) (vp_updL (K_exclusive K) (Int32.toNatClampNeg v2) (((K_exclusive K) (Int32.toNatClampNeg v2)) &&& (((1 : Int64) <<< (Int32.toInt64 v1 &&& 63)) ^^^ (-1)))))) _ _ _ (lv_sub hl [1, 2, 0] rfl) hP hS hwp hX
  rw [wp_K_release] at hwp
  refine lv_iconst (v := 0) hx hb d_K_release_0 (by decide) ?_
  refine lv_istore_n (lv' := [(2, .int 0), (0, .ref (q 2)), (1, .int a1)]) hx hb d_K_release_1 rfl hl (by decide) rfl (fun ls hl => ?_)
  obtain ⟨e2, hwp⟩ := hwp
  refine L2 _ (a1) e2 (0) (K) _ _ _ (lv_sub hl [1, 2, 0] rfl) hP hS hwp (fun K1 H locs ls hl hP hS hwp => ?_)
  rw [hQ]
  exact W.vret hx hb hr (fun t ht hW => ⟨⟨K1, rfl, hwp, hp_of ht hP⟩, hS.F ht⟩) hS.2.2 d_K_release_46

set_option maxHeartbeats 4000000 in
set_option maxRecDepth 100000 in
theorem c_K_passOn {l : Launch} {dC : Nat → ClassId} {dI : Nat → Nat → Nat} {cI cL cZ : ClassId} {q : Nat → Nat} (hq : iN q) (A : S_A) (D : S_D) (G : S_G) (K : S_K) (N : S_N) (P : S_P) (T : S_T) (a1 : Int32) (a2 : Int32) (post : S_K → Prop) (hwp : wp_K_passOn K a1 a2 post) : Met l y_K_passOn ws_K_passOn rm_K_passOn (va_Pc [.ref (q 2), .int a1, .int a2] (bN dC dI cI cL cZ q A D G K N P T)) (va_Qv (fun (u : S_K) => post u) (fun u t => va_P (dC, dI) clZ (wN cI cL cZ q A D G (u) N P T) t.heap) (aN q)) 0 0 (aN q) := by
  refine Met.ofW (cc := b_K_passOn) (maxL := 4) (ret := none) (by decide) rfl ?_
  intro p e s m args below meth c s₁ B hml hv
  obtain ⟨rfl, hP, hK⟩ := hv
  have hx := B.exec
  have hb := B.bytes
  have hr := B.returns
  have hts := atoms_spec (ws := ws_K_passOn) B.pre
  have hown : s.vm.findClass R_K = some m.cls := findClass_of_methodNamed B.named
  have hlocks := B.notSynchronized
  have hS : va_S (aN q) s.heap s.heap [] := va_S.rf
  have hl := lv_entry ([.ref (q 2), .int a1, .int a2]) (n := 4) (Nat.le_of_ble_eq_true rfl)
  rw [lg_entry_eq]
  generalize (lg_sl ([.ref (q 2), .int a1, .int a2]) ++ List.replicate (4 - (lg_sl ([.ref (q 2), .int a1, .int a2])).length) Slot.unset).toArray = ls at hl ⊢
  have hl : lv_has ls 4 [(0, .ref (q 2)), (1, .int a1), (2, .int a2)] := hl
  obtain ⟨Q, hQ⟩ : ∃ Q, Q = MQ below (va_Qv (fun (u : S_K) => post u) (fun u t => va_P (dC, dI) clZ (wN cI cL cZ q A D G (u) N P T) t.heap) (aN q)) ([.ref (q 2), .int a1, .int a2]).toArray s 0 0 (aN q) := ⟨_, rfl⟩
  rw [← hQ]
  have L2 : ∀ (Kx : S_K → Prop) (v1 : Int32) (v2 : Int32) (n : Nat) (v3 : Int32) (K : S_K) (H : Heap) (locs : List Loc) (ls : Array Slot), lv_has ls 4 [(0, .ref (q 2)), (1, .int v1), (2, .int v2), (3, .int v3)] → va_P (dC, dI) clZ (wN cI cL cZ q A D G K N P T) H → va_S (aN q) s.heap H locs → wp_K_passOn_L2 v1 v2 Kx n v3 K → (∀ (K1 : S_K) (H : Heap) (locs : List Loc) (ls : Array Slot), lv_has ls 4 [] → va_P (dC, dI) clZ (wN cI cL cZ q A D G K1 N P T) H → va_S (aN q) s.heap H locs → Kx K1 → W p l e (headSpec ws_K_passOn rm_K_passOn).room s m ([.ref (q 2), .int a1, .int a2]).toArray below meth c H locs 0 0 Q (F0 m 26 ls [])) → W p l e (headSpec ws_K_passOn rm_K_passOn).room s m ([.ref (q 2), .int a1, .int a2]).toArray below meth c H locs 0 0 Q (F0 m 2 ls []) := by
    intro Kx v1 v2 n
    induction n with
    | zero =>
      intros
      rename_i hwp _
      exact hwp.elim
    | succ n2 ih =>
      intro v3 K H locs ls hl hP hS hwp hX
      rw [wp_K_passOn_L2] at hwp
      refine lv_iload_n hx hb d_K_passOn_2 rfl (lv_at hl 3 rfl) ?_
      refine lv_bipush (v := 33) hx hb d_K_passOn_3 (by decide) ?_
      refine lv_icmp_ge (tgt := 26) hx hb d_K_passOn_5 (by decide) (fun hc => ?_) (fun hc => ?_)
      · rw [if_pos hc] at hwp
        exact hX (K) _ _ _ (lv_sub hl [] rfl) hP hS hwp
      · rw [if_neg hc] at hwp
        refine lv_aload_n hx hb d_K_passOn_8 rfl (lv_at hl 0 rfl) ?_
        refine lv_iload_n hx hb d_K_passOn_9 rfl (lv_at hl 2 rfl) ?_
        refine lv_iload_n hx hb d_K_passOn_10 rfl (lv_at hl 3 rfl) ?_
        refine lv_aload_n hx hb d_K_passOn_11 rfl (lv_at hl 0 rfl) ?_
        refine lv_iload_n hx hb d_K_passOn_12 rfl (lv_at hl 1 rfl) ?_
        refine lv_iload_n hx hb d_K_passOn_13 rfl (lv_at hl 3 rfl) ?_
        refine ncn_i (As := [.int v1, .int v3]) (c_K_heldBy hq (A) (D) (G) (K) (N) (P) (T) (v1) (v3) _ hwp) (cwV 2 hts g_K_20 rfl rfl rfl hd_K_heldBy ⟨Nat.le_of_ble_eq_true rfl, Nat.le_of_ble_eq_true rfl⟩) hx hb hml hown hts hK hP hS hl.1 d_K_passOn_14 (va_recv (q := (R_K, F_K, 2)) hK hP (ci := 2) (q0 := 2) rfl rfl) rfl (lv_room (Nat.le_of_ble_eq_true rfl)) (Nat.zero_le _) (Nat.zero_le _) rfl (fun r1 u H locs hwp hP hS => ?_)
        have hP : va_P (dC, dI) clZ (wN cI cL cZ q A D G K N P T) H := hP
        refine ncn_v (As := [.int v2, .int v3, .int r1]) (c_K_grant hq (A) (D) (G) (K) (N) (P) (T) (v2) (v3) (r1) _ hwp) (cwV 3 hts g_K_24 rfl rfl rfl hd_K_grant ⟨Nat.le_of_ble_eq_true rfl, Nat.le_of_ble_eq_true rfl⟩) hx hb hml hown hts hK hP hS hl.1 d_K_passOn_17 (va_recv (q := (R_K, F_K, 2)) hK hP (ci := 2) (q0 := 2) rfl rfl) rfl (lv_room (Nat.le_of_ble_eq_true rfl)) (Nat.zero_le _) (Nat.zero_le _) rfl (fun K2 H locs hwp hP hS => ?_)
        have hP : va_P (dC, dI) clZ (wN cI cL cZ q A D G K2 N P T) H := hP
        refine lv_iinc (k := 3) (v := (v3 + 1)) (lv' := [(3, .int (v3 + 1)), (0, .ref (q 2)), (1, .int v1), (2, .int v2)]) hx hb d_K_passOn_20 hl rfl (ii_1 _) (by decide) rfl (fun ls hl => ?_)
        refine lv_goto hx hb d_K_passOn_23 (tgt := 2) (by decide) ?_
        exact ih ((v3 + 1)) (K2) _ _ _ (lv_sub hl [1, 2, 3, 0] rfl) hP hS hwp hX
  rw [wp_K_passOn] at hwp
  refine lv_iconst (v := 0) hx hb d_K_passOn_0 (by decide) ?_
  refine lv_istore_n (lv' := [(3, .int 0), (0, .ref (q 2)), (1, .int a1), (2, .int a2)]) hx hb d_K_passOn_1 rfl hl (by decide) rfl (fun ls hl => ?_)
  obtain ⟨e2, hwp⟩ := hwp
  refine L2 _ (a1) (a2) e2 (0) (K) _ _ _ (lv_sub hl [1, 2, 3, 0] rfl) hP hS hwp (fun K3 H locs ls hl hP hS hwp => ?_)
  rw [hQ]
  exact W.vret hx hb hr (fun t ht hW => ⟨⟨K3, rfl, hwp, hp_of ht hP⟩, hS.F ht⟩) hS.2.2 d_K_passOn_26

set_option maxHeartbeats 4000000 in
set_option maxRecDepth 100000 in
theorem c_K_releaseAll {l : Launch} {dC : Nat → ClassId} {dI : Nat → Nat → Nat} {cI cL cZ : ClassId} {q : Nat → Nat} (hq : iN q) (A : S_A) (D : S_D) (G : S_G) (K : S_K) (N : S_N) (P : S_P) (T : S_T)  (post : S_K → Prop) (hwp : wp_K_releaseAll K post) : Met l y_K_releaseAll ws_K_releaseAll rm_K_releaseAll (va_Pc [.ref (q 2)] (bN dC dI cI cL cZ q A D G K N P T)) (va_Qv (fun (u : S_K) => post u) (fun u t => va_P (dC, dI) clZ (wN cI cL cZ q A D G (u) N P T) t.heap) (aN q)) 0 0 (aN q) := by
  refine Met.ofW (cc := b_K_releaseAll) (maxL := 2) (ret := none) (by decide) rfl ?_
  intro p e s m args below meth c s₁ B hml hv
  obtain ⟨rfl, hP, hK⟩ := hv
  have hx := B.exec
  have hb := B.bytes
  have hr := B.returns
  have hts := atoms_spec (ws := ws_K_releaseAll) B.pre
  have hown : s.vm.findClass R_K = some m.cls := findClass_of_methodNamed B.named
  have hlocks := B.notSynchronized
  have hiK : ∀ w ∈ u_ws R_K F_K 2, w ∈ ws_K_releaseAll := fun w h => List.mem_cons_of_mem _ (in_K w h)
  have lk9 := hts _ (List.mem_cons_of_mem _ k_K_9)
  have lk15 := hts _ (List.mem_cons_of_mem _ k_K_15)
  have hS : va_S (aN q) s.heap s.heap [] := va_S.rf
  have hl := lv_entry ([.ref (q 2)]) (n := 2) (Nat.le_of_ble_eq_true rfl)
  rw [lg_entry_eq]
  generalize (lg_sl ([.ref (q 2)]) ++ List.replicate (2 - (lg_sl ([.ref (q 2)])).length) Slot.unset).toArray = ls at hl ⊢
  have hl : lv_has ls 2 [(0, .ref (q 2))] := hl
  obtain ⟨Q, hQ⟩ : ∃ Q, Q = MQ below (va_Qv (fun (u : S_K) => post u) (fun u t => va_P (dC, dI) clZ (wN cI cL cZ q A D G (u) N P T) t.heap) (aN q)) ([.ref (q 2)]).toArray s 0 0 (aN q) := ⟨_, rfl⟩
  rw [← hQ]
  have L2 : ∀ (Kx : S_K → Prop) (n : Nat) (v1 : Int32) (K : S_K) (H : Heap) (locs : List Loc) (ls : Array Slot), lv_has ls 2 [(0, .ref (q 2)), (1, .int v1)] → va_P (dC, dI) clZ (wN cI cL cZ q A D G K N P T) H → va_S (aN q) s.heap H locs → wp_K_releaseAll_L2 Kx n v1 K → (∀ (K1 : S_K) (H : Heap) (locs : List Loc) (ls : Array Slot), lv_has ls 2 [] → va_P (dC, dI) clZ (wN cI cL cZ q A D G K1 N P T) H → va_S (aN q) s.heap H locs → Kx K1 → W p l e (headSpec ws_K_releaseAll rm_K_releaseAll).room s m ([.ref (q 2)]).toArray below meth c H locs 0 0 Q (F0 m 28 ls [])) → W p l e (headSpec ws_K_releaseAll rm_K_releaseAll).room s m ([.ref (q 2)]).toArray below meth c H locs 0 0 Q (F0 m 2 ls []) := by
    intro Kx  n
    induction n with
    | zero =>
      intros
      rename_i hwp _
      exact hwp.elim
    | succ n2 ih =>
      intro v1 K H locs ls hl hP hS hwp hX
      rw [wp_K_releaseAll_L2] at hwp
      refine lv_iload_n hx hb d_K_releaseAll_2 rfl (lv_at hl 1 rfl) ?_
      refine lv_bipush (v := 33) hx hb d_K_releaseAll_3 (by decide) ?_
      refine lv_icmp_ge (tgt := 28) hx hb d_K_releaseAll_5 (by decide) (fun hc => ?_) (fun hc => ?_)
      · rw [if_pos hc] at hwp
        exact hX (K) _ _ _ (lv_sub hl [] rfl) hP hS hwp
      · rw [if_neg hc] at hwp
        refine lv_aload_n hx hb d_K_releaseAll_8 rfl (lv_at hl 0 rfl) ?_
        refine va_get (D := (dC, dI)) (ci := 2) (v := .ref (q 17)) (C := R_K) (T := F_K) (N := 2) hx hb hts hiK hown hK hP 2 rfl rfl 0 (by decide) lk9 (fun _ h9 => h9) rfl d_K_releaseAll_9 ?_
        refine lv_iload_n hx hb d_K_releaseAll_12 rfl (lv_at hl 1 rfl) ?_
        refine lv_lconst (v := (0 : Int64)) hx hb d_K_releaseAll_13 (by decide) ?_
        refine va_last hx hb hK hP (dN hq) hS 17 1 rfl rfl hwp.1 d_K_releaseAll_14 (fun H locs hP _ hS => ?_)
        have hwp := hwp.2
        have hP : va_P (dC, dI) clZ (wN cI cL cZ q A D G (K_shared' K (vp_updL (K_shared K) (Int32.toNatClampNeg v1) (0 : Int64))) N P T) H := hP
        refine lv_aload_n hx hb d_K_releaseAll_15 rfl (lv_at hl 0 rfl) ?_
        refine va_get (D := (dC, dI)) (ci := 2) (v := .ref (q 18)) (C := R_K) (T := F_K) (N := 2) hx hb hts hiK hown hK hP 2 rfl rfl 1 (by decide) lk15 (fun _ h9 => h9) rfl d_K_releaseAll_16 ?_
        refine lv_iload_n hx hb d_K_releaseAll_19 rfl (lv_at hl 1 rfl) ?_
        refine lv_lconst (v := (0 : Int64)) hx hb d_K_releaseAll_20 (by decide) ?_
        refine va_last hx hb hK hP (dN hq) hS 18 1 rfl rfl hwp.1 d_K_releaseAll_21 (fun H locs hP _ hS => ?_)
        have hwp := hwp.2
        have hP : va_P (dC, dI) clZ (wN cI cL cZ q A D G (K_exclusive' (K_shared' K (vp_updL (K_shared K) (Int32.toNatClampNeg v1) (0 : Int64))) (vp_updL (K_exclusive K) (Int32.toNatClampNeg v1) (0 : Int64))) N P T) H := hP
        refine lv_iinc (k := 1) (v := (v1 + 1)) (lv' := [(1, .int (v1 + 1)), (0, .ref (q 2))]) hx hb d_K_releaseAll_22 hl rfl (ii_1 _) (by decide) rfl (fun ls hl => ?_)
        refine lv_goto hx hb d_K_releaseAll_25 (tgt := 2) (by decide) ?_
        exact ih ((v1 + 1)) ((K_exclusive' (K_shared' K (vp_updL (K_shared K) (Int32.toNatClampNeg v1) (0 : Int64))) (vp_updL (K_exclusive K) (Int32.toNatClampNeg v1) (0 : Int64)))) _ _ _ (lv_sub hl [1, 0] rfl) hP hS hwp hX
  rw [wp_K_releaseAll] at hwp
  refine lv_iconst (v := 0) hx hb d_K_releaseAll_0 (by decide) ?_
  refine lv_istore_n (lv' := [(1, .int 0), (0, .ref (q 2))]) hx hb d_K_releaseAll_1 rfl hl (by decide) rfl (fun ls hl => ?_)
  obtain ⟨e2, hwp⟩ := hwp
  refine L2 _  e2 (0) (K) _ _ _ (lv_sub hl [1, 0] rfl) hP hS hwp (fun K1 H locs ls hl hP hS hwp => ?_)
  rw [hQ]
  exact W.vret hx hb hr (fun t ht hW => ⟨⟨K1, rfl, hwp, hp_of ht hP⟩, hS.F ht⟩) hS.2.2 d_K_releaseAll_28
