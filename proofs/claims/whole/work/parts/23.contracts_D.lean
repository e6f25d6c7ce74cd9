set_option maxHeartbeats 4000000 in
set_option maxRecDepth 100000 in
theorem c_D_reachedFrom {l : Launch} {dC : Nat → ClassId} {dI : Nat → Nat → Nat} {cI cL cZ : ClassId} {q : Nat → Nat} (hq : iN q) (A : S_A) (D : S_D) (G : S_G) (K : S_K) (N : S_N) (P : S_P) (T : S_T) (a1 : Int32) (a2 : Int32) (post : Int64 → Prop) (hwp : wp_D_reachedFrom D a1 a2 post) : Met l y_D_reachedFrom ws_D_reachedFrom rm_D_reachedFrom (va_Pc [.ref (q 4), .int a1, .int a2] (bN dC dI cI cL cZ q A D G K N P T)) (va_Ql (fun (r : Int64) (u : Unit) => post r) (fun u t => va_P (dC, dI) clZ (wN cI cL cZ q A D G K N P T) t.heap) (aN q)) 0 0 (aN q) := by
  refine Met.ofW (cc := b_D_reachedFrom) (maxL := 9) (ret := (some .long)) (by decide) rfl ?_
  intro p e s m args below meth c s₁ B hml hv
  obtain ⟨rfl, hP, hK⟩ := hv
  have hx := B.exec
  have hb := B.bytes
  have hr := B.returns
  have hts := atoms_spec (ws := ws_D_reachedFrom) B.pre
  have hown : s.vm.findClass R_D = some m.cls := findClass_of_methodNamed B.named
  have hlocks := B.notSynchronized
  have hiD : ∀ w ∈ u_ws R_D F_D 1, w ∈ ws_D_reachedFrom := fun w h => List.mem_cons_of_mem _ (in_D w h)
  have lk9 := hts _ (List.mem_cons_of_mem _ k_D_9)
  have hS : va_S (aN q) s.heap s.heap [] := va_S.rf
  have hl := lv_entry ([.ref (q 4), .int a1, .int a2]) (n := 9) (Nat.le_of_ble_eq_true rfl)
  rw [lg_entry_eq]
  generalize (lg_sl ([.ref (q 4), .int a1, .int a2]) ++ List.replicate (9 - (lg_sl ([.ref (q 4), .int a1, .int a2])).length) Slot.unset).toArray = ls at hl ⊢
  have hl : lv_has ls 9 [(0, .ref (q 4)), (1, .int a1), (2, .int a2)] := hl
  obtain ⟨Q, hQ⟩ : ∃ Q, Q = MQ below (va_Ql (fun (r : Int64) (u : Unit) => post r) (fun u t => va_P (dC, dI) clZ (wN cI cL cZ q A D G K N P T) t.heap) (aN q)) ([.ref (q 4), .int a1, .int a2]).toArray s 0 0 (aN q) := ⟨_, rfl⟩
  rw [← hQ]
  have L22 : ∀ (Kx : Int64 → Prop) (v2 : Int32) (v5 : Int32) (v6 : Int64) (n : Nat) (v3 : Int64) (v8 : Int32) (H : Heap) (locs : List Loc) (ls : Array Slot), lv_has ls 9 [(0, .ref (q 4)), (2, .int v2), (3, .long v3), (5, .int v5), (6, .long v6), (8, .int v8)] → va_P (dC, dI) clZ (wN cI cL cZ q A D G K N P T) H → va_S (aN q) s.heap H locs → wp_D_reachedFrom_L22 D v2 v5 v6 Kx n v3 v8 → (∀ (x3 : Int64) (H : Heap) (locs : List Loc) (ls : Array Slot), lv_has ls 9 [(0, .ref (q 4)), (2, .int v2), (3, .long x3), (5, .int v5), (6, .long v6)] → va_P (dC, dI) clZ (wN cI cL cZ q A D G K N P T) H → va_S (aN q) s.heap H locs → Kx x3 → W p l e (headSpec ws_D_reachedFrom rm_D_reachedFrom).room s m ([.ref (q 4), .int a1, .int a2]).toArray below meth c H locs 0 0 Q (F0 m 55 ls [])) → W p l e (headSpec ws_D_reachedFrom rm_D_reachedFrom).room s m ([.ref (q 4), .int a1, .int a2]).toArray below meth c H locs 0 0 Q (F0 m 22 ls []) := by
    intro Kx v2 v5 v6 n
    induction n with
    | zero =>
      intros
      rename_i hwp _
      exact hwp.elim
    | succ n22 ih =>
      intro v3 v8 H locs ls hl hP hS hwp hX
      rw [wp_D_reachedFrom_L22] at hwp
      refine lv_iload hx hb d_D_reachedFrom_22 (lv_at hl 5 rfl) ?_
      refine lv_iload_n hx hb d_D_reachedFrom_24 rfl (lv_at hl 1 rfl) ?_
      refine lv_icmp_ge (tgt := 55) hx hb d_D_reachedFrom_25 (by decide) (fun hc => ?_) (fun hc => ?_)
      · rw [if_pos hc] at hwp
        exact hX (v3) _ _ _ (lv_sub hl [0, 1, 2, 3, 4] rfl) hP hS hwp
      · rw [if_neg hc] at hwp
        refine lv_lload_n hx hb d_D_reachedFrom_28 rfl (lv_at hl 2 rfl) ?_
        refine lv_lconst (v := (1 : Int64)) hx hb d_D_reachedFrom_29 (by decide) ?_
        refine lv_iload hx hb d_D_reachedFrom_30 (lv_at hl 5 rfl) ?_
        refine lv_lshl hx hb d_D_reachedFrom_32 rfl ?_
        refine lv_land hx hb d_D_reachedFrom_33 ?_
        refine lv_lconst (v := (0 : Int64)) hx hb d_D_reachedFrom_34 (by decide) ?_
        refine W.lcmp hx hb d_D_reachedFrom_35 ?_
        refine lv_if_eq (tgt := 49) hx hb d_D_reachedFrom_36 (by decide) (fun hc => ?_) (fun hc => ?_)
        · rw [if_pos hc] at hwp
          refine lv_iinc (k := 5) (v := (v8 + 1)) (lv' := [(8, .int (v8 + 1)), (0, .ref (q 4)), (2, .int v2), (3, .long v3), (5, .int v5), (6, .long v6)]) hx hb d_D_reachedFrom_49 hl rfl (ii_1 _) (by decide) rfl (fun ls hl => ?_)
          refine lv_goto hx hb d_D_reachedFrom_52 (tgt := 22) (by decide) ?_
          exact ih (v3) ((v8 + 1)) _ _ _ (lv_sub hl [1, 2, 3, 4, 5, 0] rfl) hP hS hwp hX
        · rw [if_neg hc] at hwp
          refine lv_lload_n hx hb d_D_reachedFrom_39 rfl (lv_at hl 2 rfl) ?_
          refine lv_aload_n hx hb d_D_reachedFrom_40 rfl (lv_at hl 0 rfl) ?_
          refine va_get (D := (dC, dI)) (ci := 4) (v := .ref (q 20)) (C := R_D) (T := F_D) (N := 1) hx hb hts hiD hown hK hP 4 rfl rfl 0 (by decide) lk9 (fun _ h9 => h9) rfl d_D_reachedFrom_41 ?_
          refine lv_iload hx hb d_D_reachedFrom_44 (lv_at hl 5 rfl) ?_
          refine va_lald hx hb hK hP 20 1 rfl rfl hwp.1 d_D_reachedFrom_46 ?_
          have hwp := hwp.2
          refine lv_lor hx hb d_D_reachedFrom_47 ?_
          refine lv_lstore_n (lv' := [(3, .long (v3 ||| ((D_from D) (Int32.toNatClampNeg v8)))), (0, .ref (q 4)), (2, .int v2), (5, .int v5), (6, .long v6), (8, .int v8)]) hx hb d_D_reachedFrom_48 rfl hl (by decide) rfl (fun ls hl => ?_)
          refine lv_iinc (k := 5) (v := (v8 + 1)) (lv' := [(8, .int (v8 + 1)), (3, .long (v3 ||| ((D_from D) (Int32.toNatClampNeg v8)))), (0, .ref (q 4)), (2, .int v2), (5, .int v5), (6, .long v6)]) hx hb d_D_reachedFrom_49 hl rfl (ii_1 _) (by decide) rfl (fun ls hl => ?_)
          refine lv_goto hx hb d_D_reachedFrom_52 (tgt := 22) (by decide) ?_
          exact ih ((v3 ||| ((D_from D) (Int32.toNatClampNeg v8)))) ((v8 + 1)) _ _ _ (lv_sub hl [2, 3, 1, 4, 5, 0] rfl) hP hS hwp hX
  have L10 : ∀ (Kx : Int64 → Prop) (v2 : Int32) (n : Nat) (v3 : Int64) (v5 : Int32) (H : Heap) (locs : List Loc) (ls : Array Slot), lv_has ls 9 [(0, .ref (q 4)), (2, .int v2), (3, .long v3), (5, .int v5)] → va_P (dC, dI) clZ (wN cI cL cZ q A D G K N P T) H → va_S (aN q) s.heap H locs → wp_D_reachedFrom_L10 D v2 Kx n v3 v5 → (∀ (x3 : Int64) (H : Heap) (locs : List Loc) (ls : Array Slot), lv_has ls 9 [(3, .long x3)] → va_P (dC, dI) clZ (wN cI cL cZ q A D G K N P T) H → va_S (aN q) s.heap H locs → Kx x3 → W p l e (headSpec ws_D_reachedFrom rm_D_reachedFrom).room s m ([.ref (q 4), .int a1, .int a2]).toArray below meth c H locs 0 0 Q (F0 m 71 ls [])) → W p l e (headSpec ws_D_reachedFrom rm_D_reachedFrom).room s m ([.ref (q 4), .int a1, .int a2]).toArray below meth c H locs 0 0 Q (F0 m 10 ls []) := by
    intro Kx v2 n
    induction n with
    | zero =>
      intros
      rename_i hwp _
      exact hwp.elim
    | succ n10 ih =>
      intro v3 v5 H locs ls hl hP hS hwp hX
      rw [wp_D_reachedFrom_L10] at hwp
      refine lv_iload hx hb d_D_reachedFrom_10 (lv_at hl 3 rfl) ?_
      refine lv_iload_n hx hb d_D_reachedFrom_12 rfl (lv_at hl 1 rfl) ?_
      refine lv_icmp_ge (tgt := 71) hx hb d_D_reachedFrom_13 (by decide) (fun hc => ?_) (fun hc => ?_)
      · rw [if_pos hc] at hwp
        exact hX (v3) _ _ _ (lv_sub hl [2] rfl) hP hS hwp
      · rw [if_neg hc] at hwp
        refine lv_lload_n hx hb d_D_reachedFrom_16 rfl (lv_at hl 2 rfl) ?_
        refine lv_lstore (lv' := [(6, .long v3), (0, .ref (q 4)), (2, .int v2), (3, .long v3), (5, .int v5)]) hx hb d_D_reachedFrom_17 hl (by decide) rfl (fun ls hl => ?_)
        refine lv_iconst (v := 0) hx hb d_D_reachedFrom_19 (by decide) ?_
        refine lv_istore (lv' := [(8, .int 0), (6, .long v3), (0, .ref (q 4)), (2, .int v2), (3, .long v3), (5, .int v5)]) hx hb d_D_reachedFrom_20 hl (by decide) rfl (fun ls hl => ?_)
        obtain ⟨e22, hwp⟩ := hwp
        refine L22 _ (v2) (v5) (v3) e22 (v3) (0) _ _ _ (lv_sub hl [2, 3, 4, 5, 1, 0] rfl) hP hS hwp (fun x1 H locs ls hl hP hS hwp => ?_)
        refine lv_lload_n hx hb d_D_reachedFrom_55 rfl (lv_at hl 2 rfl) ?_
        refine lv_lload hx hb d_D_reachedFrom_56 (lv_at hl 4 rfl) ?_
        refine W.lcmp hx hb d_D_reachedFrom_58 ?_
        refine lv_if_ne (tgt := 65) hx hb d_D_reachedFrom_59 (by decide) (fun hc => ?_) (fun hc => ?_)
        · rw [if_neg hc] at hwp
          refine lv_iinc (k := 3) (v := (v5 + 1)) (lv' := [(5, .int (v5 + 1)), (0, .ref (q 4)), (2, .int v2), (3, .long x1), (6, .long v3)]) hx hb d_D_reachedFrom_65 hl rfl (ii_1 _) (by decide) rfl (fun ls hl => ?_)
          refine lv_goto hx hb d_D_reachedFrom_68 (tgt := 10) (by decide) ?_
          exact ih (x1) ((v5 + 1)) _ _ _ (lv_sub hl [1, 2, 3, 0] rfl) hP hS hwp hX
        · rw [if_pos hc] at hwp
          refine lv_goto hx hb d_D_reachedFrom_62 (tgt := 71) (by decide) ?_
          exact hX (x1) _ _ _ (lv_sub hl [2] rfl) hP hS hwp
  rw [wp_D_reachedFrom] at hwp
  refine lv_aload_n hx hb d_D_reachedFrom_0 rfl (lv_at hl 0 rfl) ?_
  refine va_get (D := (dC, dI)) (ci := 4) (v := .ref (q 20)) (C := R_D) (T := F_D) (N := 1) hx hb hts hiD hown hK hP 4 rfl rfl 0 (by decide) lk9 (fun _ h9 => h9) rfl d_D_reachedFrom_1 ?_
  refine lv_iload_n hx hb d_D_reachedFrom_4 rfl (lv_at hl 1 rfl) ?_
  refine va_lald hx hb hK hP 20 1 rfl rfl hwp.1 d_D_reachedFrom_5 ?_
  have hwp := hwp.2
  refine lv_lstore_n (lv' := [(3, .long ((D_from D) (Int32.toNatClampNeg a1))), (0, .ref (q 4)), (1, .int a1), (2, .int a2)]) hx hb d_D_reachedFrom_6 rfl hl (by decide) rfl (fun ls hl => ?_)
  refine lv_iconst (v := 0) hx hb d_D_reachedFrom_7 (by decide) ?_
  refine lv_istore (lv' := [(5, .int 0), (3, .long ((D_from D) (Int32.toNatClampNeg a1))), (0, .ref (q 4)), (1, .int a1), (2, .int a2)]) hx hb d_D_reachedFrom_8 hl (by decide) rfl (fun ls hl => ?_)
  obtain ⟨e10, hwp⟩ := hwp
  refine L10 _ (a2) e10 (((D_from D) (Int32.toNatClampNeg a1))) (0) _ _ _ (lv_sub hl [2, 4, 1, 0] rfl) hP hS hwp (fun x2 H locs ls hl hP hS hwp => ?_)
  refine lv_lload_n hx hb d_D_reachedFrom_71 rfl (lv_at hl 0 rfl) ?_
  rw [hQ]
  exact W.lret (v := x2) hx hb hr (fun t ht hW => ⟨⟨x2, (), rfl, hwp, hp_of ht hP⟩, hS.F ht⟩) hS.2.2 d_D_reachedFrom_72

set_option maxHeartbeats 4000000 in
set_option maxRecDepth 100000 in
theorem c_D_leadingTo {l : Launch} {dC : Nat → ClassId} {dI : Nat → Nat → Nat} {cI cL cZ : ClassId} {q : Nat → Nat} (hq : iN q) (A : S_A) (D : S_D) (G : S_G) (K : S_K) (N : S_N) (P : S_P) (T : S_T) (a1 : Int32) (a2 : Int32) (post : Int64 → Prop) (hwp : wp_D_leadingTo D a1 a2 post) : Met l y_D_leadingTo ws_D_leadingTo rm_D_leadingTo (va_Pc [.ref (q 4), .int a1, .int a2] (bN dC dI cI cL cZ q A D G K N P T)) (va_Ql (fun (r : Int64) (u : Unit) => post r) (fun u t => va_P (dC, dI) clZ (wN cI cL cZ q A D G K N P T) t.heap) (aN q)) 0 0 (aN q) := by
  refine Met.ofW (cc := b_D_leadingTo) (maxL := 9) (ret := (some .long)) (by decide) rfl ?_
  intro p e s m args below meth c s₁ B hml hv
  obtain ⟨rfl, hP, hK⟩ := hv
  have hx := B.exec
  have hb := B.bytes
  have hr := B.returns
  have hts := atoms_spec (ws := ws_D_leadingTo) B.pre
  have hown : s.vm.findClass R_D = some m.cls := findClass_of_methodNamed B.named
  have hlocks := B.notSynchronized
  have hiD : ∀ w ∈ u_ws R_D F_D 1, w ∈ ws_D_leadingTo := fun w h => List.mem_cons_of_mem _ (in_D w h)
  have lk9 := hts _ (List.mem_cons_of_mem _ k_D_9)
  have hS : va_S (aN q) s.heap s.heap [] := va_S.rf
  have hl := lv_entry ([.ref (q 4), .int a1, .int a2]) (n := 9) (Nat.le_of_ble_eq_true rfl)
  rw [lg_entry_eq]
  generalize (lg_sl ([.ref (q 4), .int a1, .int a2]) ++ List.replicate (9 - (lg_sl ([.ref (q 4), .int a1, .int a2])).length) Slot.unset).toArray = ls at hl ⊢
  have hl : lv_has ls 9 [(0, .ref (q 4)), (1, .int a1), (2, .int a2)] := hl
  obtain ⟨Q, hQ⟩ : ∃ Q, Q = MQ below (va_Ql (fun (r : Int64) (u : Unit) => post r) (fun u t => va_P (dC, dI) clZ (wN cI cL cZ q A D G K N P T) t.heap) (aN q)) ([.ref (q 4), .int a1, .int a2]).toArray s 0 0 (aN q) := ⟨_, rfl⟩
  rw [← hQ]
  have L19 : ∀ (Kx : Int64 → Prop) (v2 : Int32) (v5 : Int32) (v6 : Int64) (n : Nat) (v3 : Int64) (v8 : Int32) (H : Heap) (locs : List Loc) (ls : Array Slot), lv_has ls 9 [(0, .ref (q 4)), (2, .int v2), (3, .long v3), (5, .int v5), (6, .long v6), (8, .int v8)] → va_P (dC, dI) clZ (wN cI cL cZ q A D G K N P T) H → va_S (aN q) s.heap H locs → wp_D_leadingTo_L19 D v2 v5 v6 Kx n v3 v8 → (∀ (x3 : Int64) (H : Heap) (locs : List Loc) (ls : Array Slot), lv_has ls 9 [(0, .ref (q 4)), (2, .int v2), (3, .long x3), (5, .int v5), (6, .long v6)] → va_P (dC, dI) clZ (wN cI cL cZ q A D G K N P T) H → va_S (aN q) s.heap H locs → Kx x3 → W p l e (headSpec ws_D_leadingTo rm_D_leadingTo).room s m ([.ref (q 4), .int a1, .int a2]).toArray below meth c H locs 0 0 Q (F0 m 52 ls [])) → W p l e (headSpec ws_D_leadingTo rm_D_leadingTo).room s m ([.ref (q 4), .int a1, .int a2]).toArray below meth c H locs 0 0 Q (F0 m 19 ls []) := by
    intro Kx v2 v5 v6 n
    induction n with
    | zero =>
      intros
      rename_i hwp _
      exact hwp.elim
    | succ n19 ih =>
      intro v3 v8 H locs ls hl hP hS hwp hX
      rw [wp_D_leadingTo_L19] at hwp
      refine lv_iload hx hb d_D_leadingTo_19 (lv_at hl 5 rfl) ?_
      refine lv_iload_n hx hb d_D_leadingTo_21 rfl (lv_at hl 1 rfl) ?_
      refine lv_icmp_ge (tgt := 52) hx hb d_D_leadingTo_22 (by decide) (fun hc => ?_) (fun hc => ?_)
      · rw [if_pos hc] at hwp
        exact hX (v3) _ _ _ (lv_sub hl [0, 1, 2, 3, 4] rfl) hP hS hwp
      · rw [if_neg hc] at hwp
        refine lv_lload_n hx hb d_D_leadingTo_25 rfl (lv_at hl 2 rfl) ?_
        refine lv_aload_n hx hb d_D_leadingTo_26 rfl (lv_at hl 0 rfl) ?_
        refine va_get (D := (dC, dI)) (ci := 4) (v := .ref (q 20)) (C := R_D) (T := F_D) (N := 1) hx hb hts hiD hown hK hP 4 rfl rfl 0 (by decide) lk9 (fun _ h9 => h9) rfl d_D_leadingTo_27 ?_
        refine lv_iload hx hb d_D_leadingTo_30 (lv_at hl 5 rfl) ?_
        refine va_lald hx hb hK hP 20 1 rfl rfl hwp.1 d_D_leadingTo_32 ?_
        have hwp := hwp.2
        refine lv_land hx hb d_D_leadingTo_33 ?_
        refine lv_lconst (v := (0 : Int64)) hx hb d_D_leadingTo_34 (by decide) ?_
        refine W.lcmp hx hb d_D_leadingTo_35 ?_
        refine lv_if_eq (tgt := 46) hx hb d_D_leadingTo_36 (by decide) (fun hc => ?_) (fun hc => ?_)
        · rw [if_pos hc] at hwp
          refine lv_iinc (k := 5) (v := (v8 + 1)) (lv' := [(8, .int (v8 + 1)), (0, .ref (q 4)), (2, .int v2), (3, .long v3), (5, .int v5), (6, .long v6)]) hx hb d_D_leadingTo_46 hl rfl (ii_1 _) (by decide) rfl (fun ls hl => ?_)
          refine lv_goto hx hb d_D_leadingTo_49 (tgt := 19) (by decide) ?_
          exact ih (v3) ((v8 + 1)) _ _ _ (lv_sub hl [1, 2, 3, 4, 5, 0] rfl) hP hS hwp hX
        · rw [if_neg hc] at hwp
          refine lv_lload_n hx hb d_D_leadingTo_39 rfl (lv_at hl 2 rfl) ?_
          refine lv_lconst (v := (1 : Int64)) hx hb d_D_leadingTo_40 (by decide) ?_
          refine lv_iload hx hb d_D_leadingTo_41 (lv_at hl 5 rfl) ?_
          refine lv_lshl hx hb d_D_leadingTo_43 rfl ?_
          refine lv_lor hx hb d_D_leadingTo_44 ?_
          refine lv_lstore_n (lv' := [(3, .long (v3 ||| ((1 : Int64) <<< (Int32.toInt64 v8 &&& 63)))), (0, .ref (q 4)), (2, .int v2), (5, .int v5), (6, .long v6), (8, .int v8)]) hx hb d_D_leadingTo_45 rfl hl (by decide) rfl (fun ls hl => ?_)
          refine lv_iinc (k := 5) (v := (v8 + 1)) (lv' := [(8, .int (v8 + 1)), (3, .long (v3 ||| ((1 : Int64) <<< (Int32.toInt64 v8 &&& 63)))), (0, .ref (q 4)), (2, .int v2), (5, .int v5), (6, .long v6)]) hx hb d_D_leadingTo_46 hl rfl (ii_1 _) (by decide) rfl (fun ls hl => ?_)
          refine lv_goto hx hb d_D_leadingTo_49 (tgt := 19) (by decide) ?_
          exact ih ((v3 ||| ((1 : Int64) <<< (Int32.toInt64 v8 &&& 63)))) ((v8 + 1)) _ _ _ (lv_sub hl [2, 3, 1, 4, 5, 0] rfl) hP hS hwp hX
  have L7 : ∀ (Kx : Int64 → Prop) (v2 : Int32) (n : Nat) (v3 : Int64) (v5 : Int32) (H : Heap) (locs : List Loc) (ls : Array Slot), lv_has ls 9 [(0, .ref (q 4)), (2, .int v2), (3, .long v3), (5, .int v5)] → va_P (dC, dI) clZ (wN cI cL cZ q A D G K N P T) H → va_S (aN q) s.heap H locs → wp_D_leadingTo_L7 D v2 Kx n v3 v5 → (∀ (x3 : Int64) (H : Heap) (locs : List Loc) (ls : Array Slot), lv_has ls 9 [(3, .long x3)] → va_P (dC, dI) clZ (wN cI cL cZ q A D G K N P T) H → va_S (aN q) s.heap H locs → Kx x3 → W p l e (headSpec ws_D_leadingTo rm_D_leadingTo).room s m ([.ref (q 4), .int a1, .int a2]).toArray below meth c H locs 0 0 Q (F0 m 68 ls [])) → W p l e (headSpec ws_D_leadingTo rm_D_leadingTo).room s m ([.ref (q 4), .int a1, .int a2]).toArray below meth c H locs 0 0 Q (F0 m 7 ls []) := by
    intro Kx v2 n
    induction n with
    | zero =>
      intros
      rename_i hwp _
      exact hwp.elim
    | succ n7 ih =>
      intro v3 v5 H locs ls hl hP hS hwp hX
      rw [wp_D_leadingTo_L7] at hwp
      refine lv_iload hx hb d_D_leadingTo_7 (lv_at hl 3 rfl) ?_
      refine lv_iload_n hx hb d_D_leadingTo_9 rfl (lv_at hl 1 rfl) ?_
      refine lv_icmp_ge (tgt := 68) hx hb d_D_leadingTo_10 (by decide) (fun hc => ?_) (fun hc => ?_)
      · rw [if_pos hc] at hwp
        exact hX (v3) _ _ _ (lv_sub hl [2] rfl) hP hS hwp
      · rw [if_neg hc] at hwp
        refine lv_lload_n hx hb d_D_leadingTo_13 rfl (lv_at hl 2 rfl) ?_
        refine lv_lstore (lv' := [(6, .long v3), (0, .ref (q 4)), (2, .int v2), (3, .long v3), (5, .int v5)]) hx hb d_D_leadingTo_14 hl (by decide) rfl (fun ls hl => ?_)
        refine lv_iconst (v := 0) hx hb d_D_leadingTo_16 (by decide) ?_
        refine lv_istore (lv' := [(8, .int 0), (6, .long v3), (0, .ref (q 4)), (2, .int v2), (3, .long v3), (5, .int v5)]) hx hb d_D_leadingTo_17 hl (by decide) rfl (fun ls hl => ?_)
        obtain ⟨e19, hwp⟩ := hwp
        refine L19 _ (v2) (v5) (v3) e19 (v3) (0) _ _ _ (lv_sub hl [2, 3, 4, 5, 1, 0] rfl) hP hS hwp (fun x1 H locs ls hl hP hS hwp => ?_)
        refine lv_lload_n hx hb d_D_leadingTo_52 rfl (lv_at hl 2 rfl) ?_
        refine lv_lload hx hb d_D_leadingTo_53 (lv_at hl 4 rfl) ?_
        refine W.lcmp hx hb d_D_leadingTo_55 ?_
        refine lv_if_ne (tgt := 62) hx hb d_D_leadingTo_56 (by decide) (fun hc => ?_) (fun hc => ?_)
        · rw [if_neg hc] at hwp
          refine lv_iinc (k := 3) (v := (v5 + 1)) (lv' := [(5, .int (v5 + 1)), (0, .ref (q 4)), (2, .int v2), (3, .long x1), (6, .long v3)]) hx hb d_D_leadingTo_62 hl rfl (ii_1 _) (by decide) rfl (fun ls hl => ?_)
          refine lv_goto hx hb d_D_leadingTo_65 (tgt := 7) (by decide) ?_
          exact ih (x1) ((v5 + 1)) _ _ _ (lv_sub hl [1, 2, 3, 0] rfl) hP hS hwp hX
        · rw [if_pos hc] at hwp
          refine lv_goto hx hb d_D_leadingTo_59 (tgt := 68) (by decide) ?_
          exact hX (x1) _ _ _ (lv_sub hl [2] rfl) hP hS hwp
  rw [wp_D_leadingTo] at hwp
  refine lv_lconst (v := (1 : Int64)) hx hb d_D_leadingTo_0 (by decide) ?_
  refine lv_iload_n hx hb d_D_leadingTo_1 rfl (lv_at hl 1 rfl) ?_
  refine lv_lshl hx hb d_D_leadingTo_2 rfl ?_
  refine lv_lstore_n (lv' := [(3, .long ((1 : Int64) <<< (Int32.toInt64 a1 &&& 63))), (0, .ref (q 4)), (1, .int a1), (2, .int a2)]) hx hb d_D_leadingTo_3 rfl hl (by decide) rfl (fun ls hl => ?_)
  refine lv_iconst (v := 0) hx hb d_D_leadingTo_4 (by decide) ?_
  refine lv_istore (lv' := [(5, .int 0), (3, .long ((1 : Int64) <<< (Int32.toInt64 a1 &&& 63))), (0, .ref (q 4)), (1, .int a1), (2, .int a2)]) hx hb d_D_leadingTo_5 hl (by decide) rfl (fun ls hl => ?_)
  obtain ⟨e7, hwp⟩ := hwp
  refine L7 _ (a2) e7 (((1 : Int64) <<< (Int32.toInt64 a1 &&& 63))) (0) _ _ _ (lv_sub hl [2, 4, 1, 0] rfl) hP hS hwp (fun x2 H locs ls hl hP hS hwp => ?_)
  refine lv_lload_n hx hb d_D_leadingTo_68 rfl (lv_at hl 0 rfl) ?_
  rw [hQ]
  exact W.lret (v := x2) hx hb hr (fun t ht hW => ⟨⟨x2, (), rfl, hwp, hp_of ht hP⟩, hS.F ht⟩) hS.2.2 d_D_leadingTo_69

set_option maxHeartbeats 4000000 in
set_option maxRecDepth 100000 in
theorem c_D_greatestInCircle {l : Launch} {dC : Nat → ClassId} {dI : Nat → Nat → Nat} {cI cL cZ : ClassId} {q : Nat → Nat} (hq : iN q) (A : S_A) (D : S_D) (G : S_G) (K : S_K) (N : S_N) (P : S_P) (T : S_T) (a1 : Int32) (a2 : Int32) (post : Int32 → Prop) (hwp : wp_D_greatestInCircle D a1 a2 post) : Met l y_D_greatestInCircle ws_D_greatestInCircle rm_D_greatestInCircle (va_Pc [.ref (q 4), .int a1, .int a2] (bN dC dI cI cL cZ q A D G K N P T)) (va_Qi (fun (r : Int32) (u : Unit) => post r) (fun u t => va_P (dC, dI) clZ (wN cI cL cZ q A D G K N P T) t.heap) (aN q)) 0 0 (aN q) := by
  refine Met.ofW (cc := b_D_greatestInCircle) (maxL := 8) (ret := (some .int)) (by decide) rfl ?_
  intro p e s m args below meth c s₁ B hml hv
  obtain ⟨rfl, hP, hK⟩ := hv
  have hx := B.exec
  have hb := B.bytes
  have hr := B.returns
  have hts := atoms_spec (ws := ws_D_greatestInCircle) B.pre
  have hown : s.vm.findClass R_D = some m.cls := findClass_of_methodNamed B.named
  have hlocks := B.notSynchronized
  have hS : va_S (aN q) s.heap s.heap [] := va_S.rf
  have hl := lv_entry ([.ref (q 4), .int a1, .int a2]) (n := 8) (Nat.le_of_ble_eq_true rfl)
  rw [lg_entry_eq]
  generalize (lg_sl ([.ref (q 4), .int a1, .int a2]) ++ List.replicate (8 - (lg_sl ([.ref (q 4), .int a1, .int a2])).length) Slot.unset).toArray = ls at hl ⊢
  have hl : lv_has ls 8 [(0, .ref (q 4)), (1, .int a1), (2, .int a2)] := hl
  obtain ⟨Q, hQ⟩ : ∃ Q, Q = MQ below (va_Qi (fun (r : Int32) (u : Unit) => post r) (fun u t => va_P (dC, dI) clZ (wN cI cL cZ q A D G K N P T) t.heap) (aN q)) ([.ref (q 4), .int a1, .int a2]).toArray s 0 0 (aN q) := ⟨_, rfl⟩
  rw [← hQ]
  have L34 : ∀ (Kx : Prop) (v1 : Int32) (v5 : Int64) (n : Nat) (v7 : Int32) (H : Heap) (locs : List Loc) (ls : Array Slot), lv_has ls 8 [(1, .int v1), (5, .long v5), (7, .int v7)] → va_P (dC, dI) clZ (wN cI cL cZ q A D G K N P T) H → va_S (aN q) s.heap H locs → wp_D_greatestInCircle_L34 v1 v5 post Kx n v7 → (∀ (H : Heap) (locs : List Loc) (ls : Array Slot), lv_has ls 8 [(1, .int v1)] → va_P (dC, dI) clZ (wN cI cL cZ q A D G K N P T) H → va_S (aN q) s.heap H locs → Kx → W p l e (headSpec ws_D_greatestInCircle rm_D_greatestInCircle).room s m ([.ref (q 4), .int a1, .int a2]).toArray below meth c H locs 0 0 Q (F0 m 61 ls [])) → W p l e (headSpec ws_D_greatestInCircle rm_D_greatestInCircle).room s m ([.ref (q 4), .int a1, .int a2]).toArray below meth c H locs 0 0 Q (F0 m 34 ls []) := by
    intro Kx v1 v5 n
    induction n with
    | zero =>
      intros
      rename_i hwp _
      exact hwp.elim
    | succ n34 ih =>
      intro v7 H locs ls hl hP hS hwp hX
      rw [wp_D_greatestInCircle_L34] at hwp
      refine lv_iload hx hb d_D_greatestInCircle_34 (lv_at hl 2 rfl) ?_
      refine lv_iload_n hx hb d_D_greatestInCircle_36 rfl (lv_at hl 0 rfl) ?_
      refine lv_icmp_le (tgt := 61) hx hb d_D_greatestInCircle_37 (by decide) (fun hc => ?_) (fun hc => ?_)
      · rw [if_pos hc] at hwp
        exact hX  _ _ _ (lv_sub hl [0] rfl) hP hS hwp
      · rw [if_neg hc] at hwp
        refine lv_lload hx hb d_D_greatestInCircle_40 (lv_at hl 1 rfl) ?_
        refine lv_lconst (v := (1 : Int64)) hx hb d_D_greatestInCircle_42 (by decide) ?_
        refine lv_iload hx hb d_D_greatestInCircle_43 (lv_at hl 2 rfl) ?_
        refine lv_lshl hx hb d_D_greatestInCircle_45 rfl ?_
        refine lv_land hx hb d_D_greatestInCircle_46 ?_
        refine lv_lconst (v := (0 : Int64)) hx hb d_D_greatestInCircle_47 (by decide) ?_
        refine W.lcmp hx hb d_D_greatestInCircle_48 ?_
        refine lv_if_eq (tgt := 55) hx hb d_D_greatestInCircle_49 (by decide) (fun hc => ?_) (fun hc => ?_)
        · rw [if_pos hc] at hwp
          refine lv_iinc (k := 2) (v := (v7 + (-1))) (lv' := [(7, .int (v7 + (-1))), (1, .int v1), (5, .long v5)]) hx hb d_D_greatestInCircle_55 hl rfl (ii_m1 _) (by decide) rfl (fun ls hl => ?_)
          refine lv_goto hx hb d_D_greatestInCircle_58 (tgt := 34) (by decide) ?_
          exact ih ((v7 + (-1))) _ _ _ (lv_sub hl [1, 2, 0] rfl) hP hS hwp hX
        · rw [if_neg hc] at hwp
          refine lv_iload hx hb d_D_greatestInCircle_52 (lv_at hl 2 rfl) ?_
          rw [hQ]
          exact W.iret (v := v7) hx hb hr (fun t ht hW => ⟨⟨v7, (), rfl, hwp, hp_of ht hP⟩, hS.F ht⟩) hS.2.2 d_D_greatestInCircle_54
  rw [wp_D_greatestInCircle] at hwp
  refine lv_aload_n hx hb d_D_greatestInCircle_0 rfl (lv_at hl 0 rfl) ?_
  refine lv_iload_n hx hb d_D_greatestInCircle_1 rfl (lv_at hl 1 rfl) ?_
  refine lv_iload_n hx hb d_D_greatestInCircle_2 rfl (lv_at hl 2 rfl) ?_
  refine ncn_l (As := [.int a1, .int a2]) (c_D_reachedFrom hq (A) (D) (G) (K) (N) (P) (T) (a1) (a2) _ hwp) (cwV 2 hts g_D_15 rfl rfl rfl hd_D_reachedFrom ⟨Nat.le_of_ble_eq_true rfl, Nat.le_of_ble_eq_true rfl⟩) hx hb hml hown hts hK hP hS hl.1 d_D_greatestInCircle_3 (va_recv (q := (R_D, F_D, 1)) hK hP (ci := 4) (q0 := 4) rfl rfl) rfl (lv_room (Nat.le_of_ble_eq_true rfl)) (Nat.zero_le _) (Nat.zero_le _) rfl (fun r1 u H locs hwp hP hS => ?_)
  have hP : va_P (dC, dI) clZ (wN cI cL cZ q A D G K N P T) H := hP
  refine lv_lstore_n (lv' := [(3, .long r1), (0, .ref (q 4)), (1, .int a1), (2, .int a2)]) hx hb d_D_greatestInCircle_6 rfl hl (by decide) rfl (fun ls hl => ?_)
  refine lv_lload_n hx hb d_D_greatestInCircle_7 rfl (lv_at hl 0 rfl) ?_
  refine lv_lconst (v := (1 : Int64)) hx hb d_D_greatestInCircle_8 (by decide) ?_
  refine lv_iload_n hx hb d_D_greatestInCircle_9 rfl (lv_at hl 2 rfl) ?_
  refine lv_lshl hx hb d_D_greatestInCircle_10 rfl ?_
  refine lv_land hx hb d_D_greatestInCircle_11 ?_
  refine lv_lconst (v := (0 : Int64)) hx hb d_D_greatestInCircle_12 (by decide) ?_
  refine W.lcmp hx hb d_D_greatestInCircle_13 ?_
  refine lv_if_ne (tgt := 19) hx hb d_D_greatestInCircle_14 (by decide) (fun hc => ?_) (fun hc => ?_)
  · rw [if_neg hc] at hwp
    refine lv_lload_n hx hb d_D_greatestInCircle_19 rfl (lv_at hl 0 rfl) ?_
    refine lv_aload_n hx hb d_D_greatestInCircle_20 rfl (lv_at hl 1 rfl) ?_
    refine lv_iload_n hx hb d_D_greatestInCircle_21 rfl (lv_at hl 2 rfl) ?_
    refine lv_iload_n hx hb d_D_greatestInCircle_22 rfl (lv_at hl 3 rfl) ?_
    refine ncn_l (As := [.int a1, .int a2]) (c_D_leadingTo hq (A) (D) (G) (K) (N) (P) (T) (a1) (a2) _ hwp) (cwV 2 hts g_D_19 rfl rfl rfl hd_D_leadingTo ⟨Nat.le_of_ble_eq_true rfl, Nat.le_of_ble_eq_true rfl⟩) hx hb hml hown hts hK hP hS hl.1 d_D_greatestInCircle_23 (va_recv (q := (R_D, F_D, 1)) hK hP (ci := 4) (q0 := 4) rfl rfl) rfl (lv_room (Nat.le_of_ble_eq_true rfl)) (Nat.zero_le _) (Nat.zero_le _) rfl (fun r2 u H locs hwp hP hS => ?_)
    have hP : va_P (dC, dI) clZ (wN cI cL cZ q A D G K N P T) H := hP
    refine lv_land hx hb d_D_greatestInCircle_26 ?_
    refine lv_lstore (lv' := [(5, .long (r1 &&& r2)), (3, .long r1), (0, .ref (q 4)), (1, .int a1), (2, .int a2)]) hx hb d_D_greatestInCircle_27 hl (by decide) rfl (fun ls hl => ?_)
    refine lv_iload_n hx hb d_D_greatestInCircle_29 rfl (lv_at hl 4 rfl) ?_
    refine lv_iconst (v := 1) hx hb d_D_greatestInCircle_30 (by decide) ?_
    refine lv_isub hx hb d_D_greatestInCircle_31 ?_
    refine lv_istore (lv' := [(7, .int (a2 - 1)), (5, .long (r1 &&& r2)), (3, .long r1), (0, .ref (q 4)), (1, .int a1), (2, .int a2)]) hx hb d_D_greatestInCircle_32 hl (by decide) rfl (fun ls hl => ?_)
    obtain ⟨e34, hwp⟩ := hwp
    refine L34 _ (a1) ((r1 &&& r2)) e34 ((a2 - 1)) _ _ _ (lv_sub hl [4, 1, 0] rfl) hP hS hwp (fun  H locs ls hl hP hS hwp => ?_)
    refine lv_iload_n hx hb d_D_greatestInCircle_61 rfl (lv_at hl 0 rfl) ?_
    rw [hQ]
    exact W.iret (v := a1) hx hb hr (fun t ht hW => ⟨⟨a1, (), rfl, hwp, hp_of ht hP⟩, hS.F ht⟩) hS.2.2 d_D_greatestInCircle_62
  · rw [if_pos hc] at hwp
    refine lv_iconst (v := (-1)) hx hb d_D_greatestInCircle_17 (by decide) ?_
    rw [hQ]
    exact W.iret (v := (-1)) hx hb hr (fun t ht hW => ⟨⟨(-1), (), rfl, hwp, hp_of ht hP⟩, hS.F ht⟩) hS.2.2 d_D_greatestInCircle_18
