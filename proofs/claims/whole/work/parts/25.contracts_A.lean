set_option maxHeartbeats 4000000 in
set_option maxRecDepth 100000 in
theorem c_A_nextItem {l : Launch} {dC : Nat → ClassId} {dI : Nat → Nat → Nat} {cI cL cZ : ClassId} {q : Nat → Nat} (hq : iN q) (A : S_A) (D : S_D) (G : S_G) (K : S_K) (N : S_N) (P : S_P) (T : S_T) (a1 : Int32) (post : Int32 → Prop) (hwp : wp_A_nextItem A a1 post) : Met l y_A_nextItem ws_A_nextItem rm_A_nextItem (va_Pc [.ref (q 6), .int a1] (bN dC dI cI cL cZ q A D G K N P T)) (va_Qi (fun (r : Int32) (u : Unit) => post r) (fun u t => va_P (dC, dI) clZ (wN cI cL cZ q A D G K N P T) t.heap) (aN q)) 0 0 (aN q) := by
  refine Met.ofW (cc := b_A_nextItem) (maxL := 3) (ret := (some .int)) (by decide) rfl ?_
  intro p e s m args below meth c s₁ B hml hv
  obtain ⟨rfl, hP, hK⟩ := hv
  have hx := B.exec
  have hb := B.bytes
  have hr := B.returns
  have hts := atoms_spec (ws := ws_A_nextItem) B.pre
  have hown : s.vm.findClass R_A = some m.cls := findClass_of_methodNamed B.named
  have hlocks := B.notSynchronized
  have hiA : ∀ w ∈ u_ws R_A F_A 10, w ∈ ws_A_nextItem := fun w h => List.mem_cons_of_mem _ (in_A w h)
  have lk22 := hts _ (List.mem_cons_of_mem _ k_A_22)
  have hS : va_S (aN q) s.heap s.heap [] := va_S.rf
  have hl := lv_entry ([.ref (q 6), .int a1]) (n := 3) (Nat.le_of_ble_eq_true rfl)
  rw [lg_entry_eq]
  generalize (lg_sl ([.ref (q 6), .int a1]) ++ List.replicate (3 - (lg_sl ([.ref (q 6), .int a1])).length) Slot.unset).toArray = ls at hl ⊢
  have hl : lv_has ls 3 [(0, .ref (q 6)), (1, .int a1)] := hl
  obtain ⟨Q, hQ⟩ : ∃ Q, Q = MQ below (va_Qi (fun (r : Int32) (u : Unit) => post r) (fun u t => va_P (dC, dI) clZ (wN cI cL cZ q A D G K N P T) t.heap) (aN q)) ([.ref (q 6), .int a1]).toArray s 0 0 (aN q) := ⟨_, rfl⟩
  rw [← hQ]
  have L4 : ∀ (Kx : Prop) (n : Nat) (v2 : Int32) (H : Heap) (locs : List Loc) (ls : Array Slot), lv_has ls 3 [(0, .ref (q 6)), (2, .int v2)] → va_P (dC, dI) clZ (wN cI cL cZ q A D G K N P T) H → va_S (aN q) s.heap H locs → wp_A_nextItem_L4 A post Kx n v2 → (∀ (H : Heap) (locs : List Loc) (ls : Array Slot), lv_has ls 3 [] → va_P (dC, dI) clZ (wN cI cL cZ q A D G K N P T) H → va_S (aN q) s.heap H locs → Kx → W p l e (headSpec ws_A_nextItem rm_A_nextItem).room s m ([.ref (q 6), .int a1]).toArray below meth c H locs 0 0 Q (F0 m 27 ls [])) → W p l e (headSpec ws_A_nextItem rm_A_nextItem).room s m ([.ref (q 6), .int a1]).toArray below meth c H locs 0 0 Q (F0 m 4 ls []) := by
    intro Kx  n
    induction n with
    | zero =>
      intros
      rename_i hwp _
      exact hwp.elim
    | succ n4 ih =>
      intro v2 H locs ls hl hP hS hwp hX
      rw [wp_A_nextItem_L4] at hwp
      refine lv_iload_n hx hb d_A_nextItem_4 rfl (lv_at hl 1 rfl) ?_
      refine lv_bipush (v := 32) hx hb d_A_nextItem_5 (by decide) ?_
      refine lv_icmp_ge (tgt := 27) hx hb d_A_nextItem_7 (by decide) (fun hc => ?_) (fun hc => ?_)
      · rw [if_pos hc] at hwp
        exact hX  _ _ _ (lv_sub hl [] rfl) hP hS hwp
      · rw [if_neg hc] at hwp
        refine lv_aload_n hx hb d_A_nextItem_10 rfl (lv_at hl 0 rfl) ?_
        refine va_get (D := (dC, dI)) (ci := 6) (v := .ref (q 33)) (C := R_A) (T := F_A) (N := 10) hx hb hts hiA hown hK hP 6 rfl rfl 5 (by decide) lk22 (fun _ h9 => h9) rfl d_A_nextItem_11 ?_
        refine lv_iload_n hx hb d_A_nextItem_14 rfl (lv_at hl 1 rfl) ?_
        refine va_zald hx hb hK hP 33 2 rfl rfl hwp.1 d_A_nextItem_15 ?_
        have hwp := hwp.2
        refine lv_if_eq (tgt := 21) hx hb d_A_nextItem_16 (by decide) (fun hc => ?_) (fun hc => ?_)
        · rw [if_pos hc] at hwp
          refine lv_iinc (k := 1) (v := (v2 + 1)) (lv' := [(2, .int (v2 + 1)), (0, .ref (q 6))]) hx hb d_A_nextItem_21 hl rfl (ii_1 _) (by decide) rfl (fun ls hl => ?_)
          refine lv_goto hx hb d_A_nextItem_24 (tgt := 4) (by decide) ?_
          exact ih ((v2 + 1)) _ _ _ (lv_sub hl [1, 0] rfl) hP hS hwp hX
        · rw [if_neg hc] at hwp
          refine lv_iload_n hx hb d_A_nextItem_19 rfl (lv_at hl 1 rfl) ?_
          rw [hQ]
          exact W.iret (v := v2) hx hb hr (fun t ht hW => ⟨⟨v2, (), rfl, hwp, hp_of ht hP⟩, hS.F ht⟩) hS.2.2 d_A_nextItem_20
  rw [wp_A_nextItem] at hwp
  refine lv_iload_n hx hb d_A_nextItem_0 rfl (lv_at hl 1 rfl) ?_
  refine lv_iconst (v := 1) hx hb d_A_nextItem_1 (by decide) ?_
  refine lv_iadd hx hb d_A_nextItem_2 ?_
  refine lv_istore_n (lv' := [(2, .int (a1 + 1)), (0, .ref (q 6)), (1, .int a1)]) hx hb d_A_nextItem_3 rfl hl (by decide) rfl (fun ls hl => ?_)
  obtain ⟨e4, hwp⟩ := hwp
  refine L4 _  e4 ((a1 + 1)) _ _ _ (lv_sub hl [1, 0] rfl) hP hS hwp (fun  H locs ls hl hP hS hwp => ?_)
  refine lv_bipush (v := 32) hx hb d_A_nextItem_27 (by decide) ?_
  rw [hQ]
  exact W.iret (v := 32) hx hb hr (fun t ht hW => ⟨⟨32, (), rfl, hwp, hp_of ht hP⟩, hS.F ht⟩) hS.2.2 d_A_nextItem_29

set_option maxHeartbeats 4000000 in
set_option maxRecDepth 100000 in
theorem c_A_putOnDisk {l : Launch} {dC : Nat → ClassId} {dI : Nat → Nat → Nat} {cI cL cZ : ClassId} {q : Nat → Nat} (hq : iN q) (A : S_A) (D : S_D) (G : S_G) (K : S_K) (N : S_N) (P : S_P) (T : S_T) (a1 : Int32) (post : S_A → S_G → Prop) (hwp : wp_A_putOnDisk A G a1 post) : Met l y_A_putOnDisk ws_A_putOnDisk rm_A_putOnDisk (va_Pc [.ref (q 6), .int a1, .ref (q 5)] (bN dC dI cI cL cZ q A D G K N P T)) (va_Qv (fun (u : S_A × S_G) => post u.1 u.2) (fun u t => va_P (dC, dI) clZ (wN cI cL cZ q (u.1) D (u.2) K N P T) t.heap) (aN q)) 0 0 (aN q) := by
  refine Met.ofW (cc := b_A_putOnDisk) (maxL := 5) (ret := none) (by decide) rfl ?_
  intro p e s m args below meth c s₁ B hml hv
  obtain ⟨rfl, hP, hK⟩ := hv
  have hx := B.exec
  have hb := B.bytes
  have hr := B.returns
  have hts := atoms_spec (ws := ws_A_putOnDisk) B.pre
  have hown : s.vm.findClass R_A = some m.cls := findClass_of_methodNamed B.named
  have hlocks := B.notSynchronized
  have hiG : ∀ w ∈ u_ws R_G F_G 12, w ∈ ws_A_putOnDisk := fun w h => List.mem_cons_of_mem _ (in_G w h)
  have hiA : ∀ w ∈ u_ws R_A F_A 10, w ∈ ws_A_putOnDisk := fun w h => List.mem_cons_of_mem _ (in_A w h)
  have lk15 := hts _ (List.mem_cons_of_mem _ k_A_15)
  have lk19 := hts _ (List.mem_cons_of_mem _ k_A_19)
  have lk22 := hts _ (List.mem_cons_of_mem _ k_A_22)
  have lk25 := hts _ (List.mem_cons_of_mem _ k_A_25)
  have lk28 := hts _ (List.mem_cons_of_mem _ k_A_28)
  have lk31 := hts _ (List.mem_cons_of_mem _ k_A_31)
  have lk34 := hts _ (List.mem_cons_of_mem _ k_A_34)
  have lk48 := hts _ (List.mem_cons_of_mem _ k_A_48)
  have hS : va_S (aN q) s.heap s.heap [] := va_S.rf
  have hl := lv_entry ([.ref (q 6), .int a1, .ref (q 5)]) (n := 5) (Nat.le_of_ble_eq_true rfl)
  rw [lg_entry_eq]
  generalize (lg_sl ([.ref (q 6), .int a1, .ref (q 5)]) ++ List.replicate (5 - (lg_sl ([.ref (q 6), .int a1, .ref (q 5)])).length) Slot.unset).toArray = ls at hl ⊢
  have hl : lv_has ls 5 [(0, .ref (q 6)), (1, .int a1), (2, .ref (q 5))] := hl
  obtain ⟨Q, hQ⟩ : ∃ Q, Q = MQ below (va_Qv (fun (u : S_A × S_G) => post u.1 u.2) (fun u t => va_P (dC, dI) clZ (wN cI cL cZ q (u.1) D (u.2) K N P T) t.heap) (aN q)) ([.ref (q 6), .int a1, .ref (q 5)]).toArray s 0 0 (aN q) := ⟨_, rfl⟩
  rw [← hQ]
  have L42 : ∀ (Kx : S_A → Prop) (G : S_G) (v1 : Int32) (v3 : Int32) (n : Nat) (v4 : Int32) (A : S_A) (H : Heap) (locs : List Loc) (ls : Array Slot), lv_has ls 5 [(0, .ref (q 6)), (1, .int v1), (3, .int v3), (4, .int v4)] → va_P (dC, dI) clZ (wN cI cL cZ q A D G K N P T) H → va_S (aN q) s.heap H locs → wp_A_putOnDisk_L42 v1 v3 Kx n v4 A → (∀ (A1 : S_A) (H : Heap) (locs : List Loc) (ls : Array Slot), lv_has ls 5 [(0, .ref (q 6)), (1, .int v1)] → va_P (dC, dI) clZ (wN cI cL cZ q A1 D G K N P T) H → va_S (aN q) s.heap H locs → Kx A1 → W p l e (headSpec ws_A_putOnDisk rm_A_putOnDisk).room s m ([.ref (q 6), .int a1, .ref (q 5)]).toArray below meth c H locs 0 0 Q (F0 m 84 ls [])) → W p l e (headSpec ws_A_putOnDisk rm_A_putOnDisk).room s m ([.ref (q 6), .int a1, .ref (q 5)]).toArray below meth c H locs 0 0 Q (F0 m 42 ls []) := by
    intro Kx G v1 v3 n
    induction n with
    | zero =>
      intros
      rename_i hwp _
      exact hwp.elim
    | succ n42 ih =>
      intro v4 A H locs ls hl hP hS hwp hX
      rw [wp_A_putOnDisk_L42] at hwp
      refine lv_iload hx hb d_A_putOnDisk_42 (lv_at hl 3 rfl) ?_
      refine lv_iload_n hx hb d_A_putOnDisk_44 rfl (lv_at hl 2 rfl) ?_
      refine lv_iconst (v := 4) hx hb d_A_putOnDisk_45 (by decide) ?_
      refine lv_iadd hx hb d_A_putOnDisk_46 ?_
      refine lv_icmp_ge (tgt := 84) hx hb d_A_putOnDisk_47 (by decide) (fun hc => ?_) (fun hc => ?_)
      · rw [if_pos hc] at hwp
        exact hX (A) _ _ _ (lv_sub hl [0, 1] rfl) hP hS hwp
      · rw [if_neg hc] at hwp
        refine lv_aload_n hx hb d_A_putOnDisk_50 rfl (lv_at hl 0 rfl) ?_
        refine va_get (D := (dC, dI)) (ci := 6) (v := .ref (q 36)) (C := R_A) (T := F_A) (N := 10) hx hb hts hiA hown hK hP 6 rfl rfl 8 (by decide) lk31 (fun _ h9 => h9) rfl d_A_putOnDisk_51 ?_
        refine lv_iload hx hb d_A_putOnDisk_54 (lv_at hl 3 rfl) ?_
        refine lv_aload_n hx hb d_A_putOnDisk_56 rfl (lv_at hl 0 rfl) ?_
        refine va_get (D := (dC, dI)) (ci := 6) (v := .ref (q 33)) (C := R_A) (T := F_A) (N := 10) hx hb hts hiA hown hK hP 6 rfl rfl 5 (by decide) lk22 (fun _ h9 => h9) rfl d_A_putOnDisk_57 ?_
        refine lv_iload hx hb d_A_putOnDisk_60 (lv_at hl 3 rfl) ?_
        refine va_zald hx hb hK hP 33 2 rfl rfl hwp.1 d_A_putOnDisk_62 ?_
        have hwp := hwp.2
        refine va_zast hx hb hK hP (dN hq) hS 36 2 rfl rfl hwp.1 d_A_putOnDisk_63 (fun H locs hP _ hS => ?_)
        have hwp := hwp.2
        have hP : va_P (dC, dI) clZ (wN cI cL cZ q (A_diskThere' A (upd (A_diskThere A) (Int32.toNatClampNeg v4) (vp_nar .boolean ((A_there A) (Int32.toNatClampNeg v4))))) D G K N P T) H := hP
        refine lv_aload_n hx hb d_A_putOnDisk_64 rfl (lv_at hl 0 rfl) ?_
        refine va_get (D := (dC, dI)) (ci := 6) (v := .ref (q 37)) (C := R_A) (T := F_A) (N := 10) hx hb hts hiA hown hK hP 6 rfl rfl 9 (by decide) lk34 (fun _ h9 => h9) rfl d_A_putOnDisk_65 ?_
        refine lv_iload hx hb d_A_putOnDisk_68 (lv_at hl 3 rfl) ?_
        refine lv_aload_n hx hb d_A_putOnDisk_70 rfl (lv_at hl 0 rfl) ?_
        refine va_get (D := (dC, dI)) (ci := 6) (v := .ref (q 34)) (C := R_A) (T := F_A) (N := 10) hx hb hts hiA hown hK hP 6 rfl rfl 6 (by decide) lk25 (fun _ h9 => h9) rfl d_A_putOnDisk_71 ?_
        refine lv_iload hx hb d_A_putOnDisk_74 (lv_at hl 3 rfl) ?_
        refine va_iald hx hb hK hP 34 0 rfl rfl hwp.1 d_A_putOnDisk_76 ?_
        have hwp := hwp.2
        refine va_iast hx hb hK hP (dN hq) hS 37 0 rfl rfl hwp.1 d_A_putOnDisk_77 (fun H locs hP _ hS => ?_)
        have hwp := hwp.2
        have hP : va_P (dC, dI) clZ (wN cI cL cZ q (A_diskValue' (A_diskThere' A (upd (A_diskThere A) (Int32.toNatClampNeg v4) (vp_nar .boolean ((A_there A) (Int32.toNatClampNeg v4))))) (upd (A_diskValue A) (Int32.toNatClampNeg v4) ((A_value A) (Int32.toNatClampNeg v4)))) D G K N P T) H := hP
        refine lv_iinc (k := 3) (v := (v4 + 1)) (lv' := [(4, .int (v4 + 1)), (0, .ref (q 6)), (1, .int v1), (3, .int v3)]) hx hb d_A_putOnDisk_78 hl rfl (ii_1 _) (by decide) rfl (fun ls hl => ?_)
        refine lv_goto hx hb d_A_putOnDisk_81 (tgt := 42) (by decide) ?_
        exact ih ((v4 + 1)) ((A_diskValue' (A_diskThere' A (upd (A_diskThere A) (Int32.toNatClampNeg v4) (vp_nar .boolean ((A_there A) (Int32.toNatClampNeg v4))))) (upd (A_diskValue A) (Int32.toNatClampNeg v4) ((A_value A) (Int32.toNatClampNeg v4))))) _ _ _ (lv_sub hl [1, 2, 3, 0] rfl) hP hS hwp hX
  rw [wp_A_putOnDisk] at hwp
  refine lv_aload_n hx hb d_A_putOnDisk_0 rfl (lv_at hl 0 rfl) ?_
  refine va_get (D := (dC, dI)) (ci := 6) (v := .ref (q 32)) (C := R_A) (T := F_A) (N := 10) hx hb hts hiA hown hK hP 6 rfl rfl 4 (by decide) lk19 (fun _ h9 => h9) rfl d_A_putOnDisk_1 ?_
  refine lv_iload_n hx hb d_A_putOnDisk_4 rfl (lv_at hl 1 rfl) ?_
  refine va_iald hx hb hK hP 32 0 rfl rfl hwp.1 d_A_putOnDisk_5 ?_
  have hwp := hwp.2
  refine lv_aload_n hx hb d_A_putOnDisk_6 rfl (lv_at hl 2 rfl) ?_
  refine va_get (D := (dC, dI)) (ci := 5) (v := .int (G_flushed G)) (C := R_G) (T := F_G) (N := 12) hx hb hts hiG hown hK hP 5 rfl rfl 2 (by decide) lk48 (fun _ h9 => h9) rfl d_A_putOnDisk_7 ?_
  refine jn_split hwp (fun jk23 hjk hwp => ?_)
  have J23 : ∀ (G1 : S_G) (H : Heap) (locs : List Loc) (ls : Array Slot), lv_has ls 5 [(0, .ref (q 6)), (1, .int a1)] → va_P (dC, dI) clZ (wN cI cL cZ q A D G1 K N P T) H → va_S (aN q) s.heap H locs → jk23 G1 → W p l e (headSpec ws_A_putOnDisk rm_A_putOnDisk).room s m ([.ref (q 6), .int a1, .ref (q 5)]).toArray below meth c H locs 0 0 Q (F0 m 23 ls []) := by
    intro G1 H locs ls hl hP hS hwp
    rw [hjk] at hwp
    refine lv_aload_n hx hb d_A_putOnDisk_23 rfl (lv_at hl 0 rfl) ?_
    refine va_get (D := (dC, dI)) (ci := 6) (v := .ref (q 35)) (C := R_A) (T := F_A) (N := 10) hx hb hts hiA hown hK hP 6 rfl rfl 7 (by decide) lk28 (fun _ h9 => h9) rfl d_A_putOnDisk_24 ?_
    refine lv_iload_n hx hb d_A_putOnDisk_27 rfl (lv_at hl 1 rfl) ?_
    refine lv_aload_n hx hb d_A_putOnDisk_28 rfl (lv_at hl 0 rfl) ?_
    refine va_get (D := (dC, dI)) (ci := 6) (v := .ref (q 32)) (C := R_A) (T := F_A) (N := 10) hx hb hts hiA hown hK hP 6 rfl rfl 4 (by decide) lk19 (fun _ h9 => h9) rfl d_A_putOnDisk_29 ?_
    refine lv_iload_n hx hb d_A_putOnDisk_32 rfl (lv_at hl 1 rfl) ?_
    refine va_iald hx hb hK hP 32 0 rfl rfl hwp.1 d_A_putOnDisk_33 ?_
    have hwp := hwp.2
    refine va_iast hx hb hK hP (dN hq) hS 35 0 rfl rfl hwp.1 d_A_putOnDisk_34 (fun H locs hP _ hS => ?_)
    have hwp := hwp.2
    have hP : va_P (dC, dI) clZ (wN cI cL cZ q (A_diskLsn' A (upd (A_diskLsn A) (Int32.toNatClampNeg a1) ((A_lsn A) (Int32.toNatClampNeg a1)))) D G1 K N P T) H := hP
    refine lv_iload_n hx hb d_A_putOnDisk_35 rfl (lv_at hl 1 rfl) ?_
    refine lv_iconst (v := 4) hx hb d_A_putOnDisk_36 (by decide) ?_
    refine lv_imul hx hb d_A_putOnDisk_37 ?_
    refine lv_istore_n (lv' := [(3, .int (a1 * 4)), (0, .ref (q 6)), (1, .int a1)]) hx hb d_A_putOnDisk_38 rfl hl (by decide) rfl (fun ls hl => ?_)
    refine lv_iload_n hx hb d_A_putOnDisk_39 rfl (lv_at hl 0 rfl) ?_
    refine lv_istore (lv' := [(4, .int (a1 * 4)), (3, .int (a1 * 4)), (0, .ref (q 6)), (1, .int a1)]) hx hb d_A_putOnDisk_40 hl (by decide) rfl (fun ls hl => ?_)
    obtain ⟨e42, hwp⟩ := hwp
    refine L42 _ (G1) (a1) ((a1 * 4)) e42 ((a1 * 4)) ((A_diskLsn' A (upd (A_diskLsn A) (Int32.toNatClampNeg a1) ((A_lsn A) (Int32.toNatClampNeg a1))))) _ _ _ (lv_sub hl [2, 3, 1, 0] rfl) hP hS hwp (fun A2 H locs ls hl hP hS hwp => ?_)
    refine lv_aload_n hx hb d_A_putOnDisk_84 rfl (lv_at hl 0 rfl) ?_
    refine va_get (D := (dC, dI)) (ci := 6) (v := .ref (q 31)) (C := R_A) (T := F_A) (N := 10) hx hb hts hiA hown hK hP 6 rfl rfl 3 (by decide) lk15 (fun _ h9 => h9) rfl d_A_putOnDisk_85 ?_
    refine lv_iload_n hx hb d_A_putOnDisk_88 rfl (lv_at hl 1 rfl) ?_
    refine lv_iconst (v := 0) hx hb d_A_putOnDisk_89 (by decide) ?_
    refine va_zast hx hb hK hP (dN hq) hS 31 2 rfl rfl hwp.1 d_A_putOnDisk_90 (fun H locs hP _ hS => ?_)
    have hwp := hwp.2
    have hP : va_P (dC, dI) clZ (wN cI cL cZ q (A_dirty' A2 (upd (A_dirty A2) (Int32.toNatClampNeg a1) (vp_nar .boolean 0))) D G1 K N P T) H := hP
    rw [hQ]
    exact W.vret hx hb hr (fun t ht hW => ⟨⟨((A_dirty' A2 (upd (A_dirty A2) (Int32.toNatClampNeg a1) (vp_nar .boolean 0))), G1), rfl, hwp, hp_of ht hP⟩, hS.F ht⟩) hS.2.2 d_A_putOnDisk_91
  clear hjk
  refine lv_icmp_le (tgt := 23) hx hb d_A_putOnDisk_10 (by decide) (fun hc => ?_) (fun hc => ?_)
  · rw [if_pos hc] at hwp
    exact J23 (G) _ _ _ (lv_sub hl [0, 1] rfl) hP hS hwp
  · rw [if_neg hc] at hwp
    refine lv_aload_n hx hb d_A_putOnDisk_13 rfl (lv_at hl 2 rfl) ?_
    refine lv_aload_n hx hb d_A_putOnDisk_14 rfl (lv_at hl 0 rfl) ?_
    refine va_get (D := (dC, dI)) (ci := 6) (v := .ref (q 32)) (C := R_A) (T := F_A) (N := 10) hx hb hts hiA hown hK hP 6 rfl rfl 4 (by decide) lk19 (fun _ h9 => h9) rfl d_A_putOnDisk_15 ?_
    refine lv_iload_n hx hb d_A_putOnDisk_18 rfl (lv_at hl 1 rfl) ?_
    refine va_iald hx hb hK hP 32 0 rfl rfl hwp.1 d_A_putOnDisk_19 ?_
    have hwp := hwp.2
    refine va_put (D := (dC, dI)) (ci := 5) (v := .int ((A_lsn A) (Int32.toNatClampNeg a1))) (ty := .int) (C := R_G) (T := F_G) (N := 12) hx hb hts hiG ty_G ty_G_ok nmx_G hown hK hP (dN hq) hS 5 rfl rfl 2 (by decide) lk48 (fun _ h9 => h9) rfl (by decide +kernel) rfl rfl (Nat.le_of_ble_eq_true rfl) d_A_putOnDisk_20 (fun H locs hP _ hS => ?_)
    have hP : va_P (dC, dI) clZ (wN cI cL cZ q A D (G_flushed' G ((A_lsn A) (Int32.toNatClampNeg a1))) K N P T) H := hP
    exact J23 ((G_flushed' G ((A_lsn A) (Int32.toNatClampNeg a1)))) _ _ _ (lv_sub hl [0, 1] rfl) hP hS hwp

set_option maxHeartbeats 4000000 in
set_option maxRecDepth 100000 in
theorem c_A_touch {l : Launch} {dC : Nat → ClassId} {dI : Nat → Nat → Nat} {cI cL cZ : ClassId} {q : Nat → Nat} (hq : iN q) (A : S_A) (D : S_D) (G : S_G) (K : S_K) (N : S_N) (P : S_P) (T : S_T) (a1 : Int32) (post : S_A → S_G → Prop) (hwp : wp_A_touch A G a1 post) : Met l y_A_touch ws_A_touch rm_A_touch (va_Pc [.ref (q 6), .int a1, .ref (q 5)] (bN dC dI cI cL cZ q A D G K N P T)) (va_Qv (fun (u : S_A × S_G) => post u.1 u.2) (fun u t => va_P (dC, dI) clZ (wN cI cL cZ q (u.1) D (u.2) K N P T) t.heap) (aN q)) 0 0 (aN q) := by
  refine Met.ofW (cc := b_A_touch) (maxL := 5) (ret := none) (by decide) rfl ?_
  intro p e s m args below meth c s₁ B hml hv
  obtain ⟨rfl, hP, hK⟩ := hv
  have hx := B.exec
  have hb := B.bytes
  have hr := B.returns
  have hts := atoms_spec (ws := ws_A_touch) B.pre
  have hown : s.vm.findClass R_A = some m.cls := findClass_of_methodNamed B.named
  have hlocks := B.notSynchronized
  have hiA : ∀ w ∈ u_ws R_A F_A 10, w ∈ ws_A_touch := fun w h => List.mem_cons_of_mem _ (in_A w h)
  have lk9 := hts _ (List.mem_cons_of_mem _ k_A_9)
  have lk15 := hts _ (List.mem_cons_of_mem _ k_A_15)
  have lk37 := hts _ (List.mem_cons_of_mem _ k_A_37)
  have lk41 := hts _ (List.mem_cons_of_mem _ k_A_41)
  have hS : va_S (aN q) s.heap s.heap [] := va_S.rf
  have hl := lv_entry ([.ref (q 6), .int a1, .ref (q 5)]) (n := 5) (Nat.le_of_ble_eq_true rfl)
  rw [lg_entry_eq]
  generalize (lg_sl ([.ref (q 6), .int a1, .ref (q 5)]) ++ List.replicate (5 - (lg_sl ([.ref (q 6), .int a1, .ref (q 5)])).length) Slot.unset).toArray = ls at hl ⊢
  have hl : lv_has ls 5 [(0, .ref (q 6)), (1, .int a1), (2, .ref (q 5))] := hl
  obtain ⟨Q, hQ⟩ : ∃ Q, Q = MQ below (va_Qv (fun (u : S_A × S_G) => post u.1 u.2) (fun u t => va_P (dC, dI) clZ (wN cI cL cZ q (u.1) D (u.2) K N P T) t.heap) (aN q)) ([.ref (q 6), .int a1, .ref (q 5)]).toArray s 0 0 (aN q) := ⟨_, rfl⟩
  rw [← hQ]
  have L2 : ∀ (Kx : Int32 → Prop) (A : S_A) (G : S_G) (v1 : Int32) (n : Nat) (v3 : Int32) (H : Heap) (locs : List Loc) (ls : Array Slot), lv_has ls 5 [(0, .ref (q 6)), (1, .int v1), (2, .ref (q 5)), (3, .int v3)] → va_P (dC, dI) clZ (wN cI cL cZ q A D G K N P T) H → va_S (aN q) s.heap H locs → wp_A_touch_L2 A v1 Kx n v3 → (∀ (x3 : Int32) (H : Heap) (locs : List Loc) (ls : Array Slot), lv_has ls 5 [(0, .ref (q 6)), (1, .int v1), (2, .ref (q 5)), (3, .int x3)] → va_P (dC, dI) clZ (wN cI cL cZ q A D G K N P T) H → va_S (aN q) s.heap H locs → Kx x3 → W p l e (headSpec ws_A_touch rm_A_touch).room s m ([.ref (q 6), .int a1, .ref (q 5)]).toArray below meth c H locs 0 0 Q (F0 m 26 ls [])) → W p l e (headSpec ws_A_touch rm_A_touch).room s m ([.ref (q 6), .int a1, .ref (q 5)]).toArray below meth c H locs 0 0 Q (F0 m 2 ls []) := by
    intro Kx A G v1 n
    induction n with
    | zero =>
      intros
      rename_i hwp _
      exact hwp.elim
    | succ n2 ih =>
      intro v3 H locs ls hl hP hS hwp hX
      rw [wp_A_touch_L2] at hwp
      refine lv_iload_n hx hb d_A_touch_2 rfl (lv_at hl 3 rfl) ?_
      refine lv_aload_n hx hb d_A_touch_3 rfl (lv_at hl 0 rfl) ?_
      refine va_get (D := (dC, dI)) (ci := 6) (v := .int (A_framesInUse A)) (C := R_A) (T := F_A) (N := 10) hx hb hts hiA hown hK hP 6 rfl rfl 1 (by decide) lk41 (fun _ h9 => h9) rfl d_A_touch_4 ?_
      refine lv_icmp_ge (tgt := 26) hx hb d_A_touch_7 (by decide) (fun hc => ?_) (fun hc => ?_)
      · rw [if_pos hc] at hwp
        exact hX (v3) _ _ _ (lv_sub hl [0, 1, 2, 3] rfl) hP hS hwp
      · rw [if_neg hc] at hwp
        refine lv_aload_n hx hb d_A_touch_10 rfl (lv_at hl 0 rfl) ?_
        refine va_get (D := (dC, dI)) (ci := 6) (v := .ref (q 30)) (C := R_A) (T := F_A) (N := 10) hx hb hts hiA hown hK hP 6 rfl rfl 2 (by decide) lk9 (fun _ h9 => h9) rfl d_A_touch_11 ?_
        refine lv_iload_n hx hb d_A_touch_14 rfl (lv_at hl 3 rfl) ?_
        refine va_iald hx hb hK hP 30 0 rfl rfl hwp.1 d_A_touch_15 ?_
        have hwp := hwp.2
        refine lv_iload_n hx hb d_A_touch_16 rfl (lv_at hl 1 rfl) ?_
        refine lv_icmp_eq (tgt := 26) hx hb d_A_touch_17 (by decide) (fun hc => ?_) (fun hc => ?_)
        · rw [if_pos hc] at hwp
          exact hX (v3) _ _ _ (lv_sub hl [0, 1, 2, 3] rfl) hP hS hwp
        · rw [if_neg hc] at hwp
          refine lv_iinc (k := 3) (v := (v3 + 1)) (lv' := [(3, .int (v3 + 1)), (0, .ref (q 6)), (1, .int v1), (2, .ref (q 5))]) hx hb d_A_touch_20 hl rfl (ii_1 _) (by decide) rfl (fun ls hl => ?_)
          refine lv_goto hx hb d_A_touch_23 (tgt := 2) (by decide) ?_
          exact ih ((v3 + 1)) _ _ _ (lv_sub hl [1, 2, 3, 0] rfl) hP hS hwp hX
  have L86 : ∀ (Kx : S_A → Prop) (G : S_G) (v1 : Int32) (n : Nat) (v4 : Int32) (A : S_A) (H : Heap) (locs : List Loc) (ls : Array Slot), lv_has ls 5 [(0, .ref (q 6)), (1, .int v1), (4, .int v4)] → va_P (dC, dI) clZ (wN cI cL cZ q A D G K N P T) H → va_S (aN q) s.heap H locs → wp_A_touch_L86 v1 Kx n v4 A → (∀ (A1 : S_A) (H : Heap) (locs : List Loc) (ls : Array Slot), lv_has ls 5 [(0, .ref (q 6)), (1, .int v1)] → va_P (dC, dI) clZ (wN cI cL cZ q A1 D G K N P T) H → va_S (aN q) s.heap H locs → Kx A1 → W p l e (headSpec ws_A_touch rm_A_touch).room s m ([.ref (q 6), .int a1, .ref (q 5)]).toArray below meth c H locs 0 0 Q (F0 m 113 ls [])) → W p l e (headSpec ws_A_touch rm_A_touch).room s m ([.ref (q 6), .int a1, .ref (q 5)]).toArray below meth c H locs 0 0 Q (F0 m 86 ls []) := by
    intro Kx G v1 n
    induction n with
    | zero =>
      intros
      rename_i hwp _
      exact hwp.elim
    | succ n86 ih =>
      intro v4 A H locs ls hl hP hS hwp hX
      rw [wp_A_touch_L86] at hwp
      refine lv_iload hx hb d_A_touch_86 (lv_at hl 2 rfl) ?_
      refine lv_if_le (tgt := 113) hx hb d_A_touch_88 (by decide) (fun hc => ?_) (fun hc => ?_)
      · rw [if_pos hc] at hwp
        exact hX (A) _ _ _ (lv_sub hl [0, 1] rfl) hP hS hwp
      · rw [if_neg hc] at hwp
        refine lv_aload_n hx hb d_A_touch_91 rfl (lv_at hl 0 rfl) ?_
        refine va_get (D := (dC, dI)) (ci := 6) (v := .ref (q 30)) (C := R_A) (T := F_A) (N := 10) hx hb hts hiA hown hK hP 6 rfl rfl 2 (by decide) lk9 (fun _ h9 => h9) rfl d_A_touch_92 ?_
        refine lv_iload hx hb d_A_touch_95 (lv_at hl 2 rfl) ?_
        refine lv_aload_n hx hb d_A_touch_97 rfl (lv_at hl 0 rfl) ?_
        refine va_get (D := (dC, dI)) (ci := 6) (v := .ref (q 30)) (C := R_A) (T := F_A) (N := 10) hx hb hts hiA hown hK hP 6 rfl rfl 2 (by decide) lk9 (fun _ h9 => h9) rfl d_A_touch_98 ?_
        refine lv_iload hx hb d_A_touch_101 (lv_at hl 2 rfl) ?_
        refine lv_iconst (v := 1) hx hb d_A_touch_103 (by decide) ?_
        refine lv_isub hx hb d_A_touch_104 ?_
        refine va_iald hx hb hK hP 30 0 rfl rfl hwp.1 d_A_touch_105 ?_
        have hwp := hwp.2
        refine va_iast hx hb hK hP (dN hq) hS 30 0 rfl rfl hwp.1 d_A_touch_106 (fun H locs hP _ hS => ?_)
        have hwp := hwp.2
        have hP : va_P (dC, dI) clZ (wN cI cL cZ q (A_byTouch' A (upd (A_byTouch A) (Int32.toNatClampNeg v4) ((A_byTouch A) (Int32.toNatClampNeg (v4 - 1))))) D G K N P T) H := hP
        refine lv_iinc (k := 2) (v := (v4 + (-1))) (lv' := [(4, .int (v4 + (-1))), (0, .ref (q 6)), (1, .int v1)]) hx hb d_A_touch_107 hl rfl (ii_m1 _) (by decide) rfl (fun ls hl => ?_)
        refine lv_goto hx hb d_A_touch_110 (tgt := 86) (by decide) ?_
        exact ih ((v4 + (-1))) ((A_byTouch' A (upd (A_byTouch A) (Int32.toNatClampNeg v4) ((A_byTouch A) (Int32.toNatClampNeg (v4 - 1)))))) _ _ _ (lv_sub hl [1, 2, 0] rfl) hP hS hwp hX
  rw [wp_A_touch] at hwp
  refine lv_iconst (v := 0) hx hb d_A_touch_0 (by decide) ?_
  refine lv_istore_n (lv' := [(3, .int 0), (0, .ref (q 6)), (1, .int a1), (2, .ref (q 5))]) hx hb d_A_touch_1 rfl hl (by decide) rfl (fun ls hl => ?_)
  obtain ⟨e2, hwp⟩ := hwp
  refine L2 _ (A) (G) (a1) e2 (0) _ _ _ (lv_sub hl [1, 2, 3, 0] rfl) hP hS hwp (fun x1 H locs ls hl hP hS hwp => ?_)
  refine lv_iload_n hx hb d_A_touch_26 rfl (lv_at hl 3 rfl) ?_
  refine lv_aload_n hx hb d_A_touch_27 rfl (lv_at hl 0 rfl) ?_
  refine va_get (D := (dC, dI)) (ci := 6) (v := .int (A_frames A)) (C := R_A) (T := F_A) (N := 10) hx hb hts hiA hown hK hP 6 rfl rfl 0 (by decide) lk37 (fun _ h9 => h9) rfl d_A_touch_28 ?_
  refine jn_split hwp (fun jk83 hjk hwp => ?_)
  have J83 : ∀ (x4 : Int32) (A5 : S_A) (G6 : S_G) (H : Heap) (locs : List Loc) (ls : Array Slot), lv_has ls 5 [(0, .ref (q 6)), (1, .int a1), (3, .int x4)] → va_P (dC, dI) clZ (wN cI cL cZ q A5 D G6 K N P T) H → va_S (aN q) s.heap H locs → jk83 x4 A5 G6 → W p l e (headSpec ws_A_touch rm_A_touch).room s m ([.ref (q 6), .int a1, .ref (q 5)]).toArray below meth c H locs 0 0 Q (F0 m 83 ls []) := by
    intro x4 A5 G6 H locs ls hl hP hS hwp
    rw [hjk] at hwp
    refine lv_iload_n hx hb d_A_touch_83 rfl (lv_at hl 2 rfl) ?_
    refine lv_istore (lv' := [(4, .int x4), (0, .ref (q 6)), (1, .int a1), (3, .int x4)]) hx hb d_A_touch_84 hl (by decide) rfl (fun ls hl => ?_)
    obtain ⟨e86, hwp⟩ := hwp
    refine L86 _ (G6) (a1) e86 (x4) (A5) _ _ _ (lv_sub hl [1, 2, 0] rfl) hP hS hwp (fun A7 H locs ls hl hP hS hwp => ?_)
    refine lv_aload_n hx hb d_A_touch_113 rfl (lv_at hl 0 rfl) ?_
    refine va_get (D := (dC, dI)) (ci := 6) (v := .ref (q 30)) (C := R_A) (T := F_A) (N := 10) hx hb hts hiA hown hK hP 6 rfl rfl 2 (by decide) lk9 (fun _ h9 => h9) rfl d_A_touch_114 ?_
    refine lv_iconst (v := 0) hx hb d_A_touch_117 (by decide) ?_
    refine lv_iload_n hx hb d_A_touch_118 rfl (lv_at hl 1 rfl) ?_
    refine va_iast hx hb hK hP (dN hq) hS 30 0 rfl rfl hwp.1 d_A_touch_119 (fun H locs hP _ hS => ?_)
    have hwp := hwp.2
    have hP : va_P (dC, dI) clZ (wN cI cL cZ q (A_byTouch' A7 (upd (A_byTouch A7) (Int32.toNatClampNeg 0) a1)) D G6 K N P T) H := hP
    rw [hQ]
    exact W.vret hx hb hr (fun t ht hW => ⟨⟨((A_byTouch' A7 (upd (A_byTouch A7) (Int32.toNatClampNeg 0) a1)), G6), rfl, hwp, hp_of ht hP⟩, hS.F ht⟩) hS.2.2 d_A_touch_120
  clear hjk
  refine lv_icmp_ne (tgt := 65) hx hb d_A_touch_31 (by decide) (fun hc => ?_) (fun hc => ?_)
  · rw [if_neg hc] at hwp
    refine lv_iload_n hx hb d_A_touch_65 rfl (lv_at hl 3 rfl) ?_
    refine lv_aload_n hx hb d_A_touch_66 rfl (lv_at hl 0 rfl) ?_
    refine va_get (D := (dC, dI)) (ci := 6) (v := .int (A_framesInUse A)) (C := R_A) (T := F_A) (N := 10) hx hb hts hiA hown hK hP 6 rfl rfl 1 (by decide) lk41 (fun _ h9 => h9) rfl d_A_touch_67 ?_
    refine lv_icmp_ne (tgt := 83) hx hb d_A_touch_70 (by decide) (fun hc => ?_) (fun hc => ?_)
    · rw [if_neg hc] at hwp
      exact J83 (x1) (A) (G) _ _ _ (lv_sub hl [0, 1, 3] rfl) hP hS hwp
    · rw [if_pos hc] at hwp
      refine lv_aload_n hx hb d_A_touch_73 rfl (lv_at hl 0 rfl) ?_
      refine lv_dup hx hb d_A_touch_74 rfl ?_
      refine va_get (D := (dC, dI)) (ci := 6) (v := .int (A_framesInUse A)) (C := R_A) (T := F_A) (N := 10) hx hb hts hiA hown hK hP 6 rfl rfl 1 (by decide) lk41 (fun _ h9 => h9) rfl d_A_touch_75 ?_
      refine lv_iconst (v := 1) hx hb d_A_touch_78 (by decide) ?_
      refine lv_iadd hx hb d_A_touch_79 ?_
      refine va_put (D := (dC, dI)) (ci := 6) (v := .int ((A_framesInUse A) + 1)) (ty := .int) (C := R_A) (T := F_A) (N := 10) hx hb hts hiA ty_A ty_A_ok nmx_A hown hK hP (dN hq) hS 6 rfl rfl 1 (by decide) lk41 (fun _ h9 => h9) rfl (by decide +kernel) rfl rfl (Nat.le_of_ble_eq_true rfl) d_A_touch_80 (fun H locs hP _ hS => ?_)
      have hP : va_P (dC, dI) clZ (wN cI cL cZ q (A_framesInUse' A ((A_framesInUse A) + 1)) D G K N P T) H := hP
      exact J83 (x1) ((A_framesInUse' A ((A_framesInUse A) + 1))) (G) _ _ _ (lv_sub hl [0, 1, 3] rfl) hP hS hwp
  · rw [if_pos hc] at hwp
    refine lv_iinc (k := 3) (v := (x1 + (-1))) (lv' := [(3, .int (x1 + (-1))), (0, .ref (q 6)), (1, .int a1), (2, .ref (q 5))]) hx hb d_A_touch_34 hl rfl (ii_m1 _) (by decide) rfl (fun ls hl => ?_)
    refine lv_aload_n hx hb d_A_touch_37 rfl (lv_at hl 1 rfl) ?_
    refine va_get (D := (dC, dI)) (ci := 6) (v := .ref (q 31)) (C := R_A) (T := F_A) (N := 10) hx hb hts hiA hown hK hP 6 rfl rfl 3 (by decide) lk15 (fun _ h9 => h9) rfl d_A_touch_38 ?_
    refine lv_aload_n hx hb d_A_touch_41 rfl (lv_at hl 1 rfl) ?_
    refine va_get (D := (dC, dI)) (ci := 6) (v := .ref (q 30)) (C := R_A) (T := F_A) (N := 10) hx hb hts hiA hown hK hP 6 rfl rfl 2 (by decide) lk9 (fun _ h9 => h9) rfl d_A_touch_42 ?_
    refine lv_iload_n hx hb d_A_touch_45 rfl (lv_at hl 0 rfl) ?_
    refine va_iald hx hb hK hP 30 0 rfl rfl hwp.1 d_A_touch_46 ?_
    have hwp := hwp.2
    refine va_zald hx hb hK hP 31 2 rfl rfl hwp.1 d_A_touch_47 ?_
    have hwp := hwp.2
    refine lv_if_eq (tgt := 83) hx hb d_A_touch_48 (by decide) (fun hc => ?_) (fun hc => ?_)
    · rw [if_pos hc] at hwp
      exact J83 ((x1 + (-1))) (A) (G) _ _ _ (lv_sub hl [1, 2, 0] rfl) hP hS hwp
    · rw [if_neg hc] at hwp
      refine lv_aload_n hx hb d_A_touch_51 rfl (lv_at hl 1 rfl) ?_
      refine lv_aload_n hx hb d_A_touch_52 rfl (lv_at hl 1 rfl) ?_
      refine va_get (D := (dC, dI)) (ci := 6) (v := .ref (q 30)) (C := R_A) (T := F_A) (N := 10) hx hb hts hiA hown hK hP 6 rfl rfl 2 (by decide) lk9 (fun _ h9 => h9) rfl d_A_touch_53 ?_
      refine lv_iload_n hx hb d_A_touch_56 rfl (lv_at hl 0 rfl) ?_
      refine va_iald hx hb hK hP 30 0 rfl rfl hwp.1 d_A_touch_57 ?_
      have hwp := hwp.2
      refine lv_aload_n hx hb d_A_touch_58 rfl (lv_at hl 3 rfl) ?_
      refine ncn_v (As := [.int ((A_byTouch A) (Int32.toNatClampNeg (x1 + (-1)))), .ref (q 5)]) (c_A_putOnDisk hq (A) (D) (G) (K) (N) (P) (T) (((A_byTouch A) (Int32.toNatClampNeg (x1 + (-1))))) _ hwp) (cwV 2 hts g_A_44 rfl rfl rfl hd_A_putOnDisk ⟨Nat.le_of_ble_eq_true rfl, Nat.le_of_ble_eq_true rfl⟩) hx hb hml hown hts hK hP hS hl.1 d_A_touch_59 (va_recv (q := (R_A, F_A, 10)) hK hP (ci := 6) (q0 := 6) rfl rfl) rfl (lv_room (Nat.le_of_ble_eq_true rfl)) (Nat.zero_le _) (Nat.zero_le _) rfl (fun u H locs hwp hP hS => ?_)
      obtain ⟨A2, G3⟩ := u
      have hP : va_P (dC, dI) clZ (wN cI cL cZ q A2 D G3 K N P T) H := hP
      refine lv_goto hx hb d_A_touch_62 (tgt := 83) (by decide) ?_
      exact J83 ((x1 + (-1))) (A2) (G3) _ _ _ (lv_sub hl [1, 2, 0] rfl) hP hS hwp

set_option maxHeartbeats 4000000 in
set_option maxRecDepth 100000 in
theorem c_A_change {l : Launch} {dC : Nat → ClassId} {dI : Nat → Nat → Nat} {cI cL cZ : ClassId} {q : Nat → Nat} (hq : iN q) (A : S_A) (D : S_D) (G : S_G) (K : S_K) (N : S_N) (P : S_P) (T : S_T) (a1 : Int32) (a2 : Int32) (a3 : Int32) (a4 : Int32) (post : S_A → Prop) (hwp : wp_A_change A a1 a2 a3 a4 post) : Met l y_A_change ws_A_change rm_A_change (va_Pc [.ref (q 6), .int a1, .int a2, .int a3, .int a4] (bN dC dI cI cL cZ q A D G K N P T)) (va_Qv (fun (u : S_A) => post u) (fun u t => va_P (dC, dI) clZ (wN cI cL cZ q (u) D G K N P T) t.heap) (aN q)) 0 0 (aN q) := by
  refine Met.ofW (cc := b_A_change) (maxL := 6) (ret := none) (by decide) rfl ?_
  intro p e s m args below meth c s₁ B hml hv
  obtain ⟨rfl, hP, hK⟩ := hv
  have hx := B.exec
  have hb := B.bytes
  have hr := B.returns
  have hts := atoms_spec (ws := ws_A_change) B.pre
  have hown : s.vm.findClass R_A = some m.cls := findClass_of_methodNamed B.named
  have hlocks := B.notSynchronized
  have hiA : ∀ w ∈ u_ws R_A F_A 10, w ∈ ws_A_change := fun w h => List.mem_cons_of_mem _ (in_A w h)
  have lk15 := hts _ (List.mem_cons_of_mem _ k_A_15)
  have lk19 := hts _ (List.mem_cons_of_mem _ k_A_19)
  have lk22 := hts _ (List.mem_cons_of_mem _ k_A_22)
  have lk25 := hts _ (List.mem_cons_of_mem _ k_A_25)
  have hS : va_S (aN q) s.heap s.heap [] := va_S.rf
  have hl := lv_entry ([.ref (q 6), .int a1, .int a2, .int a3, .int a4]) (n := 6) (Nat.le_of_ble_eq_true rfl)
  rw [lg_entry_eq]
  generalize (lg_sl ([.ref (q 6), .int a1, .int a2, .int a3, .int a4]) ++ List.replicate (6 - (lg_sl ([.ref (q 6), .int a1, .int a2, .int a3, .int a4])).length) Slot.unset).toArray = ls at hl ⊢
  have hl : lv_has ls 6 [(0, .ref (q 6)), (1, .int a1), (2, .int a2), (3, .int a3), (4, .int a4)] := hl
  obtain ⟨Q, hQ⟩ : ∃ Q, Q = MQ below (va_Qv (fun (u : S_A) => post u) (fun u t => va_P (dC, dI) clZ (wN cI cL cZ q (u) D G K N P T) t.heap) (aN q)) ([.ref (q 6), .int a1, .int a2, .int a3, .int a4]).toArray s 0 0 (aN q) := ⟨_, rfl⟩
  rw [← hQ]
  rw [wp_A_change] at hwp
  refine lv_iload_n hx hb d_A_change_0 rfl (lv_at hl 1 rfl) ?_
  refine lv_iconst (v := 4) hx hb d_A_change_1 (by decide) ?_
  refine lv_idiv hx hb d_A_change_2 (by decide) ?_
  refine lv_istore (lv' := [(5, .int (a1 / 4)), (0, .ref (q 6)), (1, .int a1), (2, .int a2), (3, .int a3), (4, .int a4)]) hx hb d_A_change_3 hl (by decide) rfl (fun ls hl => ?_)
  refine lv_aload_n hx hb d_A_change_5 rfl (lv_at hl 1 rfl) ?_
  refine va_get (D := (dC, dI)) (ci := 6) (v := .ref (q 33)) (C := R_A) (T := F_A) (N := 10) hx hb hts hiA hown hK hP 6 rfl rfl 5 (by decide) lk22 (fun _ h9 => h9) rfl d_A_change_6 ?_
  refine lv_iload_n hx hb d_A_change_9 rfl (lv_at hl 2 rfl) ?_
  refine lv_iload_n hx hb d_A_change_10 rfl (lv_at hl 3 rfl) ?_
  refine va_zast hx hb hK hP (dN hq) hS 33 2 rfl rfl hwp.1 d_A_change_11 (fun H locs hP _ hS => ?_)
  have hwp := hwp.2
  have hP : va_P (dC, dI) clZ (wN cI cL cZ q (A_there' A (upd (A_there A) (Int32.toNatClampNeg a1) (vp_nar .boolean a2))) D G K N P T) H := hP
  refine lv_aload_n hx hb d_A_change_12 rfl (lv_at hl 1 rfl) ?_
  refine va_get (D := (dC, dI)) (ci := 6) (v := .ref (q 34)) (C := R_A) (T := F_A) (N := 10) hx hb hts hiA hown hK hP 6 rfl rfl 6 (by decide) lk25 (fun _ h9 => h9) rfl d_A_change_13 ?_
  refine lv_iload_n hx hb d_A_change_16 rfl (lv_at hl 2 rfl) ?_
  refine lv_iload_n hx hb d_A_change_17 rfl (lv_at hl 4 rfl) ?_
  refine va_iast hx hb hK hP (dN hq) hS 34 0 rfl rfl hwp.1 d_A_change_18 (fun H locs hP _ hS => ?_)
  have hwp := hwp.2
  have hP : va_P (dC, dI) clZ (wN cI cL cZ q (A_value' (A_there' A (upd (A_there A) (Int32.toNatClampNeg a1) (vp_nar .boolean a2))) (upd (A_value A) (Int32.toNatClampNeg a1) a3)) D G K N P T) H := hP
  refine lv_aload_n hx hb d_A_change_19 rfl (lv_at hl 1 rfl) ?_
  refine va_get (D := (dC, dI)) (ci := 6) (v := .ref (q 32)) (C := R_A) (T := F_A) (N := 10) hx hb hts hiA hown hK hP 6 rfl rfl 4 (by decide) lk19 (fun _ h9 => h9) rfl d_A_change_20 ?_
  refine lv_iload hx hb d_A_change_23 (lv_at hl 0 rfl) ?_
  refine lv_iload hx hb d_A_change_25 (lv_at hl 5 rfl) ?_
  refine va_iast hx hb hK hP (dN hq) hS 32 0 rfl rfl hwp.1 d_A_change_27 (fun H locs hP _ hS => ?_)
  have hwp := hwp.2
  have hP : va_P (dC, dI) clZ (wN cI cL cZ q (A_lsn' (A_value' (A_there' A (upd (A_there A) (Int32.toNatClampNeg a1) (vp_nar .boolean a2))) (upd (A_value A) (Int32.toNatClampNeg a1) a3)) (upd (A_lsn A) (Int32.toNatClampNeg (a1 / 4)) a4)) D G K N P T) H := hP
  refine lv_aload_n hx hb d_A_change_28 rfl (lv_at hl 1 rfl) ?_
  refine va_get (D := (dC, dI)) (ci := 6) (v := .ref (q 31)) (C := R_A) (T := F_A) (N := 10) hx hb hts hiA hown hK hP 6 rfl rfl 3 (by decide) lk15 (fun _ h9 => h9) rfl d_A_change_29 ?_
  refine lv_iload hx hb d_A_change_32 (lv_at hl 0 rfl) ?_
  refine lv_iconst (v := 1) hx hb d_A_change_34 (by decide) ?_
  refine va_zast hx hb hK hP (dN hq) hS 31 2 rfl rfl hwp.1 d_A_change_35 (fun H locs hP _ hS => ?_)
  have hwp := hwp.2
  have hP : va_P (dC, dI) clZ (wN cI cL cZ q (A_dirty' (A_lsn' (A_value' (A_there' A (upd (A_there A) (Int32.toNatClampNeg a1) (vp_nar .boolean a2))) (upd (A_value A) (Int32.toNatClampNeg a1) a3)) (upd (A_lsn A) (Int32.toNatClampNeg (a1 / 4)) a4)) (upd (A_dirty A) (Int32.toNatClampNeg (a1 / 4)) (vp_nar .boolean 1))) D G K N P T) H := hP
  rw [hQ]
  exact W.vret hx hb hr (fun t ht hW => ⟨⟨(A_dirty' (A_lsn' (A_value' (A_there' A (upd (A_there A) (Int32.toNatClampNeg a1) (vp_nar .boolean a2))) (upd (A_value A) (Int32.toNatClampNeg a1) a3)) (upd (A_lsn A) (Int32.toNatClampNeg (a1 / 4)) a4)) (upd (A_dirty A) (Int32.toNatClampNeg (a1 / 4)) (vp_nar .boolean 1))), rfl, hwp, hp_of ht hP⟩, hS.F ht⟩) hS.2.2 d_A_change_36

set_option maxHeartbeats 4000000 in
set_option maxRecDepth 100000 in
theorem c_A_loseFrames {l : Launch} {dC : Nat → ClassId} {dI : Nat → Nat → Nat} {cI cL cZ : ClassId} {q : Nat → Nat} (hq : iN q) (A : S_A) (D : S_D) (G : S_G) (K : S_K) (N : S_N) (P : S_P) (T : S_T)  (post : S_A → Prop) (hwp : wp_A_loseFrames A post) : Met l y_A_loseFrames ws_A_loseFrames rm_A_loseFrames (va_Pc [.ref (q 6)] (bN dC dI cI cL cZ q A D G K N P T)) (va_Qv (fun (u : S_A) => post u) (fun u t => va_P (dC, dI) clZ (wN cI cL cZ q (u) D G K N P T) t.heap) (aN q)) 0 0 (aN q) := by
  refine Met.ofW (cc := b_A_loseFrames) (maxL := 2) (ret := none) (by decide) rfl ?_
  intro p e s m args below meth c s₁ B hml hv
  obtain ⟨rfl, hP, hK⟩ := hv
  have hx := B.exec
  have hb := B.bytes
  have hr := B.returns
  have hts := atoms_spec (ws := ws_A_loseFrames) B.pre
  have hown : s.vm.findClass R_A = some m.cls := findClass_of_methodNamed B.named
  have hlocks := B.notSynchronized
  have hiA : ∀ w ∈ u_ws R_A F_A 10, w ∈ ws_A_loseFrames := fun w h => List.mem_cons_of_mem _ (in_A w h)
  have lk15 := hts _ (List.mem_cons_of_mem _ k_A_15)
  have lk19 := hts _ (List.mem_cons_of_mem _ k_A_19)
  have lk22 := hts _ (List.mem_cons_of_mem _ k_A_22)
  have lk25 := hts _ (List.mem_cons_of_mem _ k_A_25)
  have lk28 := hts _ (List.mem_cons_of_mem _ k_A_28)
  have lk31 := hts _ (List.mem_cons_of_mem _ k_A_31)
  have lk34 := hts _ (List.mem_cons_of_mem _ k_A_34)
  have lk41 := hts _ (List.mem_cons_of_mem _ k_A_41)
  have hS : va_S (aN q) s.heap s.heap [] := va_S.rf
  have hl := lv_entry ([.ref (q 6)]) (n := 2) (Nat.le_of_ble_eq_true rfl)
  rw [lg_entry_eq]
  generalize (lg_sl ([.ref (q 6)]) ++ List.replicate (2 - (lg_sl ([.ref (q 6)])).length) Slot.unset).toArray = ls at hl ⊢
  have hl : lv_has ls 2 [(0, .ref (q 6))] := hl
  obtain ⟨Q, hQ⟩ : ∃ Q, Q = MQ below (va_Qv (fun (u : S_A) => post u) (fun u t => va_P (dC, dI) clZ (wN cI cL cZ q (u) D G K N P T) t.heap) (aN q)) ([.ref (q 6)]).toArray s 0 0 (aN q) := ⟨_, rfl⟩
  rw [← hQ]
  have L7 : ∀ (Kx : S_A → Prop) (n : Nat) (v1 : Int32) (A : S_A) (H : Heap) (locs : List Loc) (ls : Array Slot), lv_has ls 2 [(0, .ref (q 6)), (1, .int v1)] → va_P (dC, dI) clZ (wN cI cL cZ q A D G K N P T) H → va_S (aN q) s.heap H locs → wp_A_loseFrames_L7 Kx n v1 A → (∀ (A1 : S_A) (H : Heap) (locs : List Loc) (ls : Array Slot), lv_has ls 2 [(0, .ref (q 6))] → va_P (dC, dI) clZ (wN cI cL cZ q A1 D G K N P T) H → va_S (aN q) s.heap H locs → Kx A1 → W p l e (headSpec ws_A_loseFrames rm_A_loseFrames).room s m ([.ref (q 6)]).toArray below meth c H locs 0 0 Q (F0 m 38 ls [])) → W p l e (headSpec ws_A_loseFrames rm_A_loseFrames).room s m ([.ref (q 6)]).toArray below meth c H locs 0 0 Q (F0 m 7 ls []) := by
    intro Kx  n
    induction n with
    | zero =>
      intros
      rename_i hwp _
      exact hwp.elim
    | succ n7 ih =>
      intro v1 A H locs ls hl hP hS hwp hX
      rw [wp_A_loseFrames_L7] at hwp
      refine lv_iload_n hx hb d_A_loseFrames_7 rfl (lv_at hl 1 rfl) ?_
      refine lv_bipush (v := 8) hx hb d_A_loseFrames_8 (by decide) ?_
      refine lv_icmp_ge (tgt := 38) hx hb d_A_loseFrames_10 (by decide) (fun hc => ?_) (fun hc => ?_)
      · rw [if_pos hc] at hwp
        exact hX (A) _ _ _ (lv_sub hl [0] rfl) hP hS hwp
      · rw [if_neg hc] at hwp
        refine lv_aload_n hx hb d_A_loseFrames_13 rfl (lv_at hl 0 rfl) ?_
        refine va_get (D := (dC, dI)) (ci := 6) (v := .ref (q 31)) (C := R_A) (T := F_A) (N := 10) hx hb hts hiA hown hK hP 6 rfl rfl 3 (by decide) lk15 (fun _ h9 => h9) rfl d_A_loseFrames_14 ?_
        refine lv_iload_n hx hb d_A_loseFrames_17 rfl (lv_at hl 1 rfl) ?_
        refine lv_iconst (v := 0) hx hb d_A_loseFrames_18 (by decide) ?_
        refine va_zast hx hb hK hP (dN hq) hS 31 2 rfl rfl hwp.1 d_A_loseFrames_19 (fun H locs hP _ hS => ?_)
        have hwp := hwp.2
        have hP : va_P (dC, dI) clZ (wN cI cL cZ q (A_dirty' A (upd (A_dirty A) (Int32.toNatClampNeg v1) (vp_nar .boolean 0))) D G K N P T) H := hP
        refine lv_aload_n hx hb d_A_loseFrames_20 rfl (lv_at hl 0 rfl) ?_
        refine va_get (D := (dC, dI)) (ci := 6) (v := .ref (q 32)) (C := R_A) (T := F_A) (N := 10) hx hb hts hiA hown hK hP 6 rfl rfl 4 (by decide) lk19 (fun _ h9 => h9) rfl d_A_loseFrames_21 ?_
        refine lv_iload_n hx hb d_A_loseFrames_24 rfl (lv_at hl 1 rfl) ?_
        refine lv_aload_n hx hb d_A_loseFrames_25 rfl (lv_at hl 0 rfl) ?_
        refine va_get (D := (dC, dI)) (ci := 6) (v := .ref (q 35)) (C := R_A) (T := F_A) (N := 10) hx hb hts hiA hown hK hP 6 rfl rfl 7 (by decide) lk28 (fun _ h9 => h9) rfl d_A_loseFrames_26 ?_
        refine lv_iload_n hx hb d_A_loseFrames_29 rfl (lv_at hl 1 rfl) ?_
        refine va_iald hx hb hK hP 35 0 rfl rfl hwp.1 d_A_loseFrames_30 ?_
        have hwp := hwp.2
        refine va_iast hx hb hK hP (dN hq) hS 32 0 rfl rfl hwp.1 d_A_loseFrames_31 (fun H locs hP _ hS => ?_)
        have hwp := hwp.2
        have hP : va_P (dC, dI) clZ (wN cI cL cZ q (A_lsn' (A_dirty' A (upd (A_dirty A) (Int32.toNatClampNeg v1) (vp_nar .boolean 0))) (upd (A_lsn A) (Int32.toNatClampNeg v1) ((A_diskLsn A) (Int32.toNatClampNeg v1)))) D G K N P T) H := hP
        refine lv_iinc (k := 1) (v := (v1 + 1)) (lv' := [(1, .int (v1 + 1)), (0, .ref (q 6))]) hx hb d_A_loseFrames_32 hl rfl (ii_1 _) (by decide) rfl (fun ls hl => ?_)
        refine lv_goto hx hb d_A_loseFrames_35 (tgt := 7) (by decide) ?_
        exact ih ((v1 + 1)) ((A_lsn' (A_dirty' A (upd (A_dirty A) (Int32.toNatClampNeg v1) (vp_nar .boolean 0))) (upd (A_lsn A) (Int32.toNatClampNeg v1) ((A_diskLsn A) (Int32.toNatClampNeg v1))))) _ _ _ (lv_sub hl [1, 0] rfl) hP hS hwp hX
  have L40 : ∀ (Kx : S_A → Prop) (n : Nat) (v1 : Int32) (A : S_A) (H : Heap) (locs : List Loc) (ls : Array Slot), lv_has ls 2 [(0, .ref (q 6)), (1, .int v1)] → va_P (dC, dI) clZ (wN cI cL cZ q A D G K N P T) H → va_S (aN q) s.heap H locs → wp_A_loseFrames_L40 Kx n v1 A → (∀ (A1 : S_A) (H : Heap) (locs : List Loc) (ls : Array Slot), lv_has ls 2 [] → va_P (dC, dI) clZ (wN cI cL cZ q A1 D G K N P T) H → va_S (aN q) s.heap H locs → Kx A1 → W p l e (headSpec ws_A_loseFrames rm_A_loseFrames).room s m ([.ref (q 6)]).toArray below meth c H locs 0 0 Q (F0 m 76 ls [])) → W p l e (headSpec ws_A_loseFrames rm_A_loseFrames).room s m ([.ref (q 6)]).toArray below meth c H locs 0 0 Q (F0 m 40 ls []) := by
    intro Kx  n
    induction n with
    | zero =>
      intros
      rename_i hwp _
      exact hwp.elim
    | succ n40 ih =>
      intro v1 A H locs ls hl hP hS hwp hX
      rw [wp_A_loseFrames_L40] at hwp
      refine lv_iload_n hx hb d_A_loseFrames_40 rfl (lv_at hl 1 rfl) ?_
      refine lv_bipush (v := 32) hx hb d_A_loseFrames_41 (by decide) ?_
      refine lv_icmp_ge (tgt := 76) hx hb d_A_loseFrames_43 (by decide) (fun hc => ?_) (fun hc => ?_)
      · rw [if_pos hc] at hwp
        exact hX (A) _ _ _ (lv_sub hl [] rfl) hP hS hwp
      · rw [if_neg hc] at hwp
        refine lv_aload_n hx hb d_A_loseFrames_46 rfl (lv_at hl 0 rfl) ?_
        refine va_get (D := (dC, dI)) (ci := 6) (v := .ref (q 33)) (C := R_A) (T := F_A) (N := 10) hx hb hts hiA hown hK hP 6 rfl rfl 5 (by decide) lk22 (fun _ h9 => h9) rfl d_A_loseFrames_47 ?_
        refine lv_iload_n hx hb d_A_loseFrames_50 rfl (lv_at hl 1 rfl) ?_
        refine lv_aload_n hx hb d_A_loseFrames_51 rfl (lv_at hl 0 rfl) ?_
        refine va_get (D := (dC, dI)) (ci := 6) (v := .ref (q 36)) (C := R_A) (T := F_A) (N := 10) hx hb hts hiA hown hK hP 6 rfl rfl 8 (by decide) lk31 (fun _ h9 => h9) rfl d_A_loseFrames_52 ?_
        refine lv_iload_n hx hb d_A_loseFrames_55 rfl (lv_at hl 1 rfl) ?_
        refine va_zald hx hb hK hP 36 2 rfl rfl hwp.1 d_A_loseFrames_56 ?_
        have hwp := hwp.2
        refine va_zast hx hb hK hP (dN hq) hS 33 2 rfl rfl hwp.1 d_A_loseFrames_57 (fun H locs hP _ hS => ?_)
        have hwp := hwp.2
        have hP : va_P (dC, dI) clZ (wN cI cL cZ q (A_there' A (upd (A_there A) (Int32.toNatClampNeg v1) (vp_nar .boolean ((A_diskThere A) (Int32.toNatClampNeg v1))))) D G K N P T) H := hP
        refine lv_aload_n hx hb d_A_loseFrames_58 rfl (lv_at hl 0 rfl) ?_
        refine va_get (D := (dC, dI)) (ci := 6) (v := .ref (q 34)) (C := R_A) (T := F_A) (N := 10) hx hb hts hiA hown hK hP 6 rfl rfl 6 (by decide) lk25 (fun _ h9 => h9) rfl d_A_loseFrames_59 ?_
        refine lv_iload_n hx hb d_A_loseFrames_62 rfl (lv_at hl 1 rfl) ?_
        refine lv_aload_n hx hb d_A_loseFrames_63 rfl (lv_at hl 0 rfl) ?_
        refine va_get (D := (dC, dI)) (ci := 6) (v := .ref (q 37)) (C := R_A) (T := F_A) (N := 10) hx hb hts hiA hown hK hP 6 rfl rfl 9 (by decide) lk34 (fun _ h9 => h9) rfl d_A_loseFrames_64 ?_
        refine lv_iload_n hx hb d_A_loseFrames_67 rfl (lv_at hl 1 rfl) ?_
        refine va_iald hx hb hK hP 37 0 rfl rfl hwp.1 d_A_loseFrames_68 ?_
        have hwp := hwp.2
        refine va_iast hx hb hK hP (dN hq) hS 34 0 rfl rfl hwp.1 d_A_loseFrames_69 (fun H locs hP _ hS => ?_)
        have hwp := hwp.2
        have hP : va_P (dC, dI) clZ (wN cI cL cZ q (A_value' (A_there' A (upd (A_there A) (Int32.toNatClampNeg v1) (vp_nar .boolean ((A_diskThere A) (Int32.toNatClampNeg v1))))) (upd (A_value A) (Int32.toNatClampNeg v1) ((A_diskValue A) (Int32.toNatClampNeg v1)))) D G K N P T) H := hP
        refine lv_iinc (k := 1) (v := (v1 + 1)) (lv' := [(1, .int (v1 + 1)), (0, .ref (q 6))]) hx hb d_A_loseFrames_70 hl rfl (ii_1 _) (by decide) rfl (fun ls hl => ?_)
        refine lv_goto hx hb d_A_loseFrames_73 (tgt := 40) (by decide) ?_
        exact ih ((v1 + 1)) ((A_value' (A_there' A (upd (A_there A) (Int32.toNatClampNeg v1) (vp_nar .boolean ((A_diskThere A) (Int32.toNatClampNeg v1))))) (upd (A_value A) (Int32.toNatClampNeg v1) ((A_diskValue A) (Int32.toNatClampNeg v1))))) _ _ _ (lv_sub hl [1, 0] rfl) hP hS hwp hX
  rw [wp_A_loseFrames] at hwp
  refine lv_aload_n hx hb d_A_loseFrames_0 rfl (lv_at hl 0 rfl) ?_
  refine lv_iconst (v := 0) hx hb d_A_loseFrames_1 (by decide) ?_
  refine va_put (D := (dC, dI)) (ci := 6) (v := .int 0) (ty := .int) (C := R_A) (T := F_A) (N := 10) hx hb hts hiA ty_A ty_A_ok nmx_A hown hK hP (dN hq) hS 6 rfl rfl 1 (by decide) lk41 (fun _ h9 => h9) rfl (by decide +kernel) rfl rfl (Nat.le_of_ble_eq_true rfl) d_A_loseFrames_2 (fun H locs hP _ hS => ?_)
  have hP : va_P (dC, dI) clZ (wN cI cL cZ q (A_framesInUse' A 0) D G K N P T) H := hP
  refine lv_iconst (v := 0) hx hb d_A_loseFrames_5 (by decide) ?_
  refine lv_istore_n (lv' := [(1, .int 0), (0, .ref (q 6))]) hx hb d_A_loseFrames_6 rfl hl (by decide) rfl (fun ls hl => ?_)
  obtain ⟨e7, hwp⟩ := hwp
  refine L7 _  e7 (0) ((A_framesInUse' A 0)) _ _ _ (lv_sub hl [1, 0] rfl) hP hS hwp (fun A1 H locs ls hl hP hS hwp => ?_)
  refine lv_iconst (v := 0) hx hb d_A_loseFrames_38 (by decide) ?_
  refine lv_istore_n (lv' := [(1, .int 0), (0, .ref (q 6))]) hx hb d_A_loseFrames_39 rfl hl (by decide) rfl (fun ls hl => ?_)
  obtain ⟨e40, hwp⟩ := hwp
  refine L40 _  e40 (0) (A1) _ _ _ (lv_sub hl [1, 0] rfl) hP hS hwp (fun A2 H locs ls hl hP hS hwp => ?_)
  rw [hQ]
  exact W.vret hx hb hr (fun t ht hW => ⟨⟨A2, rfl, hwp, hp_of ht hP⟩, hS.F ht⟩) hS.2.2 d_A_loseFrames_76
