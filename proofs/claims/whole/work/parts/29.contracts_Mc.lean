set_option maxHeartbeats 4000000 in
set_option maxRecDepth 100000 in
theorem c_M_victim {l : Launch} {dC : Nat → ClassId} {dI : Nat → Nat → Nat} {cI cL cZ : ClassId} {q : Nat → Nat} (hq : iM q) (MA : S_MA) (MD : S_MD) (MF : S_MF) (MG : S_MG) (ML : S_ML) (MN : S_MN) (MP : S_MP) (MT : S_MT) (MV : S_MV) (a1 : Int32) (post : Int32 → S_MP → S_MV → Prop) (hwp : wp_M_victim MA MD ML MP MT MV a1 post) : Met l y_M_victim ws_M_victim rm_M_victim (va_Pc [.ref (q 0), .int a1] (bM dC dI cI cL cZ q MA MD MF MG ML MN MP MT MV)) (va_Qi (fun (r : Int32) (u : S_MP × S_MV) => post r u.1 u.2) (fun u t => va_P (dC, dI) clZ (wM cI cL cZ q MA MD MF MG ML MN (u.1) MT (u.2)) t.heap) (aM q)) 0 0 (aM q) := by
  refine Met.ofW (cc := b_M_victim) (maxL := 8) (ret := (some .int)) (by decide) rfl ?_
  intro p e s m args below meth c s₁ B hml hv
  obtain ⟨rfl, hP, hK⟩ := hv
  have hx := B.exec
  have hb := B.bytes
  have hr := B.returns
  have hts := atoms_spec (ws := ws_M_victim) B.pre
  have hown : s.vm.findClass R_M = some m.cls := findClass_of_methodNamed B.named
  have hlocks := B.notSynchronized
  have hiM : ∀ w ∈ u_ws R_M F_M 39, w ∈ ws_M_victim := fun w h => List.mem_cons_of_mem _ (in_M w h)
  have lk92 := hts _ (List.mem_cons_of_mem _ k_M_92)
  have lk95 := hts _ (List.mem_cons_of_mem _ k_M_95)
  have lk147 := hts _ (List.mem_cons_of_mem _ k_M_147)
  have hS : va_S (aM q) s.heap s.heap [] := va_S.rf
  have hl := lv_entry ([.ref (q 0), .int a1]) (n := 8) (Nat.le_of_ble_eq_true rfl)
  rw [lg_entry_eq]
  generalize (lg_sl ([.ref (q 0), .int a1]) ++ List.replicate (8 - (lg_sl ([.ref (q 0), .int a1])).length) Slot.unset).toArray = ls at hl ⊢
  have hl : lv_has ls 8 [(0, .ref (q 0)), (1, .int a1)] := hl
  obtain ⟨Q, hQ⟩ : ∃ Q, Q = MQ below (va_Qi (fun (r : Int32) (u : S_MP × S_MV) => post r u.1 u.2) (fun u t => va_P (dC, dI) clZ (wM cI cL cZ q MA MD MF MG ML MN (u.1) MT (u.2)) t.heap) (aM q)) ([.ref (q 0), .int a1]).toArray s 0 0 (aM q) := ⟨_, rfl⟩
  rw [← hQ]
  have L6 : ∀ (Kx : S_MV → Prop) (MP : S_MP) (v1 : Int32) (n : Nat) (v2 : Int32) (MV : S_MV) (H : Heap) (locs : List Loc) (ls : Array Slot), lv_has ls 8 [(0, .ref (q 0)), (1, .int v1), (2, .int v2)] → va_P (dC, dI) clZ (wM cI cL cZ q MA MD MF MG ML MN MP MT MV) H → va_S (aM q) s.heap H locs → wp_M_victim_L6 MT v1 Kx n v2 MV → (∀ (MV1 : S_MV) (H : Heap) (locs : List Loc) (ls : Array Slot), lv_has ls 8 [(0, .ref (q 0)), (1, .int v1)] → va_P (dC, dI) clZ (wM cI cL cZ q MA MD MF MG ML MN MP MT MV1) H → va_S (aM q) s.heap H locs → Kx MV1 → W p l e (headSpec ws_M_victim rm_M_victim).room s m ([.ref (q 0), .int a1]).toArray below meth c H locs 0 0 Q (F0 m 34 ls [])) → W p l e (headSpec ws_M_victim rm_M_victim).room s m ([.ref (q 0), .int a1]).toArray below meth c H locs 0 0 Q (F0 m 6 ls []) := by
    intro Kx MP v1 n
    induction n with
    | zero =>
      intros
      rename_i hwp _
      exact hwp.elim
    | succ n6 ih =>
      intro v2 MV H locs ls hl hP hS hwp hX
      rw [wp_M_victim_L6] at hwp
      refine lv_iload_n hx hb d_M_victim_6 rfl (lv_at hl 2 rfl) ?_
      refine lv_aload_n hx hb d_M_victim_7 rfl (lv_at hl 0 rfl) ?_
      refine va_get (D := (dC, dI)) (ci := 7) (v := .int (MT_many MT)) (C := R_M) (T := F_M) (N := 39) hx hb hts hiM hown hK hP 0 rfl rfl 22 (by decide) lk147 (fun _ h9 => h9) rfl d_M_victim_8 ?_
      refine lv_icmp_ge (tgt := 34) hx hb d_M_victim_11 (by decide) (fun hc => ?_) (fun hc => ?_)
      · rw [if_pos hc] at hwp
        exact hX (MV) _ _ _ (lv_sub hl [0, 1] rfl) hP hS hwp
      · rw [if_neg hc] at hwp
        refine lv_aload_n hx hb d_M_victim_14 rfl (lv_at hl 0 rfl) ?_
        refine va_get (D := (dC, dI)) (ci := 7) (v := .ref (q 28)) (C := R_M) (T := F_M) (N := 39) hx hb hts hiM hown hK hP 0 rfl rfl 35 (by decide) lk92 (fun _ h9 => h9) rfl d_M_victim_15 ?_
        refine lv_iload_n hx hb d_M_victim_18 rfl (lv_at hl 2 rfl) ?_
        refine lv_iconst (v := 0) hx hb d_M_victim_19 (by decide) ?_
        refine va_zast hx hb hK hP (dM hq) hS 28 2 rfl rfl hwp.1 d_M_victim_20 (fun H locs hP _ hS => ?_)
        have hwp := hwp.2
        have hP : va_P (dC, dI) clZ (wM cI cL cZ q MA MD MF MG ML MN MP MT (MV_ahead' MV (upd (MV_ahead MV) (Int32.toNatClampNeg v2) (vp_nar .boolean 0)))) H := hP
        refine lv_aload_n hx hb d_M_victim_21 rfl (lv_at hl 0 rfl) ?_
        refine va_get (D := (dC, dI)) (ci := 7) (v := .ref (q 29)) (C := R_M) (T := F_M) (N := 39) hx hb hts hiM hown hK hP 0 rfl rfl 36 (by decide) lk95 (fun _ h9 => h9) rfl d_M_victim_22 ?_
        refine lv_iload_n hx hb d_M_victim_25 rfl (lv_at hl 2 rfl) ?_
        refine lv_iconst (v := 0) hx hb d_M_victim_26 (by decide) ?_
        refine va_zast hx hb hK hP (dM hq) hS 29 2 rfl rfl hwp.1 d_M_victim_27 (fun H locs hP _ hS => ?_)
        have hwp := hwp.2
        have hP : va_P (dC, dI) clZ (wM cI cL cZ q MA MD MF MG ML MN MP MT (MV_back' (MV_ahead' MV (upd (MV_ahead MV) (Int32.toNatClampNeg v2) (vp_nar .boolean 0))) (upd (MV_back MV) (Int32.toNatClampNeg v2) (vp_nar .boolean 0)))) H := hP
        refine lv_iinc (k := 2) (v := (v2 + 1)) (lv' := [(2, .int (v2 + 1)), (0, .ref (q 0)), (1, .int v1)]) hx hb d_M_victim_28 hl rfl (ii_1 _) (by decide) rfl (fun ls hl => ?_)
        refine lv_goto hx hb d_M_victim_31 (tgt := 6) (by decide) ?_
        exact ih ((v2 + 1)) ((MV_back' (MV_ahead' MV (upd (MV_ahead MV) (Int32.toNatClampNeg v2) (vp_nar .boolean 0))) (upd (MV_back MV) (Int32.toNatClampNeg v2) (vp_nar .boolean 0)))) _ _ _ (lv_sub hl [1, 2, 0] rfl) hP hS hwp hX
  have L65 : ∀ (Kx : Int32 → S_MV → Prop) (MP : S_MP) (v1 : Int32) (v3 : Int32) (v4 : Int32) (n : Nat) (v2 : Int32) (v5 : Int32) (MV : S_MV) (H : Heap) (locs : List Loc) (ls : Array Slot), lv_has ls 8 [(0, .ref (q 0)), (1, .int v1), (2, .int v2), (3, .int v3), (4, .int v4), (5, .int v5)] → va_P (dC, dI) clZ (wM cI cL cZ q MA MD MF MG ML MN MP MT MV) H → va_S (aM q) s.heap H locs → wp_M_victim_L65 ML MT v1 v3 v4 Kx n v2 v5 MV → (∀ (x2 : Int32) (MV1 : S_MV) (H : Heap) (locs : List Loc) (ls : Array Slot), lv_has ls 8 [(0, .ref (q 0)), (1, .int v1), (2, .int x2), (3, .int v3), (4, .int v4)] → va_P (dC, dI) clZ (wM cI cL cZ q MA MD MF MG ML MN MP MT MV1) H → va_S (aM q) s.heap H locs → Kx x2 MV1 → W p l e (headSpec ws_M_victim rm_M_victim).room s m ([.ref (q 0), .int a1]).toArray below meth c H locs 0 0 Q (F0 m 242 ls [])) → W p l e (headSpec ws_M_victim rm_M_victim).room s m ([.ref (q 0), .int a1]).toArray below meth c H locs 0 0 Q (F0 m 65 ls []) := by
    intro Kx MP v1 v3 v4 n
    induction n with
    | zero =>
      intros
      rename_i hwp _
      exact hwp.elim
    | succ n65 ih =>
      intro v2 v5 MV H locs ls hl hP hS hwp hX
      rw [wp_M_victim_L65] at hwp
      refine lv_iload hx hb d_M_victim_65 (lv_at hl 5 rfl) ?_
      refine lv_aload_n hx hb d_M_victim_67 rfl (lv_at hl 0 rfl) ?_
      refine va_get (D := (dC, dI)) (ci := 7) (v := .int (MT_many MT)) (C := R_M) (T := F_M) (N := 39) hx hb hts hiM hown hK hP 0 rfl rfl 22 (by decide) lk147 (fun _ h9 => h9) rfl d_M_victim_68 ?_
      refine lv_icmp_ge (tgt := 242) hx hb d_M_victim_71 (by decide) (fun hc => ?_) (fun hc => ?_)
      · rw [if_pos hc] at hwp
        exact hX (v2) (MV) _ _ _ (lv_sub hl [0, 1, 2, 3, 4] rfl) hP hS hwp
      · rw [if_neg hc] at hwp
        refine lv_iload hx hb d_M_victim_74 (lv_at hl 4 rfl) ?_
        refine lv_iload_n hx hb d_M_victim_76 rfl (lv_at hl 1 rfl) ?_
        refine jn_split hwp (fun jk116 hjk hwp => ?_)
        have J116 : ∀ (b6 : Int32) (H : Heap) (locs : List Loc) (ls : Array Slot), lv_has ls 8 [(0, .ref (q 0)), (1, .int v1), (2, .int v2), (3, .int v3), (4, .int v4), (5, .int v5)] → va_P (dC, dI) clZ (wM cI cL cZ q MA MD MF MG ML MN MP MT MV) H → va_S (aM q) s.heap H locs → jk116 b6 → W p l e (headSpec ws_M_victim rm_M_victim).room s m ([.ref (q 0), .int a1]).toArray below meth c H locs 0 0 Q (F0 m 116 ls [.int b6]) := by
          intro b6 H locs ls hl hP hS hwp
          rw [hjk] at hwp
          refine lv_istore (lv' := [(6, .int b6), (0, .ref (q 0)), (1, .int v1), (2, .int v2), (3, .int v3), (4, .int v4), (5, .int v5)]) hx hb d_M_victim_116 hl (by decide) rfl (fun ls hl => ?_)
          refine lv_iload hx hb d_M_victim_118 (lv_at hl 6 rfl) ?_
          refine lv_iload_n hx hb d_M_victim_120 rfl (lv_at hl 2 rfl) ?_
          refine jn_split hwp (fun jk160 hjk hwp => ?_)
          have J160 : ∀ (b9 : Int32) (H : Heap) (locs : List Loc) (ls : Array Slot), lv_has ls 8 [(0, .ref (q 0)), (1, .int v1), (2, .int v2), (3, .int v3), (4, .int v4), (5, .int v5), (6, .int b6)] → va_P (dC, dI) clZ (wM cI cL cZ q MA MD MF MG ML MN MP MT MV) H → va_S (aM q) s.heap H locs → jk160 b9 → W p l e (headSpec ws_M_victim rm_M_victim).room s m ([.ref (q 0), .int a1]).toArray below meth c H locs 0 0 Q (F0 m 160 ls [.int b9]) := by
            intro b9 H locs ls hl hP hS hwp
            rw [hjk] at hwp
            refine lv_istore (lv' := [(7, .int b9), (0, .ref (q 0)), (1, .int v1), (2, .int v2), (3, .int v3), (4, .int v4), (5, .int v5), (6, .int b6)]) hx hb d_M_victim_160 hl (by decide) rfl (fun ls hl => ?_)
            refine lv_aload_n hx hb d_M_victim_162 rfl (lv_at hl 1 rfl) ?_
            refine va_get (D := (dC, dI)) (ci := 7) (v := .ref (q 28)) (C := R_M) (T := F_M) (N := 39) hx hb hts hiM hown hK hP 0 rfl rfl 35 (by decide) lk92 (fun _ h9 => h9) rfl d_M_victim_163 ?_
            refine lv_iload hx hb d_M_victim_166 (lv_at hl 6 rfl) ?_
            refine lv_aload_n hx hb d_M_victim_168 rfl (lv_at hl 1 rfl) ?_
            refine va_get (D := (dC, dI)) (ci := 7) (v := .ref (q 28)) (C := R_M) (T := F_M) (N := 39) hx hb hts hiM hown hK hP 0 rfl rfl 35 (by decide) lk92 (fun _ h9 => h9) rfl d_M_victim_169 ?_
            refine lv_iload hx hb d_M_victim_172 (lv_at hl 6 rfl) ?_
            refine va_zald hx hb hK hP 28 2 rfl rfl hwp.1 d_M_victim_174 ?_
            have hwp := hwp.2
            refine jn_split hwp (fun jk188 hjk hwp => ?_)
            have J188 : ∀ (b10 : Int32) (H : Heap) (locs : List Loc) (ls : Array Slot), lv_has ls 8 [(0, .ref (q 0)), (1, .int v1), (2, .int v2), (3, .int v3), (4, .int v4), (5, .int v5), (6, .int b6), (7, .int b9)] → va_P (dC, dI) clZ (wM cI cL cZ q MA MD MF MG ML MN MP MT MV) H → va_S (aM q) s.heap H locs → jk188 b10 → W p l e (headSpec ws_M_victim rm_M_victim).room s m ([.ref (q 0), .int a1]).toArray below meth c H locs 0 0 Q (F0 m 188 ls [.int b10, .int v5, .ref (q 28)]) := by
              intro b10 H locs ls hl hP hS hwp
              rw [hjk] at hwp
              refine va_zast hx hb hK hP (dM hq) hS 28 2 rfl rfl hwp.1 d_M_victim_188 (fun H locs hP _ hS => ?_)
              have hwp := hwp.2
              have hP : va_P (dC, dI) clZ (wM cI cL cZ q MA MD MF MG ML MN MP MT (MV_ahead' MV (upd (MV_ahead MV) (Int32.toNatClampNeg v5) (vp_nar .boolean b10)))) H := hP
              refine lv_aload_n hx hb d_M_victim_189 rfl (lv_at hl 0 rfl) ?_
              refine va_get (D := (dC, dI)) (ci := 7) (v := .ref (q 29)) (C := R_M) (T := F_M) (N := 39) hx hb hts hiM hown hK hP 0 rfl rfl 36 (by decide) lk95 (fun _ h9 => h9) rfl d_M_victim_190 ?_
              refine lv_iload hx hb d_M_victim_193 (lv_at hl 4 rfl) ?_
              refine lv_aload_n hx hb d_M_victim_195 rfl (lv_at hl 0 rfl) ?_
              refine va_get (D := (dC, dI)) (ci := 7) (v := .ref (q 29)) (C := R_M) (T := F_M) (N := 39) hx hb hts hiM hown hK hP 0 rfl rfl 36 (by decide) lk95 (fun _ h9 => h9) rfl d_M_victim_196 ?_
              refine lv_iload hx hb d_M_victim_199 (lv_at hl 4 rfl) ?_
              refine va_zald hx hb hK hP 29 2 rfl rfl hwp.1 d_M_victim_201 ?_
              have hwp := hwp.2
              refine jn_split hwp (fun jk215 hjk hwp => ?_)
              have J215 : ∀ (b11 : Int32) (H : Heap) (locs : List Loc) (ls : Array Slot), lv_has ls 8 [(0, .ref (q 0)), (1, .int v1), (2, .int v2), (3, .int v3), (4, .int v4), (5, .int v5), (6, .int b6), (7, .int b9)] → va_P (dC, dI) clZ (wM cI cL cZ q MA MD MF MG ML MN MP MT (MV_ahead' MV (upd (MV_ahead MV) (Int32.toNatClampNeg v5) (vp_nar .boolean b10)))) H → va_S (aM q) s.heap H locs → jk215 b11 → W p l e (headSpec ws_M_victim rm_M_victim).room s m ([.ref (q 0), .int a1]).toArray below meth c H locs 0 0 Q (F0 m 215 ls [.int b11, .int v4, .ref (q 29)]) := by
                intro b11 H locs ls hl hP hS hwp
                rw [hjk] at hwp
                refine va_zast hx hb hK hP (dM hq) hS 29 2 rfl rfl hwp.1 d_M_victim_215 (fun H locs hP _ hS => ?_)
                have hwp := hwp.2
                have hP : va_P (dC, dI) clZ (wM cI cL cZ q MA MD MF MG ML MN MP MT (MV_back' (MV_ahead' MV (upd (MV_ahead MV) (Int32.toNatClampNeg v5) (vp_nar .boolean b10))) (upd (MV_back MV) (Int32.toNatClampNeg v4) (vp_nar .boolean b11)))) H := hP
                refine lv_iload_n hx hb d_M_victim_216 rfl (lv_at hl 2 rfl) ?_
                refine lv_if_ne (tgt := 230) hx hb d_M_victim_217 (by decide) (fun hc => ?_) (fun hc => ?_)
                · rw [if_neg hc] at hwp
                  refine lv_iconst (v := 1) hx hb d_M_victim_230 (by decide) ?_
                  refine lv_goto hx hb d_M_victim_231 (tgt := 235) (by decide) ?_
                  refine lv_istore_n (lv' := [(2, .int 1), (0, .ref (q 0)), (1, .int v1), (3, .int v3), (4, .int v4), (5, .int v5), (6, .int b6), (7, .int b9)]) hx hb d_M_victim_235 rfl hl (by decide) rfl (fun ls hl => ?_)
                  refine lv_iinc (k := 5) (v := (v5 + 1)) (lv' := [(5, .int (v5 + 1)), (2, .int 1), (0, .ref (q 0)), (1, .int v1), (3, .int v3), (4, .int v4), (6, .int b6), (7, .int b9)]) hx hb d_M_victim_236 hl rfl (ii_1 _) (by decide) rfl (fun ls hl => ?_)
                  refine lv_goto hx hb d_M_victim_239 (tgt := 65) (by decide) ?_
                  exact ih (1) ((v5 + 1)) ((MV_back' (MV_ahead' MV (upd (MV_ahead MV) (Int32.toNatClampNeg v5) (vp_nar .boolean b10))) (upd (MV_back MV) (Int32.toNatClampNeg v4) (vp_nar .boolean b11)))) _ _ _ (lv_sub hl [2, 3, 1, 4, 5, 0] rfl) hP hS hwp hX
                · rw [if_pos hc] at hwp
                  refine lv_iload hx hb d_M_victim_220 (lv_at hl 6 rfl) ?_
                  refine lv_if_ne (tgt := 230) hx hb d_M_victim_222 (by decide) (fun hc => ?_) (fun hc => ?_)
                  · rw [if_neg hc] at hwp
                    refine lv_iconst (v := 1) hx hb d_M_victim_230 (by decide) ?_
                    refine lv_goto hx hb d_M_victim_231 (tgt := 235) (by decide) ?_
                    refine lv_istore_n (lv' := [(2, .int 1), (0, .ref (q 0)), (1, .int v1), (3, .int v3), (4, .int v4), (5, .int v5), (6, .int b6), (7, .int b9)]) hx hb d_M_victim_235 rfl hl (by decide) rfl (fun ls hl => ?_)
                    refine lv_iinc (k := 5) (v := (v5 + 1)) (lv' := [(5, .int (v5 + 1)), (2, .int 1), (0, .ref (q 0)), (1, .int v1), (3, .int v3), (4, .int v4), (6, .int b6), (7, .int b9)]) hx hb d_M_victim_236 hl rfl (ii_1 _) (by decide) rfl (fun ls hl => ?_)
                    refine lv_goto hx hb d_M_victim_239 (tgt := 65) (by decide) ?_
                    exact ih (1) ((v5 + 1)) ((MV_back' (MV_ahead' MV (upd (MV_ahead MV) (Int32.toNatClampNeg v5) (vp_nar .boolean b10))) (upd (MV_back MV) (Int32.toNatClampNeg v4) (vp_nar .boolean b11)))) _ _ _ (lv_sub hl [2, 3, 1, 4, 5, 0] rfl) hP hS hwp hX
                  · rw [if_pos hc] at hwp
                    refine lv_iload hx hb d_M_victim_225 (lv_at hl 7 rfl) ?_
                    refine lv_if_eq (tgt := 234) hx hb d_M_victim_227 (by decide) (fun hc => ?_) (fun hc => ?_)
                    · rw [if_pos hc] at hwp
                      refine lv_iconst (v := 0) hx hb d_M_victim_234 (by decide) ?_
                      refine lv_istore_n (lv' := [(2, .int 0), (0, .ref (q 0)), (1, .int v1), (3, .int v3), (4, .int v4), (5, .int v5), (6, .int b6), (7, .int b9)]) hx hb d_M_victim_235 rfl hl (by decide) rfl (fun ls hl => ?_)
                      refine lv_iinc (k := 5) (v := (v5 + 1)) (lv' := [(5, .int (v5 + 1)), (2, .int 0), (0, .ref (q 0)), (1, .int v1), (3, .int v3), (4, .int v4), (6, .int b6), (7, .int b9)]) hx hb d_M_victim_236 hl rfl (ii_1 _) (by decide) rfl (fun ls hl => ?_)
                      refine lv_goto hx hb d_M_victim_239 (tgt := 65) (by decide) ?_
                      exact ih (0) ((v5 + 1)) ((MV_back' (MV_ahead' MV (upd (MV_ahead MV) (Int32.toNatClampNeg v5) (vp_nar .boolean b10))) (upd (MV_back MV) (Int32.toNatClampNeg v4) (vp_nar .boolean b11)))) _ _ _ (lv_sub hl [2, 3, 1, 4, 5, 0] rfl) hP hS hwp hX
                    · rw [if_neg hc] at hwp
                      refine lv_iconst (v := 1) hx hb d_M_victim_230 (by decide) ?_
                      refine lv_goto hx hb d_M_victim_231 (tgt := 235) (by decide) ?_
                      refine lv_istore_n (lv' := [(2, .int 1), (0, .ref (q 0)), (1, .int v1), (3, .int v3), (4, .int v4), (5, .int v5), (6, .int b6), (7, .int b9)]) hx hb d_M_victim_235 rfl hl (by decide) rfl (fun ls hl => ?_)
                      refine lv_iinc (k := 5) (v := (v5 + 1)) (lv' := [(5, .int (v5 + 1)), (2, .int 1), (0, .ref (q 0)), (1, .int v1), (3, .int v3), (4, .int v4), (6, .int b6), (7, .int b9)]) hx hb d_M_victim_236 hl rfl (ii_1 _) (by decide) rfl (fun ls hl => ?_)
                      refine lv_goto hx hb d_M_victim_239 (tgt := 65) (by decide) ?_
                      exact ih (1) ((v5 + 1)) ((MV_back' (MV_ahead' MV (upd (MV_ahead MV) (Int32.toNatClampNeg v5) (vp_nar .boolean b10))) (upd (MV_back MV) (Int32.toNatClampNeg v4) (vp_nar .boolean b11)))) _ _ _ (lv_sub hl [2, 3, 1, 4, 5, 0] rfl) hP hS hwp hX
              clear hjk
              refine lv_if_ne (tgt := 210) hx hb d_M_victim_202 (by decide) (fun hc => ?_) (fun hc => ?_)
              · rw [if_neg hc] at hwp
                refine lv_iconst (v := 1) hx hb d_M_victim_210 (by decide) ?_
                refine lv_goto hx hb d_M_victim_211 (tgt := 215) (by decide) ?_
                exact J215 (1) _ _ _ (lv_sub hl [0, 1, 2, 3, 4, 5, 6, 7] rfl) hP hS hwp
              · rw [if_pos hc] at hwp
                refine lv_iload hx hb d_M_victim_205 (lv_at hl 7 rfl) ?_
                refine lv_if_eq (tgt := 214) hx hb d_M_victim_207 (by decide) (fun hc => ?_) (fun hc => ?_)
                · rw [if_pos hc] at hwp
                  refine lv_iconst (v := 0) hx hb d_M_victim_214 (by decide) ?_
                  exact J215 (0) _ _ _ (lv_sub hl [0, 1, 2, 3, 4, 5, 6, 7] rfl) hP hS hwp
                · rw [if_neg hc] at hwp
                  refine lv_iconst (v := 1) hx hb d_M_victim_210 (by decide) ?_
                  refine lv_goto hx hb d_M_victim_211 (tgt := 215) (by decide) ?_
                  exact J215 (1) _ _ _ (lv_sub hl [0, 1, 2, 3, 4, 5, 6, 7] rfl) hP hS hwp
            clear hjk
            refine lv_if_ne (tgt := 183) hx hb d_M_victim_175 (by decide) (fun hc => ?_) (fun hc => ?_)
            · rw [if_neg hc] at hwp
              refine lv_iconst (v := 1) hx hb d_M_victim_183 (by decide) ?_
              refine lv_goto hx hb d_M_victim_184 (tgt := 188) (by decide) ?_
              exact J188 (1) _ _ _ (lv_sub hl [1, 2, 3, 4, 5, 6, 7, 0] rfl) hP hS hwp
            · rw [if_pos hc] at hwp
              refine lv_iload hx hb d_M_victim_178 (lv_at hl 7 rfl) ?_
              refine lv_if_eq (tgt := 187) hx hb d_M_victim_180 (by decide) (fun hc => ?_) (fun hc => ?_)
              · rw [if_pos hc] at hwp
                refine lv_iconst (v := 0) hx hb d_M_victim_187 (by decide) ?_
                exact J188 (0) _ _ _ (lv_sub hl [1, 2, 3, 4, 5, 6, 7, 0] rfl) hP hS hwp
              · rw [if_neg hc] at hwp
                refine lv_iconst (v := 1) hx hb d_M_victim_183 (by decide) ?_
                refine lv_goto hx hb d_M_victim_184 (tgt := 188) (by decide) ?_
                exact J188 (1) _ _ _ (lv_sub hl [1, 2, 3, 4, 5, 6, 7, 0] rfl) hP hS hwp
          clear hjk
          refine lv_icmp_eq (tgt := 134) hx hb d_M_victim_121 (by decide) (fun hc => ?_) (fun hc => ?_)
          · rw [if_pos hc] at hwp
            refine lv_aload_n hx hb d_M_victim_134 rfl (lv_at hl 1 rfl) ?_
            refine va_get (D := (dC, dI)) (ci := 7) (v := .ref (q 29)) (C := R_M) (T := F_M) (N := 39) hx hb hts hiM hown hK hP 0 rfl rfl 36 (by decide) lk95 (fun _ h9 => h9) rfl d_M_victim_135 ?_
            refine lv_iload hx hb d_M_victim_138 (lv_at hl 5 rfl) ?_
            refine va_zald hx hb hK hP 29 2 rfl rfl hwp.1 d_M_victim_140 ?_
            have hwp := hwp.2
            refine lv_if_ne (tgt := 159) hx hb d_M_victim_141 (by decide) (fun hc => ?_) (fun hc => ?_)
            · rw [if_neg hc] at hwp
              refine lv_iconst (v := 0) hx hb d_M_victim_159 (by decide) ?_
              exact J160 (0) _ _ _ (lv_sub hl [1, 2, 3, 4, 5, 6, 0] rfl) hP hS hwp
            · rw [if_pos hc] at hwp
              refine lv_aload_n hx hb d_M_victim_144 rfl (lv_at hl 1 rfl) ?_
              refine lv_iload hx hb d_M_victim_145 (lv_at hl 5 rfl) ?_
              refine lv_iload hx hb d_M_victim_147 (lv_at hl 6 rfl) ?_
              refine ncn_i (As := [.int v4, .int v5]) (c_M_leads hq (MA) (MD) (MF) (MG) (ML) (MN) (MP) (MT) (MV) (v4) (v5) _ hwp) (cwV 2 hts g_M_206 rfl rfl rfl hd_M_leads ⟨Nat.le_of_ble_eq_true rfl, Nat.le_of_ble_eq_true rfl⟩) hx hb hml hown hts hK hP hS hl.1 d_M_victim_149 (va_recv (q := (R_M, F_M, 39)) hK hP (ci := 7) (q0 := 0) rfl rfl) rfl (lv_room (Nat.le_of_ble_eq_true rfl)) (Nat.zero_le _) (Nat.zero_le _) rfl (fun r7 u H locs hwp hP hS => ?_)
              have hP : va_P (dC, dI) clZ (wM cI cL cZ q MA MD MF MG ML MN MP MT MV) H := hP
              refine lv_if_eq (tgt := 159) hx hb d_M_victim_152 (by decide) (fun hc => ?_) (fun hc => ?_)
              · rw [if_pos hc] at hwp
                refine lv_iconst (v := 0) hx hb d_M_victim_159 (by decide) ?_
                exact J160 (0) _ _ _ (lv_sub hl [1, 2, 3, 4, 5, 6, 0] rfl) hP hS hwp
              · rw [if_neg hc] at hwp
                refine lv_iconst (v := 1) hx hb d_M_victim_155 (by decide) ?_
                refine lv_goto hx hb d_M_victim_156 (tgt := 160) (by decide) ?_
                exact J160 (1) _ _ _ (lv_sub hl [1, 2, 3, 4, 5, 6, 0] rfl) hP hS hwp
          · rw [if_neg hc] at hwp
            refine lv_aload_n hx hb d_M_victim_124 rfl (lv_at hl 1 rfl) ?_
            refine va_get (D := (dC, dI)) (ci := 7) (v := .ref (q 29)) (C := R_M) (T := F_M) (N := 39) hx hb hts hiM hown hK hP 0 rfl rfl 36 (by decide) lk95 (fun _ h9 => h9) rfl d_M_victim_125 ?_
            refine lv_iload hx hb d_M_victim_128 (lv_at hl 6 rfl) ?_
            refine va_zald hx hb hK hP 29 2 rfl rfl hwp.1 d_M_victim_130 ?_
            have hwp := hwp.2
            refine lv_if_eq (tgt := 159) hx hb d_M_victim_131 (by decide) (fun hc => ?_) (fun hc => ?_)
            · rw [if_pos hc] at hwp
              refine lv_iconst (v := 0) hx hb d_M_victim_159 (by decide) ?_
              exact J160 (0) _ _ _ (lv_sub hl [1, 2, 3, 4, 5, 6, 0] rfl) hP hS hwp
            · rw [if_neg hc] at hwp
              refine lv_aload_n hx hb d_M_victim_134 rfl (lv_at hl 1 rfl) ?_
              refine va_get (D := (dC, dI)) (ci := 7) (v := .ref (q 29)) (C := R_M) (T := F_M) (N := 39) hx hb hts hiM hown hK hP 0 rfl rfl 36 (by decide) lk95 (fun _ h9 => h9) rfl d_M_victim_135 ?_
              refine lv_iload hx hb d_M_victim_138 (lv_at hl 5 rfl) ?_
              refine va_zald hx hb hK hP 29 2 rfl rfl hwp.1 d_M_victim_140 ?_
              have hwp := hwp.2
              refine lv_if_ne (tgt := 159) hx hb d_M_victim_141 (by decide) (fun hc => ?_) (fun hc => ?_)
              · rw [if_neg hc] at hwp
                refine lv_iconst (v := 0) hx hb d_M_victim_159 (by decide) ?_
                exact J160 (0) _ _ _ (lv_sub hl [1, 2, 3, 4, 5, 6, 0] rfl) hP hS hwp
              · rw [if_pos hc] at hwp
                refine lv_aload_n hx hb d_M_victim_144 rfl (lv_at hl 1 rfl) ?_
                refine lv_iload hx hb d_M_victim_145 (lv_at hl 5 rfl) ?_
                refine lv_iload hx hb d_M_victim_147 (lv_at hl 6 rfl) ?_
                refine ncn_i (As := [.int v4, .int v5]) (c_M_leads hq (MA) (MD) (MF) (MG) (ML) (MN) (MP) (MT) (MV) (v4) (v5) _ hwp) (cwV 2 hts g_M_206 rfl rfl rfl hd_M_leads ⟨Nat.le_of_ble_eq_true rfl, Nat.le_of_ble_eq_true rfl⟩) hx hb hml hown hts hK hP hS hl.1 d_M_victim_149 (va_recv (q := (R_M, F_M, 39)) hK hP (ci := 7) (q0 := 0) rfl rfl) rfl (lv_room (Nat.le_of_ble_eq_true rfl)) (Nat.zero_le _) (Nat.zero_le _) rfl (fun r8 u H locs hwp hP hS => ?_)
                have hP : va_P (dC, dI) clZ (wM cI cL cZ q MA MD MF MG ML MN MP MT MV) H := hP
                refine lv_if_eq (tgt := 159) hx hb d_M_victim_152 (by decide) (fun hc => ?_) (fun hc => ?_)
                · rw [if_pos hc] at hwp
                  refine lv_iconst (v := 0) hx hb d_M_victim_159 (by decide) ?_
                  exact J160 (0) _ _ _ (lv_sub hl [1, 2, 3, 4, 5, 6, 0] rfl) hP hS hwp
                · rw [if_neg hc] at hwp
                  refine lv_iconst (v := 1) hx hb d_M_victim_155 (by decide) ?_
                  refine lv_goto hx hb d_M_victim_156 (tgt := 160) (by decide) ?_
                  exact J160 (1) _ _ _ (lv_sub hl [1, 2, 3, 4, 5, 6, 0] rfl) hP hS hwp
        clear hjk
        refine lv_icmp_eq (tgt := 90) hx hb d_M_victim_77 (by decide) (fun hc => ?_) (fun hc => ?_)
        · rw [if_pos hc] at hwp
          refine lv_aload_n hx hb d_M_victim_90 rfl (lv_at hl 0 rfl) ?_
          refine va_get (D := (dC, dI)) (ci := 7) (v := .ref (q 28)) (C := R_M) (T := F_M) (N := 39) hx hb hts hiM hown hK hP 0 rfl rfl 35 (by decide) lk92 (fun _ h9 => h9) rfl d_M_victim_91 ?_
          refine lv_iload hx hb d_M_victim_94 (lv_at hl 5 rfl) ?_
          refine va_zald hx hb hK hP 28 2 rfl rfl hwp.1 d_M_victim_96 ?_
          have hwp := hwp.2
          refine lv_if_ne (tgt := 115) hx hb d_M_victim_97 (by decide) (fun hc => ?_) (fun hc => ?_)
          · rw [if_neg hc] at hwp
            refine lv_iconst (v := 0) hx hb d_M_victim_115 (by decide) ?_
            exact J116 (0) _ _ _ (lv_sub hl [0, 1, 2, 3, 4, 5] rfl) hP hS hwp
          · rw [if_pos hc] at hwp
            refine lv_aload_n hx hb d_M_victim_100 rfl (lv_at hl 0 rfl) ?_
            refine lv_iload hx hb d_M_victim_101 (lv_at hl 4 rfl) ?_
            refine lv_iload hx hb d_M_victim_103 (lv_at hl 5 rfl) ?_
            refine ncn_i (As := [.int v4, .int v5]) (c_M_leads hq (MA) (MD) (MF) (MG) (ML) (MN) (MP) (MT) (MV) (v4) (v5) _ hwp) (cwV 2 hts g_M_206 rfl rfl rfl hd_M_leads ⟨Nat.le_of_ble_eq_true rfl, Nat.le_of_ble_eq_true rfl⟩) hx hb hml hown hts hK hP hS hl.1 d_M_victim_105 (va_recv (q := (R_M, F_M, 39)) hK hP (ci := 7) (q0 := 0) rfl rfl) rfl (lv_room (Nat.le_of_ble_eq_true rfl)) (Nat.zero_le _) (Nat.zero_le _) rfl (fun r4 u H locs hwp hP hS => ?_)
            have hP : va_P (dC, dI) clZ (wM cI cL cZ q MA MD MF MG ML MN MP MT MV) H := hP
            refine lv_if_eq (tgt := 115) hx hb d_M_victim_108 (by decide) (fun hc => ?_) (fun hc => ?_)
            · rw [if_pos hc] at hwp
              refine lv_iconst (v := 0) hx hb d_M_victim_115 (by decide) ?_
              exact J116 (0) _ _ _ (lv_sub hl [0, 1, 2, 3, 4, 5] rfl) hP hS hwp
            · rw [if_neg hc] at hwp
              refine lv_iconst (v := 1) hx hb d_M_victim_111 (by decide) ?_
              refine lv_goto hx hb d_M_victim_112 (tgt := 116) (by decide) ?_
              exact J116 (1) _ _ _ (lv_sub hl [0, 1, 2, 3, 4, 5] rfl) hP hS hwp
        · rw [if_neg hc] at hwp
          refine lv_aload_n hx hb d_M_victim_80 rfl (lv_at hl 0 rfl) ?_
          refine va_get (D := (dC, dI)) (ci := 7) (v := .ref (q 28)) (C := R_M) (T := F_M) (N := 39) hx hb hts hiM hown hK hP 0 rfl rfl 35 (by decide) lk92 (fun _ h9 => h9) rfl d_M_victim_81 ?_
          refine lv_iload hx hb d_M_victim_84 (lv_at hl 4 rfl) ?_
          refine va_zald hx hb hK hP 28 2 rfl rfl hwp.1 d_M_victim_86 ?_
          have hwp := hwp.2
          refine lv_if_eq (tgt := 115) hx hb d_M_victim_87 (by decide) (fun hc => ?_) (fun hc => ?_)
          · rw [if_pos hc] at hwp
            refine lv_iconst (v := 0) hx hb d_M_victim_115 (by decide) ?_
            exact J116 (0) _ _ _ (lv_sub hl [0, 1, 2, 3, 4, 5] rfl) hP hS hwp
          · rw [if_neg hc] at hwp
            refine lv_aload_n hx hb d_M_victim_90 rfl (lv_at hl 0 rfl) ?_
            refine va_get (D := (dC, dI)) (ci := 7) (v := .ref (q 28)) (C := R_M) (T := F_M) (N := 39) hx hb hts hiM hown hK hP 0 rfl rfl 35 (by decide) lk92 (fun _ h9 => h9) rfl d_M_victim_91 ?_
            refine lv_iload hx hb d_M_victim_94 (lv_at hl 5 rfl) ?_
            refine va_zald hx hb hK hP 28 2 rfl rfl hwp.1 d_M_victim_96 ?_
            have hwp := hwp.2
            refine lv_if_ne (tgt := 115) hx hb d_M_victim_97 (by decide) (fun hc => ?_) (fun hc => ?_)
            · rw [if_neg hc] at hwp
              refine lv_iconst (v := 0) hx hb d_M_victim_115 (by decide) ?_
              exact J116 (0) _ _ _ (lv_sub hl [0, 1, 2, 3, 4, 5] rfl) hP hS hwp
            · rw [if_pos hc] at hwp
              refine lv_aload_n hx hb d_M_victim_100 rfl (lv_at hl 0 rfl) ?_
              refine lv_iload hx hb d_M_victim_101 (lv_at hl 4 rfl) ?_
              refine lv_iload hx hb d_M_victim_103 (lv_at hl 5 rfl) ?_
              refine ncn_i (As := [.int v4, .int v5]) (c_M_leads hq (MA) (MD) (MF) (MG) (ML) (MN) (MP) (MT) (MV) (v4) (v5) _ hwp) (cwV 2 hts g_M_206 rfl rfl rfl hd_M_leads ⟨Nat.le_of_ble_eq_true rfl, Nat.le_of_ble_eq_true rfl⟩) hx hb hml hown hts hK hP hS hl.1 d_M_victim_105 (va_recv (q := (R_M, F_M, 39)) hK hP (ci := 7) (q0 := 0) rfl rfl) rfl (lv_room (Nat.le_of_ble_eq_true rfl)) (Nat.zero_le _) (Nat.zero_le _) rfl (fun r5 u H locs hwp hP hS => ?_)
              have hP : va_P (dC, dI) clZ (wM cI cL cZ q MA MD MF MG ML MN MP MT MV) H := hP
              refine lv_if_eq (tgt := 115) hx hb d_M_victim_108 (by decide) (fun hc => ?_) (fun hc => ?_)
              · rw [if_pos hc] at hwp
                refine lv_iconst (v := 0) hx hb d_M_victim_115 (by decide) ?_
                exact J116 (0) _ _ _ (lv_sub hl [0, 1, 2, 3, 4, 5] rfl) hP hS hwp
              · rw [if_neg hc] at hwp
                refine lv_iconst (v := 1) hx hb d_M_victim_111 (by decide) ?_
                refine lv_goto hx hb d_M_victim_112 (tgt := 116) (by decide) ?_
                exact J116 (1) _ _ _ (lv_sub hl [0, 1, 2, 3, 4, 5] rfl) hP hS hwp
  have L53 : ∀ (Kx : Int32 → S_MV → Prop) (MP : S_MP) (v1 : Int32) (v3 : Int32) (n : Nat) (v2 : Int32) (v4 : Int32) (MV : S_MV) (H : Heap) (locs : List Loc) (ls : Array Slot), lv_has ls 8 [(0, .ref (q 0)), (1, .int v1), (2, .int v2), (3, .int v3), (4, .int v4)] → va_P (dC, dI) clZ (wM cI cL cZ q MA MD MF MG ML MN MP MT MV) H → va_S (aM q) s.heap H locs → wp_M_victim_L53 ML MT v1 v3 Kx n v2 v4 MV → (∀ (x2 : Int32) (MV1 : S_MV) (H : Heap) (locs : List Loc) (ls : Array Slot), lv_has ls 8 [(0, .ref (q 0)), (1, .int v1), (2, .int x2), (3, .int v3)] → va_P (dC, dI) clZ (wM cI cL cZ q MA MD MF MG ML MN MP MT MV1) H → va_S (aM q) s.heap H locs → Kx x2 MV1 → W p l e (headSpec ws_M_victim rm_M_victim).room s m ([.ref (q 0), .int a1]).toArray below meth c H locs 0 0 Q (F0 m 248 ls [])) → W p l e (headSpec ws_M_victim rm_M_victim).room s m ([.ref (q 0), .int a1]).toArray below meth c H locs 0 0 Q (F0 m 53 ls []) := by
    intro Kx MP v1 v3 n
    induction n with
    | zero =>
      intros
      rename_i hwp _
      exact hwp.elim
    | succ n53 ih =>
      intro v2 v4 MV H locs ls hl hP hS hwp hX
      rw [wp_M_victim_L53] at hwp
      refine lv_iload hx hb d_M_victim_53 (lv_at hl 4 rfl) ?_
      refine lv_aload_n hx hb d_M_victim_55 rfl (lv_at hl 0 rfl) ?_
      refine va_get (D := (dC, dI)) (ci := 7) (v := .int (MT_many MT)) (C := R_M) (T := F_M) (N := 39) hx hb hts hiM hown hK hP 0 rfl rfl 22 (by decide) lk147 (fun _ h9 => h9) rfl d_M_victim_56 ?_
      refine lv_icmp_ge (tgt := 248) hx hb d_M_victim_59 (by decide) (fun hc => ?_) (fun hc => ?_)
      · rw [if_pos hc] at hwp
        exact hX (v2) (MV) _ _ _ (lv_sub hl [0, 1, 2, 3] rfl) hP hS hwp
      · rw [if_neg hc] at hwp
        refine lv_iconst (v := 0) hx hb d_M_victim_62 (by decide) ?_
        refine lv_istore (lv' := [(5, .int 0), (0, .ref (q 0)), (1, .int v1), (2, .int v2), (3, .int v3), (4, .int v4)]) hx hb d_M_victim_63 hl (by decide) rfl (fun ls hl => ?_)
        obtain ⟨e65, hwp⟩ := hwp
        refine L65 _ (MP) (v1) (v3) (v4) e65 (v2) (0) (MV) _ _ _ (lv_sub hl [1, 2, 3, 4, 5, 0] rfl) hP hS hwp (fun x12 MV13 H locs ls hl hP hS hwp => ?_)
        refine lv_iinc (k := 4) (v := (v4 + 1)) (lv' := [(4, .int (v4 + 1)), (0, .ref (q 0)), (1, .int v1), (2, .int x12), (3, .int v3)]) hx hb d_M_victim_242 hl rfl (ii_1 _) (by decide) rfl (fun ls hl => ?_)
        refine lv_goto hx hb d_M_victim_245 (tgt := 53) (by decide) ?_
        exact ih (x12) ((v4 + 1)) (MV13) _ _ _ (lv_sub hl [1, 2, 3, 4, 0] rfl) hP hS hwp hX
  have L38 : ∀ (Kx : S_MV → Prop) (MP : S_MP) (v1 : Int32) (n : Nat) (v2 : Int32) (v3 : Int32) (MV : S_MV) (H : Heap) (locs : List Loc) (ls : Array Slot), lv_has ls 8 [(0, .ref (q 0)), (1, .int v1), (2, .int v2), (3, .int v3)] → va_P (dC, dI) clZ (wM cI cL cZ q MA MD MF MG ML MN MP MT MV) H → va_S (aM q) s.heap H locs → wp_M_victim_L38 ML MT v1 Kx n v2 v3 MV → (∀ (MV1 : S_MV) (H : Heap) (locs : List Loc) (ls : Array Slot), lv_has ls 8 [(0, .ref (q 0)), (1, .int v1)] → va_P (dC, dI) clZ (wM cI cL cZ q MA MD MF MG ML MN MP MT MV1) H → va_S (aM q) s.heap H locs → Kx MV1 → W p l e (headSpec ws_M_victim rm_M_victim).room s m ([.ref (q 0), .int a1]).toArray below meth c H locs 0 0 Q (F0 m 254 ls [])) → W p l e (headSpec ws_M_victim rm_M_victim).room s m ([.ref (q 0), .int a1]).toArray below meth c H locs 0 0 Q (F0 m 38 ls []) := by
    intro Kx MP v1 n
    induction n with
    | zero =>
      intros
      rename_i hwp _
      exact hwp.elim
    | succ n38 ih =>
      intro v2 v3 MV H locs ls hl hP hS hwp hX
      rw [wp_M_victim_L38] at hwp
      refine lv_iload_n hx hb d_M_victim_38 rfl (lv_at hl 3 rfl) ?_
      refine lv_bipush (v := 61) hx hb d_M_victim_39 (by decide) ?_
      refine lv_icmp_ge (tgt := 254) hx hb d_M_victim_41 (by decide) (fun hc => ?_) (fun hc => ?_)
      · rw [if_pos hc] at hwp
        exact hX (MV) _ _ _ (lv_sub hl [0, 1] rfl) hP hS hwp
      · rw [if_neg hc] at hwp
        refine lv_iload_n hx hb d_M_victim_44 rfl (lv_at hl 2 rfl) ?_
        refine lv_if_eq (tgt := 254) hx hb d_M_victim_45 (by decide) (fun hc => ?_) (fun hc => ?_)
        · rw [if_pos hc] at hwp
          exact hX (MV) _ _ _ (lv_sub hl [0, 1] rfl) hP hS hwp
        · rw [if_neg hc] at hwp
          refine lv_iconst (v := 0) hx hb d_M_victim_48 (by decide) ?_
          refine lv_istore_n (lv' := [(2, .int 0), (0, .ref (q 0)), (1, .int v1), (3, .int v3)]) hx hb d_M_victim_49 rfl hl (by decide) rfl (fun ls hl => ?_)
          refine lv_iconst (v := 0) hx hb d_M_victim_50 (by decide) ?_
          refine lv_istore (lv' := [(4, .int 0), (2, .int 0), (0, .ref (q 0)), (1, .int v1), (3, .int v3)]) hx hb d_M_victim_51 hl (by decide) rfl (fun ls hl => ?_)
          obtain ⟨e53, hwp⟩ := hwp
          refine L53 _ (MP) (v1) (v3) e53 (0) (0) (MV) _ _ _ (lv_sub hl [2, 3, 1, 4, 0] rfl) hP hS hwp (fun x14 MV15 H locs ls hl hP hS hwp => ?_)
          refine lv_iinc (k := 3) (v := (v3 + 1)) (lv' := [(3, .int (v3 + 1)), (0, .ref (q 0)), (1, .int v1), (2, .int x14)]) hx hb d_M_victim_248 hl rfl (ii_1 _) (by decide) rfl (fun ls hl => ?_)
          refine lv_goto hx hb d_M_victim_251 (tgt := 38) (by decide) ?_
          exact ih (x14) ((v3 + 1)) (MV15) _ _ _ (lv_sub hl [1, 2, 3, 0] rfl) hP hS hwp hX
  have L259 : ∀ (Kx : Int32 → Prop) (MP : S_MP) (MV : S_MV) (v1 : Int32) (n : Nat) (v3 : Int32) (v4 : Int32) (H : Heap) (locs : List Loc) (ls : Array Slot), lv_has ls 8 [(0, .ref (q 0)), (1, .int v1), (3, .int v3), (4, .int v4)] → va_P (dC, dI) clZ (wM cI cL cZ q MA MD MF MG ML MN MP MT MV) H → va_S (aM q) s.heap H locs → wp_M_victim_L259 MT MV v1 Kx n v3 v4 → (∀ (x3 : Int32) (H : Heap) (locs : List Loc) (ls : Array Slot), lv_has ls 8 [(3, .int x3)] → va_P (dC, dI) clZ (wM cI cL cZ q MA MD MF MG ML MN MP MT MV) H → va_S (aM q) s.heap H locs → Kx x3 → W p l e (headSpec ws_M_victim rm_M_victim).room s m ([.ref (q 0), .int a1]).toArray below meth c H locs 0 0 Q (F0 m 310 ls [])) → W p l e (headSpec ws_M_victim rm_M_victim).room s m ([.ref (q 0), .int a1]).toArray below meth c H locs 0 0 Q (F0 m 259 ls []) := by
    intro Kx MP MV v1 n
    induction n with
    | zero =>
      intros
      rename_i hwp _
      exact hwp.elim
    | succ n259 ih =>
      intro v3 v4 H locs ls hl hP hS hwp hX
      rw [wp_M_victim_L259] at hwp
      refine lv_iload hx hb d_M_victim_259 (lv_at hl 3 rfl) ?_
      refine lv_aload_n hx hb d_M_victim_261 rfl (lv_at hl 0 rfl) ?_
      refine va_get (D := (dC, dI)) (ci := 7) (v := .int (MT_many MT)) (C := R_M) (T := F_M) (N := 39) hx hb hts hiM hown hK hP 0 rfl rfl 22 (by decide) lk147 (fun _ h9 => h9) rfl d_M_victim_262 ?_
      refine lv_icmp_ge (tgt := 310) hx hb d_M_victim_265 (by decide) (fun hc => ?_) (fun hc => ?_)
      · rw [if_pos hc] at hwp
        exact hX (v3) _ _ _ (lv_sub hl [2] rfl) hP hS hwp
      · rw [if_neg hc] at hwp
        refine lv_aload_n hx hb d_M_victim_268 rfl (lv_at hl 0 rfl) ?_
        refine va_get (D := (dC, dI)) (ci := 7) (v := .ref (q 28)) (C := R_M) (T := F_M) (N := 39) hx hb hts hiM hown hK hP 0 rfl rfl 35 (by decide) lk92 (fun _ h9 => h9) rfl d_M_victim_269 ?_
        refine lv_iload_n hx hb d_M_victim_272 rfl (lv_at hl 1 rfl) ?_
        refine va_zald hx hb hK hP 28 2 rfl rfl hwp.1 d_M_victim_273 ?_
        have hwp := hwp.2
        refine lv_if_eq (tgt := 310) hx hb d_M_victim_274 (by decide) (fun hc => ?_) (fun hc => ?_)
        · rw [if_pos hc] at hwp
          exact hX (v3) _ _ _ (lv_sub hl [2] rfl) hP hS hwp
        · rw [if_neg hc] at hwp
          refine lv_aload_n hx hb d_M_victim_277 rfl (lv_at hl 0 rfl) ?_
          refine va_get (D := (dC, dI)) (ci := 7) (v := .ref (q 28)) (C := R_M) (T := F_M) (N := 39) hx hb hts hiM hown hK hP 0 rfl rfl 35 (by decide) lk92 (fun _ h9 => h9) rfl d_M_victim_278 ?_
          refine lv_iload hx hb d_M_victim_281 (lv_at hl 3 rfl) ?_
          refine va_zald hx hb hK hP 28 2 rfl rfl hwp.1 d_M_victim_283 ?_
          have hwp := hwp.2
          refine lv_if_eq (tgt := 302) hx hb d_M_victim_284 (by decide) (fun hc => ?_) (fun hc => ?_)
          · rw [if_pos hc] at hwp
            refine lv_iload_n hx hb d_M_victim_302 rfl (lv_at hl 2 rfl) ?_
            refine lv_istore_n (lv' := [(3, .int v3), (0, .ref (q 0)), (1, .int v1), (4, .int v4)]) hx hb d_M_victim_303 rfl hl (by decide) rfl (fun ls hl => ?_)
            refine lv_iinc (k := 3) (v := (v4 + 1)) (lv' := [(4, .int (v4 + 1)), (3, .int v3), (0, .ref (q 0)), (1, .int v1)]) hx hb d_M_victim_304 hl rfl (ii_1 _) (by decide) rfl (fun ls hl => ?_)
            refine lv_goto hx hb d_M_victim_307 (tgt := 259) (by decide) ?_
            exact ih (v3) ((v4 + 1)) _ _ _ (lv_sub hl [2, 3, 1, 0] rfl) hP hS hwp hX
          · rw [if_neg hc] at hwp
            refine lv_aload_n hx hb d_M_victim_287 rfl (lv_at hl 0 rfl) ?_
            refine va_get (D := (dC, dI)) (ci := 7) (v := .ref (q 29)) (C := R_M) (T := F_M) (N := 39) hx hb hts hiM hown hK hP 0 rfl rfl 36 (by decide) lk95 (fun _ h9 => h9) rfl d_M_victim_288 ?_
            refine lv_iload hx hb d_M_victim_291 (lv_at hl 3 rfl) ?_
            refine va_zald hx hb hK hP 29 2 rfl rfl hwp.1 d_M_victim_293 ?_
            have hwp := hwp.2
            refine lv_if_eq (tgt := 302) hx hb d_M_victim_294 (by decide) (fun hc => ?_) (fun hc => ?_)
            · rw [if_pos hc] at hwp
              refine lv_iload_n hx hb d_M_victim_302 rfl (lv_at hl 2 rfl) ?_
              refine lv_istore_n (lv' := [(3, .int v3), (0, .ref (q 0)), (1, .int v1), (4, .int v4)]) hx hb d_M_victim_303 rfl hl (by decide) rfl (fun ls hl => ?_)
              refine lv_iinc (k := 3) (v := (v4 + 1)) (lv' := [(4, .int (v4 + 1)), (3, .int v3), (0, .ref (q 0)), (1, .int v1)]) hx hb d_M_victim_304 hl rfl (ii_1 _) (by decide) rfl (fun ls hl => ?_)
              refine lv_goto hx hb d_M_victim_307 (tgt := 259) (by decide) ?_
              exact ih (v3) ((v4 + 1)) _ _ _ (lv_sub hl [2, 3, 1, 0] rfl) hP hS hwp hX
            · rw [if_neg hc] at hwp
              refine lv_iload hx hb d_M_victim_297 (lv_at hl 3 rfl) ?_
              refine lv_goto hx hb d_M_victim_299 (tgt := 303) (by decide) ?_
              refine lv_istore_n (lv' := [(3, .int v4), (0, .ref (q 0)), (1, .int v1), (4, .int v4)]) hx hb d_M_victim_303 rfl hl (by decide) rfl (fun ls hl => ?_)
              refine lv_iinc (k := 3) (v := (v4 + 1)) (lv' := [(4, .int (v4 + 1)), (3, .int v4), (0, .ref (q 0)), (1, .int v1)]) hx hb d_M_victim_304 hl rfl (ii_1 _) (by decide) rfl (fun ls hl => ?_)
              refine lv_goto hx hb d_M_victim_307 (tgt := 259) (by decide) ?_
              exact ih (v4) ((v4 + 1)) _ _ _ (lv_sub hl [2, 3, 1, 0] rfl) hP hS hwp hX
  rw [wp_M_victim] at hwp
  refine lv_aload_n hx hb d_M_victim_0 rfl (lv_at hl 0 rfl) ?_
  refine ncn_v (As := []) (c_M_look hq (MA) (MD) (MF) (MG) (ML) (MN) (MP) (MT) (MV)  _ hwp) (cwV 0 hts g_M_203 rfl rfl rfl hd_M_look ⟨Nat.le_of_ble_eq_true rfl, Nat.le_of_ble_eq_true rfl⟩) hx hb hml hown hts hK hP hS hl.1 d_M_victim_1 (va_recv (q := (R_M, F_M, 39)) hK hP (ci := 7) (q0 := 0) rfl rfl) rfl (lv_room (Nat.le_of_ble_eq_true rfl)) (Nat.zero_le _) (Nat.zero_le _) rfl (fun u H locs hwp hP hS => ?_)
  obtain ⟨MP1, MV2⟩ := u
  have hP : va_P (dC, dI) clZ (wM cI cL cZ q MA MD MF MG ML MN MP1 MT MV2) H := hP
  refine lv_iconst (v := 0) hx hb d_M_victim_4 (by decide) ?_
  refine lv_istore_n (lv' := [(2, .int 0), (0, .ref (q 0)), (1, .int a1)]) hx hb d_M_victim_5 rfl hl (by decide) rfl (fun ls hl => ?_)
  obtain ⟨e6, hwp⟩ := hwp
  refine L6 _ (MP1) (a1) e6 (0) (MV2) _ _ _ (lv_sub hl [1, 2, 0] rfl) hP hS hwp (fun MV3 H locs ls hl hP hS hwp => ?_)
  refine lv_iconst (v := 1) hx hb d_M_victim_34 (by decide) ?_
  refine lv_istore_n (lv' := [(2, .int 1), (0, .ref (q 0)), (1, .int a1)]) hx hb d_M_victim_35 rfl hl (by decide) rfl (fun ls hl => ?_)
  refine lv_iconst (v := 0) hx hb d_M_victim_36 (by decide) ?_
  refine lv_istore_n (lv' := [(3, .int 0), (2, .int 1), (0, .ref (q 0)), (1, .int a1)]) hx hb d_M_victim_37 rfl hl (by decide) rfl (fun ls hl => ?_)
  obtain ⟨e38, hwp⟩ := hwp
  refine L38 _ (MP1) (a1) e38 (1) (0) (MV3) _ _ _ (lv_sub hl [2, 3, 1, 0] rfl) hP hS hwp (fun MV16 H locs ls hl hP hS hwp => ?_)
  refine lv_iconst (v := (-1)) hx hb d_M_victim_254 (by decide) ?_
  refine lv_istore_n (lv' := [(3, .int (-1)), (0, .ref (q 0)), (1, .int a1)]) hx hb d_M_victim_255 rfl hl (by decide) rfl (fun ls hl => ?_)
  refine lv_iconst (v := 0) hx hb d_M_victim_256 (by decide) ?_
  refine lv_istore (lv' := [(4, .int 0), (3, .int (-1)), (0, .ref (q 0)), (1, .int a1)]) hx hb d_M_victim_257 hl (by decide) rfl (fun ls hl => ?_)
  obtain ⟨e259, hwp⟩ := hwp
  refine L259 _ (MP1) (MV16) (a1) e259 ((-1)) (0) _ _ _ (lv_sub hl [2, 3, 1, 0] rfl) hP hS hwp (fun x17 H locs ls hl hP hS hwp => ?_)
  refine lv_iload_n hx hb d_M_victim_310 rfl (lv_at hl 0 rfl) ?_
  rw [hQ]
  exact W.iret (v := x17) hx hb hr (fun t ht hW => ⟨⟨x17, (MP1, MV16), rfl, hwp, hp_of ht hP⟩, hS.F ht⟩) hS.2.2 d_M_victim_311

set_option maxHeartbeats 4000000 in
set_option maxRecDepth 100000 in
theorem c_M_undoes {l : Launch} {dC : Nat → ClassId} {dI : Nat → Nat → Nat} {cI cL cZ : ClassId} {q : Nat → Nat} (hq : iM q) (MA : S_MA) (MD : S_MD) (MF : S_MF) (MG : S_MG) (ML : S_ML) (MN : S_MN) (MP : S_MP) (MT : S_MT) (MV : S_MV) (a1 : Int32) (a2 : Int32) (post : Int32 → S_MA → S_MD → S_MG → Prop) (hwp : wp_M_undoes MA MD MG MT a1 a2 post) : Met l y_M_undoes ws_M_undoes rm_M_undoes (va_Pc [.ref (q 0), .int a1, .int a2] (bM dC dI cI cL cZ q MA MD MF MG ML MN MP MT MV)) (va_Qi (fun (r : Int32) (u : S_MA × S_MD × S_MG) => post r u.1 u.2.1 u.2.2) (fun u t => va_P (dC, dI) clZ (wM cI cL cZ q (u.1) (u.2.1) MF (u.2.2) ML MN MP MT MV) t.heap) (aM q)) 0 0 (aM q) := by
  refine Met.ofW (cc := b_M_undoes) (maxL := 5) (ret := (some .int)) (by decide) rfl ?_
  intro p e s m args below meth c s₁ B hml hv
  obtain ⟨rfl, hP, hK⟩ := hv
  have hx := B.exec
  have hb := B.bytes
  have hr := B.returns
  have hts := atoms_spec (ws := ws_M_undoes) B.pre
  have hown : s.vm.findClass R_M = some m.cls := findClass_of_methodNamed B.named
  have hlocks := B.notSynchronized
  have hiM : ∀ w ∈ u_ws R_M F_M 39, w ∈ ws_M_undoes := fun w h => List.mem_cons_of_mem _ (in_M w h)
  have lk41 := hts _ (List.mem_cons_of_mem _ k_M_41)
  have lk115 := hts _ (List.mem_cons_of_mem _ k_M_115)
  have lk118 := hts _ (List.mem_cons_of_mem _ k_M_118)
  have hS : va_S (aM q) s.heap s.heap [] := va_S.rf
  have hl := lv_entry ([.ref (q 0), .int a1, .int a2]) (n := 5) (Nat.le_of_ble_eq_true rfl)
  rw [lg_entry_eq]
  generalize (lg_sl ([.ref (q 0), .int a1, .int a2]) ++ List.replicate (5 - (lg_sl ([.ref (q 0), .int a1, .int a2])).length) Slot.unset).toArray = ls at hl ⊢
  have hl : lv_has ls 5 [(0, .ref (q 0)), (1, .int a1), (2, .int a2)] := hl
  obtain ⟨Q, hQ⟩ : ∃ Q, Q = MQ below (va_Qi (fun (r : Int32) (u : S_MA × S_MD × S_MG) => post r u.1 u.2.1 u.2.2) (fun u t => va_P (dC, dI) clZ (wM cI cL cZ q (u.1) (u.2.1) MF (u.2.2) ML MN MP MT MV) t.heap) (aM q)) ([.ref (q 0), .int a1, .int a2]).toArray s 0 0 (aM q) := ⟨_, rfl⟩
  rw [← hQ]
  have L10 : ∀ (Kx : Int32 → S_MA → S_MD → S_MG → Prop) (v1 : Int32) (v2 : Int32) (n : Nat) (v3 : Int32) (v4 : Int32) (MA : S_MA) (MD : S_MD) (MG : S_MG) (H : Heap) (locs : List Loc) (ls : Array Slot), lv_has ls 5 [(0, .ref (q 0)), (1, .int v1), (2, .int v2), (3, .int v3), (4, .int v4)] → va_P (dC, dI) clZ (wM cI cL cZ q MA MD MF MG ML MN MP MT MV) H → va_S (aM q) s.heap H locs → wp_M_undoes_L10 MT v1 v2 Kx n v3 v4 MA MD MG → (∀ (x3 : Int32) (MA1 : S_MA) (MD1 : S_MD) (MG1 : S_MG) (H : Heap) (locs : List Loc) (ls : Array Slot), lv_has ls 5 [(3, .int x3)] → va_P (dC, dI) clZ (wM cI cL cZ q MA1 MD1 MF MG1 ML MN MP MT MV) H → va_S (aM q) s.heap H locs → Kx x3 MA1 MD1 MG1 → W p l e (headSpec ws_M_undoes rm_M_undoes).room s m ([.ref (q 0), .int a1, .int a2]).toArray below meth c H locs 0 0 Q (F0 m 79 ls [])) → W p l e (headSpec ws_M_undoes rm_M_undoes).room s m ([.ref (q 0), .int a1, .int a2]).toArray below meth c H locs 0 0 Q (F0 m 10 ls []) := by
    intro Kx v1 v2 n
    induction n with
    | zero =>
      intros
      rename_i hwp _
      exact hwp.elim
    | succ n10 ih =>
      intro v3 v4 MA MD MG H locs ls hl hP hS hwp hX
      rw [wp_M_undoes_L10] at hwp
      refine lv_iload hx hb d_M_undoes_10 (lv_at hl 4 rfl) ?_
      refine lv_if_lt (tgt := 79) hx hb d_M_undoes_12 (by decide) (fun hc => ?_) (fun hc => ?_)
      · rw [if_pos hc] at hwp
        exact hX (v3) (MA) (MD) (MG) _ _ _ (lv_sub hl [3] rfl) hP hS hwp
      · rw [if_neg hc] at hwp
        refine lv_aload_n hx hb d_M_undoes_15 rfl (lv_at hl 0 rfl) ?_
        refine va_get (D := (dC, dI)) (ci := 7) (v := .int (MG_base MG)) (C := R_M) (T := F_M) (N := 39) hx hb hts hiM hown hK hP 0 rfl rfl 11 (by decide) lk115 (fun _ h9 => h9) rfl d_M_undoes_16 ?_
        refine lv_iload hx hb d_M_undoes_19 (lv_at hl 4 rfl) ?_
        refine lv_iadd hx hb d_M_undoes_21 ?_
        refine lv_iconst (v := 1) hx hb d_M_undoes_22 (by decide) ?_
        refine lv_iadd hx hb d_M_undoes_23 ?_
        refine lv_iload_n hx hb d_M_undoes_24 rfl (lv_at hl 2 rfl) ?_
        refine lv_icmp_le (tgt := 73) hx hb d_M_undoes_25 (by decide) (fun hc => ?_) (fun hc => ?_)
        · rw [if_pos hc] at hwp
          refine lv_iinc (k := 4) (v := (v4 + (-1))) (lv' := [(4, .int (v4 + (-1))), (0, .ref (q 0)), (1, .int v1), (2, .int v2), (3, .int v3)]) hx hb d_M_undoes_73 hl rfl (ii_m1 _) (by decide) rfl (fun ls hl => ?_)
          refine lv_goto hx hb d_M_undoes_76 (tgt := 10) (by decide) ?_
          exact ih (v3) ((v4 + (-1))) (MA) (MD) (MG) _ _ _ (lv_sub hl [1, 2, 3, 4, 0] rfl) hP hS hwp hX
        · rw [if_neg hc] at hwp
          refine lv_aload_n hx hb d_M_undoes_28 rfl (lv_at hl 0 rfl) ?_
          refine lv_iload hx hb d_M_undoes_29 (lv_at hl 4 rfl) ?_
          refine ncn_i (As := [.int v4]) (c_M_open hq (MA) (MD) (MF) (MG) (ML) (MN) (MP) (MT) (MV) (v4) _ hwp) (cwV 1 hts g_M_144 rfl rfl rfl hd_M_open ⟨Nat.le_of_ble_eq_true rfl, Nat.le_of_ble_eq_true rfl⟩) hx hb hml hown hts hK hP hS hl.1 d_M_undoes_31 (va_recv (q := (R_M, F_M, 39)) hK hP (ci := 7) (q0 := 0) rfl rfl) rfl (lv_room (Nat.le_of_ble_eq_true rfl)) (Nat.zero_le _) (Nat.zero_le _) rfl (fun r1 u H locs hwp hP hS => ?_)
          have hP : va_P (dC, dI) clZ (wM cI cL cZ q MA MD MF MG ML MN MP MT MV) H := hP
          refine lv_if_eq (tgt := 73) hx hb d_M_undoes_34 (by decide) (fun hc => ?_) (fun hc => ?_)
          · rw [if_pos hc] at hwp
            refine lv_iinc (k := 4) (v := (v4 + (-1))) (lv' := [(4, .int (v4 + (-1))), (0, .ref (q 0)), (1, .int v1), (2, .int v2), (3, .int v3)]) hx hb d_M_undoes_73 hl rfl (ii_m1 _) (by decide) rfl (fun ls hl => ?_)
            refine lv_goto hx hb d_M_undoes_76 (tgt := 10) (by decide) ?_
            exact ih (v3) ((v4 + (-1))) (MA) (MD) (MG) _ _ _ (lv_sub hl [1, 2, 3, 4, 0] rfl) hP hS hwp hX
          · rw [if_neg hc] at hwp
            refine lv_aload_n hx hb d_M_undoes_37 rfl (lv_at hl 0 rfl) ?_
            refine va_get (D := (dC, dI)) (ci := 7) (v := .ref (q 11)) (C := R_M) (T := F_M) (N := 39) hx hb hts hiM hown hK hP 0 rfl rfl 15 (by decide) lk41 (fun _ h9 => h9) rfl d_M_undoes_38 ?_
            refine lv_iload hx hb d_M_undoes_41 (lv_at hl 4 rfl) ?_
            refine va_iald hx hb hK hP 11 0 rfl rfl hwp.1 d_M_undoes_43 ?_
            have hwp := hwp.2
            refine lv_iload_n hx hb d_M_undoes_44 rfl (lv_at hl 1 rfl) ?_
            refine lv_icmp_eq (tgt := 63) hx hb d_M_undoes_45 (by decide) (fun hc => ?_) (fun hc => ?_)
            · rw [if_pos hc] at hwp
              refine lv_aload_n hx hb d_M_undoes_63 rfl (lv_at hl 0 rfl) ?_
              refine lv_iload_n hx hb d_M_undoes_64 rfl (lv_at hl 1 rfl) ?_
              refine lv_iload hx hb d_M_undoes_65 (lv_at hl 4 rfl) ?_
              refine ncn_v (As := [.int v1, .int v4]) (c_M_undo hq (MA) (MD) (MF) (MG) (ML) (MN) (MP) (MT) (MV) (v1) (v4) _ hwp) (cwV 2 hts g_M_248 rfl rfl rfl hd_M_undo ⟨Nat.le_of_ble_eq_true rfl, Nat.le_of_ble_eq_true rfl⟩) hx hb hml hown hts hK hP hS hl.1 d_M_undoes_67 (va_recv (q := (R_M, F_M, 39)) hK hP (ci := 7) (q0 := 0) rfl rfl) rfl (lv_room (Nat.le_of_ble_eq_true rfl)) (Nat.zero_le _) (Nat.zero_le _) rfl (fun u H locs hwp hP hS => ?_)
              obtain ⟨MA2, MD3, MG4⟩ := u
              have hP : va_P (dC, dI) clZ (wM cI cL cZ q MA2 MD3 MF MG4 ML MN MP MT MV) H := hP
              refine lv_iinc (k := 3) (v := (v3 + 1)) (lv' := [(3, .int (v3 + 1)), (0, .ref (q 0)), (1, .int v1), (2, .int v2), (4, .int v4)]) hx hb d_M_undoes_70 hl rfl (ii_1 _) (by decide) rfl (fun ls hl => ?_)
              refine lv_iinc (k := 4) (v := (v4 + (-1))) (lv' := [(4, .int (v4 + (-1))), (3, .int (v3 + 1)), (0, .ref (q 0)), (1, .int v1), (2, .int v2)]) hx hb d_M_undoes_73 hl rfl (ii_m1 _) (by decide) rfl (fun ls hl => ?_)
              refine lv_goto hx hb d_M_undoes_76 (tgt := 10) (by decide) ?_
              exact ih ((v3 + 1)) ((v4 + (-1))) (MA2) (MD3) (MG4) _ _ _ (lv_sub hl [2, 3, 4, 1, 0] rfl) hP hS hwp hX
            · rw [if_neg hc] at hwp
              refine lv_aload_n hx hb d_M_undoes_48 rfl (lv_at hl 0 rfl) ?_
              refine lv_iload_n hx hb d_M_undoes_49 rfl (lv_at hl 1 rfl) ?_
              refine lv_aload_n hx hb d_M_undoes_50 rfl (lv_at hl 0 rfl) ?_
              refine va_get (D := (dC, dI)) (ci := 7) (v := .ref (q 11)) (C := R_M) (T := F_M) (N := 39) hx hb hts hiM hown hK hP 0 rfl rfl 15 (by decide) lk41 (fun _ h9 => h9) rfl d_M_undoes_51 ?_
              refine lv_iload hx hb d_M_undoes_54 (lv_at hl 4 rfl) ?_
              refine va_iald hx hb hK hP 11 0 rfl rfl hwp.1 d_M_undoes_56 ?_
              have hwp := hwp.2
              refine ncn_i (As := [.int v1, .int ((MG_by MG) (Int32.toNatClampNeg v4))]) (c_M_above hq (MA) (MD) (MF) (MG) (ML) (MN) (MP) (MT) (MV) (v1) (((MG_by MG) (Int32.toNatClampNeg v4))) _ hwp) (cwV 2 hts g_M_187 rfl rfl rfl hd_M_above ⟨Nat.le_of_ble_eq_true rfl, Nat.le_of_ble_eq_true rfl⟩) hx hb hml hown hts hK hP hS hl.1 d_M_undoes_57 (va_recv (q := (R_M, F_M, 39)) hK hP (ci := 7) (q0 := 0) rfl rfl) rfl (lv_room (Nat.le_of_ble_eq_true rfl)) (Nat.zero_le _) (Nat.zero_le _) rfl (fun r5 u H locs hwp hP hS => ?_)
              have hP : va_P (dC, dI) clZ (wM cI cL cZ q MA MD MF MG ML MN MP MT MV) H := hP
              refine lv_if_eq (tgt := 73) hx hb d_M_undoes_60 (by decide) (fun hc => ?_) (fun hc => ?_)
              · rw [if_pos hc] at hwp
                refine lv_iinc (k := 4) (v := (v4 + (-1))) (lv' := [(4, .int (v4 + (-1))), (0, .ref (q 0)), (1, .int v1), (2, .int v2), (3, .int v3)]) hx hb d_M_undoes_73 hl rfl (ii_m1 _) (by decide) rfl (fun ls hl => ?_)
                refine lv_goto hx hb d_M_undoes_76 (tgt := 10) (by decide) ?_
                exact ih (v3) ((v4 + (-1))) (MA) (MD) (MG) _ _ _ (lv_sub hl [1, 2, 3, 4, 0] rfl) hP hS hwp hX
              · rw [if_neg hc] at hwp
                refine lv_aload_n hx hb d_M_undoes_63 rfl (lv_at hl 0 rfl) ?_
                refine lv_iload_n hx hb d_M_undoes_64 rfl (lv_at hl 1 rfl) ?_
                refine lv_iload hx hb d_M_undoes_65 (lv_at hl 4 rfl) ?_
                refine ncn_v (As := [.int v1, .int v4]) (c_M_undo hq (MA) (MD) (MF) (MG) (ML) (MN) (MP) (MT) (MV) (v1) (v4) _ hwp) (cwV 2 hts g_M_248 rfl rfl rfl hd_M_undo ⟨Nat.le_of_ble_eq_true rfl, Nat.le_of_ble_eq_true rfl⟩) hx hb hml hown hts hK hP hS hl.1 d_M_undoes_67 (va_recv (q := (R_M, F_M, 39)) hK hP (ci := 7) (q0 := 0) rfl rfl) rfl (lv_room (Nat.le_of_ble_eq_true rfl)) (Nat.zero_le _) (Nat.zero_le _) rfl (fun u H locs hwp hP hS => ?_)
                obtain ⟨MA6, MD7, MG8⟩ := u
                have hP : va_P (dC, dI) clZ (wM cI cL cZ q MA6 MD7 MF MG8 ML MN MP MT MV) H := hP
                refine lv_iinc (k := 3) (v := (v3 + 1)) (lv' := [(3, .int (v3 + 1)), (0, .ref (q 0)), (1, .int v1), (2, .int v2), (4, .int v4)]) hx hb d_M_undoes_70 hl rfl (ii_1 _) (by decide) rfl (fun ls hl => ?_)
                refine lv_iinc (k := 4) (v := (v4 + (-1))) (lv' := [(4, .int (v4 + (-1))), (3, .int (v3 + 1)), (0, .ref (q 0)), (1, .int v1), (2, .int v2)]) hx hb d_M_undoes_73 hl rfl (ii_m1 _) (by decide) rfl (fun ls hl => ?_)
                refine lv_goto hx hb d_M_undoes_76 (tgt := 10) (by decide) ?_
                exact ih ((v3 + 1)) ((v4 + (-1))) (MA6) (MD7) (MG8) _ _ _ (lv_sub hl [2, 3, 4, 1, 0] rfl) hP hS hwp hX
  rw [wp_M_undoes] at hwp
  refine lv_iconst (v := 0) hx hb d_M_undoes_0 (by decide) ?_
  refine lv_istore_n (lv' := [(3, .int 0), (0, .ref (q 0)), (1, .int a1), (2, .int a2)]) hx hb d_M_undoes_1 rfl hl (by decide) rfl (fun ls hl => ?_)
  refine lv_aload_n hx hb d_M_undoes_2 rfl (lv_at hl 1 rfl) ?_
  refine va_get (D := (dC, dI)) (ci := 7) (v := .int (MG_records MG)) (C := R_M) (T := F_M) (N := 39) hx hb hts hiM hown hK hP 0 rfl rfl 12 (by decide) lk118 (fun _ h9 => h9) rfl d_M_undoes_3 ?_
  refine lv_iconst (v := 1) hx hb d_M_undoes_6 (by decide) ?_
  refine lv_isub hx hb d_M_undoes_7 ?_
  refine lv_istore (lv' := [(4, .int ((MG_records MG) - 1)), (3, .int 0), (0, .ref (q 0)), (1, .int a1), (2, .int a2)]) hx hb d_M_undoes_8 hl (by decide) rfl (fun ls hl => ?_)
  obtain ⟨e10, hwp⟩ := hwp
  refine L10 _ (a1) (a2) e10 (0) (((MG_records MG) - 1)) (MA) (MD) (MG) _ _ _ (lv_sub hl [2, 3, 4, 1, 0] rfl) hP hS hwp (fun x9 MA10 MD11 MG12 H locs ls hl hP hS hwp => ?_)
  refine lv_iload_n hx hb d_M_undoes_79 rfl (lv_at hl 0 rfl) ?_
  rw [hQ]
  exact W.iret (v := x9) hx hb hr (fun t ht hW => ⟨⟨x9, (MA10, MD11, MG12), rfl, hwp, hp_of ht hP⟩, hS.F ht⟩) hS.2.2 d_M_undoes_80

set_option maxHeartbeats 4000000 in
set_option maxRecDepth 100000 in
theorem c_M_unlock {l : Launch} {dC : Nat → ClassId} {dI : Nat → Nat → Nat} {cI cL cZ : ClassId} {q : Nat → Nat} (hq : iM q) (MA : S_MA) (MD : S_MD) (MF : S_MF) (MG : S_MG) (ML : S_ML) (MN : S_MN) (MP : S_MP) (MT : S_MT) (MV : S_MV) (a1 : Int32) (post : S_ML → Prop) (hwp : wp_M_unlock ML a1 post) : Met l y_M_unlock ws_M_unlock rm_M_unlock (va_Pc [.ref (q 0), .int a1] (bM dC dI cI cL cZ q MA MD MF MG ML MN MP MT MV)) (va_Qv (fun (u : S_ML) => post u) (fun u t => va_P (dC, dI) clZ (wM cI cL cZ q MA MD MF MG (u) MN MP MT MV) t.heap) (aM q)) 0 0 (aM q) := by
  refine Met.ofW (cc := b_M_unlock) (maxL := 3) (ret := none) (by decide) rfl ?_
  intro p e s m args below meth c s₁ B hml hv
  obtain ⟨rfl, hP, hK⟩ := hv
  have hx := B.exec
  have hb := B.bytes
  have hr := B.returns
  have hts := atoms_spec (ws := ws_M_unlock) B.pre
  have hown : s.vm.findClass R_M = some m.cls := findClass_of_methodNamed B.named
  have hlocks := B.notSynchronized
  have hiM : ∀ w ∈ u_ws R_M F_M 39, w ∈ ws_M_unlock := fun w h => List.mem_cons_of_mem _ (in_M w h)
  have lk71 := hts _ (List.mem_cons_of_mem _ k_M_71)
  have hS : va_S (aM q) s.heap s.heap [] := va_S.rf
  have hl := lv_entry ([.ref (q 0), .int a1]) (n := 3) (Nat.le_of_ble_eq_true rfl)
  rw [lg_entry_eq]
  generalize (lg_sl ([.ref (q 0), .int a1]) ++ List.replicate (3 - (lg_sl ([.ref (q 0), .int a1])).length) Slot.unset).toArray = ls at hl ⊢
  have hl : lv_has ls 3 [(0, .ref (q 0)), (1, .int a1)] := hl
  obtain ⟨Q, hQ⟩ : ∃ Q, Q = MQ below (va_Qv (fun (u : S_ML) => post u) (fun u t => va_P (dC, dI) clZ (wM cI cL cZ q MA MD MF MG (u) MN MP MT MV) t.heap) (aM q)) ([.ref (q 0), .int a1]).toArray s 0 0 (aM q) := ⟨_, rfl⟩
  rw [← hQ]
  have L2 : ∀ (Kx : S_ML → Prop) (v1 : Int32) (n : Nat) (v2 : Int32) (ML : S_ML) (H : Heap) (locs : List Loc) (ls : Array Slot), lv_has ls 3 [(0, .ref (q 0)), (1, .int v1), (2, .int v2)] → va_P (dC, dI) clZ (wM cI cL cZ q MA MD MF MG ML MN MP MT MV) H → va_S (aM q) s.heap H locs → wp_M_unlock_L2 v1 Kx n v2 ML → (∀ (ML1 : S_ML) (H : Heap) (locs : List Loc) (ls : Array Slot), lv_has ls 3 [] → va_P (dC, dI) clZ (wM cI cL cZ q MA MD MF MG ML1 MN MP MT MV) H → va_S (aM q) s.heap H locs → Kx ML1 → W p l e (headSpec ws_M_unlock rm_M_unlock).room s m ([.ref (q 0), .int a1]).toArray below meth c H locs 0 0 Q (F0 m 26 ls [])) → W p l e (headSpec ws_M_unlock rm_M_unlock).room s m ([.ref (q 0), .int a1]).toArray below meth c H locs 0 0 Q (F0 m 2 ls []) := by
    intro Kx v1 n
    induction n with
    | zero =>
      intros
      rename_i hwp _
      exact hwp.elim
    | succ n2 ih =>
      intro v2 ML H locs ls hl hP hS hwp hX
      rw [wp_M_unlock_L2] at hwp
      refine lv_iload_n hx hb d_M_unlock_2 rfl (lv_at hl 2 rfl) ?_
      refine lv_bipush (v := 33) hx hb d_M_unlock_3 (by decide) ?_
      refine lv_icmp_ge (tgt := 26) hx hb d_M_unlock_5 (by decide) (fun hc => ?_) (fun hc => ?_)
      · rw [if_pos hc] at hwp
        exact hX (ML) _ _ _ (lv_sub hl [] rfl) hP hS hwp
      · rw [if_neg hc] at hwp
        refine lv_aload_n hx hb d_M_unlock_8 rfl (lv_at hl 0 rfl) ?_
        refine va_get (D := (dC, dI)) (ci := 7) (v := .ref (q 21)) (C := R_M) (T := F_M) (N := 39) hx hb hts hiM hown hK hP 0 rfl rfl 26 (by decide) lk71 (fun _ h9 => h9) rfl d_M_unlock_9 ?_
        refine lv_bipush (v := 33) hx hb d_M_unlock_12 (by decide) ?_
        refine lv_iload_n hx hb d_M_unlock_14 rfl (lv_at hl 1 rfl) ?_
        refine lv_imul hx hb d_M_unlock_15 ?_
        refine lv_iload_n hx hb d_M_unlock_16 rfl (lv_at hl 2 rfl) ?_
        refine lv_iadd hx hb d_M_unlock_17 ?_
        refine lv_iconst (v := 0) hx hb d_M_unlock_18 (by decide) ?_
        refine va_iast hx hb hK hP (dM hq) hS 21 0 rfl rfl hwp.1 d_M_unlock_19 (fun H locs hP _ hS => ?_)
        have hwp := hwp.2
        have hP : va_P (dC, dI) clZ (wM cI cL cZ q MA MD MF MG (ML_locks' ML (upd (ML_locks ML) (Int32.toNatClampNeg ((33 * v1) + v2)) 0)) MN MP MT MV) H := hP
        refine lv_iinc (k := 2) (v := (v2 + 1)) (lv' := [(2, .int (v2 + 1)), (0, .ref (q 0)), (1, .int v1)]) hx hb d_M_unlock_20 hl rfl (ii_1 _) (by decide) rfl (fun ls hl => ?_)
        refine lv_goto hx hb d_M_unlock_23 (tgt := 2) (by decide) ?_
        exact ih ((v2 + 1)) ((ML_locks' ML (upd (ML_locks ML) (Int32.toNatClampNeg ((33 * v1) + v2)) 0))) _ _ _ (lv_sub hl [1, 2, 0] rfl) hP hS hwp hX
  rw [wp_M_unlock] at hwp
  refine lv_iconst (v := 0) hx hb d_M_unlock_0 (by decide) ?_
  refine lv_istore_n (lv' := [(2, .int 0), (0, .ref (q 0)), (1, .int a1)]) hx hb d_M_unlock_1 rfl hl (by decide) rfl (fun ls hl => ?_)
  obtain ⟨e2, hwp⟩ := hwp
  refine L2 _ (a1) e2 (0) (ML) _ _ _ (lv_sub hl [1, 2, 0] rfl) hP hS hwp (fun ML1 H locs ls hl hP hS hwp => ?_)
  rw [hQ]
  exact W.vret hx hb hr (fun t ht hW => ⟨⟨ML1, rfl, hwp, hp_of ht hP⟩, hS.F ht⟩) hS.2.2 d_M_unlock_26

set_option maxHeartbeats 4000000 in
set_option maxRecDepth 100000 in
theorem c_M_aborts {l : Launch} {dC : Nat → ClassId} {dI : Nat → Nat → Nat} {cI cL cZ : ClassId} {q : Nat → Nat} (hq : iM q) (MA : S_MA) (MD : S_MD) (MF : S_MF) (MG : S_MG) (ML : S_ML) (MN : S_MN) (MP : S_MP) (MT : S_MT) (MV : S_MV) (a1 : Int32) (post : Int32 → S_MA → S_MD → S_MF → S_MG → S_ML → S_MT → Prop) (hwp : wp_M_aborts MA MD MF MG ML MT a1 post) : Met l y_M_aborts ws_M_aborts rm_M_aborts (va_Pc [.ref (q 0), .int a1] (bM dC dI cI cL cZ q MA MD MF MG ML MN MP MT MV)) (va_Qi (fun (r : Int32) (u : S_MA × S_MD × S_MF × S_MG × S_ML × S_MT) => post r u.1 u.2.1 u.2.2.1 u.2.2.2.1 u.2.2.2.2.1 u.2.2.2.2.2) (fun u t => va_P (dC, dI) clZ (wM cI cL cZ q (u.1) (u.2.1) (u.2.2.1) (u.2.2.2.1) (u.2.2.2.2.1) MN MP (u.2.2.2.2.2) MV) t.heap) (aM q)) 0 0 (aM q) := by
  refine Met.ofW (cc := b_M_aborts) (maxL := 5) (ret := (some .int)) (by decide) rfl ?_
  intro p e s m args below meth c s₁ B hml hv
  obtain ⟨rfl, hP, hK⟩ := hv
  have hx := B.exec
  have hb := B.bytes
  have hr := B.returns
  have hts := atoms_spec (ws := ws_M_aborts) B.pre
  have hown : s.vm.findClass R_M = some m.cls := findClass_of_methodNamed B.named
  have hlocks := B.notSynchronized
  have hiM : ∀ w ∈ u_ws R_M F_M 39, w ∈ ws_M_aborts := fun w h => List.mem_cons_of_mem _ (in_M w h)
  have lk41 := hts _ (List.mem_cons_of_mem _ k_M_41)
  have lk62 := hts _ (List.mem_cons_of_mem _ k_M_62)
  have lk98 := hts _ (List.mem_cons_of_mem _ k_M_98)
  have lk147 := hts _ (List.mem_cons_of_mem _ k_M_147)
  have hS : va_S (aM q) s.heap s.heap [] := va_S.rf
  have hl := lv_entry ([.ref (q 0), .int a1]) (n := 5) (Nat.le_of_ble_eq_true rfl)
  rw [lg_entry_eq]
  generalize (lg_sl ([.ref (q 0), .int a1]) ++ List.replicate (5 - (lg_sl ([.ref (q 0), .int a1])).length) Slot.unset).toArray = ls at hl ⊢
  have hl : lv_has ls 5 [(0, .ref (q 0)), (1, .int a1)] := hl
  obtain ⟨Q, hQ⟩ : ∃ Q, Q = MQ below (va_Qi (fun (r : Int32) (u : S_MA × S_MD × S_MF × S_MG × S_ML × S_MT) => post r u.1 u.2.1 u.2.2.1 u.2.2.2.1 u.2.2.2.2.1 u.2.2.2.2.2) (fun u t => va_P (dC, dI) clZ (wM cI cL cZ q (u.1) (u.2.1) (u.2.2.1) (u.2.2.2.1) (u.2.2.2.2.1) MN MP (u.2.2.2.2.2) MV) t.heap) (aM q)) ([.ref (q 0), .int a1]).toArray s 0 0 (aM q) := ⟨_, rfl⟩
  rw [← hQ]
  have L2 : ∀ (Kx : S_MF → Prop) (MA : S_MA) (MD : S_MD) (MG : S_MG) (ML : S_ML) (MT : S_MT) (v1 : Int32) (n : Nat) (v2 : Int32) (MF : S_MF) (H : Heap) (locs : List Loc) (ls : Array Slot), lv_has ls 5 [(0, .ref (q 0)), (1, .int v1), (2, .int v2)] → va_P (dC, dI) clZ (wM cI cL cZ q MA MD MF MG ML MN MP MT MV) H → va_S (aM q) s.heap H locs → wp_M_aborts_L2 MT v1 Kx n v2 MF → (∀ (MF1 : S_MF) (H : Heap) (locs : List Loc) (ls : Array Slot), lv_has ls 5 [(0, .ref (q 0)), (1, .int v1)] → va_P (dC, dI) clZ (wM cI cL cZ q MA MD MF1 MG ML MN MP MT MV) H → va_S (aM q) s.heap H locs → Kx MF1 → W p l e (headSpec ws_M_aborts rm_M_aborts).room s m ([.ref (q 0), .int a1]).toArray below meth c H locs 0 0 Q (F0 m 49 ls [])) → W p l e (headSpec ws_M_aborts rm_M_aborts).room s m ([.ref (q 0), .int a1]).toArray below meth c H locs 0 0 Q (F0 m 2 ls []) := by
    intro Kx MA MD MG ML MT v1 n
    induction n with
    | zero =>
      intros
      rename_i hwp _
      exact hwp.elim
    | succ n2 ih =>
      intro v2 MF H locs ls hl hP hS hwp hX
      rw [wp_M_aborts_L2] at hwp
      refine lv_iload_n hx hb d_M_aborts_2 rfl (lv_at hl 2 rfl) ?_
      refine lv_aload_n hx hb d_M_aborts_3 rfl (lv_at hl 0 rfl) ?_
      refine va_get (D := (dC, dI)) (ci := 7) (v := .int (MT_many MT)) (C := R_M) (T := F_M) (N := 39) hx hb hts hiM hown hK hP 0 rfl rfl 22 (by decide) lk147 (fun _ h9 => h9) rfl d_M_aborts_4 ?_
      refine lv_icmp_ge (tgt := 49) hx hb d_M_aborts_7 (by decide) (fun hc => ?_) (fun hc => ?_)
      · rw [if_pos hc] at hwp
        exact hX (MF) _ _ _ (lv_sub hl [0, 1] rfl) hP hS hwp
      · rw [if_neg hc] at hwp
        refine lv_aload_n hx hb d_M_aborts_10 rfl (lv_at hl 0 rfl) ?_
        refine va_get (D := (dC, dI)) (ci := 7) (v := .ref (q 30)) (C := R_M) (T := F_M) (N := 39) hx hb hts hiM hown hK hP 0 rfl rfl 37 (by decide) lk98 (fun _ h9 => h9) rfl d_M_aborts_11 ?_
        refine lv_iload_n hx hb d_M_aborts_14 rfl (lv_at hl 2 rfl) ?_
        refine lv_aload_n hx hb d_M_aborts_15 rfl (lv_at hl 0 rfl) ?_
        refine lv_iload_n hx hb d_M_aborts_16 rfl (lv_at hl 2 rfl) ?_
        refine ncn_i (As := [.int v2]) (c_M_live hq (MA) (MD) (MF) (MG) (ML) (MN) (MP) (MT) (MV) (v2) _ hwp) (cwV 1 hts g_M_150 rfl rfl rfl hd_M_live ⟨Nat.le_of_ble_eq_true rfl, Nat.le_of_ble_eq_true rfl⟩) hx hb hml hown hts hK hP hS hl.1 d_M_aborts_17 (va_recv (q := (R_M, F_M, 39)) hK hP (ci := 7) (q0 := 0) rfl rfl) rfl (lv_room (Nat.le_of_ble_eq_true rfl)) (Nat.zero_le _) (Nat.zero_le _) rfl (fun r1 u H locs hwp hP hS => ?_)
        have hP : va_P (dC, dI) clZ (wM cI cL cZ q MA MD MF MG ML MN MP MT MV) H := hP
        refine lv_if_eq (tgt := 41) hx hb d_M_aborts_20 (by decide) (fun hc => ?_) (fun hc => ?_)
        · rw [if_pos hc] at hwp
          refine lv_iconst (v := 0) hx hb d_M_aborts_41 (by decide) ?_
          refine va_zast hx hb hK hP (dM hq) hS 30 2 rfl rfl hwp.1 d_M_aborts_42 (fun H locs hP _ hS => ?_)
          have hwp := hwp.2
          have hP : va_P (dC, dI) clZ (wM cI cL cZ q MA MD (MF_falls' MF (upd (MF_falls MF) (Int32.toNatClampNeg v2) (vp_nar .boolean 0))) MG ML MN MP MT MV) H := hP
          refine lv_iinc (k := 2) (v := (v2 + 1)) (lv' := [(2, .int (v2 + 1)), (0, .ref (q 0)), (1, .int v1)]) hx hb d_M_aborts_43 hl rfl (ii_1 _) (by decide) rfl (fun ls hl => ?_)
          refine lv_goto hx hb d_M_aborts_46 (tgt := 2) (by decide) ?_
          exact ih ((v2 + 1)) ((MF_falls' MF (upd (MF_falls MF) (Int32.toNatClampNeg v2) (vp_nar .boolean 0)))) _ _ _ (lv_sub hl [1, 2, 0] rfl) hP hS hwp hX
        · rw [if_neg hc] at hwp
          refine lv_iload_n hx hb d_M_aborts_23 rfl (lv_at hl 2 rfl) ?_
          refine lv_iload_n hx hb d_M_aborts_24 rfl (lv_at hl 1 rfl) ?_
          refine lv_icmp_eq (tgt := 37) hx hb d_M_aborts_25 (by decide) (fun hc => ?_) (fun hc => ?_)
          · rw [if_pos hc] at hwp
            refine lv_iconst (v := 1) hx hb d_M_aborts_37 (by decide) ?_
            refine lv_goto hx hb d_M_aborts_38 (tgt := 42) (by decide) ?_
            refine va_zast hx hb hK hP (dM hq) hS 30 2 rfl rfl hwp.1 d_M_aborts_42 (fun H locs hP _ hS => ?_)
            have hwp := hwp.2
            have hP : va_P (dC, dI) clZ (wM cI cL cZ q MA MD (MF_falls' MF (upd (MF_falls MF) (Int32.toNatClampNeg v2) (vp_nar .boolean 1))) MG ML MN MP MT MV) H := hP
            refine lv_iinc (k := 2) (v := (v2 + 1)) (lv' := [(2, .int (v2 + 1)), (0, .ref (q 0)), (1, .int v1)]) hx hb d_M_aborts_43 hl rfl (ii_1 _) (by decide) rfl (fun ls hl => ?_)
            refine lv_goto hx hb d_M_aborts_46 (tgt := 2) (by decide) ?_
            exact ih ((v2 + 1)) ((MF_falls' MF (upd (MF_falls MF) (Int32.toNatClampNeg v2) (vp_nar .boolean 1)))) _ _ _ (lv_sub hl [1, 2, 0] rfl) hP hS hwp hX
          · rw [if_neg hc] at hwp
            refine lv_aload_n hx hb d_M_aborts_28 rfl (lv_at hl 0 rfl) ?_
            refine lv_iload_n hx hb d_M_aborts_29 rfl (lv_at hl 1 rfl) ?_
            refine lv_iload_n hx hb d_M_aborts_30 rfl (lv_at hl 2 rfl) ?_
            refine ncn_i (As := [.int v1, .int v2]) (c_M_above hq (MA) (MD) (MF) (MG) (ML) (MN) (MP) (MT) (MV) (v1) (v2) _ hwp) (cwV 2 hts g_M_187 rfl rfl rfl hd_M_above ⟨Nat.le_of_ble_eq_true rfl, Nat.le_of_ble_eq_true rfl⟩) hx hb hml hown hts hK hP hS hl.1 d_M_aborts_31 (va_recv (q := (R_M, F_M, 39)) hK hP (ci := 7) (q0 := 0) rfl rfl) rfl (lv_room (Nat.le_of_ble_eq_true rfl)) (Nat.zero_le _) (Nat.zero_le _) rfl (fun r2 u H locs hwp hP hS => ?_)
            have hP : va_P (dC, dI) clZ (wM cI cL cZ q MA MD MF MG ML MN MP MT MV) H := hP
            refine lv_if_eq (tgt := 41) hx hb d_M_aborts_34 (by decide) (fun hc => ?_) (fun hc => ?_)
            · rw [if_pos hc] at hwp
              refine lv_iconst (v := 0) hx hb d_M_aborts_41 (by decide) ?_
              refine va_zast hx hb hK hP (dM hq) hS 30 2 rfl rfl hwp.1 d_M_aborts_42 (fun H locs hP _ hS => ?_)
              have hwp := hwp.2
              have hP : va_P (dC, dI) clZ (wM cI cL cZ q MA MD (MF_falls' MF (upd (MF_falls MF) (Int32.toNatClampNeg v2) (vp_nar .boolean 0))) MG ML MN MP MT MV) H := hP
              refine lv_iinc (k := 2) (v := (v2 + 1)) (lv' := [(2, .int (v2 + 1)), (0, .ref (q 0)), (1, .int v1)]) hx hb d_M_aborts_43 hl rfl (ii_1 _) (by decide) rfl (fun ls hl => ?_)
              refine lv_goto hx hb d_M_aborts_46 (tgt := 2) (by decide) ?_
              exact ih ((v2 + 1)) ((MF_falls' MF (upd (MF_falls MF) (Int32.toNatClampNeg v2) (vp_nar .boolean 0)))) _ _ _ (lv_sub hl [1, 2, 0] rfl) hP hS hwp hX
            · rw [if_neg hc] at hwp
              refine lv_iconst (v := 1) hx hb d_M_aborts_37 (by decide) ?_
              refine lv_goto hx hb d_M_aborts_38 (tgt := 42) (by decide) ?_
              refine va_zast hx hb hK hP (dM hq) hS 30 2 rfl rfl hwp.1 d_M_aborts_42 (fun H locs hP _ hS => ?_)
              have hwp := hwp.2
              have hP : va_P (dC, dI) clZ (wM cI cL cZ q MA MD (MF_falls' MF (upd (MF_falls MF) (Int32.toNatClampNeg v2) (vp_nar .boolean 1))) MG ML MN MP MT MV) H := hP
              refine lv_iinc (k := 2) (v := (v2 + 1)) (lv' := [(2, .int (v2 + 1)), (0, .ref (q 0)), (1, .int v1)]) hx hb d_M_aborts_43 hl rfl (ii_1 _) (by decide) rfl (fun ls hl => ?_)
              refine lv_goto hx hb d_M_aborts_46 (tgt := 2) (by decide) ?_
              exact ih ((v2 + 1)) ((MF_falls' MF (upd (MF_falls MF) (Int32.toNatClampNeg v2) (vp_nar .boolean 1)))) _ _ _ (lv_sub hl [1, 2, 0] rfl) hP hS hwp hX
  have L63 : ∀ (Kx : S_MG → S_ML → S_MT → Prop) (MA : S_MA) (MD : S_MD) (MF : S_MF) (v2 : Int32) (n : Nat) (v3 : Int32) (MG : S_MG) (ML : S_ML) (MT : S_MT) (H : Heap) (locs : List Loc) (ls : Array Slot), lv_has ls 5 [(0, .ref (q 0)), (2, .int v2), (3, .int v3)] → va_P (dC, dI) clZ (wM cI cL cZ q MA MD MF MG ML MN MP MT MV) H → va_S (aM q) s.heap H locs → wp_M_aborts_L63 MF v2 Kx n v3 MG ML MT → (∀ (MG1 : S_MG) (ML1 : S_ML) (MT1 : S_MT) (H : Heap) (locs : List Loc) (ls : Array Slot), lv_has ls 5 [(2, .int v2)] → va_P (dC, dI) clZ (wM cI cL cZ q MA MD MF MG1 ML1 MN MP MT1 MV) H → va_S (aM q) s.heap H locs → Kx MG1 ML1 MT1 → W p l e (headSpec ws_M_aborts rm_M_aborts).room s m ([.ref (q 0), .int a1]).toArray below meth c H locs 0 0 Q (F0 m 109 ls [])) → W p l e (headSpec ws_M_aborts rm_M_aborts).room s m ([.ref (q 0), .int a1]).toArray below meth c H locs 0 0 Q (F0 m 63 ls []) := by
    intro Kx MA MD MF v2 n
    induction n with
    | zero =>
      intros
      rename_i hwp _
      exact hwp.elim
    | succ n63 ih =>
      intro v3 MG ML MT H locs ls hl hP hS hwp hX
      rw [wp_M_aborts_L63] at hwp
      refine lv_iload_n hx hb d_M_aborts_63 rfl (lv_at hl 2 rfl) ?_
      refine lv_if_lt (tgt := 109) hx hb d_M_aborts_64 (by decide) (fun hc => ?_) (fun hc => ?_)
      · rw [if_pos hc] at hwp
        exact hX (MG) (ML) (MT) _ _ _ (lv_sub hl [1] rfl) hP hS hwp
      · rw [if_neg hc] at hwp
        refine lv_aload_n hx hb d_M_aborts_67 rfl (lv_at hl 0 rfl) ?_
        refine va_get (D := (dC, dI)) (ci := 7) (v := .ref (q 30)) (C := R_M) (T := F_M) (N := 39) hx hb hts hiM hown hK hP 0 rfl rfl 37 (by decide) lk98 (fun _ h9 => h9) rfl d_M_aborts_68 ?_
        refine lv_iload_n hx hb d_M_aborts_71 rfl (lv_at hl 2 rfl) ?_
        refine va_zald hx hb hK hP 30 2 rfl rfl hwp.1 d_M_aborts_72 ?_
        have hwp := hwp.2
        refine lv_if_eq (tgt := 103) hx hb d_M_aborts_73 (by decide) (fun hc => ?_) (fun hc => ?_)
        · rw [if_pos hc] at hwp
          refine lv_iinc (k := 2) (v := (v3 + (-1))) (lv' := [(3, .int (v3 + (-1))), (0, .ref (q 0)), (2, .int v2)]) hx hb d_M_aborts_103 hl rfl (ii_m1 _) (by decide) rfl (fun ls hl => ?_)
          refine lv_goto hx hb d_M_aborts_106 (tgt := 63) (by decide) ?_
          exact ih ((v3 + (-1))) (MG) (ML) (MT) _ _ _ (lv_sub hl [1, 2, 0] rfl) hP hS hwp hX
        · rw [if_neg hc] at hwp
          refine lv_aload_n hx hb d_M_aborts_76 rfl (lv_at hl 0 rfl) ?_
          refine lv_iconst (v := 5) hx hb d_M_aborts_77 (by decide) ?_
          refine lv_iload_n hx hb d_M_aborts_78 rfl (lv_at hl 2 rfl) ?_
          refine lv_iconst (v := 0) hx hb d_M_aborts_79 (by decide) ?_
          refine ncn_i (As := [.int 5, .int v3, .int 0]) (c_M_append hq (MA) (MD) (MF) (MG) (ML) (MN) (MP) (MT) (MV) (5) (v3) (0) _ hwp) (cwV 3 hts g_M_121 rfl rfl rfl hd_M_append ⟨Nat.le_of_ble_eq_true rfl, Nat.le_of_ble_eq_true rfl⟩) hx hb hml hown hts hK hP hS hl.1 d_M_aborts_80 (va_recv (q := (R_M, F_M, 39)) hK hP (ci := 7) (q0 := 0) rfl rfl) rfl (lv_room (Nat.le_of_ble_eq_true rfl)) (Nat.zero_le _) (Nat.zero_le _) rfl (fun r8 MG9 H locs hwp hP hS => ?_)
          have hP : va_P (dC, dI) clZ (wM cI cL cZ q MA MD MF MG9 ML MN MP MT MV) H := hP
          refine lv_istore (lv' := [(4, .int r8), (0, .ref (q 0)), (2, .int v2), (3, .int v3)]) hx hb d_M_aborts_83 hl (by decide) rfl (fun ls hl => ?_)
          refine lv_aload_n hx hb d_M_aborts_85 rfl (lv_at hl 1 rfl) ?_
          refine va_get (D := (dC, dI)) (ci := 7) (v := .ref (q 18)) (C := R_M) (T := F_M) (N := 39) hx hb hts hiM hown hK hP 0 rfl rfl 23 (by decide) lk62 (fun _ h9 => h9) rfl d_M_aborts_86 ?_
          refine lv_aload_n hx hb d_M_aborts_89 rfl (lv_at hl 1 rfl) ?_
          refine va_get (D := (dC, dI)) (ci := 7) (v := .ref (q 11)) (C := R_M) (T := F_M) (N := 39) hx hb hts hiM hown hK hP 0 rfl rfl 15 (by decide) lk41 (fun _ h9 => h9) rfl d_M_aborts_90 ?_
          refine lv_iload hx hb d_M_aborts_93 (lv_at hl 0 rfl) ?_
          refine va_iald hx hb hK hP 11 0 rfl rfl hwp.1 d_M_aborts_95 ?_
          have hwp := hwp.2
          refine lv_iconst (v := 4) hx hb d_M_aborts_96 (by decide) ?_
          refine va_iast hx hb hK hP (dM hq) hS 18 0 rfl rfl hwp.1 d_M_aborts_97 (fun H locs hP _ hS => ?_)
          have hwp := hwp.2
          have hP : va_P (dC, dI) clZ (wM cI cL cZ q MA MD MF MG9 ML MN MP (MT_state' MT (upd (MT_state MT) (Int32.toNatClampNeg ((MG_by MG9) (Int32.toNatClampNeg r8))) 4)) MV) H := hP
          refine lv_aload_n hx hb d_M_aborts_98 rfl (lv_at hl 1 rfl) ?_
          refine lv_iload_n hx hb d_M_aborts_99 rfl (lv_at hl 3 rfl) ?_
          refine ncn_v (As := [.int v3]) (c_M_unlock hq (MA) (MD) (MF) (MG9) (ML) (MN) (MP) ((MT_state' MT (upd (MT_state MT) (Int32.toNatClampNeg ((MG_by MG9) (Int32.toNatClampNeg r8))) 4))) (MV) (v3) _ hwp) (cwV 1 hts g_M_245 rfl rfl rfl hd_M_unlock ⟨Nat.le_of_ble_eq_true rfl, Nat.le_of_ble_eq_true rfl⟩) hx hb hml hown hts hK hP hS hl.1 d_M_aborts_100 (va_recv (q := (R_M, F_M, 39)) hK hP (ci := 7) (q0 := 0) rfl rfl) rfl (lv_room (Nat.le_of_ble_eq_true rfl)) (Nat.zero_le _) (Nat.zero_le _) rfl (fun ML10 H locs hwp hP hS => ?_)
          have hP : va_P (dC, dI) clZ (wM cI cL cZ q MA MD MF MG9 ML10 MN MP (MT_state' MT (upd (MT_state MT) (Int32.toNatClampNeg ((MG_by MG9) (Int32.toNatClampNeg r8))) 4)) MV) H := hP
          refine lv_iinc (k := 3) (v := (v3 + (-1))) (lv' := [(3, .int (v3 + (-1))), (4, .int r8), (0, .ref (q 0)), (2, .int v2)]) hx hb d_M_aborts_103 hl rfl (ii_m1 _) (by decide) rfl (fun ls hl => ?_)
          refine lv_goto hx hb d_M_aborts_106 (tgt := 63) (by decide) ?_
          exact ih ((v3 + (-1))) (MG9) (ML10) ((MT_state' MT (upd (MT_state MT) (Int32.toNatClampNeg ((MG_by MG9) (Int32.toNatClampNeg r8))) 4))) _ _ _ (lv_sub hl [2, 3, 0] rfl) hP hS hwp hX
  rw [wp_M_aborts] at hwp
  refine lv_iconst (v := 0) hx hb d_M_aborts_0 (by decide) ?_
  refine lv_istore_n (lv' := [(2, .int 0), (0, .ref (q 0)), (1, .int a1)]) hx hb d_M_aborts_1 rfl hl (by decide) rfl (fun ls hl => ?_)
  obtain ⟨e2, hwp⟩ := hwp
  refine L2 _ (MA) (MD) (MG) (ML) (MT) (a1) e2 (0) (MF) _ _ _ (lv_sub hl [1, 2, 0] rfl) hP hS hwp (fun MF3 H locs ls hl hP hS hwp => ?_)
  refine lv_aload_n hx hb d_M_aborts_49 rfl (lv_at hl 0 rfl) ?_
  refine lv_iload_n hx hb d_M_aborts_50 rfl (lv_at hl 1 rfl) ?_
  refine lv_iconst (v := 0) hx hb d_M_aborts_51 (by decide) ?_
  refine ncn_i (As := [.int a1, .int 0]) (c_M_undoes hq (MA) (MD) (MF3) (MG) (ML) (MN) (MP) (MT) (MV) (a1) (0) _ hwp) (cwV 2 hts g_M_252 rfl rfl rfl hd_M_undoes ⟨Nat.le_of_ble_eq_true rfl, Nat.le_of_ble_eq_true rfl⟩) hx hb hml hown hts hK hP hS hl.1 d_M_aborts_52 (va_recv (q := (R_M, F_M, 39)) hK hP (ci := 7) (q0 := 0) rfl rfl) rfl (lv_room (Nat.le_of_ble_eq_true rfl)) (Nat.zero_le _) (Nat.zero_le _) rfl (fun r4 u H locs hwp hP hS => ?_)
  obtain ⟨MA5, MD6, MG7⟩ := u
  have hP : va_P (dC, dI) clZ (wM cI cL cZ q MA5 MD6 MF3 MG7 ML MN MP MT MV) H := hP
  refine lv_istore_n (lv' := [(2, .int r4), (0, .ref (q 0)), (1, .int a1)]) hx hb d_M_aborts_55 rfl hl (by decide) rfl (fun ls hl => ?_)
  refine lv_aload_n hx hb d_M_aborts_56 rfl (lv_at hl 1 rfl) ?_
  refine va_get (D := (dC, dI)) (ci := 7) (v := .int (MT_many MT)) (C := R_M) (T := F_M) (N := 39) hx hb hts hiM hown hK hP 0 rfl rfl 22 (by decide) lk147 (fun _ h9 => h9) rfl d_M_aborts_57 ?_
  refine lv_iconst (v := 1) hx hb d_M_aborts_60 (by decide) ?_
  refine lv_isub hx hb d_M_aborts_61 ?_
  refine lv_istore_n (lv' := [(3, .int ((MT_many MT) - 1)), (2, .int r4), (0, .ref (q 0)), (1, .int a1)]) hx hb d_M_aborts_62 rfl hl (by decide) rfl (fun ls hl => ?_)
  obtain ⟨e63, hwp⟩ := hwp
  refine L63 _ (MA5) (MD6) (MF3) (r4) e63 (((MT_many MT) - 1)) (MG7) (ML) (MT) _ _ _ (lv_sub hl [2, 1, 0] rfl) hP hS hwp (fun MG11 ML12 MT13 H locs ls hl hP hS hwp => ?_)
  refine lv_iload_n hx hb d_M_aborts_109 rfl (lv_at hl 0 rfl) ?_
  rw [hQ]
  exact W.iret (v := r4) hx hb hr (fun t ht hW => ⟨⟨r4, (MA5, MD6, MF3, MG11, ML12, MT13), rfl, hwp, hp_of ht hP⟩, hS.F ht⟩) hS.2.2 d_M_aborts_110

set_option maxHeartbeats 4000000 in
set_option maxRecDepth 100000 in
theorem c_M_stays {l : Launch} {dC : Nat → ClassId} {dI : Nat → Nat → Nat} {cI cL cZ : ClassId} {q : Nat → Nat} (hq : iM q) (MA : S_MA) (MD : S_MD) (MF : S_MF) (MG : S_MG) (ML : S_ML) (MN : S_MN) (MP : S_MP) (MT : S_MT) (MV : S_MV) (a1 : Int32) (a2 : Int32) (a3 : Int32) (a4 : Int32) (post : Int32 → S_MA → S_MD → S_MF → S_MG → S_ML → S_MP → S_MT → S_MV → Prop) (hwp : wp_M_stays MA MD MF MG ML MP MT MV a1 a2 a3 a4 post) : Met l y_M_stays ws_M_stays rm_M_stays (va_Pc [.ref (q 0), .int a1, .int a2, .int a3, .int a4] (bM dC dI cI cL cZ q MA MD MF MG ML MN MP MT MV)) (va_Qi (fun (r : Int32) (u : S_MA × S_MD × S_MF × S_MG × S_ML × S_MP × S_MT × S_MV) => post r u.1 u.2.1 u.2.2.1 u.2.2.2.1 u.2.2.2.2.1 u.2.2.2.2.2.1 u.2.2.2.2.2.2.1 u.2.2.2.2.2.2.2) (fun u t => va_P (dC, dI) clZ (wM cI cL cZ q (u.1) (u.2.1) (u.2.2.1) (u.2.2.2.1) (u.2.2.2.2.1) MN (u.2.2.2.2.2.1) (u.2.2.2.2.2.2.1) (u.2.2.2.2.2.2.2)) t.heap) (aM q)) 0 0 (aM q) := by
  refine Met.ofW (cc := b_M_stays) (maxL := 7) (ret := (some .int)) (by decide) rfl ?_
  intro p e s m args below meth c s₁ B hml hv
  obtain ⟨rfl, hP, hK⟩ := hv
  have hx := B.exec
  have hb := B.bytes
  have hr := B.returns
  have hts := atoms_spec (ws := ws_M_stays) B.pre
  have hown : s.vm.findClass R_M = some m.cls := findClass_of_methodNamed B.named
  have hlocks := B.notSynchronized
  have hiM : ∀ w ∈ u_ws R_M F_M 39, w ∈ ws_M_stays := fun w h => List.mem_cons_of_mem _ (in_M w h)
  have lk62 := hts _ (List.mem_cons_of_mem _ k_M_62)
  have lk74 := hts _ (List.mem_cons_of_mem _ k_M_74)
  have lk77 := hts _ (List.mem_cons_of_mem _ k_M_77)
  have lk80 := hts _ (List.mem_cons_of_mem _ k_M_80)
  have hS : va_S (aM q) s.heap s.heap [] := va_S.rf
  have hl := lv_entry ([.ref (q 0), .int a1, .int a2, .int a3, .int a4]) (n := 7) (Nat.le_of_ble_eq_true rfl)
  rw [lg_entry_eq]
  generalize (lg_sl ([.ref (q 0), .int a1, .int a2, .int a3, .int a4]) ++ List.replicate (7 - (lg_sl ([.ref (q 0), .int a1, .int a2, .int a3, .int a4])).length) Slot.unset).toArray = ls at hl ⊢
  have hl : lv_has ls 7 [(0, .ref (q 0)), (1, .int a1), (2, .int a2), (3, .int a3), (4, .int a4)] := hl
  obtain ⟨Q, hQ⟩ : ∃ Q, Q = MQ below (va_Qi (fun (r : Int32) (u : S_MA × S_MD × S_MF × S_MG × S_ML × S_MP × S_MT × S_MV) => post r u.1 u.2.1 u.2.2.1 u.2.2.2.1 u.2.2.2.2.1 u.2.2.2.2.2.1 u.2.2.2.2.2.2.1 u.2.2.2.2.2.2.2) (fun u t => va_P (dC, dI) clZ (wM cI cL cZ q (u.1) (u.2.1) (u.2.2.1) (u.2.2.2.1) (u.2.2.2.2.1) MN (u.2.2.2.2.2.1) (u.2.2.2.2.2.2.1) (u.2.2.2.2.2.2.2)) t.heap) (aM q)) ([.ref (q 0), .int a1, .int a2, .int a3, .int a4]).toArray s 0 0 (aM q) := ⟨_, rfl⟩
  rw [← hQ]
  have L32 : ∀ (Kx : S_MA → S_MD → S_MF → S_MG → S_ML → S_MP → S_MT → S_MV → Prop) (v1 : Int32) (n : Nat) (v5 : Int32) (MA : S_MA) (MD : S_MD) (MF : S_MF) (MG : S_MG) (ML : S_ML) (MP : S_MP) (MT : S_MT) (MV : S_MV) (H : Heap) (locs : List Loc) (ls : Array Slot), lv_has ls 7 [(0, .ref (q 0)), (1, .int v1), (5, .int v5)] → va_P (dC, dI) clZ (wM cI cL cZ q MA MD MF MG ML MN MP MT MV) H → va_S (aM q) s.heap H locs → wp_M_stays_L32 v1 post Kx n v5 MA MD MF MG ML MP MT MV → (∀ (MA1 : S_MA) (MD1 : S_MD) (MF1 : S_MF) (MG1 : S_MG) (ML1 : S_ML) (MP1 : S_MP) (MT1 : S_MT) (MV1 : S_MV) (H : Heap) (locs : List Loc) (ls : Array Slot), lv_has ls 7 [(0, .ref (q 0)), (1, .int v1)] → va_P (dC, dI) clZ (wM cI cL cZ q MA1 MD1 MF1 MG1 ML1 MN MP1 MT1 MV1) H → va_S (aM q) s.heap H locs → Kx MA1 MD1 MF1 MG1 ML1 MP1 MT1 MV1 → W p l e (headSpec ws_M_stays rm_M_stays).room s m ([.ref (q 0), .int a1, .int a2, .int a3, .int a4]).toArray below meth c H locs 0 0 Q (F0 m 75 ls [])) → W p l e (headSpec ws_M_stays rm_M_stays).room s m ([.ref (q 0), .int a1, .int a2, .int a3, .int a4]).toArray below meth c H locs 0 0 Q (F0 m 32 ls []) := by
    intro Kx v1 n
    induction n with
    | zero =>
      intros
      rename_i hwp _
      exact hwp.elim
    | succ n32 ih =>
      intro v5 MA MD MF MG ML MP MT MV H locs ls hl hP hS hwp hX
      rw [wp_M_stays_L32] at hwp
      refine lv_iload hx hb d_M_stays_32 (lv_at hl 2 rfl) ?_
      refine lv_bipush (v := 60) hx hb d_M_stays_34 (by decide) ?_
      refine lv_icmp_ge (tgt := 75) hx hb d_M_stays_36 (by decide) (fun hc => ?_) (fun hc => ?_)
      · rw [if_pos hc] at hwp
        exact hX (MA) (MD) (MF) (MG) (ML) (MP) (MT) (MV) _ _ _ (lv_sub hl [0, 1] rfl) hP hS hwp
      · rw [if_neg hc] at hwp
        refine lv_aload_n hx hb d_M_stays_39 rfl (lv_at hl 0 rfl) ?_
        refine lv_iload_n hx hb d_M_stays_40 rfl (lv_at hl 1 rfl) ?_
        refine ncn_i (As := [.int v1]) (c_M_live hq (MA) (MD) (MF) (MG) (ML) (MN) (MP) (MT) (MV) (v1) _ hwp) (cwV 1 hts g_M_150 rfl rfl rfl hd_M_live ⟨Nat.le_of_ble_eq_true rfl, Nat.le_of_ble_eq_true rfl⟩) hx hb hml hown hts hK hP hS hl.1 d_M_stays_41 (va_recv (q := (R_M, F_M, 39)) hK hP (ci := 7) (q0 := 0) rfl rfl) rfl (lv_room (Nat.le_of_ble_eq_true rfl)) (Nat.zero_le _) (Nat.zero_le _) rfl (fun r1 u H locs hwp hP hS => ?_)
        have hP : va_P (dC, dI) clZ (wM cI cL cZ q MA MD MF MG ML MN MP MT MV) H := hP
        refine lv_if_eq (tgt := 75) hx hb d_M_stays_44 (by decide) (fun hc => ?_) (fun hc => ?_)
        · rw [if_pos hc] at hwp
          exact hX (MA) (MD) (MF) (MG) (ML) (MP) (MT) (MV) _ _ _ (lv_sub hl [0, 1] rfl) hP hS hwp
        · rw [if_neg hc] at hwp
          refine lv_aload_n hx hb d_M_stays_47 rfl (lv_at hl 0 rfl) ?_
          refine lv_iload_n hx hb d_M_stays_48 rfl (lv_at hl 1 rfl) ?_
          refine ncn_i (As := [.int v1]) (c_M_victim hq (MA) (MD) (MF) (MG) (ML) (MN) (MP) (MT) (MV) (v1) _ hwp) (cwV 1 hts g_M_227 rfl rfl rfl hd_M_victim ⟨Nat.le_of_ble_eq_true rfl, Nat.le_of_ble_eq_true rfl⟩) hx hb hml hown hts hK hP hS hl.1 d_M_stays_49 (va_recv (q := (R_M, F_M, 39)) hK hP (ci := 7) (q0 := 0) rfl rfl) rfl (lv_room (Nat.le_of_ble_eq_true rfl)) (Nat.zero_le _) (Nat.zero_le _) rfl (fun r2 u H locs hwp hP hS => ?_)
          obtain ⟨MP3, MV4⟩ := u
          have hP : va_P (dC, dI) clZ (wM cI cL cZ q MA MD MF MG ML MN MP3 MT MV4) H := hP
          refine lv_istore (lv' := [(6, .int r2), (0, .ref (q 0)), (1, .int v1), (5, .int v5)]) hx hb d_M_stays_52 hl (by decide) rfl (fun ls hl => ?_)
          refine lv_iload hx hb d_M_stays_54 (lv_at hl 0 rfl) ?_
          refine lv_if_ge (tgt := 62) hx hb d_M_stays_56 (by decide) (fun hc => ?_) (fun hc => ?_)
          · rw [if_pos hc] at hwp
            refine lv_aload_n hx hb d_M_stays_62 rfl (lv_at hl 1 rfl) ?_
            refine lv_iload hx hb d_M_stays_63 (lv_at hl 0 rfl) ?_
            refine ncn_i (As := [.int r2]) (c_M_aborts hq (MA) (MD) (MF) (MG) (ML) (MN) (MP3) (MT) (MV4) (r2) _ hwp) (cwV 1 hts g_M_230 rfl rfl rfl hd_M_aborts ⟨Nat.le_of_ble_eq_true rfl, Nat.le_of_ble_eq_true rfl⟩) hx hb hml hown hts hK hP hS hl.1 d_M_stays_65 (va_recv (q := (R_M, F_M, 39)) hK hP (ci := 7) (q0 := 0) rfl rfl) rfl (lv_room (Nat.le_of_ble_eq_true rfl)) (Nat.zero_le _) (Nat.zero_le _) rfl (fun r5 u H locs hwp hP hS => ?_)
            obtain ⟨MA6, MD7, MF8, MG9, ML10, MT11⟩ := u
            have hP : va_P (dC, dI) clZ (wM cI cL cZ q MA6 MD7 MF8 MG9 ML10 MN MP3 MT11 MV4) H := hP
            refine lv_pop hx hb d_M_stays_68 rfl ?_
            refine lv_iinc (k := 3) (v := (v5 + 1)) (lv' := [(5, .int (v5 + 1)), (6, .int r2), (0, .ref (q 0)), (1, .int v1)]) hx hb d_M_stays_69 hl rfl (ii_1 _) (by decide) rfl (fun ls hl => ?_)
            refine lv_goto hx hb d_M_stays_72 (tgt := 32) (by decide) ?_
            exact ih ((v5 + 1)) (MA6) (MD7) (MF8) (MG9) (ML10) (MP3) (MT11) (MV4) _ _ _ (lv_sub hl [2, 3, 0] rfl) hP hS hwp hX
          · rw [if_neg hc] at hwp
            refine lv_bipush (v := (-2)) hx hb d_M_stays_59 (by decide) ?_
            rw [hQ]
            exact W.iret (v := (-2)) hx hb hr (fun t ht hW => ⟨⟨(-2), (MA, MD, MF, MG, ML, MP3, MT, MV4), rfl, hwp, hp_of ht hP⟩, hS.F ht⟩) hS.2.2 d_M_stays_61
  rw [wp_M_stays] at hwp
  refine lv_aload_n hx hb d_M_stays_0 rfl (lv_at hl 0 rfl) ?_
  refine va_get (D := (dC, dI)) (ci := 7) (v := .ref (q 18)) (C := R_M) (T := F_M) (N := 39) hx hb hts hiM hown hK hP 0 rfl rfl 23 (by decide) lk62 (fun _ h9 => h9) rfl d_M_stays_1 ?_
  refine lv_iload_n hx hb d_M_stays_4 rfl (lv_at hl 1 rfl) ?_
  refine lv_iconst (v := 2) hx hb d_M_stays_5 (by decide) ?_
  refine va_iast hx hb hK hP (dM hq) hS 18 0 rfl rfl hwp.1 d_M_stays_6 (fun H locs hP _ hS => ?_)
  have hwp := hwp.2
  have hP : va_P (dC, dI) clZ (wM cI cL cZ q MA MD MF MG ML MN MP (MT_state' MT (upd (MT_state MT) (Int32.toNatClampNeg a1) 2)) MV) H := hP
  refine lv_aload_n hx hb d_M_stays_7 rfl (lv_at hl 0 rfl) ?_
  refine va_get (D := (dC, dI)) (ci := 7) (v := .ref (q 22)) (C := R_M) (T := F_M) (N := 39) hx hb hts hiM hown hK hP 0 rfl rfl 27 (by decide) lk74 (fun _ h9 => h9) rfl d_M_stays_8 ?_
  refine lv_iload_n hx hb d_M_stays_11 rfl (lv_at hl 1 rfl) ?_
  refine lv_iload_n hx hb d_M_stays_12 rfl (lv_at hl 2 rfl) ?_
  refine va_iast hx hb hK hP (dM hq) hS 22 0 rfl rfl hwp.1 d_M_stays_13 (fun H locs hP _ hS => ?_)
  have hwp := hwp.2
  have hP : va_P (dC, dI) clZ (wM cI cL cZ q MA MD MF MG ML MN MP (MT_asks' (MT_state' MT (upd (MT_state MT) (Int32.toNatClampNeg a1) 2)) (upd (MT_asks MT) (Int32.toNatClampNeg a1) a2)) MV) H := hP
  refine lv_aload_n hx hb d_M_stays_14 rfl (lv_at hl 0 rfl) ?_
  refine va_get (D := (dC, dI)) (ci := 7) (v := .ref (q 23)) (C := R_M) (T := F_M) (N := 39) hx hb hts hiM hown hK hP 0 rfl rfl 28 (by decide) lk77 (fun _ h9 => h9) rfl d_M_stays_15 ?_
  refine lv_iload_n hx hb d_M_stays_18 rfl (lv_at hl 1 rfl) ?_
  refine lv_iload_n hx hb d_M_stays_19 rfl (lv_at hl 3 rfl) ?_
  refine va_iast hx hb hK hP (dM hq) hS 23 0 rfl rfl hwp.1 d_M_stays_20 (fun H locs hP _ hS => ?_)
  have hwp := hwp.2
  have hP : va_P (dC, dI) clZ (wM cI cL cZ q MA MD MF MG ML MN MP (MT_first' (MT_asks' (MT_state' MT (upd (MT_state MT) (Int32.toNatClampNeg a1) 2)) (upd (MT_asks MT) (Int32.toNatClampNeg a1) a2)) (upd (MT_first MT) (Int32.toNatClampNeg a1) a3)) MV) H := hP
  refine lv_aload_n hx hb d_M_stays_21 rfl (lv_at hl 0 rfl) ?_
  refine va_get (D := (dC, dI)) (ci := 7) (v := .ref (q 24)) (C := R_M) (T := F_M) (N := 39) hx hb hts hiM hown hK hP 0 rfl rfl 29 (by decide) lk80 (fun _ h9 => h9) rfl d_M_stays_22 ?_
  refine lv_iload_n hx hb d_M_stays_25 rfl (lv_at hl 1 rfl) ?_
  refine lv_iload hx hb d_M_stays_26 (lv_at hl 4 rfl) ?_
  refine va_iast hx hb hK hP (dM hq) hS 24 0 rfl rfl hwp.1 d_M_stays_28 (fun H locs hP _ hS => ?_)
  have hwp := hwp.2
  have hP : va_P (dC, dI) clZ (wM cI cL cZ q MA MD MF MG ML MN MP (MT_second' (MT_first' (MT_asks' (MT_state' MT (upd (MT_state MT) (Int32.toNatClampNeg a1) 2)) (upd (MT_asks MT) (Int32.toNatClampNeg a1) a2)) (upd (MT_first MT) (Int32.toNatClampNeg a1) a3)) (upd (MT_second MT) (Int32.toNatClampNeg a1) a4)) MV) H := hP
  refine lv_iconst (v := 0) hx hb d_M_stays_29 (by decide) ?_
  refine lv_istore (lv' := [(5, .int 0), (0, .ref (q 0)), (1, .int a1), (2, .int a2), (3, .int a3), (4, .int a4)]) hx hb d_M_stays_30 hl (by decide) rfl (fun ls hl => ?_)
  obtain ⟨e32, hwp⟩ := hwp
  refine L32 _ (a1) e32 (0) (MA) (MD) (MF) (MG) (ML) (MP) ((MT_second' (MT_first' (MT_asks' (MT_state' MT (upd (MT_state MT) (Int32.toNatClampNeg a1) 2)) (upd (MT_asks MT) (Int32.toNatClampNeg a1) a2)) (upd (MT_first MT) (Int32.toNatClampNeg a1) a3)) (upd (MT_second MT) (Int32.toNatClampNeg a1) a4))) (MV) _ _ _ (lv_sub hl [1, 2, 0] rfl) hP hS hwp (fun MA12 MD13 MF14 MG15 ML16 MP17 MT18 MV19 H locs ls hl hP hS hwp => ?_)
  refine lv_aload_n hx hb d_M_stays_75 rfl (lv_at hl 0 rfl) ?_
  refine lv_iload_n hx hb d_M_stays_76 rfl (lv_at hl 1 rfl) ?_
  refine ncn_i (As := [.int a1]) (c_M_live hq (MA12) (MD13) (MF14) (MG15) (ML16) (MN) (MP17) (MT18) (MV19) (a1) _ hwp) (cwV 1 hts g_M_150 rfl rfl rfl hd_M_live ⟨Nat.le_of_ble_eq_true rfl, Nat.le_of_ble_eq_true rfl⟩) hx hb hml hown hts hK hP hS hl.1 d_M_stays_77 (va_recv (q := (R_M, F_M, 39)) hK hP (ci := 7) (q0 := 0) rfl rfl) rfl (lv_room (Nat.le_of_ble_eq_true rfl)) (Nat.zero_le _) (Nat.zero_le _) rfl (fun r20 u H locs hwp hP hS => ?_)
  have hP : va_P (dC, dI) clZ (wM cI cL cZ q MA12 MD13 MF14 MG15 ML16 MN MP17 MT18 MV19) H := hP
  refine lv_if_eq (tgt := 88) hx hb d_M_stays_80 (by decide) (fun hc => ?_) (fun hc => ?_)
  · rw [if_pos hc] at hwp
    refine lv_bipush (v := (-3)) hx hb d_M_stays_88 (by decide) ?_
    rw [hQ]
    exact W.iret (v := (-3)) hx hb hr (fun t ht hW => ⟨⟨(-3), (MA12, MD13, MF14, MG15, ML16, MP17, MT18, MV19), rfl, hwp, hp_of ht hP⟩, hS.F ht⟩) hS.2.2 d_M_stays_90
  · rw [if_neg hc] at hwp
    refine lv_bipush (v := (-2)) hx hb d_M_stays_83 (by decide) ?_
    refine lv_goto hx hb d_M_stays_85 (tgt := 90) (by decide) ?_
    rw [hQ]
    exact W.iret (v := (-2)) hx hb hr (fun t ht hW => ⟨⟨(-2), (MA12, MD13, MF14, MG15, ML16, MP17, MT18, MV19), rfl, hwp, hp_of ht hP⟩, hS.F ht⟩) hS.2.2 d_M_stays_90

set_option maxHeartbeats 4000000 in
set_option maxRecDepth 100000 in
theorem c_M_scanned {l : Launch} {dC : Nat → ClassId} {dI : Nat → Nat → Nat} {cI cL cZ : ClassId} {q : Nat → Nat} (hq : iM q) (MA : S_MA) (MD : S_MD) (MF : S_MF) (MG : S_MG) (ML : S_ML) (MN : S_MN) (MP : S_MP) (MT : S_MT) (MV : S_MV) (a1 : Int32) (a2 : Int32) (post : Int32 → S_MA → S_MD → S_MG → S_MN → Prop) (hwp : wp_M_scanned MA MD MG MN a1 a2 post) : Met l y_M_scanned ws_M_scanned rm_M_scanned (va_Pc [.ref (q 0), .int a1, .int a2] (bM dC dI cI cL cZ q MA MD MF MG ML MN MP MT MV)) (va_Qi (fun (r : Int32) (u : S_MA × S_MD × S_MG × S_MN) => post r u.1 u.2.1 u.2.2.1 u.2.2.2) (fun u t => va_P (dC, dI) clZ (wM cI cL cZ q (u.1) (u.2.1) MF (u.2.2.1) ML (u.2.2.2) MP MT MV) t.heap) (aM q)) 0 0 (aM q) := by
  refine Met.ofW (cc := b_M_scanned) (maxL := 5) (ret := (some .int)) (by decide) rfl ?_
  intro p e s m args below meth c s₁ B hml hv
  obtain ⟨rfl, hP, hK⟩ := hv
  have hx := B.exec
  have hb := B.bytes
  have hr := B.returns
  have hts := atoms_spec (ws := ws_M_scanned) B.pre
  have hown : s.vm.findClass R_M = some m.cls := findClass_of_methodNamed B.named
  have hlocks := B.notSynchronized
  have hiM : ∀ w ∈ u_ws R_M F_M 39, w ∈ ws_M_scanned := fun w h => List.mem_cons_of_mem _ (in_M w h)
  have lk216 := hts _ (List.mem_cons_of_mem _ k_M_216)
  have hS : va_S (aM q) s.heap s.heap [] := va_S.rf
  have hl := lv_entry ([.ref (q 0), .int a1, .int a2]) (n := 5) (Nat.le_of_ble_eq_true rfl)
  rw [lg_entry_eq]
  generalize (lg_sl ([.ref (q 0), .int a1, .int a2]) ++ List.replicate (5 - (lg_sl ([.ref (q 0), .int a1, .int a2])).length) Slot.unset).toArray = ls at hl ⊢
  have hl : lv_has ls 5 [(0, .ref (q 0)), (1, .int a1), (2, .int a2)] := hl
  obtain ⟨Q, hQ⟩ : ∃ Q, Q = MQ below (va_Qi (fun (r : Int32) (u : S_MA × S_MD × S_MG × S_MN) => post r u.1 u.2.1 u.2.2.1 u.2.2.2) (fun u t => va_P (dC, dI) clZ (wM cI cL cZ q (u.1) (u.2.1) MF (u.2.2.1) ML (u.2.2.2) MP MT MV) t.heap) (aM q)) ([.ref (q 0), .int a1, .int a2]).toArray s 0 0 (aM q) := ⟨_, rfl⟩
  rw [← hQ]
  have L4 : ∀ (Kx : S_MA → S_MD → S_MG → Prop) (MN : S_MN) (v1 : Int32) (v2 : Int32) (n : Nat) (v3 : Int32) (MA : S_MA) (MD : S_MD) (MG : S_MG) (H : Heap) (locs : List Loc) (ls : Array Slot), lv_has ls 5 [(0, .ref (q 0)), (1, .int v1), (2, .int v2), (3, .int v3)] → va_P (dC, dI) clZ (wM cI cL cZ q MA MD MF MG ML MN MP MT MV) H → va_S (aM q) s.heap H locs → wp_M_scanned_L4 v1 v2 Kx n v3 MA MD MG → (∀ (MA1 : S_MA) (MD1 : S_MD) (MG1 : S_MG) (H : Heap) (locs : List Loc) (ls : Array Slot), lv_has ls 5 [(0, .ref (q 0)), (1, .int v1), (2, .int v2)] → va_P (dC, dI) clZ (wM cI cL cZ q MA1 MD1 MF MG1 ML MN MP MT MV) H → va_S (aM q) s.heap H locs → Kx MA1 MD1 MG1 → W p l e (headSpec ws_M_scanned rm_M_scanned).room s m ([.ref (q 0), .int a1, .int a2]).toArray below meth c H locs 0 0 Q (F0 m 22 ls [])) → W p l e (headSpec ws_M_scanned rm_M_scanned).room s m ([.ref (q 0), .int a1, .int a2]).toArray below meth c H locs 0 0 Q (F0 m 4 ls []) := by
    intro Kx MN v1 v2 n
    induction n with
    | zero =>
      intros
      rename_i hwp _
      exact hwp.elim
    | succ n4 ih =>
      intro v3 MA MD MG H locs ls hl hP hS hwp hX
      rw [wp_M_scanned_L4] at hwp
      refine lv_iload_n hx hb d_M_scanned_4 rfl (lv_at hl 3 rfl) ?_
      refine lv_iload_n hx hb d_M_scanned_5 rfl (lv_at hl 2 rfl) ?_
      refine lv_iconst (v := 4) hx hb d_M_scanned_6 (by decide) ?_
      refine lv_idiv hx hb d_M_scanned_7 (by decide) ?_
      refine lv_icmp_gt (tgt := 22) hx hb d_M_scanned_8 (by decide) (fun hc => ?_) (fun hc => ?_)
      · rw [if_pos hc] at hwp
        exact hX (MA) (MD) (MG) _ _ _ (lv_sub hl [0, 1, 2] rfl) hP hS hwp
      · rw [if_neg hc] at hwp
        refine lv_aload_n hx hb d_M_scanned_11 rfl (lv_at hl 0 rfl) ?_
        refine lv_iload_n hx hb d_M_scanned_12 rfl (lv_at hl 3 rfl) ?_
        refine ncn_v (As := [.int v3]) (c_M_touch hq (MA) (MD) (MF) (MG) (ML) (MN) (MP) (MT) (MV) (v3) _ hwp) (cwV 1 hts g_M_125 rfl rfl rfl hd_M_touch ⟨Nat.le_of_ble_eq_true rfl, Nat.le_of_ble_eq_true rfl⟩) hx hb hml hown hts hK hP hS hl.1 d_M_scanned_13 (va_recv (q := (R_M, F_M, 39)) hK hP (ci := 7) (q0 := 0) rfl rfl) rfl (lv_room (Nat.le_of_ble_eq_true rfl)) (Nat.zero_le _) (Nat.zero_le _) rfl (fun u H locs hwp hP hS => ?_)
        obtain ⟨MA1, MD2, MG3⟩ := u
        have hP : va_P (dC, dI) clZ (wM cI cL cZ q MA1 MD2 MF MG3 ML MN MP MT MV) H := hP
        refine lv_iinc (k := 3) (v := (v3 + 1)) (lv' := [(3, .int (v3 + 1)), (0, .ref (q 0)), (1, .int v1), (2, .int v2)]) hx hb d_M_scanned_16 hl rfl (ii_1 _) (by decide) rfl (fun ls hl => ?_)
        refine lv_goto hx hb d_M_scanned_19 (tgt := 4) (by decide) ?_
        exact ih ((v3 + 1)) (MA1) (MD2) (MG3) _ _ _ (lv_sub hl [1, 2, 3, 0] rfl) hP hS hwp hX
  have L32 : ∀ (Kx : Int32 → S_MN → Prop) (MA : S_MA) (MD : S_MD) (MG : S_MG) (v2 : Int32) (n : Nat) (v3 : Int32) (v4 : Int32) (MN : S_MN) (H : Heap) (locs : List Loc) (ls : Array Slot), lv_has ls 5 [(0, .ref (q 0)), (2, .int v2), (3, .int v3), (4, .int v4)] → va_P (dC, dI) clZ (wM cI cL cZ q MA MD MF MG ML MN MP MT MV) H → va_S (aM q) s.heap H locs → wp_M_scanned_L32 MA MD v2 Kx n v3 v4 MN → (∀ (x3 : Int32) (MN1 : S_MN) (H : Heap) (locs : List Loc) (ls : Array Slot), lv_has ls 5 [(3, .int x3)] → va_P (dC, dI) clZ (wM cI cL cZ q MA MD MF MG ML MN1 MP MT MV) H → va_S (aM q) s.heap H locs → Kx x3 MN1 → W p l e (headSpec ws_M_scanned rm_M_scanned).room s m ([.ref (q 0), .int a1, .int a2]).toArray below meth c H locs 0 0 Q (F0 m 76 ls [])) → W p l e (headSpec ws_M_scanned rm_M_scanned).room s m ([.ref (q 0), .int a1, .int a2]).toArray below meth c H locs 0 0 Q (F0 m 32 ls []) := by
    intro Kx MA MD MG v2 n
    induction n with
    | zero =>
      intros
      rename_i hwp _
      exact hwp.elim
    | succ n32 ih =>
      intro v3 v4 MN H locs ls hl hP hS hwp hX
      rw [wp_M_scanned_L32] at hwp
      refine lv_iload hx hb d_M_scanned_32 (lv_at hl 3 rfl) ?_
      refine lv_iload_n hx hb d_M_scanned_34 rfl (lv_at hl 1 rfl) ?_
      refine lv_icmp_gt (tgt := 76) hx hb d_M_scanned_35 (by decide) (fun hc => ?_) (fun hc => ?_)
      · rw [if_pos hc] at hwp
        exact hX (v3) (MN) _ _ _ (lv_sub hl [2] rfl) hP hS hwp
      · rw [if_neg hc] at hwp
        refine lv_iload_n hx hb d_M_scanned_38 rfl (lv_at hl 2 rfl) ?_
        refine lv_aload_n hx hb d_M_scanned_39 rfl (lv_at hl 0 rfl) ?_
        refine lv_iload hx hb d_M_scanned_40 (lv_at hl 3 rfl) ?_
        refine ncn_i (As := [.int v4]) (c_M_isThereNow hq (MA) (MD) (MF) (MG) (ML) (MN) (MP) (MT) (MV) (v4) _ hwp) (cwV 1 hts g_M_172 rfl rfl rfl hd_M_isThereNow ⟨Nat.le_of_ble_eq_true rfl, Nat.le_of_ble_eq_true rfl⟩) hx hb hml hown hts hK hP hS hl.1 d_M_scanned_42 (va_recv (q := (R_M, F_M, 39)) hK hP (ci := 7) (q0 := 0) rfl rfl) rfl (lv_room (Nat.le_of_ble_eq_true rfl)) (Nat.zero_le _) (Nat.zero_le _) rfl (fun r7 u H locs hwp hP hS => ?_)
        have hP : va_P (dC, dI) clZ (wM cI cL cZ q MA MD MF MG ML MN MP MT MV) H := hP
        refine jn_split hwp (fun jk53 hjk hwp => ?_)
        have J53 : ∀ (b8 : Int32) (H : Heap) (locs : List Loc) (ls : Array Slot), lv_has ls 5 [(0, .ref (q 0)), (2, .int v2), (4, .int v4)] → va_P (dC, dI) clZ (wM cI cL cZ q MA MD MF MG ML MN MP MT MV) H → va_S (aM q) s.heap H locs → jk53 b8 → W p l e (headSpec ws_M_scanned rm_M_scanned).room s m ([.ref (q 0), .int a1, .int a2]).toArray below meth c H locs 0 0 Q (F0 m 53 ls [.int b8, .int v3]) := by
          intro b8 H locs ls hl hP hS hwp
          rw [hjk] at hwp
          refine lv_iadd hx hb d_M_scanned_53 ?_
          refine lv_istore_n (lv' := [(3, .int (v3 + b8)), (0, .ref (q 0)), (2, .int v2), (4, .int v4)]) hx hb d_M_scanned_54 rfl hl (by decide) rfl (fun ls hl => ?_)
          refine lv_aload_n hx hb d_M_scanned_55 rfl (lv_at hl 1 rfl) ?_
          refine lv_dup hx hb d_M_scanned_56 rfl ?_
          refine va_get (D := (dC, dI)) (ci := 7) (v := .int (MN_latest MN)) (C := R_M) (T := F_M) (N := 39) hx hb hts hiM hown hK hP 0 rfl rfl 38 (by decide) lk216 (fun _ h9 => h9) rfl d_M_scanned_57 ?_
          refine lv_aload_n hx hb d_M_scanned_60 rfl (lv_at hl 1 rfl) ?_
          refine lv_iload hx hb d_M_scanned_61 (lv_at hl 3 rfl) ?_
          refine ncn_i (As := [.int v4]) (c_M_valueNow hq (MA) (MD) (MF) (MG) (ML) (MN) (MP) (MT) (MV) (v4) _ hwp) (cwV 1 hts g_M_213 rfl rfl rfl hd_M_valueNow ⟨Nat.le_of_ble_eq_true rfl, Nat.le_of_ble_eq_true rfl⟩) hx hb hml hown hts hK hP hS hl.1 d_M_scanned_63 (va_recv (q := (R_M, F_M, 39)) hK hP (ci := 7) (q0 := 0) rfl rfl) rfl (lv_room (Nat.le_of_ble_eq_true rfl)) (Nat.zero_le _) (Nat.zero_le _) rfl (fun r9 u H locs hwp hP hS => ?_)
          have hP : va_P (dC, dI) clZ (wM cI cL cZ q MA MD MF MG ML MN MP MT MV) H := hP
          refine lv_iadd hx hb d_M_scanned_66 ?_
          refine va_put (D := (dC, dI)) (ci := 7) (v := .int ((MN_latest MN) + r9)) (ty := .int) (C := R_M) (T := F_M) (N := 39) hx hb hts hiM ty_M ty_M_ok nmx_M hown hK hP (dM hq) hS 0 rfl rfl 38 (by decide) lk216 (fun _ h9 => h9) rfl (by decide +kernel) rfl rfl (Nat.le_of_ble_eq_true rfl) d_M_scanned_67 (fun H locs hP _ hS => ?_)
          have hP : va_P (dC, dI) clZ (wM cI cL cZ q MA MD MF MG ML (MN_latest' MN ((MN_latest MN) + r9)) MP MT MV) H := hP
          refine lv_iinc (k := 3) (v := (v4 + 1)) (lv' := [(4, .int (v4 + 1)), (3, .int (v3 + b8)), (0, .ref (q 0)), (2, .int v2)]) hx hb d_M_scanned_70 hl rfl (ii_1 _) (by decide) rfl (fun ls hl => ?_)
          refine lv_goto hx hb d_M_scanned_73 (tgt := 32) (by decide) ?_
          exact ih ((v3 + b8)) ((v4 + 1)) ((MN_latest' MN ((MN_latest MN) + r9))) _ _ _ (lv_sub hl [2, 3, 1, 0] rfl) hP hS hwp hX
        clear hjk
        refine lv_if_eq (tgt := 52) hx hb d_M_scanned_45 (by decide) (fun hc => ?_) (fun hc => ?_)
        · rw [if_pos hc] at hwp
          refine lv_iconst (v := 0) hx hb d_M_scanned_52 (by decide) ?_
          exact J53 (0) _ _ _ (lv_sub hl [0, 1, 3] rfl) hP hS hwp
        · rw [if_neg hc] at hwp
          refine lv_iconst (v := 1) hx hb d_M_scanned_48 (by decide) ?_
          refine lv_goto hx hb d_M_scanned_49 (tgt := 53) (by decide) ?_
          exact J53 (1) _ _ _ (lv_sub hl [0, 1, 3] rfl) hP hS hwp
  rw [wp_M_scanned] at hwp
  refine lv_iload_n hx hb d_M_scanned_0 rfl (lv_at hl 1 rfl) ?_
  refine lv_iconst (v := 4) hx hb d_M_scanned_1 (by decide) ?_
  refine lv_idiv hx hb d_M_scanned_2 (by decide) ?_
  refine lv_istore_n (lv' := [(3, .int (a1 / 4)), (0, .ref (q 0)), (1, .int a1), (2, .int a2)]) hx hb d_M_scanned_3 rfl hl (by decide) rfl (fun ls hl => ?_)
  obtain ⟨e4, hwp⟩ := hwp
  refine L4 _ (MN) (a1) (a2) e4 ((a1 / 4)) (MA) (MD) (MG) _ _ _ (lv_sub hl [1, 2, 3, 0] rfl) hP hS hwp (fun MA4 MD5 MG6 H locs ls hl hP hS hwp => ?_)
  refine lv_iconst (v := 0) hx hb d_M_scanned_22 (by decide) ?_
  refine lv_istore_n (lv' := [(3, .int 0), (0, .ref (q 0)), (1, .int a1), (2, .int a2)]) hx hb d_M_scanned_23 rfl hl (by decide) rfl (fun ls hl => ?_)
  refine lv_aload_n hx hb d_M_scanned_24 rfl (lv_at hl 1 rfl) ?_
  refine lv_iconst (v := 0) hx hb d_M_scanned_25 (by decide) ?_
  refine va_put (D := (dC, dI)) (ci := 7) (v := .int 0) (ty := .int) (C := R_M) (T := F_M) (N := 39) hx hb hts hiM ty_M ty_M_ok nmx_M hown hK hP (dM hq) hS 0 rfl rfl 38 (by decide) lk216 (fun _ h9 => h9) rfl (by decide +kernel) rfl rfl (Nat.le_of_ble_eq_true rfl) d_M_scanned_26 (fun H locs hP _ hS => ?_)
  have hP : va_P (dC, dI) clZ (wM cI cL cZ q MA4 MD5 MF MG6 ML (MN_latest' MN 0) MP MT MV) H := hP
  refine lv_iload_n hx hb d_M_scanned_29 rfl (lv_at hl 2 rfl) ?_
  refine lv_istore (lv' := [(4, .int a1), (3, .int 0), (0, .ref (q 0)), (1, .int a1), (2, .int a2)]) hx hb d_M_scanned_30 hl (by decide) rfl (fun ls hl => ?_)
  obtain ⟨e32, hwp⟩ := hwp
  refine L32 _ (MA4) (MD5) (MG6) (a2) e32 (0) (a1) ((MN_latest' MN 0)) _ _ _ (lv_sub hl [2, 4, 1, 0] rfl) hP hS hwp (fun x10 MN11 H locs ls hl hP hS hwp => ?_)
  refine lv_iload_n hx hb d_M_scanned_76 rfl (lv_at hl 0 rfl) ?_
  rw [hQ]
  exact W.iret (v := x10) hx hb hr (fun t ht hW => ⟨⟨x10, (MA4, MD5, MG6, MN11), rfl, hwp, hp_of ht hP⟩, hS.F ht⟩) hS.2.2 d_M_scanned_77

set_option maxHeartbeats 4000000 in
set_option maxRecDepth 100000 in
theorem c_M_request {l : Launch} {dC : Nat → ClassId} {dI : Nat → Nat → Nat} {cI cL cZ : ClassId} {q : Nat → Nat} (hq : iM q) (MA : S_MA) (MD : S_MD) (MF : S_MF) (MG : S_MG) (ML : S_ML) (MN : S_MN) (MP : S_MP) (MT : S_MT) (MV : S_MV) (a1 : Int32) (a2 : Int32) (a3 : Int32) (a4 : Int32) (post : Int32 → S_MA → S_MD → S_MF → S_MG → S_ML → S_MN → S_MP → S_MT → S_MV → Prop) (hwp : wp_M_request MA MD MF MG ML MN MP MT MV a1 a2 a3 a4 post) : Met l y_M_request ws_M_request rm_M_request (va_Pc [.ref (q 0), .int a1, .int a2, .int a3, .int a4] (bM dC dI cI cL cZ q MA MD MF MG ML MN MP MT MV)) (va_Qi (fun (r : Int32) (u : S_MA × S_MD × S_MF × S_MG × S_ML × S_MN × S_MP × S_MT × S_MV) => post r u.1 u.2.1 u.2.2.1 u.2.2.2.1 u.2.2.2.2.1 u.2.2.2.2.2.1 u.2.2.2.2.2.2.1 u.2.2.2.2.2.2.2.1 u.2.2.2.2.2.2.2.2) (fun u t => va_P (dC, dI) clZ (wM cI cL cZ q (u.1) (u.2.1) (u.2.2.1) (u.2.2.2.1) (u.2.2.2.2.1) (u.2.2.2.2.2.1) (u.2.2.2.2.2.2.1) (u.2.2.2.2.2.2.2.1) (u.2.2.2.2.2.2.2.2)) t.heap) (aM q)) 0 0 (aM q) := by
  refine Met.ofW (cc := b_M_request) (maxL := 7) (ret := (some .int)) (by decide) rfl ?_
  intro p e s m args below meth c s₁ B hml hv
  obtain ⟨rfl, hP, hK⟩ := hv
  have hx := B.exec
  have hb := B.bytes
  have hr := B.returns
  have hts := atoms_spec (ws := ws_M_request) B.pre
  have hown : s.vm.findClass R_M = some m.cls := findClass_of_methodNamed B.named
  have hlocks := B.notSynchronized
  have hiM : ∀ w ∈ u_ws R_M F_M 39, w ∈ ws_M_request := fun w h => List.mem_cons_of_mem _ (in_M w h)
  have lk62 := hts _ (List.mem_cons_of_mem _ k_M_62)
  have lk71 := hts _ (List.mem_cons_of_mem _ k_M_71)
  have lk83 := hts _ (List.mem_cons_of_mem _ k_M_83)
  have lk175 := hts _ (List.mem_cons_of_mem _ k_M_175)
  have lk178 := hts _ (List.mem_cons_of_mem _ k_M_178)
  have lk216 := hts _ (List.mem_cons_of_mem _ k_M_216)
  have hS : va_S (aM q) s.heap s.heap [] := va_S.rf
  have hl := lv_entry ([.ref (q 0), .int a1, .int a2, .int a3, .int a4]) (n := 7) (Nat.le_of_ble_eq_true rfl)
  rw [lg_entry_eq]
  generalize (lg_sl ([.ref (q 0), .int a1, .int a2, .int a3, .int a4]) ++ List.replicate (7 - (lg_sl ([.ref (q 0), .int a1, .int a2, .int a3, .int a4])).length) Slot.unset).toArray = ls at hl ⊢
  have hl : lv_has ls 7 [(0, .ref (q 0)), (1, .int a1), (2, .int a2), (3, .int a3), (4, .int a4)] := hl
  obtain ⟨Q, hQ⟩ : ∃ Q, Q = MQ below (va_Qi (fun (r : Int32) (u : S_MA × S_MD × S_MF × S_MG × S_ML × S_MN × S_MP × S_MT × S_MV) => post r u.1 u.2.1 u.2.2.1 u.2.2.2.1 u.2.2.2.2.1 u.2.2.2.2.2.1 u.2.2.2.2.2.2.1 u.2.2.2.2.2.2.2.1 u.2.2.2.2.2.2.2.2) (fun u t => va_P (dC, dI) clZ (wM cI cL cZ q (u.1) (u.2.1) (u.2.2.1) (u.2.2.2.1) (u.2.2.2.2.1) (u.2.2.2.2.2.1) (u.2.2.2.2.2.2.1) (u.2.2.2.2.2.2.2.1) (u.2.2.2.2.2.2.2.2)) t.heap) (aM q)) ([.ref (q 0), .int a1, .int a2, .int a3, .int a4]).toArray s 0 0 (aM q) := ⟨_, rfl⟩
  rw [← hQ]
  have L18 : ∀ (Kx : S_MA → S_MD → S_MF → S_MG → S_ML → S_MP → S_MT → S_MV → Prop) (MN : S_MN) (v1 : Int32) (v2 : Int32) (v3 : Int32) (v4 : Int32) (n : Nat) (v5 : Int32) (MA : S_MA) (MD : S_MD) (MF : S_MF) (MG : S_MG) (ML : S_ML) (MP : S_MP) (MT : S_MT) (MV : S_MV) (H : Heap) (locs : List Loc) (ls : Array Slot), lv_has ls 7 [(0, .ref (q 0)), (1, .int v1), (2, .int v2), (3, .int v3), (4, .int v4), (5, .int v5)] → va_P (dC, dI) clZ (wM cI cL cZ q MA MD MF MG ML MN MP MT MV) H → va_S (aM q) s.heap H locs → wp_M_request_L18 MN v1 v2 v3 v4 post Kx n v5 MA MD MF MG ML MP MT MV → (∀ (MA1 : S_MA) (MD1 : S_MD) (MF1 : S_MF) (MG1 : S_MG) (ML1 : S_ML) (MP1 : S_MP) (MT1 : S_MT) (MV1 : S_MV) (H : Heap) (locs : List Loc) (ls : Array Slot), lv_has ls 7 [(0, .ref (q 0)), (1, .int v1), (2, .int v2), (3, .int v3), (4, .int v4)] → va_P (dC, dI) clZ (wM cI cL cZ q MA1 MD1 MF1 MG1 ML1 MN MP1 MT1 MV1) H → va_S (aM q) s.heap H locs → Kx MA1 MD1 MF1 MG1 ML1 MP1 MT1 MV1 → W p l e (headSpec ws_M_request rm_M_request).room s m ([.ref (q 0), .int a1, .int a2, .int a3, .int a4]).toArray below meth c H locs 0 0 Q (F0 m 101 ls [])) → W p l e (headSpec ws_M_request rm_M_request).room s m ([.ref (q 0), .int a1, .int a2, .int a3, .int a4]).toArray below meth c H locs 0 0 Q (F0 m 18 ls []) := by
    intro Kx MN v1 v2 v3 v4 n
    induction n with
    | zero =>
      intros
      rename_i hwp _
      exact hwp.elim
    | succ n18 ih =>
      intro v5 MA MD MF MG ML MP MT MV H locs ls hl hP hS hwp hX
      rw [wp_M_request_L18] at hwp
      refine lv_iload hx hb d_M_request_18 (lv_at hl 5 rfl) ?_
      refine lv_aload_n hx hb d_M_request_20 rfl (lv_at hl 0 rfl) ?_
      refine va_get (D := (dC, dI)) (ci := 7) (v := .int (MP_wanted MP)) (C := R_M) (T := F_M) (N := 39) hx hb hts hiM hown hK hP 0 rfl rfl 30 (by decide) lk175 (fun _ h9 => h9) rfl d_M_request_21 ?_
      refine lv_icmp_ge (tgt := 101) hx hb d_M_request_24 (by decide) (fun hc => ?_) (fun hc => ?_)
      · rw [if_pos hc] at hwp
        exact hX (MA) (MD) (MF) (MG) (ML) (MP) (MT) (MV) _ _ _ (lv_sub hl [0, 1, 2, 3, 4] rfl) hP hS hwp
      · rw [if_neg hc] at hwp
        refine lv_bipush (v := 33) hx hb d_M_request_27 (by decide) ?_
        refine lv_iload_n hx hb d_M_request_29 rfl (lv_at hl 1 rfl) ?_
        refine lv_imul hx hb d_M_request_30 ?_
        refine lv_aload_n hx hb d_M_request_31 rfl (lv_at hl 0 rfl) ?_
        refine va_get (D := (dC, dI)) (ci := 7) (v := .ref (q 25)) (C := R_M) (T := F_M) (N := 39) hx hb hts hiM hown hK hP 0 rfl rfl 31 (by decide) lk83 (fun _ h9 => h9) rfl d_M_request_32 ?_
        refine lv_iload hx hb d_M_request_35 (lv_at hl 5 rfl) ?_
        refine va_iald hx hb hK hP 25 0 rfl rfl hwp.1 d_M_request_37 ?_
        have hwp := hwp.2
        refine lv_iadd hx hb d_M_request_38 ?_
        refine lv_istore (lv' := [(6, .int ((33 * v1) + ((MP_item MP) (Int32.toNatClampNeg v5)))), (0, .ref (q 0)), (1, .int v1), (2, .int v2), (3, .int v3), (4, .int v4), (5, .int v5)]) hx hb d_M_request_39 hl (by decide) rfl (fun ls hl => ?_)
        refine lv_aload_n hx hb d_M_request_41 rfl (lv_at hl 1 rfl) ?_
        refine va_get (D := (dC, dI)) (ci := 7) (v := .ref (q 21)) (C := R_M) (T := F_M) (N := 39) hx hb hts hiM hown hK hP 0 rfl rfl 26 (by decide) lk71 (fun _ h9 => h9) rfl d_M_request_42 ?_
        refine lv_iload hx hb d_M_request_45 (lv_at hl 0 rfl) ?_
        refine va_iald hx hb hK hP 21 0 rfl rfl hwp.1 d_M_request_47 ?_
        have hwp := hwp.2
        refine lv_aload_n hx hb d_M_request_48 rfl (lv_at hl 1 rfl) ?_
        refine va_get (D := (dC, dI)) (ci := 7) (v := .int (MP_mode MP)) (C := R_M) (T := F_M) (N := 39) hx hb hts hiM hown hK hP 0 rfl rfl 32 (by decide) lk178 (fun _ h9 => h9) rfl d_M_request_49 ?_
        refine lv_icmp_ge (tgt := 95) hx hb d_M_request_52 (by decide) (fun hc => ?_) (fun hc => ?_)
        · rw [if_pos hc] at hwp
          refine lv_iinc (k := 6) (v := (v5 + 1)) (lv' := [(5, .int (v5 + 1)), (6, .int ((33 * v1) + ((MP_item MP) (Int32.toNatClampNeg v5)))), (0, .ref (q 0)), (1, .int v1), (2, .int v2), (3, .int v3), (4, .int v4)]) hx hb d_M_request_95 hl rfl (ii_1 _) (by decide) rfl (fun ls hl => ?_)
          refine lv_goto hx hb d_M_request_98 (tgt := 18) (by decide) ?_
          exact ih ((v5 + 1)) (MA) (MD) (MF) (MG) (ML) (MP) (MT) (MV) _ _ _ (lv_sub hl [2, 3, 4, 5, 6, 0] rfl) hP hS hwp hX
        · rw [if_neg hc] at hwp
          refine lv_aload_n hx hb d_M_request_55 rfl (lv_at hl 1 rfl) ?_
          refine lv_iload_n hx hb d_M_request_56 rfl (lv_at hl 2 rfl) ?_
          refine lv_aload_n hx hb d_M_request_57 rfl (lv_at hl 1 rfl) ?_
          refine va_get (D := (dC, dI)) (ci := 7) (v := .ref (q 25)) (C := R_M) (T := F_M) (N := 39) hx hb hts hiM hown hK hP 0 rfl rfl 31 (by decide) lk83 (fun _ h9 => h9) rfl d_M_request_58 ?_
          refine lv_iload hx hb d_M_request_61 (lv_at hl 6 rfl) ?_
          refine va_iald hx hb hK hP 25 0 rfl rfl hwp.1 d_M_request_63 ?_
          have hwp := hwp.2
          refine lv_aload_n hx hb d_M_request_64 rfl (lv_at hl 1 rfl) ?_
          refine va_get (D := (dC, dI)) (ci := 7) (v := .int (MP_mode MP)) (C := R_M) (T := F_M) (N := 39) hx hb hts hiM hown hK hP 0 rfl rfl 32 (by decide) lk178 (fun _ h9 => h9) rfl d_M_request_65 ?_
          refine ncn_i (As := [.int v1, .int ((MP_item MP) (Int32.toNatClampNeg v5)), .int (MP_mode MP)]) (c_M_may hq (MA) (MD) (MF) (MG) (ML) (MN) (MP) (MT) (MV) (v1) (((MP_item MP) (Int32.toNatClampNeg v5))) ((MP_mode MP)) _ hwp) (cwV 3 hts g_M_199 rfl rfl rfl hd_M_may ⟨Nat.le_of_ble_eq_true rfl, Nat.le_of_ble_eq_true rfl⟩) hx hb hml hown hts hK hP hS hl.1 d_M_request_68 (va_recv (q := (R_M, F_M, 39)) hK hP (ci := 7) (q0 := 0) rfl rfl) rfl (lv_room (Nat.le_of_ble_eq_true rfl)) (Nat.zero_le _) (Nat.zero_le _) rfl (fun r2 u H locs hwp hP hS => ?_)
          have hP : va_P (dC, dI) clZ (wM cI cL cZ q MA MD MF MG ML MN MP MT MV) H := hP
          refine lv_if_ne (tgt := 84) hx hb d_M_request_71 (by decide) (fun hc => ?_) (fun hc => ?_)
          · rw [if_neg hc] at hwp
            refine lv_aload_n hx hb d_M_request_84 rfl (lv_at hl 1 rfl) ?_
            refine va_get (D := (dC, dI)) (ci := 7) (v := .ref (q 21)) (C := R_M) (T := F_M) (N := 39) hx hb hts hiM hown hK hP 0 rfl rfl 26 (by decide) lk71 (fun _ h9 => h9) rfl d_M_request_85 ?_
            refine lv_iload hx hb d_M_request_88 (lv_at hl 0 rfl) ?_
            refine lv_aload_n hx hb d_M_request_90 rfl (lv_at hl 1 rfl) ?_
            refine va_get (D := (dC, dI)) (ci := 7) (v := .int (MP_mode MP)) (C := R_M) (T := F_M) (N := 39) hx hb hts hiM hown hK hP 0 rfl rfl 32 (by decide) lk178 (fun _ h9 => h9) rfl d_M_request_91 ?_
            refine va_iast hx hb hK hP (dM hq) hS 21 0 rfl rfl hwp.1 d_M_request_94 (fun H locs hP _ hS => ?_)
            have hwp := hwp.2
            have hP : va_P (dC, dI) clZ (wM cI cL cZ q MA MD MF MG (ML_locks' ML (upd (ML_locks ML) (Int32.toNatClampNeg ((33 * v1) + ((MP_item MP) (Int32.toNatClampNeg v5)))) (MP_mode MP))) MN MP MT MV) H := hP
            refine lv_iinc (k := 6) (v := (v5 + 1)) (lv' := [(5, .int (v5 + 1)), (6, .int ((33 * v1) + ((MP_item MP) (Int32.toNatClampNeg v5)))), (0, .ref (q 0)), (1, .int v1), (2, .int v2), (3, .int v3), (4, .int v4)]) hx hb d_M_request_95 hl rfl (ii_1 _) (by decide) rfl (fun ls hl => ?_)
            refine lv_goto hx hb d_M_request_98 (tgt := 18) (by decide) ?_
            exact ih ((v5 + 1)) (MA) (MD) (MF) (MG) ((ML_locks' ML (upd (ML_locks ML) (Int32.toNatClampNeg ((33 * v1) + ((MP_item MP) (Int32.toNatClampNeg v5)))) (MP_mode MP)))) (MP) (MT) (MV) _ _ _ (lv_sub hl [2, 3, 4, 5, 6, 0] rfl) hP hS hwp hX
          · rw [if_pos hc] at hwp
            refine lv_aload_n hx hb d_M_request_74 rfl (lv_at hl 1 rfl) ?_
            refine lv_iload_n hx hb d_M_request_75 rfl (lv_at hl 2 rfl) ?_
            refine lv_iload_n hx hb d_M_request_76 rfl (lv_at hl 3 rfl) ?_
            refine lv_iload_n hx hb d_M_request_77 rfl (lv_at hl 4 rfl) ?_
            refine lv_iload hx hb d_M_request_78 (lv_at hl 5 rfl) ?_
            refine ncn_i (As := [.int v1, .int v2, .int v3, .int v4]) (c_M_stays hq (MA) (MD) (MF) (MG) (ML) (MN) (MP) (MT) (MV) (v1) (v2) (v3) (v4) _ hwp) (cwV 4 hts g_M_209 rfl rfl rfl hd_M_stays ⟨Nat.le_of_ble_eq_true rfl, Nat.le_of_ble_eq_true rfl⟩) hx hb hml hown hts hK hP hS hl.1 d_M_request_80 (va_recv (q := (R_M, F_M, 39)) hK hP (ci := 7) (q0 := 0) rfl rfl) rfl (lv_room (Nat.le_of_ble_eq_true rfl)) (Nat.zero_le _) (Nat.zero_le _) rfl (fun r3 u H locs hwp hP hS => ?_)
            obtain ⟨MA4, MD5, MF6, MG7, ML8, MP9, MT10, MV11⟩ := u
            have hP : va_P (dC, dI) clZ (wM cI cL cZ q MA4 MD5 MF6 MG7 ML8 MN MP9 MT10 MV11) H := hP
            rw [hQ]
            exact W.iret (v := r3) hx hb hr (fun t ht hW => ⟨⟨r3, (MA4, MD5, MF6, MG7, ML8, MN, MP9, MT10, MV11), rfl, hwp, hp_of ht hP⟩, hS.F ht⟩) hS.2.2 d_M_request_83
  rw [wp_M_request] at hwp
  refine lv_aload_n hx hb d_M_request_0 rfl (lv_at hl 0 rfl) ?_
  refine va_get (D := (dC, dI)) (ci := 7) (v := .ref (q 18)) (C := R_M) (T := F_M) (N := 39) hx hb hts hiM hown hK hP 0 rfl rfl 23 (by decide) lk62 (fun _ h9 => h9) rfl d_M_request_1 ?_
  refine lv_iload_n hx hb d_M_request_4 rfl (lv_at hl 1 rfl) ?_
  refine lv_iconst (v := 1) hx hb d_M_request_5 (by decide) ?_
  refine va_iast hx hb hK hP (dM hq) hS 18 0 rfl rfl hwp.1 d_M_request_6 (fun H locs hP _ hS => ?_)
  have hwp := hwp.2
  have hP : va_P (dC, dI) clZ (wM cI cL cZ q MA MD MF MG ML MN MP (MT_state' MT (upd (MT_state MT) (Int32.toNatClampNeg a1) 1)) MV) H := hP
  refine lv_aload_n hx hb d_M_request_7 rfl (lv_at hl 0 rfl) ?_
  refine lv_iload_n hx hb d_M_request_8 rfl (lv_at hl 2 rfl) ?_
  refine lv_iload_n hx hb d_M_request_9 rfl (lv_at hl 3 rfl) ?_
  refine lv_iload hx hb d_M_request_10 (lv_at hl 4 rfl) ?_
  refine ncn_v (As := [.int a2, .int a3, .int a4]) (c_M_needs hq (MA) (MD) (MF) (MG) (ML) (MN) (MP) ((MT_state' MT (upd (MT_state MT) (Int32.toNatClampNeg a1) 1))) (MV) (a2) (a3) (a4) _ hwp) (cwV 3 hts g_M_195 rfl rfl rfl hd_M_needs ⟨Nat.le_of_ble_eq_true rfl, Nat.le_of_ble_eq_true rfl⟩) hx hb hml hown hts hK hP hS hl.1 d_M_request_12 (va_recv (q := (R_M, F_M, 39)) hK hP (ci := 7) (q0 := 0) rfl rfl) rfl (lv_room (Nat.le_of_ble_eq_true rfl)) (Nat.zero_le _) (Nat.zero_le _) rfl (fun MP1 H locs hwp hP hS => ?_)
  have hP : va_P (dC, dI) clZ (wM cI cL cZ q MA MD MF MG ML MN MP1 (MT_state' MT (upd (MT_state MT) (Int32.toNatClampNeg a1) 1)) MV) H := hP
  refine lv_iconst (v := 0) hx hb d_M_request_15 (by decide) ?_
  refine lv_istore (lv' := [(5, .int 0), (0, .ref (q 0)), (1, .int a1), (2, .int a2), (3, .int a3), (4, .int a4)]) hx hb d_M_request_16 hl (by decide) rfl (fun ls hl => ?_)
  obtain ⟨e18, hwp⟩ := hwp
  refine L18 _ (MN) (a1) (a2) (a3) (a4) e18 (0) (MA) (MD) (MF) (MG) (ML) (MP1) ((MT_state' MT (upd (MT_state MT) (Int32.toNatClampNeg a1) 1))) (MV) _ _ _ (lv_sub hl [1, 2, 3, 4, 5, 0] rfl) hP hS hwp (fun MA12 MD13 MF14 MG15 ML16 MP17 MT18 MV19 H locs ls hl hP hS hwp => ?_)
  refine lv_iload_n hx hb d_M_request_101 rfl (lv_at hl 2 rfl) ?_
  refine lv_iconst (v := 1) hx hb d_M_request_102 (by decide) ?_
  refine lv_icmp_ne (tgt := 136) hx hb d_M_request_103 (by decide) (fun hc => ?_) (fun hc => ?_)
  · rw [if_neg hc] at hwp
    refine lv_iload_n hx hb d_M_request_136 rfl (lv_at hl 2 rfl) ?_
    refine lv_iconst (v := 4) hx hb d_M_request_137 (by decide) ?_
    refine lv_icmp_ne (tgt := 149) hx hb d_M_request_138 (by decide) (fun hc => ?_) (fun hc => ?_)
    · rw [if_neg hc] at hwp
      refine lv_aload_n hx hb d_M_request_149 rfl (lv_at hl 0 rfl) ?_
      refine lv_iload_n hx hb d_M_request_150 rfl (lv_at hl 3 rfl) ?_
      refine ncn_i (As := [.int a3]) (c_M_isThereNow hq (MA12) (MD13) (MF14) (MG15) (ML16) (MN) (MP17) (MT18) (MV19) (a3) _ hwp) (cwV 1 hts g_M_172 rfl rfl rfl hd_M_isThereNow ⟨Nat.le_of_ble_eq_true rfl, Nat.le_of_ble_eq_true rfl⟩) hx hb hml hown hts hK hP hS hl.1 d_M_request_151 (va_recv (q := (R_M, F_M, 39)) hK hP (ci := 7) (q0 := 0) rfl rfl) rfl (lv_room (Nat.le_of_ble_eq_true rfl)) (Nat.zero_le _) (Nat.zero_le _) rfl (fun r20 u H locs hwp hP hS => ?_)
      have hP : va_P (dC, dI) clZ (wM cI cL cZ q MA12 MD13 MF14 MG15 ML16 MN MP17 MT18 MV19) H := hP
      refine lv_istore (lv' := [(5, .int r20), (0, .ref (q 0)), (1, .int a1), (2, .int a2), (3, .int a3), (4, .int a4)]) hx hb d_M_request_154 hl (by decide) rfl (fun ls hl => ?_)
      refine lv_iload_n hx hb d_M_request_156 rfl (lv_at hl 3 rfl) ?_
      refine lv_iconst (v := 3) hx hb d_M_request_157 (by decide) ?_
      refine lv_icmp_ne (tgt := 168) hx hb d_M_request_158 (by decide) (fun hc => ?_) (fun hc => ?_)
      · rw [if_neg hc] at hwp
        refine lv_aload_n hx hb d_M_request_168 rfl (lv_at hl 1 rfl) ?_
        refine ncn_i (As := []) (c_M_full hq (MA12) (MD13) (MF14) (MG15) (ML16) (MN) (MP17) (MT18) (MV19)  _ hwp) (cwV 0 hts g_M_168 rfl rfl rfl hd_M_full ⟨Nat.le_of_ble_eq_true rfl, Nat.le_of_ble_eq_true rfl⟩) hx hb hml hown hts hK hP hS hl.1 d_M_request_169 (va_recv (q := (R_M, F_M, 39)) hK hP (ci := 7) (q0 := 0) rfl rfl) rfl (lv_room (Nat.le_of_ble_eq_true rfl)) (Nat.zero_le _) (Nat.zero_le _) rfl (fun r21 u H locs hwp hP hS => ?_)
        have hP : va_P (dC, dI) clZ (wM cI cL cZ q MA12 MD13 MF14 MG15 ML16 MN MP17 MT18 MV19) H := hP
        refine lv_if_eq (tgt := 178) hx hb d_M_request_172 (by decide) (fun hc => ?_) (fun hc => ?_)
        · rw [if_pos hc] at hwp
          refine lv_aload_n hx hb d_M_request_178 rfl (lv_at hl 1 rfl) ?_
          refine lv_iload_n hx hb d_M_request_179 rfl (lv_at hl 2 rfl) ?_
          refine lv_iload_n hx hb d_M_request_180 rfl (lv_at hl 4 rfl) ?_
          refine lv_iload_n hx hb d_M_request_181 rfl (lv_at hl 3 rfl) ?_
          refine lv_iconst (v := 2) hx hb d_M_request_182 (by decide) ?_
          refine jn_split hwp (fun jk191 hjk hwp => ?_)
          have J191 : ∀ (b22 : Int32) (H : Heap) (locs : List Loc) (ls : Array Slot), lv_has ls 7 [(2, .int a2), (4, .int a4)] → va_P (dC, dI) clZ (wM cI cL cZ q MA12 MD13 MF14 MG15 ML16 MN MP17 MT18 MV19) H → va_S (aM q) s.heap H locs → jk191 b22 → W p l e (headSpec ws_M_request rm_M_request).room s m ([.ref (q 0), .int a1, .int a2, .int a3, .int a4]).toArray below meth c H locs 0 0 Q (F0 m 191 ls [.int b22, .int a3, .int a1, .ref (q 0)]) := by
            intro b22 H locs ls hl hP hS hwp
            rw [hjk] at hwp
            refine lv_iload hx hb d_M_request_191 (lv_at hl 1 rfl) ?_
            refine ncn_v (As := [.int a1, .int a3, .int b22, .int a4]) (c_M_update hq (MA12) (MD13) (MF14) (MG15) (ML16) (MN) (MP17) (MT18) (MV19) (a1) (a3) (b22) (a4) _ hwp) (cwV 4 hts g_M_223 rfl rfl rfl hd_M_update ⟨Nat.le_of_ble_eq_true rfl, Nat.le_of_ble_eq_true rfl⟩) hx hb hml hown hts hK hP hS hl.1 d_M_request_193 (va_recv (q := (R_M, F_M, 39)) hK hP (ci := 7) (q0 := 0) rfl rfl) rfl (lv_room (Nat.le_of_ble_eq_true rfl)) (Nat.zero_le _) (Nat.zero_le _) rfl (fun u H locs hwp hP hS => ?_)
            obtain ⟨MA23, MD24, MG25⟩ := u
            have hP : va_P (dC, dI) clZ (wM cI cL cZ q MA23 MD24 MF14 MG25 ML16 MN MP17 MT18 MV19) H := hP
            refine lv_iload_n hx hb d_M_request_196 rfl (lv_at hl 0 rfl) ?_
            refine lv_iconst (v := 2) hx hb d_M_request_197 (by decide) ?_
            refine lv_icmp_ne (tgt := 205) hx hb d_M_request_198 (by decide) (fun hc => ?_) (fun hc => ?_)
            · rw [if_neg hc] at hwp
              refine lv_iconst (v := 1) hx hb d_M_request_205 (by decide) ?_
              rw [hQ]
              exact W.iret (v := 1) hx hb hr (fun t ht hW => ⟨⟨1, (MA23, MD24, MF14, MG25, ML16, MN, MP17, MT18, MV19), rfl, hwp, hp_of ht hP⟩, hS.F ht⟩) hS.2.2 d_M_request_206
            · rw [if_pos hc] at hwp
              refine lv_iconst (v := 0) hx hb d_M_request_201 (by decide) ?_
              refine lv_goto hx hb d_M_request_202 (tgt := 206) (by decide) ?_
              rw [hQ]
              exact W.iret (v := 0) hx hb hr (fun t ht hW => ⟨⟨0, (MA23, MD24, MF14, MG25, ML16, MN, MP17, MT18, MV19), rfl, hwp, hp_of ht hP⟩, hS.F ht⟩) hS.2.2 d_M_request_206
          clear hjk
          refine lv_icmp_ne (tgt := 190) hx hb d_M_request_183 (by decide) (fun hc => ?_) (fun hc => ?_)
          · rw [if_neg hc] at hwp
            refine lv_iconst (v := 0) hx hb d_M_request_190 (by decide) ?_
            exact J191 (0) _ _ _ (lv_sub hl [3, 5] rfl) hP hS hwp
          · rw [if_pos hc] at hwp
            refine lv_iconst (v := 1) hx hb d_M_request_186 (by decide) ?_
            refine lv_goto hx hb d_M_request_187 (tgt := 191) (by decide) ?_
            exact J191 (1) _ _ _ (lv_sub hl [3, 5] rfl) hP hS hwp
        · rw [if_neg hc] at hwp
          refine lv_bipush (v := (-5)) hx hb d_M_request_175 (by decide) ?_
          rw [hQ]
          exact W.iret (v := (-5)) hx hb hr (fun t ht hW => ⟨⟨(-5), (MA12, MD13, MF14, MG15, ML16, MN, MP17, MT18, MV19), rfl, hwp, hp_of ht hP⟩, hS.F ht⟩) hS.2.2 d_M_request_177
      · rw [if_pos hc] at hwp
        refine lv_iload hx hb d_M_request_161 (lv_at hl 0 rfl) ?_
        refine lv_if_ne (tgt := 168) hx hb d_M_request_163 (by decide) (fun hc => ?_) (fun hc => ?_)
        · rw [if_neg hc] at hwp
          refine lv_aload_n hx hb d_M_request_168 rfl (lv_at hl 1 rfl) ?_
          refine ncn_i (As := []) (c_M_full hq (MA12) (MD13) (MF14) (MG15) (ML16) (MN) (MP17) (MT18) (MV19)  _ hwp) (cwV 0 hts g_M_168 rfl rfl rfl hd_M_full ⟨Nat.le_of_ble_eq_true rfl, Nat.le_of_ble_eq_true rfl⟩) hx hb hml hown hts hK hP hS hl.1 d_M_request_169 (va_recv (q := (R_M, F_M, 39)) hK hP (ci := 7) (q0 := 0) rfl rfl) rfl (lv_room (Nat.le_of_ble_eq_true rfl)) (Nat.zero_le _) (Nat.zero_le _) rfl (fun r26 u H locs hwp hP hS => ?_)
          have hP : va_P (dC, dI) clZ (wM cI cL cZ q MA12 MD13 MF14 MG15 ML16 MN MP17 MT18 MV19) H := hP
          refine lv_if_eq (tgt := 178) hx hb d_M_request_172 (by decide) (fun hc => ?_) (fun hc => ?_)
          · rw [if_pos hc] at hwp
            refine lv_aload_n hx hb d_M_request_178 rfl (lv_at hl 1 rfl) ?_
            refine lv_iload_n hx hb d_M_request_179 rfl (lv_at hl 2 rfl) ?_
            refine lv_iload_n hx hb d_M_request_180 rfl (lv_at hl 4 rfl) ?_
            refine lv_iload_n hx hb d_M_request_181 rfl (lv_at hl 3 rfl) ?_
            refine lv_iconst (v := 2) hx hb d_M_request_182 (by decide) ?_
            refine jn_split hwp (fun jk191 hjk hwp => ?_)
            have J191 : ∀ (b27 : Int32) (H : Heap) (locs : List Loc) (ls : Array Slot), lv_has ls 7 [(2, .int a2), (4, .int a4)] → va_P (dC, dI) clZ (wM cI cL cZ q MA12 MD13 MF14 MG15 ML16 MN MP17 MT18 MV19) H → va_S (aM q) s.heap H locs → jk191 b27 → W p l e (headSpec ws_M_request rm_M_request).room s m ([.ref (q 0), .int a1, .int a2, .int a3, .int a4]).toArray below meth c H locs 0 0 Q (F0 m 191 ls [.int b27, .int a3, .int a1, .ref (q 0)]) := by
              intro b27 H locs ls hl hP hS hwp
              rw [hjk] at hwp
              refine lv_iload hx hb d_M_request_191 (lv_at hl 1 rfl) ?_
              refine ncn_v (As := [.int a1, .int a3, .int b27, .int a4]) (c_M_update hq (MA12) (MD13) (MF14) (MG15) (ML16) (MN) (MP17) (MT18) (MV19) (a1) (a3) (b27) (a4) _ hwp) (cwV 4 hts g_M_223 rfl rfl rfl hd_M_update ⟨Nat.le_of_ble_eq_true rfl, Nat.le_of_ble_eq_true rfl⟩) hx hb hml hown hts hK hP hS hl.1 d_M_request_193 (va_recv (q := (R_M, F_M, 39)) hK hP (ci := 7) (q0 := 0) rfl rfl) rfl (lv_room (Nat.le_of_ble_eq_true rfl)) (Nat.zero_le _) (Nat.zero_le _) rfl (fun u H locs hwp hP hS => ?_)
              obtain ⟨MA28, MD29, MG30⟩ := u
              have hP : va_P (dC, dI) clZ (wM cI cL cZ q MA28 MD29 MF14 MG30 ML16 MN MP17 MT18 MV19) H := hP
              refine lv_iload_n hx hb d_M_request_196 rfl (lv_at hl 0 rfl) ?_
              refine lv_iconst (v := 2) hx hb d_M_request_197 (by decide) ?_
              refine lv_icmp_ne (tgt := 205) hx hb d_M_request_198 (by decide) (fun hc => ?_) (fun hc => ?_)
              · rw [if_neg hc] at hwp
                refine lv_iconst (v := 1) hx hb d_M_request_205 (by decide) ?_
                rw [hQ]
                exact W.iret (v := 1) hx hb hr (fun t ht hW => ⟨⟨1, (MA28, MD29, MF14, MG30, ML16, MN, MP17, MT18, MV19), rfl, hwp, hp_of ht hP⟩, hS.F ht⟩) hS.2.2 d_M_request_206
              · rw [if_pos hc] at hwp
                refine lv_iconst (v := 0) hx hb d_M_request_201 (by decide) ?_
                refine lv_goto hx hb d_M_request_202 (tgt := 206) (by decide) ?_
                rw [hQ]
                exact W.iret (v := 0) hx hb hr (fun t ht hW => ⟨⟨0, (MA28, MD29, MF14, MG30, ML16, MN, MP17, MT18, MV19), rfl, hwp, hp_of ht hP⟩, hS.F ht⟩) hS.2.2 d_M_request_206
            clear hjk
            refine lv_icmp_ne (tgt := 190) hx hb d_M_request_183 (by decide) (fun hc => ?_) (fun hc => ?_)
            · rw [if_neg hc] at hwp
              refine lv_iconst (v := 0) hx hb d_M_request_190 (by decide) ?_
              exact J191 (0) _ _ _ (lv_sub hl [3, 5] rfl) hP hS hwp
            · rw [if_pos hc] at hwp
              refine lv_iconst (v := 1) hx hb d_M_request_186 (by decide) ?_
              refine lv_goto hx hb d_M_request_187 (tgt := 191) (by decide) ?_
              exact J191 (1) _ _ _ (lv_sub hl [3, 5] rfl) hP hS hwp
          · rw [if_neg hc] at hwp
            refine lv_bipush (v := (-5)) hx hb d_M_request_175 (by decide) ?_
            rw [hQ]
            exact W.iret (v := (-5)) hx hb hr (fun t ht hW => ⟨⟨(-5), (MA12, MD13, MF14, MG15, ML16, MN, MP17, MT18, MV19), rfl, hwp, hp_of ht hP⟩, hS.F ht⟩) hS.2.2 d_M_request_177
        · rw [if_pos hc] at hwp
          refine lv_iconst (v := 0) hx hb d_M_request_166 (by decide) ?_
          rw [hQ]
          exact W.iret (v := 0) hx hb hr (fun t ht hW => ⟨⟨0, (MA12, MD13, MF14, MG15, ML16, MN, MP17, MT18, MV19), rfl, hwp, hp_of ht hP⟩, hS.F ht⟩) hS.2.2 d_M_request_167
    · rw [if_pos hc] at hwp
      refine lv_aload_n hx hb d_M_request_141 rfl (lv_at hl 0 rfl) ?_
      refine lv_iload_n hx hb d_M_request_142 rfl (lv_at hl 3 rfl) ?_
      refine lv_iload hx hb d_M_request_143 (lv_at hl 4 rfl) ?_
      refine ncn_i (As := [.int a3, .int a4]) (c_M_scanned hq (MA12) (MD13) (MF14) (MG15) (ML16) (MN) (MP17) (MT18) (MV19) (a3) (a4) _ hwp) (cwV 2 hts g_M_219 rfl rfl rfl hd_M_scanned ⟨Nat.le_of_ble_eq_true rfl, Nat.le_of_ble_eq_true rfl⟩) hx hb hml hown hts hK hP hS hl.1 d_M_request_145 (va_recv (q := (R_M, F_M, 39)) hK hP (ci := 7) (q0 := 0) rfl rfl) rfl (lv_room (Nat.le_of_ble_eq_true rfl)) (Nat.zero_le _) (Nat.zero_le _) rfl (fun r31 u H locs hwp hP hS => ?_)
      obtain ⟨MA32, MD33, MG34, MN35⟩ := u
      have hP : va_P (dC, dI) clZ (wM cI cL cZ q MA32 MD33 MF14 MG34 ML16 MN35 MP17 MT18 MV19) H := hP
      rw [hQ]
      exact W.iret (v := r31) hx hb hr (fun t ht hW => ⟨⟨r31, (MA32, MD33, MF14, MG34, ML16, MN35, MP17, MT18, MV19), rfl, hwp, hp_of ht hP⟩, hS.F ht⟩) hS.2.2 d_M_request_148
  · rw [if_pos hc] at hwp
    refine lv_aload_n hx hb d_M_request_106 rfl (lv_at hl 0 rfl) ?_
    refine lv_iload_n hx hb d_M_request_107 rfl (lv_at hl 3 rfl) ?_
    refine lv_iconst (v := 4) hx hb d_M_request_108 (by decide) ?_
    refine lv_idiv hx hb d_M_request_109 (by decide) ?_
    refine ncn_v (As := [.int (a3 / 4)]) (c_M_touch hq (MA12) (MD13) (MF14) (MG15) (ML16) (MN) (MP17) (MT18) (MV19) ((a3 / 4)) _ hwp) (cwV 1 hts g_M_125 rfl rfl rfl hd_M_touch ⟨Nat.le_of_ble_eq_true rfl, Nat.le_of_ble_eq_true rfl⟩) hx hb hml hown hts hK hP hS hl.1 d_M_request_110 (va_recv (q := (R_M, F_M, 39)) hK hP (ci := 7) (q0 := 0) rfl rfl) rfl (lv_room (Nat.le_of_ble_eq_true rfl)) (Nat.zero_le _) (Nat.zero_le _) rfl (fun u H locs hwp hP hS => ?_)
    obtain ⟨MA36, MD37, MG38⟩ := u
    have hP : va_P (dC, dI) clZ (wM cI cL cZ q MA36 MD37 MF14 MG38 ML16 MN MP17 MT18 MV19) H := hP
    refine lv_aload_n hx hb d_M_request_113 rfl (lv_at hl 0 rfl) ?_
    refine lv_aload_n hx hb d_M_request_114 rfl (lv_at hl 0 rfl) ?_
    refine lv_iload_n hx hb d_M_request_115 rfl (lv_at hl 3 rfl) ?_
    refine ncn_i (As := [.int a3]) (c_M_valueNow hq (MA36) (MD37) (MF14) (MG38) (ML16) (MN) (MP17) (MT18) (MV19) (a3) _ hwp) (cwV 1 hts g_M_213 rfl rfl rfl hd_M_valueNow ⟨Nat.le_of_ble_eq_true rfl, Nat.le_of_ble_eq_true rfl⟩) hx hb hml hown hts hK hP hS hl.1 d_M_request_116 (va_recv (q := (R_M, F_M, 39)) hK hP (ci := 7) (q0 := 0) rfl rfl) rfl (lv_room (Nat.le_of_ble_eq_true rfl)) (Nat.zero_le _) (Nat.zero_le _) rfl (fun r39 u H locs hwp hP hS => ?_)
    have hP : va_P (dC, dI) clZ (wM cI cL cZ q MA36 MD37 MF14 MG38 ML16 MN MP17 MT18 MV19) H := hP
    refine va_put (D := (dC, dI)) (ci := 7) (v := .int r39) (ty := .int) (C := R_M) (T := F_M) (N := 39) hx hb hts hiM ty_M ty_M_ok nmx_M hown hK hP (dM hq) hS 0 rfl rfl 38 (by decide) lk216 (fun _ h9 => h9) rfl (by decide +kernel) rfl rfl (Nat.le_of_ble_eq_true rfl) d_M_request_119 (fun H locs hP _ hS => ?_)
    have hP : va_P (dC, dI) clZ (wM cI cL cZ q MA36 MD37 MF14 MG38 ML16 (MN_latest' MN r39) MP17 MT18 MV19) H := hP
    refine lv_aload_n hx hb d_M_request_122 rfl (lv_at hl 0 rfl) ?_
    refine lv_iload_n hx hb d_M_request_123 rfl (lv_at hl 3 rfl) ?_
    refine ncn_i (As := [.int a3]) (c_M_isThereNow hq (MA36) (MD37) (MF14) (MG38) (ML16) ((MN_latest' MN r39)) (MP17) (MT18) (MV19) (a3) _ hwp) (cwV 1 hts g_M_172 rfl rfl rfl hd_M_isThereNow ⟨Nat.le_of_ble_eq_true rfl, Nat.le_of_ble_eq_true rfl⟩) hx hb hml hown hts hK hP hS hl.1 d_M_request_124 (va_recv (q := (R_M, F_M, 39)) hK hP (ci := 7) (q0 := 0) rfl rfl) rfl (lv_room (Nat.le_of_ble_eq_true rfl)) (Nat.zero_le _) (Nat.zero_le _) rfl (fun r40 u H locs hwp hP hS => ?_)
    have hP : va_P (dC, dI) clZ (wM cI cL cZ q MA36 MD37 MF14 MG38 ML16 (MN_latest' MN r39) MP17 MT18 MV19) H := hP
    refine lv_if_eq (tgt := 134) hx hb d_M_request_127 (by decide) (fun hc => ?_) (fun hc => ?_)
    · rw [if_pos hc] at hwp
      refine lv_iconst (v := 0) hx hb d_M_request_134 (by decide) ?_
      rw [hQ]
      exact W.iret (v := 0) hx hb hr (fun t ht hW => ⟨⟨0, (MA36, MD37, MF14, MG38, ML16, (MN_latest' MN r39), MP17, MT18, MV19), rfl, hwp, hp_of ht hP⟩, hS.F ht⟩) hS.2.2 d_M_request_135
    · rw [if_neg hc] at hwp
      refine lv_iconst (v := 1) hx hb d_M_request_130 (by decide) ?_
      refine lv_goto hx hb d_M_request_131 (tgt := 135) (by decide) ?_
      rw [hQ]
      exact W.iret (v := 1) hx hb hr (fun t ht hW => ⟨⟨1, (MA36, MD37, MF14, MG38, ML16, (MN_latest' MN r39), MP17, MT18, MV19), rfl, hwp, hp_of ht hP⟩, hS.F ht⟩) hS.2.2 d_M_request_135

set_option maxHeartbeats 4000000 in
set_option maxRecDepth 100000 in
theorem c_M_ask {l : Launch} {dC : Nat → ClassId} {dI : Nat → Nat → Nat} {cI cL cZ : ClassId} {q : Nat → Nat} (hq : iM q) (MA : S_MA) (MD : S_MD) (MF : S_MF) (MG : S_MG) (ML : S_ML) (MN : S_MN) (MP : S_MP) (MT : S_MT) (MV : S_MV) (a1 : Int32) (a2 : Int32) (a3 : Int32) (a4 : Int32) (post : Int32 → S_MA → S_MD → S_MF → S_MG → S_ML → S_MN → S_MP → S_MT → S_MV → Prop) (hwp : wp_M_ask MA MD MF MG ML MN MP MT MV a1 a2 a3 a4 post) : Met l y_M_ask ws_M_ask rm_M_ask (va_Pc [.ref (q 0), .int a1, .int a2, .int a3, .int a4] (bM dC dI cI cL cZ q MA MD MF MG ML MN MP MT MV)) (va_Qi (fun (r : Int32) (u : S_MA × S_MD × S_MF × S_MG × S_ML × S_MN × S_MP × S_MT × S_MV) => post r u.1 u.2.1 u.2.2.1 u.2.2.2.1 u.2.2.2.2.1 u.2.2.2.2.2.1 u.2.2.2.2.2.2.1 u.2.2.2.2.2.2.2.1 u.2.2.2.2.2.2.2.2) (fun u t => va_P (dC, dI) clZ (wM cI cL cZ q (u.1) (u.2.1) (u.2.2.1) (u.2.2.2.1) (u.2.2.2.2.1) (u.2.2.2.2.2.1) (u.2.2.2.2.2.2.1) (u.2.2.2.2.2.2.2.1) (u.2.2.2.2.2.2.2.2)) t.heap) (aM q)) 0 0 (aM q) := by
  refine Met.ofW (cc := b_M_ask) (maxL := 5) (ret := (some .int)) (by decide) rfl ?_
  intro p e s m args below meth c s₁ B hml hv
  obtain ⟨rfl, hP, hK⟩ := hv
  have hx := B.exec
  have hb := B.bytes
  have hr := B.returns
  have hts := atoms_spec (ws := ws_M_ask) B.pre
  have hown : s.vm.findClass R_M = some m.cls := findClass_of_methodNamed B.named
  have hlocks := B.notSynchronized
  have hS : va_S (aM q) s.heap s.heap [] := va_S.rf
  have hl := lv_entry ([.ref (q 0), .int a1, .int a2, .int a3, .int a4]) (n := 5) (Nat.le_of_ble_eq_true rfl)
  rw [lg_entry_eq]
  generalize (lg_sl ([.ref (q 0), .int a1, .int a2, .int a3, .int a4]) ++ List.replicate (5 - (lg_sl ([.ref (q 0), .int a1, .int a2, .int a3, .int a4])).length) Slot.unset).toArray = ls at hl ⊢
  have hl : lv_has ls 5 [(0, .ref (q 0)), (1, .int a1), (2, .int a2), (3, .int a3), (4, .int a4)] := hl
  obtain ⟨Q, hQ⟩ : ∃ Q, Q = MQ below (va_Qi (fun (r : Int32) (u : S_MA × S_MD × S_MF × S_MG × S_ML × S_MN × S_MP × S_MT × S_MV) => post r u.1 u.2.1 u.2.2.1 u.2.2.2.1 u.2.2.2.2.1 u.2.2.2.2.2.1 u.2.2.2.2.2.2.1 u.2.2.2.2.2.2.2.1 u.2.2.2.2.2.2.2.2) (fun u t => va_P (dC, dI) clZ (wM cI cL cZ q (u.1) (u.2.1) (u.2.2.1) (u.2.2.2.1) (u.2.2.2.2.1) (u.2.2.2.2.2.1) (u.2.2.2.2.2.2.1) (u.2.2.2.2.2.2.2.1) (u.2.2.2.2.2.2.2.2)) t.heap) (aM q)) ([.ref (q 0), .int a1, .int a2, .int a3, .int a4]).toArray s 0 0 (aM q) := ⟨_, rfl⟩
  rw [← hQ]
  rw [wp_M_ask] at hwp
  refine lv_aload_n hx hb d_M_ask_0 rfl (lv_at hl 0 rfl) ?_
  refine lv_iload_n hx hb d_M_ask_1 rfl (lv_at hl 1 rfl) ?_
  refine ncn_i (As := [.int a1]) (c_M_busy hq (MA) (MD) (MF) (MG) (ML) (MN) (MP) (MT) (MV) (a1) _ hwp) (cwV 1 hts g_M_233 rfl rfl rfl hd_M_busy ⟨Nat.le_of_ble_eq_true rfl, Nat.le_of_ble_eq_true rfl⟩) hx hb hml hown hts hK hP hS hl.1 d_M_ask_2 (va_recv (q := (R_M, F_M, 39)) hK hP (ci := 7) (q0 := 0) rfl rfl) rfl (lv_room (Nat.le_of_ble_eq_true rfl)) (Nat.zero_le _) (Nat.zero_le _) rfl (fun r1 u H locs hwp hP hS => ?_)
  have hP : va_P (dC, dI) clZ (wM cI cL cZ q MA MD MF MG ML MN MP MT MV) H := hP
  refine lv_if_eq (tgt := 13) hx hb d_M_ask_5 (by decide) (fun hc => ?_) (fun hc => ?_)
  · rw [if_pos hc] at hwp
    refine lv_aload_n hx hb d_M_ask_13 rfl (lv_at hl 0 rfl) ?_
    refine lv_iload_n hx hb d_M_ask_14 rfl (lv_at hl 1 rfl) ?_
    refine lv_iload_n hx hb d_M_ask_15 rfl (lv_at hl 2 rfl) ?_
    refine lv_iload_n hx hb d_M_ask_16 rfl (lv_at hl 3 rfl) ?_
    refine lv_iload hx hb d_M_ask_17 (lv_at hl 4 rfl) ?_
    refine ncn_i (As := [.int a1, .int a2, .int a3, .int a4]) (c_M_request hq (MA) (MD) (MF) (MG) (ML) (MN) (MP) (MT) (MV) (a1) (a2) (a3) (a4) _ hwp) (cwV 4 hts g_M_236 rfl rfl rfl hd_M_request ⟨Nat.le_of_ble_eq_true rfl, Nat.le_of_ble_eq_true rfl⟩) hx hb hml hown hts hK hP hS hl.1 d_M_ask_19 (va_recv (q := (R_M, F_M, 39)) hK hP (ci := 7) (q0 := 0) rfl rfl) rfl (lv_room (Nat.le_of_ble_eq_true rfl)) (Nat.zero_le _) (Nat.zero_le _) rfl (fun r2 u H locs hwp hP hS => ?_)
    obtain ⟨MA3, MD4, MF5, MG6, ML7, MN8, MP9, MT10, MV11⟩ := u
    have hP : va_P (dC, dI) clZ (wM cI cL cZ q MA3 MD4 MF5 MG6 ML7 MN8 MP9 MT10 MV11) H := hP
    rw [hQ]
    exact W.iret (v := r2) hx hb hr (fun t ht hW => ⟨⟨r2, (MA3, MD4, MF5, MG6, ML7, MN8, MP9, MT10, MV11), rfl, hwp, hp_of ht hP⟩, hS.F ht⟩) hS.2.2 d_M_ask_22
  · rw [if_neg hc] at hwp
    refine lv_bipush (v := (-4)) hx hb d_M_ask_8 (by decide) ?_
    refine lv_goto hx hb d_M_ask_10 (tgt := 22) (by decide) ?_
    rw [hQ]
    exact W.iret (v := (-4)) hx hb hr (fun t ht hW => ⟨⟨(-4), (MA, MD, MF, MG, ML, MN, MP, MT, MV), rfl, hwp, hp_of ht hP⟩, hS.F ht⟩) hS.2.2 d_M_ask_22

set_option maxHeartbeats 4000000 in
set_option maxRecDepth 100000 in
theorem c_M_get {l : Launch} {dC : Nat → ClassId} {dI : Nat → Nat → Nat} {cI cL cZ : ClassId} {q : Nat → Nat} (hq : iM q) (MA : S_MA) (MD : S_MD) (MF : S_MF) (MG : S_MG) (ML : S_ML) (MN : S_MN) (MP : S_MP) (MT : S_MT) (MV : S_MV) (a1 : Int32) (a2 : Int32) (post : Int32 → S_MA → S_MD → S_MF → S_MG → S_ML → S_MN → S_MP → S_MT → S_MV → Prop) (hwp : wp_M_get MA MD MF MG ML MN MP MT MV a1 a2 post) : Met l y_M_get ws_M_get rm_M_get (va_Pc [.ref (q 0), .int a1, .int a2] (bM dC dI cI cL cZ q MA MD MF MG ML MN MP MT MV)) (va_Qi (fun (r : Int32) (u : S_MA × S_MD × S_MF × S_MG × S_ML × S_MN × S_MP × S_MT × S_MV) => post r u.1 u.2.1 u.2.2.1 u.2.2.2.1 u.2.2.2.2.1 u.2.2.2.2.2.1 u.2.2.2.2.2.2.1 u.2.2.2.2.2.2.2.1 u.2.2.2.2.2.2.2.2) (fun u t => va_P (dC, dI) clZ (wM cI cL cZ q (u.1) (u.2.1) (u.2.2.1) (u.2.2.2.1) (u.2.2.2.2.1) (u.2.2.2.2.2.1) (u.2.2.2.2.2.2.1) (u.2.2.2.2.2.2.2.1) (u.2.2.2.2.2.2.2.2)) t.heap) (aM q)) 0 0 (aM q) := by
  refine Met.ofW (cc := b_M_get) (maxL := 3) (ret := (some .int)) (by decide) rfl ?_
  intro p e s m args below meth c s₁ B hml hv
  obtain ⟨rfl, hP, hK⟩ := hv
  have hx := B.exec
  have hb := B.bytes
  have hr := B.returns
  have hts := atoms_spec (ws := ws_M_get) B.pre
  have hown : s.vm.findClass R_M = some m.cls := findClass_of_methodNamed B.named
  have hlocks := B.notSynchronized
  have hS : va_S (aM q) s.heap s.heap [] := va_S.rf
  have hl := lv_entry ([.ref (q 0), .int a1, .int a2]) (n := 3) (Nat.le_of_ble_eq_true rfl)
  rw [lg_entry_eq]
  generalize (lg_sl ([.ref (q 0), .int a1, .int a2]) ++ List.replicate (3 - (lg_sl ([.ref (q 0), .int a1, .int a2])).length) Slot.unset).toArray = ls at hl ⊢
  have hl : lv_has ls 3 [(0, .ref (q 0)), (1, .int a1), (2, .int a2)] := hl
  obtain ⟨Q, hQ⟩ : ∃ Q, Q = MQ below (va_Qi (fun (r : Int32) (u : S_MA × S_MD × S_MF × S_MG × S_ML × S_MN × S_MP × S_MT × S_MV) => post r u.1 u.2.1 u.2.2.1 u.2.2.2.1 u.2.2.2.2.1 u.2.2.2.2.2.1 u.2.2.2.2.2.2.1 u.2.2.2.2.2.2.2.1 u.2.2.2.2.2.2.2.2) (fun u t => va_P (dC, dI) clZ (wM cI cL cZ q (u.1) (u.2.1) (u.2.2.1) (u.2.2.2.1) (u.2.2.2.2.1) (u.2.2.2.2.2.1) (u.2.2.2.2.2.2.1) (u.2.2.2.2.2.2.2.1) (u.2.2.2.2.2.2.2.2)) t.heap) (aM q)) ([.ref (q 0), .int a1, .int a2]).toArray s 0 0 (aM q) := ⟨_, rfl⟩
  rw [← hQ]
  rw [wp_M_get] at hwp
  refine lv_aload_n hx hb d_M_get_0 rfl (lv_at hl 0 rfl) ?_
  refine lv_iload_n hx hb d_M_get_1 rfl (lv_at hl 1 rfl) ?_
  refine ncn_i (As := [.int a1]) (c_M_active hq (MA) (MD) (MF) (MG) (ML) (MN) (MP) (MT) (MV) (a1) _ hwp) (cwV 1 hts g_M_162 rfl rfl rfl hd_M_active ⟨Nat.le_of_ble_eq_true rfl, Nat.le_of_ble_eq_true rfl⟩) hx hb hml hown hts hK hP hS hl.1 d_M_get_2 (va_recv (q := (R_M, F_M, 39)) hK hP (ci := 7) (q0 := 0) rfl rfl) rfl (lv_room (Nat.le_of_ble_eq_true rfl)) (Nat.zero_le _) (Nat.zero_le _) rfl (fun r1 u H locs hwp hP hS => ?_)
  have hP : va_P (dC, dI) clZ (wM cI cL cZ q MA MD MF MG ML MN MP MT MV) H := hP
  refine lv_if_eq (tgt := 15) hx hb d_M_get_5 (by decide) (fun hc => ?_) (fun hc => ?_)
  · rw [if_pos hc] at hwp
    refine lv_iconst (v := (-1)) hx hb d_M_get_15 (by decide) ?_
    refine lv_goto hx hb d_M_get_16 (tgt := 27) (by decide) ?_
    rw [hQ]
    exact W.iret (v := (-1)) hx hb hr (fun t ht hW => ⟨⟨(-1), (MA, MD, MF, MG, ML, MN, MP, MT, MV), rfl, hwp, hp_of ht hP⟩, hS.F ht⟩) hS.2.2 d_M_get_27
  · rw [if_neg hc] at hwp
    refine lv_iload_n hx hb d_M_get_8 rfl (lv_at hl 2 rfl) ?_
    refine ncs_i (As := [.int a2]) (c_M_isKey hq (MA) (MD) (MF) (MG) (ML) (MN) (MP) (MT) (MV) (a2) _ hwp) (cwS 1 hts g_M_239 rfl rfl rfl hd_M_isKey ⟨Nat.le_of_ble_eq_true rfl, Nat.le_of_ble_eq_true rfl⟩) hx hb hml hown hts hK hP hS hl.1 d_M_get_9 rfl (lv_room (Nat.le_of_ble_eq_true rfl)) (Nat.zero_le _) (Nat.zero_le _) rfl (fun r2 u H locs hwp hP hS => ?_)
    have hP : va_P (dC, dI) clZ (wM cI cL cZ q MA MD MF MG ML MN MP MT MV) H := hP
    refine lv_if_ne (tgt := 19) hx hb d_M_get_12 (by decide) (fun hc => ?_) (fun hc => ?_)
    · rw [if_neg hc] at hwp
      refine lv_aload_n hx hb d_M_get_19 rfl (lv_at hl 0 rfl) ?_
      refine lv_iload_n hx hb d_M_get_20 rfl (lv_at hl 1 rfl) ?_
      refine lv_iconst (v := 1) hx hb d_M_get_21 (by decide) ?_
      refine lv_iload_n hx hb d_M_get_22 rfl (lv_at hl 2 rfl) ?_
      refine lv_iconst (v := 0) hx hb d_M_get_23 (by decide) ?_
      refine ncn_i (As := [.int a1, .int 1, .int a2, .int 0]) (c_M_ask hq (MA) (MD) (MF) (MG) (ML) (MN) (MP) (MT) (MV) (a1) (1) (a2) (0) _ hwp) (cwV 4 hts g_M_242 rfl rfl rfl hd_M_ask ⟨Nat.le_of_ble_eq_true rfl, Nat.le_of_ble_eq_true rfl⟩) hx hb hml hown hts hK hP hS hl.1 d_M_get_24 (va_recv (q := (R_M, F_M, 39)) hK hP (ci := 7) (q0 := 0) rfl rfl) rfl (lv_room (Nat.le_of_ble_eq_true rfl)) (Nat.zero_le _) (Nat.zero_le _) rfl (fun r3 u H locs hwp hP hS => ?_)
      obtain ⟨MA4, MD5, MF6, MG7, ML8, MN9, MP10, MT11, MV12⟩ := u
      have hP : va_P (dC, dI) clZ (wM cI cL cZ q MA4 MD5 MF6 MG7 ML8 MN9 MP10 MT11 MV12) H := hP
      rw [hQ]
      exact W.iret (v := r3) hx hb hr (fun t ht hW => ⟨⟨r3, (MA4, MD5, MF6, MG7, ML8, MN9, MP10, MT11, MV12), rfl, hwp, hp_of ht hP⟩, hS.F ht⟩) hS.2.2 d_M_get_27
    · rw [if_pos hc] at hwp
      refine lv_iconst (v := (-1)) hx hb d_M_get_15 (by decide) ?_
      refine lv_goto hx hb d_M_get_16 (tgt := 27) (by decide) ?_
      rw [hQ]
      exact W.iret (v := (-1)) hx hb hr (fun t ht hW => ⟨⟨(-1), (MA, MD, MF, MG, ML, MN, MP, MT, MV), rfl, hwp, hp_of ht hP⟩, hS.F ht⟩) hS.2.2 d_M_get_27

set_option maxHeartbeats 4000000 in
set_option maxRecDepth 100000 in
theorem c_M_put {l : Launch} {dC : Nat → ClassId} {dI : Nat → Nat → Nat} {cI cL cZ : ClassId} {q : Nat → Nat} (hq : iM q) (MA : S_MA) (MD : S_MD) (MF : S_MF) (MG : S_MG) (ML : S_ML) (MN : S_MN) (MP : S_MP) (MT : S_MT) (MV : S_MV) (a1 : Int32) (a2 : Int32) (a3 : Int32) (post : Int32 → S_MA → S_MD → S_MF → S_MG → S_ML → S_MN → S_MP → S_MT → S_MV → Prop) (hwp : wp_M_put MA MD MF MG ML MN MP MT MV a1 a2 a3 post) : Met l y_M_put ws_M_put rm_M_put (va_Pc [.ref (q 0), .int a1, .int a2, .int a3] (bM dC dI cI cL cZ q MA MD MF MG ML MN MP MT MV)) (va_Qi (fun (r : Int32) (u : S_MA × S_MD × S_MF × S_MG × S_ML × S_MN × S_MP × S_MT × S_MV) => post r u.1 u.2.1 u.2.2.1 u.2.2.2.1 u.2.2.2.2.1 u.2.2.2.2.2.1 u.2.2.2.2.2.2.1 u.2.2.2.2.2.2.2.1 u.2.2.2.2.2.2.2.2) (fun u t => va_P (dC, dI) clZ (wM cI cL cZ q (u.1) (u.2.1) (u.2.2.1) (u.2.2.2.1) (u.2.2.2.2.1) (u.2.2.2.2.2.1) (u.2.2.2.2.2.2.1) (u.2.2.2.2.2.2.2.1) (u.2.2.2.2.2.2.2.2)) t.heap) (aM q)) 0 0 (aM q) := by
  refine Met.ofW (cc := b_M_put) (maxL := 4) (ret := (some .int)) (by decide) rfl ?_
  intro p e s m args below meth c s₁ B hml hv
  obtain ⟨rfl, hP, hK⟩ := hv
  have hx := B.exec
  have hb := B.bytes
  have hr := B.returns
  have hts := atoms_spec (ws := ws_M_put) B.pre
  have hown : s.vm.findClass R_M = some m.cls := findClass_of_methodNamed B.named
  have hlocks := B.notSynchronized
  have hS : va_S (aM q) s.heap s.heap [] := va_S.rf
  have hl := lv_entry ([.ref (q 0), .int a1, .int a2, .int a3]) (n := 4) (Nat.le_of_ble_eq_true rfl)
  rw [lg_entry_eq]
  generalize (lg_sl ([.ref (q 0), .int a1, .int a2, .int a3]) ++ List.replicate (4 - (lg_sl ([.ref (q 0), .int a1, .int a2, .int a3])).length) Slot.unset).toArray = ls at hl ⊢
  have hl : lv_has ls 4 [(0, .ref (q 0)), (1, .int a1), (2, .int a2), (3, .int a3)] := hl
  obtain ⟨Q, hQ⟩ : ∃ Q, Q = MQ below (va_Qi (fun (r : Int32) (u : S_MA × S_MD × S_MF × S_MG × S_ML × S_MN × S_MP × S_MT × S_MV) => post r u.1 u.2.1 u.2.2.1 u.2.2.2.1 u.2.2.2.2.1 u.2.2.2.2.2.1 u.2.2.2.2.2.2.1 u.2.2.2.2.2.2.2.1 u.2.2.2.2.2.2.2.2) (fun u t => va_P (dC, dI) clZ (wM cI cL cZ q (u.1) (u.2.1) (u.2.2.1) (u.2.2.2.1) (u.2.2.2.2.1) (u.2.2.2.2.2.1) (u.2.2.2.2.2.2.1) (u.2.2.2.2.2.2.2.1) (u.2.2.2.2.2.2.2.2)) t.heap) (aM q)) ([.ref (q 0), .int a1, .int a2, .int a3]).toArray s 0 0 (aM q) := ⟨_, rfl⟩
  rw [← hQ]
  rw [wp_M_put] at hwp
  refine lv_aload_n hx hb d_M_put_0 rfl (lv_at hl 0 rfl) ?_
  refine lv_iload_n hx hb d_M_put_1 rfl (lv_at hl 1 rfl) ?_
  refine ncn_i (As := [.int a1]) (c_M_active hq (MA) (MD) (MF) (MG) (ML) (MN) (MP) (MT) (MV) (a1) _ hwp) (cwV 1 hts g_M_162 rfl rfl rfl hd_M_active ⟨Nat.le_of_ble_eq_true rfl, Nat.le_of_ble_eq_true rfl⟩) hx hb hml hown hts hK hP hS hl.1 d_M_put_2 (va_recv (q := (R_M, F_M, 39)) hK hP (ci := 7) (q0 := 0) rfl rfl) rfl (lv_room (Nat.le_of_ble_eq_true rfl)) (Nat.zero_le _) (Nat.zero_le _) rfl (fun r1 u H locs hwp hP hS => ?_)
  have hP : va_P (dC, dI) clZ (wM cI cL cZ q MA MD MF MG ML MN MP MT MV) H := hP
  refine lv_if_eq (tgt := 15) hx hb d_M_put_5 (by decide) (fun hc => ?_) (fun hc => ?_)
  · rw [if_pos hc] at hwp
    refine lv_iconst (v := (-1)) hx hb d_M_put_15 (by decide) ?_
    refine lv_goto hx hb d_M_put_16 (tgt := 27) (by decide) ?_
    rw [hQ]
    exact W.iret (v := (-1)) hx hb hr (fun t ht hW => ⟨⟨(-1), (MA, MD, MF, MG, ML, MN, MP, MT, MV), rfl, hwp, hp_of ht hP⟩, hS.F ht⟩) hS.2.2 d_M_put_27
  · rw [if_neg hc] at hwp
    refine lv_iload_n hx hb d_M_put_8 rfl (lv_at hl 2 rfl) ?_
    refine ncs_i (As := [.int a2]) (c_M_isKey hq (MA) (MD) (MF) (MG) (ML) (MN) (MP) (MT) (MV) (a2) _ hwp) (cwS 1 hts g_M_239 rfl rfl rfl hd_M_isKey ⟨Nat.le_of_ble_eq_true rfl, Nat.le_of_ble_eq_true rfl⟩) hx hb hml hown hts hK hP hS hl.1 d_M_put_9 rfl (lv_room (Nat.le_of_ble_eq_true rfl)) (Nat.zero_le _) (Nat.zero_le _) rfl (fun r2 u H locs hwp hP hS => ?_)
    have hP : va_P (dC, dI) clZ (wM cI cL cZ q MA MD MF MG ML MN MP MT MV) H := hP
    refine lv_if_ne (tgt := 19) hx hb d_M_put_12 (by decide) (fun hc => ?_) (fun hc => ?_)
    · rw [if_neg hc] at hwp
      refine lv_aload_n hx hb d_M_put_19 rfl (lv_at hl 0 rfl) ?_
      refine lv_iload_n hx hb d_M_put_20 rfl (lv_at hl 1 rfl) ?_
      refine lv_iconst (v := 2) hx hb d_M_put_21 (by decide) ?_
      refine lv_iload_n hx hb d_M_put_22 rfl (lv_at hl 2 rfl) ?_
      refine lv_iload_n hx hb d_M_put_23 rfl (lv_at hl 3 rfl) ?_
      refine ncn_i (As := [.int a1, .int 2, .int a2, .int a3]) (c_M_ask hq (MA) (MD) (MF) (MG) (ML) (MN) (MP) (MT) (MV) (a1) (2) (a2) (a3) _ hwp) (cwV 4 hts g_M_242 rfl rfl rfl hd_M_ask ⟨Nat.le_of_ble_eq_true rfl, Nat.le_of_ble_eq_true rfl⟩) hx hb hml hown hts hK hP hS hl.1 d_M_put_24 (va_recv (q := (R_M, F_M, 39)) hK hP (ci := 7) (q0 := 0) rfl rfl) rfl (lv_room (Nat.le_of_ble_eq_true rfl)) (Nat.zero_le _) (Nat.zero_le _) rfl (fun r3 u H locs hwp hP hS => ?_)
      obtain ⟨MA4, MD5, MF6, MG7, ML8, MN9, MP10, MT11, MV12⟩ := u
      have hP : va_P (dC, dI) clZ (wM cI cL cZ q MA4 MD5 MF6 MG7 ML8 MN9 MP10 MT11 MV12) H := hP
      rw [hQ]
      exact W.iret (v := r3) hx hb hr (fun t ht hW => ⟨⟨r3, (MA4, MD5, MF6, MG7, ML8, MN9, MP10, MT11, MV12), rfl, hwp, hp_of ht hP⟩, hS.F ht⟩) hS.2.2 d_M_put_27
    · rw [if_pos hc] at hwp
      refine lv_iconst (v := (-1)) hx hb d_M_put_15 (by decide) ?_
      refine lv_goto hx hb d_M_put_16 (tgt := 27) (by decide) ?_
      rw [hQ]
      exact W.iret (v := (-1)) hx hb hr (fun t ht hW => ⟨⟨(-1), (MA, MD, MF, MG, ML, MN, MP, MT, MV), rfl, hwp, hp_of ht hP⟩, hS.F ht⟩) hS.2.2 d_M_put_27

set_option maxHeartbeats 4000000 in
set_option maxRecDepth 100000 in
theorem c_M_delete {l : Launch} {dC : Nat → ClassId} {dI : Nat → Nat → Nat} {cI cL cZ : ClassId} {q : Nat → Nat} (hq : iM q) (MA : S_MA) (MD : S_MD) (MF : S_MF) (MG : S_MG) (ML : S_ML) (MN : S_MN) (MP : S_MP) (MT : S_MT) (MV : S_MV) (a1 : Int32) (a2 : Int32) (post : Int32 → S_MA → S_MD → S_MF → S_MG → S_ML → S_MN → S_MP → S_MT → S_MV → Prop) (hwp : wp_M_delete MA MD MF MG ML MN MP MT MV a1 a2 post) : Met l y_M_delete ws_M_delete rm_M_delete (va_Pc [.ref (q 0), .int a1, .int a2] (bM dC dI cI cL cZ q MA MD MF MG ML MN MP MT MV)) (va_Qi (fun (r : Int32) (u : S_MA × S_MD × S_MF × S_MG × S_ML × S_MN × S_MP × S_MT × S_MV) => post r u.1 u.2.1 u.2.2.1 u.2.2.2.1 u.2.2.2.2.1 u.2.2.2.2.2.1 u.2.2.2.2.2.2.1 u.2.2.2.2.2.2.2.1 u.2.2.2.2.2.2.2.2) (fun u t => va_P (dC, dI) clZ (wM cI cL cZ q (u.1) (u.2.1) (u.2.2.1) (u.2.2.2.1) (u.2.2.2.2.1) (u.2.2.2.2.2.1) (u.2.2.2.2.2.2.1) (u.2.2.2.2.2.2.2.1) (u.2.2.2.2.2.2.2.2)) t.heap) (aM q)) 0 0 (aM q) := by
  refine Met.ofW (cc := b_M_delete) (maxL := 3) (ret := (some .int)) (by decide) rfl ?_
  intro p e s m args below meth c s₁ B hml hv
  obtain ⟨rfl, hP, hK⟩ := hv
  have hx := B.exec
  have hb := B.bytes
  have hr := B.returns
  have hts := atoms_spec (ws := ws_M_delete) B.pre
  have hown : s.vm.findClass R_M = some m.cls := findClass_of_methodNamed B.named
  have hlocks := B.notSynchronized
  have hS : va_S (aM q) s.heap s.heap [] := va_S.rf
  have hl := lv_entry ([.ref (q 0), .int a1, .int a2]) (n := 3) (Nat.le_of_ble_eq_true rfl)
  rw [lg_entry_eq]
  generalize (lg_sl ([.ref (q 0), .int a1, .int a2]) ++ List.replicate (3 - (lg_sl ([.ref (q 0), .int a1, .int a2])).length) Slot.unset).toArray = ls at hl ⊢
  have hl : lv_has ls 3 [(0, .ref (q 0)), (1, .int a1), (2, .int a2)] := hl
  obtain ⟨Q, hQ⟩ : ∃ Q, Q = MQ below (va_Qi (fun (r : Int32) (u : S_MA × S_MD × S_MF × S_MG × S_ML × S_MN × S_MP × S_MT × S_MV) => post r u.1 u.2.1 u.2.2.1 u.2.2.2.1 u.2.2.2.2.1 u.2.2.2.2.2.1 u.2.2.2.2.2.2.1 u.2.2.2.2.2.2.2.1 u.2.2.2.2.2.2.2.2) (fun u t => va_P (dC, dI) clZ (wM cI cL cZ q (u.1) (u.2.1) (u.2.2.1) (u.2.2.2.1) (u.2.2.2.2.1) (u.2.2.2.2.2.1) (u.2.2.2.2.2.2.1) (u.2.2.2.2.2.2.2.1) (u.2.2.2.2.2.2.2.2)) t.heap) (aM q)) ([.ref (q 0), .int a1, .int a2]).toArray s 0 0 (aM q) := ⟨_, rfl⟩
  rw [← hQ]
  rw [wp_M_delete] at hwp
  refine lv_aload_n hx hb d_M_delete_0 rfl (lv_at hl 0 rfl) ?_
  refine lv_iload_n hx hb d_M_delete_1 rfl (lv_at hl 1 rfl) ?_
  refine ncn_i (As := [.int a1]) (c_M_active hq (MA) (MD) (MF) (MG) (ML) (MN) (MP) (MT) (MV) (a1) _ hwp) (cwV 1 hts g_M_162 rfl rfl rfl hd_M_active ⟨Nat.le_of_ble_eq_true rfl, Nat.le_of_ble_eq_true rfl⟩) hx hb hml hown hts hK hP hS hl.1 d_M_delete_2 (va_recv (q := (R_M, F_M, 39)) hK hP (ci := 7) (q0 := 0) rfl rfl) rfl (lv_room (Nat.le_of_ble_eq_true rfl)) (Nat.zero_le _) (Nat.zero_le _) rfl (fun r1 u H locs hwp hP hS => ?_)
  have hP : va_P (dC, dI) clZ (wM cI cL cZ q MA MD MF MG ML MN MP MT MV) H := hP
  refine lv_if_eq (tgt := 15) hx hb d_M_delete_5 (by decide) (fun hc => ?_) (fun hc => ?_)
  · rw [if_pos hc] at hwp
    refine lv_iconst (v := (-1)) hx hb d_M_delete_15 (by decide) ?_
    refine lv_goto hx hb d_M_delete_16 (tgt := 27) (by decide) ?_
    rw [hQ]
    exact W.iret (v := (-1)) hx hb hr (fun t ht hW => ⟨⟨(-1), (MA, MD, MF, MG, ML, MN, MP, MT, MV), rfl, hwp, hp_of ht hP⟩, hS.F ht⟩) hS.2.2 d_M_delete_27
  · rw [if_neg hc] at hwp
    refine lv_iload_n hx hb d_M_delete_8 rfl (lv_at hl 2 rfl) ?_
    refine ncs_i (As := [.int a2]) (c_M_isKey hq (MA) (MD) (MF) (MG) (ML) (MN) (MP) (MT) (MV) (a2) _ hwp) (cwS 1 hts g_M_239 rfl rfl rfl hd_M_isKey ⟨Nat.le_of_ble_eq_true rfl, Nat.le_of_ble_eq_true rfl⟩) hx hb hml hown hts hK hP hS hl.1 d_M_delete_9 rfl (lv_room (Nat.le_of_ble_eq_true rfl)) (Nat.zero_le _) (Nat.zero_le _) rfl (fun r2 u H locs hwp hP hS => ?_)
    have hP : va_P (dC, dI) clZ (wM cI cL cZ q MA MD MF MG ML MN MP MT MV) H := hP
    refine lv_if_ne (tgt := 19) hx hb d_M_delete_12 (by decide) (fun hc => ?_) (fun hc => ?_)
    · rw [if_neg hc] at hwp
      refine lv_aload_n hx hb d_M_delete_19 rfl (lv_at hl 0 rfl) ?_
      refine lv_iload_n hx hb d_M_delete_20 rfl (lv_at hl 1 rfl) ?_
      refine lv_iconst (v := 3) hx hb d_M_delete_21 (by decide) ?_
      refine lv_iload_n hx hb d_M_delete_22 rfl (lv_at hl 2 rfl) ?_
      refine lv_iconst (v := 0) hx hb d_M_delete_23 (by decide) ?_
      refine ncn_i (As := [.int a1, .int 3, .int a2, .int 0]) (c_M_ask hq (MA) (MD) (MF) (MG) (ML) (MN) (MP) (MT) (MV) (a1) (3) (a2) (0) _ hwp) (cwV 4 hts g_M_242 rfl rfl rfl hd_M_ask ⟨Nat.le_of_ble_eq_true rfl, Nat.le_of_ble_eq_true rfl⟩) hx hb hml hown hts hK hP hS hl.1 d_M_delete_24 (va_recv (q := (R_M, F_M, 39)) hK hP (ci := 7) (q0 := 0) rfl rfl) rfl (lv_room (Nat.le_of_ble_eq_true rfl)) (Nat.zero_le _) (Nat.zero_le _) rfl (fun r3 u H locs hwp hP hS => ?_)
      obtain ⟨MA4, MD5, MF6, MG7, ML8, MN9, MP10, MT11, MV12⟩ := u
      have hP : va_P (dC, dI) clZ (wM cI cL cZ q MA4 MD5 MF6 MG7 ML8 MN9 MP10 MT11 MV12) H := hP
      rw [hQ]
      exact W.iret (v := r3) hx hb hr (fun t ht hW => ⟨⟨r3, (MA4, MD5, MF6, MG7, ML8, MN9, MP10, MT11, MV12), rfl, hwp, hp_of ht hP⟩, hS.F ht⟩) hS.2.2 d_M_delete_27
    · rw [if_pos hc] at hwp
      refine lv_iconst (v := (-1)) hx hb d_M_delete_15 (by decide) ?_
      refine lv_goto hx hb d_M_delete_16 (tgt := 27) (by decide) ?_
      rw [hQ]
      exact W.iret (v := (-1)) hx hb hr (fun t ht hW => ⟨⟨(-1), (MA, MD, MF, MG, ML, MN, MP, MT, MV), rfl, hwp, hp_of ht hP⟩, hS.F ht⟩) hS.2.2 d_M_delete_27

set_option maxHeartbeats 4000000 in
set_option maxRecDepth 100000 in
theorem c_M_scan {l : Launch} {dC : Nat → ClassId} {dI : Nat → Nat → Nat} {cI cL cZ : ClassId} {q : Nat → Nat} (hq : iM q) (MA : S_MA) (MD : S_MD) (MF : S_MF) (MG : S_MG) (ML : S_ML) (MN : S_MN) (MP : S_MP) (MT : S_MT) (MV : S_MV) (a1 : Int32) (a2 : Int32) (a3 : Int32) (post : Int32 → S_MA → S_MD → S_MF → S_MG → S_ML → S_MN → S_MP → S_MT → S_MV → Prop) (hwp : wp_M_scan MA MD MF MG ML MN MP MT MV a1 a2 a3 post) : Met l y_M_scan ws_M_scan rm_M_scan (va_Pc [.ref (q 0), .int a1, .int a2, .int a3] (bM dC dI cI cL cZ q MA MD MF MG ML MN MP MT MV)) (va_Qi (fun (r : Int32) (u : S_MA × S_MD × S_MF × S_MG × S_ML × S_MN × S_MP × S_MT × S_MV) => post r u.1 u.2.1 u.2.2.1 u.2.2.2.1 u.2.2.2.2.1 u.2.2.2.2.2.1 u.2.2.2.2.2.2.1 u.2.2.2.2.2.2.2.1 u.2.2.2.2.2.2.2.2) (fun u t => va_P (dC, dI) clZ (wM cI cL cZ q (u.1) (u.2.1) (u.2.2.1) (u.2.2.2.1) (u.2.2.2.2.1) (u.2.2.2.2.2.1) (u.2.2.2.2.2.2.1) (u.2.2.2.2.2.2.2.1) (u.2.2.2.2.2.2.2.2)) t.heap) (aM q)) 0 0 (aM q) := by
  refine Met.ofW (cc := b_M_scan) (maxL := 4) (ret := (some .int)) (by decide) rfl ?_
  intro p e s m args below meth c s₁ B hml hv
  obtain ⟨rfl, hP, hK⟩ := hv
  have hx := B.exec
  have hb := B.bytes
  have hr := B.returns
  have hts := atoms_spec (ws := ws_M_scan) B.pre
  have hown : s.vm.findClass R_M = some m.cls := findClass_of_methodNamed B.named
  have hlocks := B.notSynchronized
  have hS : va_S (aM q) s.heap s.heap [] := va_S.rf
  have hl := lv_entry ([.ref (q 0), .int a1, .int a2, .int a3]) (n := 4) (Nat.le_of_ble_eq_true rfl)
  rw [lg_entry_eq]
  generalize (lg_sl ([.ref (q 0), .int a1, .int a2, .int a3]) ++ List.replicate (4 - (lg_sl ([.ref (q 0), .int a1, .int a2, .int a3])).length) Slot.unset).toArray = ls at hl ⊢
  have hl : lv_has ls 4 [(0, .ref (q 0)), (1, .int a1), (2, .int a2), (3, .int a3)] := hl
  obtain ⟨Q, hQ⟩ : ∃ Q, Q = MQ below (va_Qi (fun (r : Int32) (u : S_MA × S_MD × S_MF × S_MG × S_ML × S_MN × S_MP × S_MT × S_MV) => post r u.1 u.2.1 u.2.2.1 u.2.2.2.1 u.2.2.2.2.1 u.2.2.2.2.2.1 u.2.2.2.2.2.2.1 u.2.2.2.2.2.2.2.1 u.2.2.2.2.2.2.2.2) (fun u t => va_P (dC, dI) clZ (wM cI cL cZ q (u.1) (u.2.1) (u.2.2.1) (u.2.2.2.1) (u.2.2.2.2.1) (u.2.2.2.2.2.1) (u.2.2.2.2.2.2.1) (u.2.2.2.2.2.2.2.1) (u.2.2.2.2.2.2.2.2)) t.heap) (aM q)) ([.ref (q 0), .int a1, .int a2, .int a3]).toArray s 0 0 (aM q) := ⟨_, rfl⟩
  rw [← hQ]
  rw [wp_M_scan] at hwp
  refine lv_aload_n hx hb d_M_scan_0 rfl (lv_at hl 0 rfl) ?_
  refine lv_iload_n hx hb d_M_scan_1 rfl (lv_at hl 1 rfl) ?_
  refine ncn_i (As := [.int a1]) (c_M_active hq (MA) (MD) (MF) (MG) (ML) (MN) (MP) (MT) (MV) (a1) _ hwp) (cwV 1 hts g_M_162 rfl rfl rfl hd_M_active ⟨Nat.le_of_ble_eq_true rfl, Nat.le_of_ble_eq_true rfl⟩) hx hb hml hown hts hK hP hS hl.1 d_M_scan_2 (va_recv (q := (R_M, F_M, 39)) hK hP (ci := 7) (q0 := 0) rfl rfl) rfl (lv_room (Nat.le_of_ble_eq_true rfl)) (Nat.zero_le _) (Nat.zero_le _) rfl (fun r1 u H locs hwp hP hS => ?_)
  have hP : va_P (dC, dI) clZ (wM cI cL cZ q MA MD MF MG ML MN MP MT MV) H := hP
  refine lv_if_eq (tgt := 27) hx hb d_M_scan_5 (by decide) (fun hc => ?_) (fun hc => ?_)
  · rw [if_pos hc] at hwp
    refine lv_iconst (v := (-1)) hx hb d_M_scan_27 (by decide) ?_
    refine lv_goto hx hb d_M_scan_28 (tgt := 39) (by decide) ?_
    rw [hQ]
    exact W.iret (v := (-1)) hx hb hr (fun t ht hW => ⟨⟨(-1), (MA, MD, MF, MG, ML, MN, MP, MT, MV), rfl, hwp, hp_of ht hP⟩, hS.F ht⟩) hS.2.2 d_M_scan_39
  · rw [if_neg hc] at hwp
    refine lv_iload_n hx hb d_M_scan_8 rfl (lv_at hl 2 rfl) ?_
    refine ncs_i (As := [.int a2]) (c_M_isKey hq (MA) (MD) (MF) (MG) (ML) (MN) (MP) (MT) (MV) (a2) _ hwp) (cwS 1 hts g_M_239 rfl rfl rfl hd_M_isKey ⟨Nat.le_of_ble_eq_true rfl, Nat.le_of_ble_eq_true rfl⟩) hx hb hml hown hts hK hP hS hl.1 d_M_scan_9 rfl (lv_room (Nat.le_of_ble_eq_true rfl)) (Nat.zero_le _) (Nat.zero_le _) rfl (fun r2 u H locs hwp hP hS => ?_)
    have hP : va_P (dC, dI) clZ (wM cI cL cZ q MA MD MF MG ML MN MP MT MV) H := hP
    refine lv_if_eq (tgt := 27) hx hb d_M_scan_12 (by decide) (fun hc => ?_) (fun hc => ?_)
    · rw [if_pos hc] at hwp
      refine lv_iconst (v := (-1)) hx hb d_M_scan_27 (by decide) ?_
      refine lv_goto hx hb d_M_scan_28 (tgt := 39) (by decide) ?_
      rw [hQ]
      exact W.iret (v := (-1)) hx hb hr (fun t ht hW => ⟨⟨(-1), (MA, MD, MF, MG, ML, MN, MP, MT, MV), rfl, hwp, hp_of ht hP⟩, hS.F ht⟩) hS.2.2 d_M_scan_39
    · rw [if_neg hc] at hwp
      refine lv_iload_n hx hb d_M_scan_15 rfl (lv_at hl 3 rfl) ?_
      refine ncs_i (As := [.int a3]) (c_M_isKey hq (MA) (MD) (MF) (MG) (ML) (MN) (MP) (MT) (MV) (a3) _ hwp) (cwS 1 hts g_M_239 rfl rfl rfl hd_M_isKey ⟨Nat.le_of_ble_eq_true rfl, Nat.le_of_ble_eq_true rfl⟩) hx hb hml hown hts hK hP hS hl.1 d_M_scan_16 rfl (lv_room (Nat.le_of_ble_eq_true rfl)) (Nat.zero_le _) (Nat.zero_le _) rfl (fun r3 u H locs hwp hP hS => ?_)
      have hP : va_P (dC, dI) clZ (wM cI cL cZ q MA MD MF MG ML MN MP MT MV) H := hP
      refine lv_if_eq (tgt := 27) hx hb d_M_scan_19 (by decide) (fun hc => ?_) (fun hc => ?_)
      · rw [if_pos hc] at hwp
        refine lv_iconst (v := (-1)) hx hb d_M_scan_27 (by decide) ?_
        refine lv_goto hx hb d_M_scan_28 (tgt := 39) (by decide) ?_
        rw [hQ]
        exact W.iret (v := (-1)) hx hb hr (fun t ht hW => ⟨⟨(-1), (MA, MD, MF, MG, ML, MN, MP, MT, MV), rfl, hwp, hp_of ht hP⟩, hS.F ht⟩) hS.2.2 d_M_scan_39
      · rw [if_neg hc] at hwp
        refine lv_iload_n hx hb d_M_scan_22 rfl (lv_at hl 2 rfl) ?_
        refine lv_iload_n hx hb d_M_scan_23 rfl (lv_at hl 3 rfl) ?_
        refine lv_icmp_le (tgt := 31) hx hb d_M_scan_24 (by decide) (fun hc => ?_) (fun hc => ?_)
        · rw [if_pos hc] at hwp
          refine lv_aload_n hx hb d_M_scan_31 rfl (lv_at hl 0 rfl) ?_
          refine lv_iload_n hx hb d_M_scan_32 rfl (lv_at hl 1 rfl) ?_
          refine lv_iconst (v := 4) hx hb d_M_scan_33 (by decide) ?_
          refine lv_iload_n hx hb d_M_scan_34 rfl (lv_at hl 2 rfl) ?_
          refine lv_iload_n hx hb d_M_scan_35 rfl (lv_at hl 3 rfl) ?_
          refine ncn_i (As := [.int a1, .int 4, .int a2, .int a3]) (c_M_ask hq (MA) (MD) (MF) (MG) (ML) (MN) (MP) (MT) (MV) (a1) (4) (a2) (a3) _ hwp) (cwV 4 hts g_M_242 rfl rfl rfl hd_M_ask ⟨Nat.le_of_ble_eq_true rfl, Nat.le_of_ble_eq_true rfl⟩) hx hb hml hown hts hK hP hS hl.1 d_M_scan_36 (va_recv (q := (R_M, F_M, 39)) hK hP (ci := 7) (q0 := 0) rfl rfl) rfl (lv_room (Nat.le_of_ble_eq_true rfl)) (Nat.zero_le _) (Nat.zero_le _) rfl (fun r4 u H locs hwp hP hS => ?_)
          obtain ⟨MA5, MD6, MF7, MG8, ML9, MN10, MP11, MT12, MV13⟩ := u
          have hP : va_P (dC, dI) clZ (wM cI cL cZ q MA5 MD6 MF7 MG8 ML9 MN10 MP11 MT12 MV13) H := hP
          rw [hQ]
          exact W.iret (v := r4) hx hb hr (fun t ht hW => ⟨⟨r4, (MA5, MD6, MF7, MG8, ML9, MN10, MP11, MT12, MV13), rfl, hwp, hp_of ht hP⟩, hS.F ht⟩) hS.2.2 d_M_scan_39
        · rw [if_neg hc] at hwp
          refine lv_iconst (v := (-1)) hx hb d_M_scan_27 (by decide) ?_
          refine lv_goto hx hb d_M_scan_28 (tgt := 39) (by decide) ?_
          rw [hQ]
          exact W.iret (v := (-1)) hx hb hr (fun t ht hW => ⟨⟨(-1), (MA, MD, MF, MG, ML, MN, MP, MT, MV), rfl, hwp, hp_of ht hP⟩, hS.F ht⟩) hS.2.2 d_M_scan_39

set_option maxHeartbeats 4000000 in
set_option maxRecDepth 100000 in
theorem c_M_resume {l : Launch} {dC : Nat → ClassId} {dI : Nat → Nat → Nat} {cI cL cZ : ClassId} {q : Nat → Nat} (hq : iM q) (MA : S_MA) (MD : S_MD) (MF : S_MF) (MG : S_MG) (ML : S_ML) (MN : S_MN) (MP : S_MP) (MT : S_MT) (MV : S_MV) (a1 : Int32) (post : Int32 → S_MA → S_MD → S_MF → S_MG → S_ML → S_MN → S_MP → S_MT → S_MV → Prop) (hwp : wp_M_resume MA MD MF MG ML MN MP MT MV a1 post) : Met l y_M_resume ws_M_resume rm_M_resume (va_Pc [.ref (q 0), .int a1] (bM dC dI cI cL cZ q MA MD MF MG ML MN MP MT MV)) (va_Qi (fun (r : Int32) (u : S_MA × S_MD × S_MF × S_MG × S_ML × S_MN × S_MP × S_MT × S_MV) => post r u.1 u.2.1 u.2.2.1 u.2.2.2.1 u.2.2.2.2.1 u.2.2.2.2.2.1 u.2.2.2.2.2.2.1 u.2.2.2.2.2.2.2.1 u.2.2.2.2.2.2.2.2) (fun u t => va_P (dC, dI) clZ (wM cI cL cZ q (u.1) (u.2.1) (u.2.2.1) (u.2.2.2.1) (u.2.2.2.2.1) (u.2.2.2.2.2.1) (u.2.2.2.2.2.2.1) (u.2.2.2.2.2.2.2.1) (u.2.2.2.2.2.2.2.2)) t.heap) (aM q)) 0 0 (aM q) := by
  refine Met.ofW (cc := b_M_resume) (maxL := 2) (ret := (some .int)) (by decide) rfl ?_
  intro p e s m args below meth c s₁ B hml hv
  obtain ⟨rfl, hP, hK⟩ := hv
  have hx := B.exec
  have hb := B.bytes
  have hr := B.returns
  have hts := atoms_spec (ws := ws_M_resume) B.pre
  have hown : s.vm.findClass R_M = some m.cls := findClass_of_methodNamed B.named
  have hlocks := B.notSynchronized
  have hiM : ∀ w ∈ u_ws R_M F_M 39, w ∈ ws_M_resume := fun w h => List.mem_cons_of_mem _ (in_M w h)
  have lk62 := hts _ (List.mem_cons_of_mem _ k_M_62)
  have lk74 := hts _ (List.mem_cons_of_mem _ k_M_74)
  have lk77 := hts _ (List.mem_cons_of_mem _ k_M_77)
  have lk80 := hts _ (List.mem_cons_of_mem _ k_M_80)
  have hS : va_S (aM q) s.heap s.heap [] := va_S.rf
  have hl := lv_entry ([.ref (q 0), .int a1]) (n := 2) (Nat.le_of_ble_eq_true rfl)
  rw [lg_entry_eq]
  generalize (lg_sl ([.ref (q 0), .int a1]) ++ List.replicate (2 - (lg_sl ([.ref (q 0), .int a1])).length) Slot.unset).toArray = ls at hl ⊢
  have hl : lv_has ls 2 [(0, .ref (q 0)), (1, .int a1)] := hl
  obtain ⟨Q, hQ⟩ : ∃ Q, Q = MQ below (va_Qi (fun (r : Int32) (u : S_MA × S_MD × S_MF × S_MG × S_ML × S_MN × S_MP × S_MT × S_MV) => post r u.1 u.2.1 u.2.2.1 u.2.2.2.1 u.2.2.2.2.1 u.2.2.2.2.2.1 u.2.2.2.2.2.2.1 u.2.2.2.2.2.2.2.1 u.2.2.2.2.2.2.2.2) (fun u t => va_P (dC, dI) clZ (wM cI cL cZ q (u.1) (u.2.1) (u.2.2.1) (u.2.2.2.1) (u.2.2.2.2.1) (u.2.2.2.2.2.1) (u.2.2.2.2.2.2.1) (u.2.2.2.2.2.2.2.1) (u.2.2.2.2.2.2.2.2)) t.heap) (aM q)) ([.ref (q 0), .int a1]).toArray s 0 0 (aM q) := ⟨_, rfl⟩
  rw [← hQ]
  rw [wp_M_resume] at hwp
  refine lv_aload_n hx hb d_M_resume_0 rfl (lv_at hl 0 rfl) ?_
  refine lv_iload_n hx hb d_M_resume_1 rfl (lv_at hl 1 rfl) ?_
  refine ncn_i (As := [.int a1]) (c_M_is hq (MA) (MD) (MF) (MG) (ML) (MN) (MP) (MT) (MV) (a1) _ hwp) (cwV 1 hts g_M_159 rfl rfl rfl hd_M_is ⟨Nat.le_of_ble_eq_true rfl, Nat.le_of_ble_eq_true rfl⟩) hx hb hml hown hts hK hP hS hl.1 d_M_resume_2 (va_recv (q := (R_M, F_M, 39)) hK hP (ci := 7) (q0 := 0) rfl rfl) rfl (lv_room (Nat.le_of_ble_eq_true rfl)) (Nat.zero_le _) (Nat.zero_le _) rfl (fun r1 u H locs hwp hP hS => ?_)
  have hP : va_P (dC, dI) clZ (wM cI cL cZ q MA MD MF MG ML MN MP MT MV) H := hP
  refine lv_if_eq (tgt := 18) hx hb d_M_resume_5 (by decide) (fun hc => ?_) (fun hc => ?_)
  · rw [if_pos hc] at hwp
    refine lv_iconst (v := (-1)) hx hb d_M_resume_18 (by decide) ?_
    refine lv_goto hx hb d_M_resume_19 (tgt := 45) (by decide) ?_
    rw [hQ]
    exact W.iret (v := (-1)) hx hb hr (fun t ht hW => ⟨⟨(-1), (MA, MD, MF, MG, ML, MN, MP, MT, MV), rfl, hwp, hp_of ht hP⟩, hS.F ht⟩) hS.2.2 d_M_resume_45
  · rw [if_neg hc] at hwp
    refine lv_aload_n hx hb d_M_resume_8 rfl (lv_at hl 0 rfl) ?_
    refine va_get (D := (dC, dI)) (ci := 7) (v := .ref (q 18)) (C := R_M) (T := F_M) (N := 39) hx hb hts hiM hown hK hP 0 rfl rfl 23 (by decide) lk62 (fun _ h9 => h9) rfl d_M_resume_9 ?_
    refine lv_iload_n hx hb d_M_resume_12 rfl (lv_at hl 1 rfl) ?_
    refine va_iald hx hb hK hP 18 0 rfl rfl hwp.1 d_M_resume_13 ?_
    have hwp := hwp.2
    refine lv_iconst (v := 2) hx hb d_M_resume_14 (by decide) ?_
    refine lv_icmp_eq (tgt := 22) hx hb d_M_resume_15 (by decide) (fun hc => ?_) (fun hc => ?_)
    · rw [if_pos hc] at hwp
      refine lv_aload_n hx hb d_M_resume_22 rfl (lv_at hl 0 rfl) ?_
      refine lv_iload_n hx hb d_M_resume_23 rfl (lv_at hl 1 rfl) ?_
      refine lv_aload_n hx hb d_M_resume_24 rfl (lv_at hl 0 rfl) ?_
      refine va_get (D := (dC, dI)) (ci := 7) (v := .ref (q 22)) (C := R_M) (T := F_M) (N := 39) hx hb hts hiM hown hK hP 0 rfl rfl 27 (by decide) lk74 (fun _ h9 => h9) rfl d_M_resume_25 ?_
      refine lv_iload_n hx hb d_M_resume_28 rfl (lv_at hl 1 rfl) ?_
      refine va_iald hx hb hK hP 22 0 rfl rfl hwp.1 d_M_resume_29 ?_
      have hwp := hwp.2
      refine lv_aload_n hx hb d_M_resume_30 rfl (lv_at hl 0 rfl) ?_
      refine va_get (D := (dC, dI)) (ci := 7) (v := .ref (q 23)) (C := R_M) (T := F_M) (N := 39) hx hb hts hiM hown hK hP 0 rfl rfl 28 (by decide) lk77 (fun _ h9 => h9) rfl d_M_resume_31 ?_
      refine lv_iload_n hx hb d_M_resume_34 rfl (lv_at hl 1 rfl) ?_
      refine va_iald hx hb hK hP 23 0 rfl rfl hwp.1 d_M_resume_35 ?_
      have hwp := hwp.2
      refine lv_aload_n hx hb d_M_resume_36 rfl (lv_at hl 0 rfl) ?_
      refine va_get (D := (dC, dI)) (ci := 7) (v := .ref (q 24)) (C := R_M) (T := F_M) (N := 39) hx hb hts hiM hown hK hP 0 rfl rfl 29 (by decide) lk80 (fun _ h9 => h9) rfl d_M_resume_37 ?_
      refine lv_iload_n hx hb d_M_resume_40 rfl (lv_at hl 1 rfl) ?_
      refine va_iald hx hb hK hP 24 0 rfl rfl hwp.1 d_M_resume_41 ?_
      have hwp := hwp.2
      refine ncn_i (As := [.int a1, .int ((MT_asks MT) (Int32.toNatClampNeg a1)), .int ((MT_first MT) (Int32.toNatClampNeg a1)), .int ((MT_second MT) (Int32.toNatClampNeg a1))]) (c_M_request hq (MA) (MD) (MF) (MG) (ML) (MN) (MP) (MT) (MV) (a1) (((MT_asks MT) (Int32.toNatClampNeg a1))) (((MT_first MT) (Int32.toNatClampNeg a1))) (((MT_second MT) (Int32.toNatClampNeg a1))) _ hwp) (cwV 4 hts g_M_236 rfl rfl rfl hd_M_request ⟨Nat.le_of_ble_eq_true rfl, Nat.le_of_ble_eq_true rfl⟩) hx hb hml hown hts hK hP hS hl.1 d_M_resume_42 (va_recv (q := (R_M, F_M, 39)) hK hP (ci := 7) (q0 := 0) rfl rfl) rfl (lv_room (Nat.le_of_ble_eq_true rfl)) (Nat.zero_le _) (Nat.zero_le _) rfl (fun r2 u H locs hwp hP hS => ?_)
      obtain ⟨MA3, MD4, MF5, MG6, ML7, MN8, MP9, MT10, MV11⟩ := u
      have hP : va_P (dC, dI) clZ (wM cI cL cZ q MA3 MD4 MF5 MG6 ML7 MN8 MP9 MT10 MV11) H := hP
      rw [hQ]
      exact W.iret (v := r2) hx hb hr (fun t ht hW => ⟨⟨r2, (MA3, MD4, MF5, MG6, ML7, MN8, MP9, MT10, MV11), rfl, hwp, hp_of ht hP⟩, hS.F ht⟩) hS.2.2 d_M_resume_45
    · rw [if_neg hc] at hwp
      refine lv_iconst (v := (-1)) hx hb d_M_resume_18 (by decide) ?_
      refine lv_goto hx hb d_M_resume_19 (tgt := 45) (by decide) ?_
      rw [hQ]
      exact W.iret (v := (-1)) hx hb hr (fun t ht hW => ⟨⟨(-1), (MA, MD, MF, MG, ML, MN, MP, MT, MV), rfl, hwp, hp_of ht hP⟩, hS.F ht⟩) hS.2.2 d_M_resume_45

set_option maxHeartbeats 4000000 in
set_option maxRecDepth 100000 in
theorem c_M_value {l : Launch} {dC : Nat → ClassId} {dI : Nat → Nat → Nat} {cI cL cZ : ClassId} {q : Nat → Nat} (hq : iM q) (MA : S_MA) (MD : S_MD) (MF : S_MF) (MG : S_MG) (ML : S_ML) (MN : S_MN) (MP : S_MP) (MT : S_MT) (MV : S_MV)  (post : Int32 → Prop) (hwp : wp_M_value MN post) : Met l y_M_value ws_M_value rm_M_value (va_Pc [.ref (q 0)] (bM dC dI cI cL cZ q MA MD MF MG ML MN MP MT MV)) (va_Qi (fun (r : Int32) (u : Unit) => post r) (fun u t => va_P (dC, dI) clZ (wM cI cL cZ q MA MD MF MG ML MN MP MT MV) t.heap) (aM q)) 0 0 (aM q) := by
  refine Met.ofW (cc := b_M_value) (maxL := 1) (ret := (some .int)) (by decide) rfl ?_
  intro p e s m args below meth c s₁ B hml hv
  obtain ⟨rfl, hP, hK⟩ := hv
  have hx := B.exec
  have hb := B.bytes
  have hr := B.returns
  have hts := atoms_spec (ws := ws_M_value) B.pre
  have hown : s.vm.findClass R_M = some m.cls := findClass_of_methodNamed B.named
  have hlocks := B.notSynchronized
  have hiM : ∀ w ∈ u_ws R_M F_M 39, w ∈ ws_M_value := fun w h => List.mem_cons_of_mem _ (in_M w h)
  have lk216 := hts _ (List.mem_cons_of_mem _ k_M_216)
  have hS : va_S (aM q) s.heap s.heap [] := va_S.rf
  have hl := lv_entry ([.ref (q 0)]) (n := 1) (Nat.le_of_ble_eq_true rfl)
  rw [lg_entry_eq]
  generalize (lg_sl ([.ref (q 0)]) ++ List.replicate (1 - (lg_sl ([.ref (q 0)])).length) Slot.unset).toArray = ls at hl ⊢
  have hl : lv_has ls 1 [(0, .ref (q 0))] := hl
  obtain ⟨Q, hQ⟩ : ∃ Q, Q = MQ below (va_Qi (fun (r : Int32) (u : Unit) => post r) (fun u t => va_P (dC, dI) clZ (wM cI cL cZ q MA MD MF MG ML MN MP MT MV) t.heap) (aM q)) ([.ref (q 0)]).toArray s 0 0 (aM q) := ⟨_, rfl⟩
  rw [← hQ]
  rw [wp_M_value] at hwp
  refine lv_aload_n hx hb d_M_value_0 rfl (lv_at hl 0 rfl) ?_
  refine va_get (D := (dC, dI)) (ci := 7) (v := .int (MN_latest MN)) (C := R_M) (T := F_M) (N := 39) hx hb hts hiM hown hK hP 0 rfl rfl 38 (by decide) lk216 (fun _ h9 => h9) rfl d_M_value_1 ?_
  rw [hQ]
  exact W.iret (v := (MN_latest MN)) hx hb hr (fun t ht hW => ⟨⟨(MN_latest MN), (), rfl, hwp, hp_of ht hP⟩, hS.F ht⟩) hS.2.2 d_M_value_4

set_option maxHeartbeats 4000000 in
set_option maxRecDepth 100000 in
theorem c_M_commit {l : Launch} {dC : Nat → ClassId} {dI : Nat → Nat → Nat} {cI cL cZ : ClassId} {q : Nat → Nat} (hq : iM q) (MA : S_MA) (MD : S_MD) (MF : S_MF) (MG : S_MG) (ML : S_ML) (MN : S_MN) (MP : S_MP) (MT : S_MT) (MV : S_MV) (a1 : Int32) (post : Int32 → S_MG → S_ML → S_MT → Prop) (hwp : wp_M_commit MG ML MT a1 post) : Met l y_M_commit ws_M_commit rm_M_commit (va_Pc [.ref (q 0), .int a1] (bM dC dI cI cL cZ q MA MD MF MG ML MN MP MT MV)) (va_Qi (fun (r : Int32) (u : S_MG × S_ML × S_MT) => post r u.1 u.2.1 u.2.2) (fun u t => va_P (dC, dI) clZ (wM cI cL cZ q MA MD MF (u.1) (u.2.1) MN MP (u.2.2) MV) t.heap) (aM q)) 0 0 (aM q) := by
  refine Met.ofW (cc := b_M_commit) (maxL := 6) (ret := (some .int)) (by decide) rfl ?_
  intro p e s m args below meth c s₁ B hml hv
  obtain ⟨rfl, hP, hK⟩ := hv
  have hx := B.exec
  have hb := B.bytes
  have hr := B.returns
  have hts := atoms_spec (ws := ws_M_commit) B.pre
  have hown : s.vm.findClass R_M = some m.cls := findClass_of_methodNamed B.named
  have hlocks := B.notSynchronized
  have hiM : ∀ w ∈ u_ws R_M F_M 39, w ∈ ws_M_commit := fun w h => List.mem_cons_of_mem _ (in_M w h)
  have lk41 := hts _ (List.mem_cons_of_mem _ k_M_41)
  have lk62 := hts _ (List.mem_cons_of_mem _ k_M_62)
  have lk65 := hts _ (List.mem_cons_of_mem _ k_M_65)
  have lk71 := hts _ (List.mem_cons_of_mem _ k_M_71)
  have lk105 := hts _ (List.mem_cons_of_mem _ k_M_105)
  have hS : va_S (aM q) s.heap s.heap [] := va_S.rf
  have hl := lv_entry ([.ref (q 0), .int a1]) (n := 6) (Nat.le_of_ble_eq_true rfl)
  rw [lg_entry_eq]
  generalize (lg_sl ([.ref (q 0), .int a1]) ++ List.replicate (6 - (lg_sl ([.ref (q 0), .int a1])).length) Slot.unset).toArray = ls at hl ⊢
  have hl : lv_has ls 6 [(0, .ref (q 0)), (1, .int a1)] := hl
  obtain ⟨Q, hQ⟩ : ∃ Q, Q = MQ below (va_Qi (fun (r : Int32) (u : S_MG × S_ML × S_MT) => post r u.1 u.2.1 u.2.2) (fun u t => va_P (dC, dI) clZ (wM cI cL cZ q MA MD MF (u.1) (u.2.1) MN MP (u.2.2) MV) t.heap) (aM q)) ([.ref (q 0), .int a1]).toArray s 0 0 (aM q) := ⟨_, rfl⟩
  rw [← hQ]
  have L51 : ∀ (Kx : S_ML → Prop) (MG : S_MG) (MT : S_MT) (v1 : Int32) (v3 : Int32) (n : Nat) (v4 : Int32) (ML : S_ML) (H : Heap) (locs : List Loc) (ls : Array Slot), lv_has ls 6 [(0, .ref (q 0)), (1, .int v1), (3, .int v3), (4, .int v4)] → va_P (dC, dI) clZ (wM cI cL cZ q MA MD MF MG ML MN MP MT MV) H → va_S (aM q) s.heap H locs → wp_M_commit_L51 v1 v3 Kx n v4 ML → (∀ (ML1 : S_ML) (H : Heap) (locs : List Loc) (ls : Array Slot), lv_has ls 6 [(0, .ref (q 0)), (1, .int v1), (3, .int v3)] → va_P (dC, dI) clZ (wM cI cL cZ q MA MD MF MG ML1 MN MP MT MV) H → va_S (aM q) s.heap H locs → Kx ML1 → W p l e (headSpec ws_M_commit rm_M_commit).room s m ([.ref (q 0), .int a1]).toArray below meth c H locs 0 0 Q (F0 m 128 ls [])) → W p l e (headSpec ws_M_commit rm_M_commit).room s m ([.ref (q 0), .int a1]).toArray below meth c H locs 0 0 Q (F0 m 51 ls []) := by
    intro Kx MG MT v1 v3 n
    induction n with
    | zero =>
      intros
      rename_i hwp _
      exact hwp.elim
    | succ n51 ih =>
      intro v4 ML H locs ls hl hP hS hwp hX
      rw [wp_M_commit_L51] at hwp
      refine lv_iload hx hb d_M_commit_51 (lv_at hl 3 rfl) ?_
      refine lv_bipush (v := 33) hx hb d_M_commit_53 (by decide) ?_
      refine lv_icmp_ge (tgt := 128) hx hb d_M_commit_55 (by decide) (fun hc => ?_) (fun hc => ?_)
      · rw [if_pos hc] at hwp
        exact hX (ML) _ _ _ (lv_sub hl [0, 1, 2] rfl) hP hS hwp
      · rw [if_neg hc] at hwp
        refine lv_iload_n hx hb d_M_commit_58 rfl (lv_at hl 2 rfl) ?_
        refine lv_if_lt (tgt := 128) hx hb d_M_commit_59 (by decide) (fun hc => ?_) (fun hc => ?_)
        · rw [if_pos hc] at hwp
          exact hX (ML) _ _ _ (lv_sub hl [0, 1, 2] rfl) hP hS hwp
        · rw [if_neg hc] at hwp
          refine lv_aload_n hx hb d_M_commit_62 rfl (lv_at hl 0 rfl) ?_
          refine va_get (D := (dC, dI)) (ci := 7) (v := .ref (q 21)) (C := R_M) (T := F_M) (N := 39) hx hb hts hiM hown hK hP 0 rfl rfl 26 (by decide) lk71 (fun _ h9 => h9) rfl d_M_commit_63 ?_
          refine lv_bipush (v := 33) hx hb d_M_commit_66 (by decide) ?_
          refine lv_iload_n hx hb d_M_commit_68 rfl (lv_at hl 1 rfl) ?_
          refine lv_imul hx hb d_M_commit_69 ?_
          refine lv_iload hx hb d_M_commit_70 (lv_at hl 3 rfl) ?_
          refine lv_iadd hx hb d_M_commit_72 ?_
          refine va_iald hx hb hK hP 21 0 rfl rfl hwp.1 d_M_commit_73 ?_
          have hwp := hwp.2
          refine lv_istore (lv' := [(5, .int ((ML_locks ML) (Int32.toNatClampNeg ((33 * v1) + v4)))), (0, .ref (q 0)), (1, .int v1), (3, .int v3), (4, .int v4)]) hx hb d_M_commit_74 hl (by decide) rfl (fun ls hl => ?_)
          refine lv_aload_n hx hb d_M_commit_76 rfl (lv_at hl 1 rfl) ?_
          refine va_get (D := (dC, dI)) (ci := 7) (v := .ref (q 21)) (C := R_M) (T := F_M) (N := 39) hx hb hts hiM hown hK hP 0 rfl rfl 26 (by decide) lk71 (fun _ h9 => h9) rfl d_M_commit_77 ?_
          refine lv_bipush (v := 33) hx hb d_M_commit_80 (by decide) ?_
          refine lv_iload_n hx hb d_M_commit_82 rfl (lv_at hl 3 rfl) ?_
          refine lv_imul hx hb d_M_commit_83 ?_
          refine lv_iload hx hb d_M_commit_84 (lv_at hl 4 rfl) ?_
          refine lv_iadd hx hb d_M_commit_86 ?_
          refine lv_iload hx hb d_M_commit_87 (lv_at hl 0 rfl) ?_
          refine lv_aload_n hx hb d_M_commit_89 rfl (lv_at hl 1 rfl) ?_
          refine va_get (D := (dC, dI)) (ci := 7) (v := .ref (q 21)) (C := R_M) (T := F_M) (N := 39) hx hb hts hiM hown hK hP 0 rfl rfl 26 (by decide) lk71 (fun _ h9 => h9) rfl d_M_commit_90 ?_
          refine lv_bipush (v := 33) hx hb d_M_commit_93 (by decide) ?_
          refine lv_iload_n hx hb d_M_commit_95 rfl (lv_at hl 3 rfl) ?_
          refine lv_imul hx hb d_M_commit_96 ?_
          refine lv_iload hx hb d_M_commit_97 (lv_at hl 4 rfl) ?_
          refine lv_iadd hx hb d_M_commit_99 ?_
          refine va_iald hx hb hK hP 21 0 rfl rfl hwp.1 d_M_commit_100 ?_
          have hwp := hwp.2
          refine lv_icmp_le (tgt := 109) hx hb d_M_commit_101 (by decide) (fun hc => ?_) (fun hc => ?_)
          · rw [if_pos hc] at hwp
            refine lv_aload_n hx hb d_M_commit_109 rfl (lv_at hl 1 rfl) ?_
            refine va_get (D := (dC, dI)) (ci := 7) (v := .ref (q 21)) (C := R_M) (T := F_M) (N := 39) hx hb hts hiM hown hK hP 0 rfl rfl 26 (by decide) lk71 (fun _ h9 => h9) rfl d_M_commit_110 ?_
            refine lv_bipush (v := 33) hx hb d_M_commit_113 (by decide) ?_
            refine lv_iload_n hx hb d_M_commit_115 rfl (lv_at hl 3 rfl) ?_
            refine lv_imul hx hb d_M_commit_116 ?_
            refine lv_iload hx hb d_M_commit_117 (lv_at hl 4 rfl) ?_
            refine lv_iadd hx hb d_M_commit_119 ?_
            refine va_iald hx hb hK hP 21 0 rfl rfl hwp.1 d_M_commit_120 ?_
            have hwp := hwp.2
            refine va_iast hx hb hK hP (dM hq) hS 21 0 rfl rfl hwp.1 d_M_commit_121 (fun H locs hP _ hS => ?_)
            have hwp := hwp.2
            have hP : va_P (dC, dI) clZ (wM cI cL cZ q MA MD MF MG (ML_locks' ML (upd (ML_locks ML) (Int32.toNatClampNeg ((33 * v3) + v4)) ((ML_locks ML) (Int32.toNatClampNeg ((33 * v3) + v4))))) MN MP MT MV) H := hP
            refine lv_iinc (k := 4) (v := (v4 + 1)) (lv' := [(4, .int (v4 + 1)), (5, .int ((ML_locks ML) (Int32.toNatClampNeg ((33 * v1) + v4)))), (0, .ref (q 0)), (1, .int v1), (3, .int v3)]) hx hb d_M_commit_122 hl rfl (ii_1 _) (by decide) rfl (fun ls hl => ?_)
            refine lv_goto hx hb d_M_commit_125 (tgt := 51) (by decide) ?_
            exact ih ((v4 + 1)) ((ML_locks' ML (upd (ML_locks ML) (Int32.toNatClampNeg ((33 * v3) + v4)) ((ML_locks ML) (Int32.toNatClampNeg ((33 * v3) + v4)))))) _ _ _ (lv_sub hl [2, 3, 4, 0] rfl) hP hS hwp hX
          · rw [if_neg hc] at hwp
            refine lv_iload hx hb d_M_commit_104 (lv_at hl 0 rfl) ?_
            refine lv_goto hx hb d_M_commit_106 (tgt := 121) (by decide) ?_
            refine va_iast hx hb hK hP (dM hq) hS 21 0 rfl rfl hwp.1 d_M_commit_121 (fun H locs hP _ hS => ?_)
            have hwp := hwp.2
            have hP : va_P (dC, dI) clZ (wM cI cL cZ q MA MD MF MG (ML_locks' ML (upd (ML_locks ML) (Int32.toNatClampNeg ((33 * v3) + v4)) ((ML_locks ML) (Int32.toNatClampNeg ((33 * v1) + v4))))) MN MP MT MV) H := hP
            refine lv_iinc (k := 4) (v := (v4 + 1)) (lv' := [(4, .int (v4 + 1)), (5, .int ((ML_locks ML) (Int32.toNatClampNeg ((33 * v1) + v4)))), (0, .ref (q 0)), (1, .int v1), (3, .int v3)]) hx hb d_M_commit_122 hl rfl (ii_1 _) (by decide) rfl (fun ls hl => ?_)
            refine lv_goto hx hb d_M_commit_125 (tgt := 51) (by decide) ?_
            exact ih ((v4 + 1)) ((ML_locks' ML (upd (ML_locks ML) (Int32.toNatClampNeg ((33 * v3) + v4)) ((ML_locks ML) (Int32.toNatClampNeg ((33 * v1) + v4)))))) _ _ _ (lv_sub hl [2, 3, 4, 0] rfl) hP hS hwp hX
  rw [wp_M_commit] at hwp
  refine lv_aload_n hx hb d_M_commit_0 rfl (lv_at hl 0 rfl) ?_
  refine lv_iload_n hx hb d_M_commit_1 rfl (lv_at hl 1 rfl) ?_
  refine ncn_i (As := [.int a1]) (c_M_active hq (MA) (MD) (MF) (MG) (ML) (MN) (MP) (MT) (MV) (a1) _ hwp) (cwV 1 hts g_M_162 rfl rfl rfl hd_M_active ⟨Nat.le_of_ble_eq_true rfl, Nat.le_of_ble_eq_true rfl⟩) hx hb hml hown hts hK hP hS hl.1 d_M_commit_2 (va_recv (q := (R_M, F_M, 39)) hK hP (ci := 7) (q0 := 0) rfl rfl) rfl (lv_room (Nat.le_of_ble_eq_true rfl)) (Nat.zero_le _) (Nat.zero_le _) rfl (fun r1 u H locs hwp hP hS => ?_)
  have hP : va_P (dC, dI) clZ (wM cI cL cZ q MA MD MF MG ML MN MP MT MV) H := hP
  refine lv_if_ne (tgt := 10) hx hb d_M_commit_5 (by decide) (fun hc => ?_) (fun hc => ?_)
  · rw [if_neg hc] at hwp
    refine lv_aload_n hx hb d_M_commit_10 rfl (lv_at hl 0 rfl) ?_
    refine lv_iload_n hx hb d_M_commit_11 rfl (lv_at hl 1 rfl) ?_
    refine ncn_i (As := [.int a1]) (c_M_busy hq (MA) (MD) (MF) (MG) (ML) (MN) (MP) (MT) (MV) (a1) _ hwp) (cwV 1 hts g_M_233 rfl rfl rfl hd_M_busy ⟨Nat.le_of_ble_eq_true rfl, Nat.le_of_ble_eq_true rfl⟩) hx hb hml hown hts hK hP hS hl.1 d_M_commit_12 (va_recv (q := (R_M, F_M, 39)) hK hP (ci := 7) (q0 := 0) rfl rfl) rfl (lv_room (Nat.le_of_ble_eq_true rfl)) (Nat.zero_le _) (Nat.zero_le _) rfl (fun r2 u H locs hwp hP hS => ?_)
    have hP : va_P (dC, dI) clZ (wM cI cL cZ q MA MD MF MG ML MN MP MT MV) H := hP
    refine lv_if_eq (tgt := 21) hx hb d_M_commit_15 (by decide) (fun hc => ?_) (fun hc => ?_)
    · rw [if_pos hc] at hwp
      refine lv_aload_n hx hb d_M_commit_21 rfl (lv_at hl 0 rfl) ?_
      refine lv_iconst (v := 4) hx hb d_M_commit_22 (by decide) ?_
      refine lv_iload_n hx hb d_M_commit_23 rfl (lv_at hl 1 rfl) ?_
      refine lv_iconst (v := 0) hx hb d_M_commit_24 (by decide) ?_
      refine ncn_i (As := [.int 4, .int a1, .int 0]) (c_M_append hq (MA) (MD) (MF) (MG) (ML) (MN) (MP) (MT) (MV) (4) (a1) (0) _ hwp) (cwV 3 hts g_M_121 rfl rfl rfl hd_M_append ⟨Nat.le_of_ble_eq_true rfl, Nat.le_of_ble_eq_true rfl⟩) hx hb hml hown hts hK hP hS hl.1 d_M_commit_25 (va_recv (q := (R_M, F_M, 39)) hK hP (ci := 7) (q0 := 0) rfl rfl) rfl (lv_room (Nat.le_of_ble_eq_true rfl)) (Nat.zero_le _) (Nat.zero_le _) rfl (fun r3 MG4 H locs hwp hP hS => ?_)
      have hP : va_P (dC, dI) clZ (wM cI cL cZ q MA MD MF MG4 ML MN MP MT MV) H := hP
      refine lv_istore_n (lv' := [(2, .int r3), (0, .ref (q 0)), (1, .int a1)]) hx hb d_M_commit_28 rfl hl (by decide) rfl (fun ls hl => ?_)
      refine lv_aload_n hx hb d_M_commit_29 rfl (lv_at hl 1 rfl) ?_
      refine va_get (D := (dC, dI)) (ci := 7) (v := .ref (q 18)) (C := R_M) (T := F_M) (N := 39) hx hb hts hiM hown hK hP 0 rfl rfl 23 (by decide) lk62 (fun _ h9 => h9) rfl d_M_commit_30 ?_
      refine lv_aload_n hx hb d_M_commit_33 rfl (lv_at hl 1 rfl) ?_
      refine va_get (D := (dC, dI)) (ci := 7) (v := .ref (q 11)) (C := R_M) (T := F_M) (N := 39) hx hb hts hiM hown hK hP 0 rfl rfl 15 (by decide) lk41 (fun _ h9 => h9) rfl d_M_commit_34 ?_
      refine lv_iload_n hx hb d_M_commit_37 rfl (lv_at hl 0 rfl) ?_
      refine va_iald hx hb hK hP 11 0 rfl rfl hwp.1 d_M_commit_38 ?_
      have hwp := hwp.2
      refine lv_iconst (v := 3) hx hb d_M_commit_39 (by decide) ?_
      refine va_iast hx hb hK hP (dM hq) hS 18 0 rfl rfl hwp.1 d_M_commit_40 (fun H locs hP _ hS => ?_)
      have hwp := hwp.2
      have hP : va_P (dC, dI) clZ (wM cI cL cZ q MA MD MF MG4 ML MN MP (MT_state' MT (upd (MT_state MT) (Int32.toNatClampNeg ((MG_by MG4) (Int32.toNatClampNeg r3))) 3)) MV) H := hP
      refine lv_aload_n hx hb d_M_commit_41 rfl (lv_at hl 1 rfl) ?_
      refine va_get (D := (dC, dI)) (ci := 7) (v := .ref (q 19)) (C := R_M) (T := F_M) (N := 39) hx hb hts hiM hown hK hP 0 rfl rfl 24 (by decide) lk65 (fun _ h9 => h9) rfl d_M_commit_42 ?_
      refine lv_iload_n hx hb d_M_commit_45 rfl (lv_at hl 2 rfl) ?_
      refine va_iald hx hb hK hP 19 0 rfl rfl hwp.1 d_M_commit_46 ?_
      have hwp := hwp.2
      refine lv_istore_n (lv' := [(3, .int ((MT_parent MT) (Int32.toNatClampNeg a1))), (2, .int r3), (0, .ref (q 0)), (1, .int a1)]) hx hb d_M_commit_47 rfl hl (by decide) rfl (fun ls hl => ?_)
      refine lv_iconst (v := 0) hx hb d_M_commit_48 (by decide) ?_
      refine lv_istore (lv' := [(4, .int 0), (3, .int ((MT_parent MT) (Int32.toNatClampNeg a1))), (2, .int r3), (0, .ref (q 0)), (1, .int a1)]) hx hb d_M_commit_49 hl (by decide) rfl (fun ls hl => ?_)
      obtain ⟨e51, hwp⟩ := hwp
      refine L51 _ (MG4) ((MT_state' MT (upd (MT_state MT) (Int32.toNatClampNeg ((MG_by MG4) (Int32.toNatClampNeg r3))) 3))) (a1) (((MT_parent MT) (Int32.toNatClampNeg a1))) e51 (0) (ML) _ _ _ (lv_sub hl [3, 4, 1, 0] rfl) hP hS hwp (fun ML5 H locs ls hl hP hS hwp => ?_)
      refine lv_aload_n hx hb d_M_commit_128 rfl (lv_at hl 0 rfl) ?_
      refine lv_iload_n hx hb d_M_commit_129 rfl (lv_at hl 2 rfl) ?_
      refine lv_if_ge (tgt := 140) hx hb d_M_commit_130 (by decide) (fun hc => ?_) (fun hc => ?_)
      · rw [if_pos hc] at hwp
        refine lv_aload_n hx hb d_M_commit_140 rfl (lv_at hl 0 rfl) ?_
        refine va_get (D := (dC, dI)) (ci := 7) (v := .int (MG_flushed MG4)) (C := R_M) (T := F_M) (N := 39) hx hb hts hiM hown hK hP 0 rfl rfl 13 (by decide) lk105 (fun _ h9 => h9) rfl d_M_commit_141 ?_
        refine va_put (D := (dC, dI)) (ci := 7) (v := .int (MG_flushed MG4)) (ty := .int) (C := R_M) (T := F_M) (N := 39) hx hb hts hiM ty_M ty_M_ok nmx_M hown hK hP (dM hq) hS 0 rfl rfl 13 (by decide) lk105 (fun _ h9 => h9) rfl (by decide +kernel) rfl rfl (Nat.le_of_ble_eq_true rfl) d_M_commit_144 (fun H locs hP _ hS => ?_)
        have hP : va_P (dC, dI) clZ (wM cI cL cZ q MA MD MF (MG_flushed' MG4 (MG_flushed MG4)) ML5 MN MP (MT_state' MT (upd (MT_state MT) (Int32.toNatClampNeg ((MG_by MG4) (Int32.toNatClampNeg r3))) 3)) MV) H := hP
        refine lv_aload_n hx hb d_M_commit_147 rfl (lv_at hl 0 rfl) ?_
        refine lv_iload_n hx hb d_M_commit_148 rfl (lv_at hl 1 rfl) ?_
        refine ncn_v (As := [.int a1]) (c_M_unlock hq (MA) (MD) (MF) ((MG_flushed' MG4 (MG_flushed MG4))) (ML5) (MN) (MP) ((MT_state' MT (upd (MT_state MT) (Int32.toNatClampNeg ((MG_by MG4) (Int32.toNatClampNeg r3))) 3))) (MV) (a1) _ hwp) (cwV 1 hts g_M_245 rfl rfl rfl hd_M_unlock ⟨Nat.le_of_ble_eq_true rfl, Nat.le_of_ble_eq_true rfl⟩) hx hb hml hown hts hK hP hS hl.1 d_M_commit_149 (va_recv (q := (R_M, F_M, 39)) hK hP (ci := 7) (q0 := 0) rfl rfl) rfl (lv_room (Nat.le_of_ble_eq_true rfl)) (Nat.zero_le _) (Nat.zero_le _) rfl (fun ML6 H locs hwp hP hS => ?_)
        have hP : va_P (dC, dI) clZ (wM cI cL cZ q MA MD MF (MG_flushed' MG4 (MG_flushed MG4)) ML6 MN MP (MT_state' MT (upd (MT_state MT) (Int32.toNatClampNeg ((MG_by MG4) (Int32.toNatClampNeg r3))) 3)) MV) H := hP
        refine lv_iconst (v := 0) hx hb d_M_commit_152 (by decide) ?_
        rw [hQ]
        exact W.iret (v := 0) hx hb hr (fun t ht hW => ⟨⟨0, ((MG_flushed' MG4 (MG_flushed MG4)), ML6, (MT_state' MT (upd (MT_state MT) (Int32.toNatClampNeg ((MG_by MG4) (Int32.toNatClampNeg r3))) 3))), rfl, hwp, hp_of ht hP⟩, hS.F ht⟩) hS.2.2 d_M_commit_153
      · rw [if_neg hc] at hwp
        refine lv_aload_n hx hb d_M_commit_133 rfl (lv_at hl 0 rfl) ?_
        refine ncn_i (As := []) (c_M_last hq (MA) (MD) (MF) (MG4) (ML5) (MN) (MP) ((MT_state' MT (upd (MT_state MT) (Int32.toNatClampNeg ((MG_by MG4) (Int32.toNatClampNeg r3))) 3))) (MV)  _ hwp) (cwV 0 hts g_M_128 rfl rfl rfl hd_M_last ⟨Nat.le_of_ble_eq_true rfl, Nat.le_of_ble_eq_true rfl⟩) hx hb hml hown hts hK hP hS hl.1 d_M_commit_134 (va_recv (q := (R_M, F_M, 39)) hK hP (ci := 7) (q0 := 0) rfl rfl) rfl (lv_room (Nat.le_of_ble_eq_true rfl)) (Nat.zero_le _) (Nat.zero_le _) rfl (fun r7 u H locs hwp hP hS => ?_)
        have hP : va_P (dC, dI) clZ (wM cI cL cZ q MA MD MF MG4 ML5 MN MP (MT_state' MT (upd (MT_state MT) (Int32.toNatClampNeg ((MG_by MG4) (Int32.toNatClampNeg r3))) 3)) MV) H := hP
        refine lv_goto hx hb d_M_commit_137 (tgt := 144) (by decide) ?_
        refine va_put (D := (dC, dI)) (ci := 7) (v := .int r7) (ty := .int) (C := R_M) (T := F_M) (N := 39) hx hb hts hiM ty_M ty_M_ok nmx_M hown hK hP (dM hq) hS 0 rfl rfl 13 (by decide) lk105 (fun _ h9 => h9) rfl (by decide +kernel) rfl rfl (Nat.le_of_ble_eq_true rfl) d_M_commit_144 (fun H locs hP _ hS => ?_)
        have hP : va_P (dC, dI) clZ (wM cI cL cZ q MA MD MF (MG_flushed' MG4 r7) ML5 MN MP (MT_state' MT (upd (MT_state MT) (Int32.toNatClampNeg ((MG_by MG4) (Int32.toNatClampNeg r3))) 3)) MV) H := hP
        refine lv_aload_n hx hb d_M_commit_147 rfl (lv_at hl 0 rfl) ?_
        refine lv_iload_n hx hb d_M_commit_148 rfl (lv_at hl 1 rfl) ?_
        refine ncn_v (As := [.int a1]) (c_M_unlock hq (MA) (MD) (MF) ((MG_flushed' MG4 r7)) (ML5) (MN) (MP) ((MT_state' MT (upd (MT_state MT) (Int32.toNatClampNeg ((MG_by MG4) (Int32.toNatClampNeg r3))) 3))) (MV) (a1) _ hwp) (cwV 1 hts g_M_245 rfl rfl rfl hd_M_unlock ⟨Nat.le_of_ble_eq_true rfl, Nat.le_of_ble_eq_true rfl⟩) hx hb hml hown hts hK hP hS hl.1 d_M_commit_149 (va_recv (q := (R_M, F_M, 39)) hK hP (ci := 7) (q0 := 0) rfl rfl) rfl (lv_room (Nat.le_of_ble_eq_true rfl)) (Nat.zero_le _) (Nat.zero_le _) rfl (fun ML8 H locs hwp hP hS => ?_)
        have hP : va_P (dC, dI) clZ (wM cI cL cZ q MA MD MF (MG_flushed' MG4 r7) ML8 MN MP (MT_state' MT (upd (MT_state MT) (Int32.toNatClampNeg ((MG_by MG4) (Int32.toNatClampNeg r3))) 3)) MV) H := hP
        refine lv_iconst (v := 0) hx hb d_M_commit_152 (by decide) ?_
        rw [hQ]
        exact W.iret (v := 0) hx hb hr (fun t ht hW => ⟨⟨0, ((MG_flushed' MG4 r7), ML8, (MT_state' MT (upd (MT_state MT) (Int32.toNatClampNeg ((MG_by MG4) (Int32.toNatClampNeg r3))) 3))), rfl, hwp, hp_of ht hP⟩, hS.F ht⟩) hS.2.2 d_M_commit_153
    · rw [if_neg hc] at hwp
      refine lv_bipush (v := (-4)) hx hb d_M_commit_18 (by decide) ?_
      rw [hQ]
      exact W.iret (v := (-4)) hx hb hr (fun t ht hW => ⟨⟨(-4), (MG, ML, MT), rfl, hwp, hp_of ht hP⟩, hS.F ht⟩) hS.2.2 d_M_commit_20
  · rw [if_pos hc] at hwp
    refine lv_iconst (v := (-1)) hx hb d_M_commit_8 (by decide) ?_
    rw [hQ]
    exact W.iret (v := (-1)) hx hb hr (fun t ht hW => ⟨⟨(-1), (MG, ML, MT), rfl, hwp, hp_of ht hP⟩, hS.F ht⟩) hS.2.2 d_M_commit_9

set_option maxHeartbeats 4000000 in
set_option maxRecDepth 100000 in
theorem c_M_abort {l : Launch} {dC : Nat → ClassId} {dI : Nat → Nat → Nat} {cI cL cZ : ClassId} {q : Nat → Nat} (hq : iM q) (MA : S_MA) (MD : S_MD) (MF : S_MF) (MG : S_MG) (ML : S_ML) (MN : S_MN) (MP : S_MP) (MT : S_MT) (MV : S_MV) (a1 : Int32) (post : Int32 → S_MA → S_MD → S_MF → S_MG → S_ML → S_MT → Prop) (hwp : wp_M_abort MA MD MF MG ML MT a1 post) : Met l y_M_abort ws_M_abort rm_M_abort (va_Pc [.ref (q 0), .int a1] (bM dC dI cI cL cZ q MA MD MF MG ML MN MP MT MV)) (va_Qi (fun (r : Int32) (u : S_MA × S_MD × S_MF × S_MG × S_ML × S_MT) => post r u.1 u.2.1 u.2.2.1 u.2.2.2.1 u.2.2.2.2.1 u.2.2.2.2.2) (fun u t => va_P (dC, dI) clZ (wM cI cL cZ q (u.1) (u.2.1) (u.2.2.1) (u.2.2.2.1) (u.2.2.2.2.1) MN MP (u.2.2.2.2.2) MV) t.heap) (aM q)) 0 0 (aM q) := by
  refine Met.ofW (cc := b_M_abort) (maxL := 2) (ret := (some .int)) (by decide) rfl ?_
  intro p e s m args below meth c s₁ B hml hv
  obtain ⟨rfl, hP, hK⟩ := hv
  have hx := B.exec
  have hb := B.bytes
  have hr := B.returns
  have hts := atoms_spec (ws := ws_M_abort) B.pre
  have hown : s.vm.findClass R_M = some m.cls := findClass_of_methodNamed B.named
  have hlocks := B.notSynchronized
  have hS : va_S (aM q) s.heap s.heap [] := va_S.rf
  have hl := lv_entry ([.ref (q 0), .int a1]) (n := 2) (Nat.le_of_ble_eq_true rfl)
  rw [lg_entry_eq]
  generalize (lg_sl ([.ref (q 0), .int a1]) ++ List.replicate (2 - (lg_sl ([.ref (q 0), .int a1])).length) Slot.unset).toArray = ls at hl ⊢
  have hl : lv_has ls 2 [(0, .ref (q 0)), (1, .int a1)] := hl
  obtain ⟨Q, hQ⟩ : ∃ Q, Q = MQ below (va_Qi (fun (r : Int32) (u : S_MA × S_MD × S_MF × S_MG × S_ML × S_MT) => post r u.1 u.2.1 u.2.2.1 u.2.2.2.1 u.2.2.2.2.1 u.2.2.2.2.2) (fun u t => va_P (dC, dI) clZ (wM cI cL cZ q (u.1) (u.2.1) (u.2.2.1) (u.2.2.2.1) (u.2.2.2.2.1) MN MP (u.2.2.2.2.2) MV) t.heap) (aM q)) ([.ref (q 0), .int a1]).toArray s 0 0 (aM q) := ⟨_, rfl⟩
  rw [← hQ]
  rw [wp_M_abort] at hwp
  refine lv_aload_n hx hb d_M_abort_0 rfl (lv_at hl 0 rfl) ?_
  refine lv_iload_n hx hb d_M_abort_1 rfl (lv_at hl 1 rfl) ?_
  refine ncn_i (As := [.int a1]) (c_M_is hq (MA) (MD) (MF) (MG) (ML) (MN) (MP) (MT) (MV) (a1) _ hwp) (cwV 1 hts g_M_159 rfl rfl rfl hd_M_is ⟨Nat.le_of_ble_eq_true rfl, Nat.le_of_ble_eq_true rfl⟩) hx hb hml hown hts hK hP hS hl.1 d_M_abort_2 (va_recv (q := (R_M, F_M, 39)) hK hP (ci := 7) (q0 := 0) rfl rfl) rfl (lv_room (Nat.le_of_ble_eq_true rfl)) (Nat.zero_le _) (Nat.zero_le _) rfl (fun r1 u H locs hwp hP hS => ?_)
  have hP : va_P (dC, dI) clZ (wM cI cL cZ q MA MD MF MG ML MN MP MT MV) H := hP
  refine lv_if_eq (tgt := 16) hx hb d_M_abort_5 (by decide) (fun hc => ?_) (fun hc => ?_)
  · rw [if_pos hc] at hwp
    refine lv_iconst (v := (-1)) hx hb d_M_abort_16 (by decide) ?_
    refine lv_goto hx hb d_M_abort_17 (tgt := 25) (by decide) ?_
    rw [hQ]
    exact W.iret (v := (-1)) hx hb hr (fun t ht hW => ⟨⟨(-1), (MA, MD, MF, MG, ML, MT), rfl, hwp, hp_of ht hP⟩, hS.F ht⟩) hS.2.2 d_M_abort_25
  · rw [if_neg hc] at hwp
    refine lv_aload_n hx hb d_M_abort_8 rfl (lv_at hl 0 rfl) ?_
    refine lv_iload_n hx hb d_M_abort_9 rfl (lv_at hl 1 rfl) ?_
    refine ncn_i (As := [.int a1]) (c_M_live hq (MA) (MD) (MF) (MG) (ML) (MN) (MP) (MT) (MV) (a1) _ hwp) (cwV 1 hts g_M_150 rfl rfl rfl hd_M_live ⟨Nat.le_of_ble_eq_true rfl, Nat.le_of_ble_eq_true rfl⟩) hx hb hml hown hts hK hP hS hl.1 d_M_abort_10 (va_recv (q := (R_M, F_M, 39)) hK hP (ci := 7) (q0 := 0) rfl rfl) rfl (lv_room (Nat.le_of_ble_eq_true rfl)) (Nat.zero_le _) (Nat.zero_le _) rfl (fun r2 u H locs hwp hP hS => ?_)
    have hP : va_P (dC, dI) clZ (wM cI cL cZ q MA MD MF MG ML MN MP MT MV) H := hP
    refine lv_if_ne (tgt := 20) hx hb d_M_abort_13 (by decide) (fun hc => ?_) (fun hc => ?_)
    · rw [if_neg hc] at hwp
      refine lv_aload_n hx hb d_M_abort_20 rfl (lv_at hl 0 rfl) ?_
      refine lv_iload_n hx hb d_M_abort_21 rfl (lv_at hl 1 rfl) ?_
      refine ncn_i (As := [.int a1]) (c_M_aborts hq (MA) (MD) (MF) (MG) (ML) (MN) (MP) (MT) (MV) (a1) _ hwp) (cwV 1 hts g_M_230 rfl rfl rfl hd_M_aborts ⟨Nat.le_of_ble_eq_true rfl, Nat.le_of_ble_eq_true rfl⟩) hx hb hml hown hts hK hP hS hl.1 d_M_abort_22 (va_recv (q := (R_M, F_M, 39)) hK hP (ci := 7) (q0 := 0) rfl rfl) rfl (lv_room (Nat.le_of_ble_eq_true rfl)) (Nat.zero_le _) (Nat.zero_le _) rfl (fun r3 u H locs hwp hP hS => ?_)
      obtain ⟨MA4, MD5, MF6, MG7, ML8, MT9⟩ := u
      have hP : va_P (dC, dI) clZ (wM cI cL cZ q MA4 MD5 MF6 MG7 ML8 MN MP MT9 MV) H := hP
      rw [hQ]
      exact W.iret (v := r3) hx hb hr (fun t ht hW => ⟨⟨r3, (MA4, MD5, MF6, MG7, ML8, MT9), rfl, hwp, hp_of ht hP⟩, hS.F ht⟩) hS.2.2 d_M_abort_25
    · rw [if_pos hc] at hwp
      refine lv_iconst (v := (-1)) hx hb d_M_abort_16 (by decide) ?_
      refine lv_goto hx hb d_M_abort_17 (tgt := 25) (by decide) ?_
      rw [hQ]
      exact W.iret (v := (-1)) hx hb hr (fun t ht hW => ⟨⟨(-1), (MA, MD, MF, MG, ML, MT), rfl, hwp, hp_of ht hP⟩, hS.F ht⟩) hS.2.2 d_M_abort_25
