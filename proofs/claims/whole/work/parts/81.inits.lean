theorem ko_i : Cond.instanceMethod Lib.objectInit ∈ wA := wA_t 16 (by decide +kernel) rfl
theorem ko_c : Cond.code Lib.objectInit ⟨#[0xb1]⟩ 1 none ∈ wA := wA_t 17 (by decide +kernel) rfl
theorem ka_int : Cond.arrayClass .int ∈ wA := wA_t 69 (by decide +kernel) rfl
theorem ka_long : Cond.arrayClass .long ∈ wA := wA_t 70 (by decide +kernel) rfl
theorem ka_boolean : Cond.arrayClass .boolean ∈ wA := wA_t 170 (by decide +kernel) rfl
theorem kj_N_3 : Cond.methodLink R_N 3 Lib.objectInit ∈ wA := wA_t 15 (by decide +kernel) rfl
theorem kj_N_12 : Cond.fieldLink R_N 12 R_N "transactions" "LNestedStore$Transactions;" ∈ wA := wA_t 222 (by decide +kernel) rfl
theorem kj_N_19 : Cond.fieldLink R_N 19 R_N "locks" "LNestedStore$Locks;" ∈ wA := wA_t 223 (by decide +kernel) rfl
theorem kj_N_26 : Cond.fieldLink R_N 26 R_N "plan" "LNestedStore$Plan;" ∈ wA := wA_t 224 (by decide +kernel) rfl
theorem kj_N_33 : Cond.fieldLink R_N 33 R_N "leads" "LNestedStore$Leads;" ∈ wA := wA_t 225 (by decide +kernel) rfl
theorem kj_N_40 : Cond.fieldLink R_N 40 R_N "log" "LNestedStore$Log;" ∈ wA := wA_t 226 (by decide +kernel) rfl
theorem kj_N_58 : Cond.fieldLink R_N 58 R_N "pages" "LNestedStore$Pages;" ∈ wA := wA_t 227 (by decide +kernel) rfl
theorem kj_T_3 : Cond.methodLink R_T 3 Lib.objectInit ∈ wA := wA_t 23 (by decide +kernel) rfl
theorem kj_T_9 : Cond.fieldLink R_T 9 R_T "parent" "[I" ∈ wA := wA_t 26 (by decide +kernel) rfl
theorem kj_T_15 : Cond.fieldLink R_T 15 R_T "top" "[I" ∈ wA := wA_t 28 (by decide +kernel) rfl
theorem kj_T_18 : Cond.fieldLink R_T 18 R_T "depth" "[I" ∈ wA := wA_t 30 (by decide +kernel) rfl
theorem kj_T_21 : Cond.fieldLink R_T 21 R_T "state" "[I" ∈ wA := wA_t 32 (by decide +kernel) rfl
theorem kj_T_24 : Cond.fieldLink R_T 24 R_T "begun" "[I" ∈ wA := wA_t 34 (by decide +kernel) rfl
theorem kj_T_27 : Cond.fieldLink R_T 27 R_T "lineage" "[J" ∈ wA := wA_t 36 (by decide +kernel) rfl
theorem kj_T_31 : Cond.fieldLink R_T 31 R_T "kind" "[I" ∈ wA := wA_t 38 (by decide +kernel) rfl
theorem kj_T_34 : Cond.fieldLink R_T 34 R_T "low" "[I" ∈ wA := wA_t 40 (by decide +kernel) rfl
theorem kj_T_37 : Cond.fieldLink R_T 37 R_T "high" "[I" ∈ wA := wA_t 42 (by decide +kernel) rfl
theorem kj_T_40 : Cond.fieldLink R_T 40 R_T "newValue" "[I" ∈ wA := wA_t 44 (by decide +kernel) rfl
theorem kj_K_3 : Cond.methodLink R_K 3 Lib.objectInit ∈ wA := wA_t 76 (by decide +kernel) rfl
theorem kj_K_9 : Cond.fieldLink R_K 9 R_K "shared" "[J" ∈ wA := wA_t 77 (by decide +kernel) rfl
theorem kj_K_15 : Cond.fieldLink R_K 15 R_K "exclusive" "[J" ∈ wA := wA_t 78 (by decide +kernel) rfl
theorem kj_P_3 : Cond.methodLink R_P 3 Lib.objectInit ∈ wA := wA_t 89 (by decide +kernel) rfl
theorem kj_P_9 : Cond.fieldLink R_P 9 R_P "items" "[I" ∈ wA := wA_t 94 (by decide +kernel) rfl
theorem kj_D_3 : Cond.methodLink R_D 3 Lib.objectInit ∈ wA := wA_t 108 (by decide +kernel) rfl
theorem kj_D_9 : Cond.fieldLink R_D 9 R_D "from" "[J" ∈ wA := wA_t 109 (by decide +kernel) rfl
theorem kj_G_3 : Cond.methodLink R_G 3 Lib.objectInit ∈ wA := wA_t 119 (by decide +kernel) rfl
theorem kj_G_9 : Cond.fieldLink R_G 9 R_G "kind" "[I" ∈ wA := wA_t 127 (by decide +kernel) rfl
theorem kj_G_15 : Cond.fieldLink R_G 15 R_G "transaction" "[I" ∈ wA := wA_t 129 (by decide +kernel) rfl
theorem kj_G_18 : Cond.fieldLink R_G 18 R_G "subject" "[I" ∈ wA := wA_t 131 (by decide +kernel) rfl
theorem kj_G_21 : Cond.fieldLink R_G 21 R_G "wasThere" "[Z" ∈ wA := wA_t 133 (by decide +kernel) rfl
theorem kj_G_25 : Cond.fieldLink R_G 25 R_G "oldValue" "[I" ∈ wA := wA_t 135 (by decide +kernel) rfl
theorem kj_G_28 : Cond.fieldLink R_G 28 R_G "isThere" "[Z" ∈ wA := wA_t 137 (by decide +kernel) rfl
theorem kj_G_31 : Cond.fieldLink R_G 31 R_G "newValue" "[I" ∈ wA := wA_t 139 (by decide +kernel) rfl
theorem kj_G_34 : Cond.fieldLink R_G 34 R_G "undoes" "[I" ∈ wA := wA_t 141 (by decide +kernel) rfl
theorem kj_G_37 : Cond.fieldLink R_G 37 R_G "undone" "[Z" ∈ wA := wA_t 143 (by decide +kernel) rfl
theorem kj_A_3 : Cond.methodLink R_A 3 Lib.objectInit ∈ wA := wA_t 182 (by decide +kernel) rfl
theorem kj_A_9 : Cond.fieldLink R_A 9 R_A "byTouch" "[I" ∈ wA := wA_t 186 (by decide +kernel) rfl
theorem kj_A_15 : Cond.fieldLink R_A 15 R_A "dirty" "[Z" ∈ wA := wA_t 188 (by decide +kernel) rfl
theorem kj_A_19 : Cond.fieldLink R_A 19 R_A "lsn" "[I" ∈ wA := wA_t 190 (by decide +kernel) rfl
theorem kj_A_22 : Cond.fieldLink R_A 22 R_A "there" "[Z" ∈ wA := wA_t 192 (by decide +kernel) rfl
theorem kj_A_25 : Cond.fieldLink R_A 25 R_A "value" "[I" ∈ wA := wA_t 194 (by decide +kernel) rfl
theorem kj_A_28 : Cond.fieldLink R_A 28 R_A "diskLsn" "[I" ∈ wA := wA_t 196 (by decide +kernel) rfl
theorem kj_A_31 : Cond.fieldLink R_A 31 R_A "diskThere" "[Z" ∈ wA := wA_t 197 (by decide +kernel) rfl
theorem kj_A_34 : Cond.fieldLink R_A 34 R_A "diskValue" "[I" ∈ wA := wA_t 199 (by decide +kernel) rfl
theorem kj_A_37 : Cond.fieldLink R_A 37 R_A "frames" "I" ∈ wA := wA_t 183 (by decide +kernel) rfl
theorem kj_M_1 : Cond.methodLink R_M 1 Lib.objectInit ∈ wA := wA_t 592 (by decide +kernel) rfl
theorem kj_M_7 : Cond.fieldLink R_M 7 R_M "diskThere" "[Z" ∈ wA := wA_t 594 (by decide +kernel) rfl
theorem kj_M_13 : Cond.fieldLink R_M 13 R_M "diskValue" "[I" ∈ wA := wA_t 595 (by decide +kernel) rfl
theorem kj_M_17 : Cond.fieldLink R_M 17 R_M "diskLsn" "[I" ∈ wA := wA_t 596 (by decide +kernel) rfl
theorem kj_M_20 : Cond.fieldLink R_M 20 R_M "there" "[Z" ∈ wA := wA_t 597 (by decide +kernel) rfl
theorem kj_M_23 : Cond.fieldLink R_M 23 R_M "value" "[I" ∈ wA := wA_t 598 (by decide +kernel) rfl
theorem kj_M_26 : Cond.fieldLink R_M 26 R_M "lsn" "[I" ∈ wA := wA_t 599 (by decide +kernel) rfl
theorem kj_M_29 : Cond.fieldLink R_M 29 R_M "inFrame" "[Z" ∈ wA := wA_t 600 (by decide +kernel) rfl
theorem kj_M_32 : Cond.fieldLink R_M 32 R_M "dirty" "[Z" ∈ wA := wA_t 601 (by decide +kernel) rfl
theorem kj_M_35 : Cond.fieldLink R_M 35 R_M "touched" "[I" ∈ wA := wA_t 602 (by decide +kernel) rfl
theorem kj_M_38 : Cond.fieldLink R_M 38 R_M "kind" "[I" ∈ wA := wA_t 607 (by decide +kernel) rfl
theorem kj_M_41 : Cond.fieldLink R_M 41 R_M "by" "[I" ∈ wA := wA_t 608 (by decide +kernel) rfl
theorem kj_M_44 : Cond.fieldLink R_M 44 R_M "about" "[I" ∈ wA := wA_t 609 (by decide +kernel) rfl
theorem kj_M_47 : Cond.fieldLink R_M 47 R_M "of" "[I" ∈ wA := wA_t 610 (by decide +kernel) rfl
theorem kj_M_50 : Cond.fieldLink R_M 50 R_M "wasThere" "[Z" ∈ wA := wA_t 611 (by decide +kernel) rfl
theorem kj_M_53 : Cond.fieldLink R_M 53 R_M "wasValue" "[I" ∈ wA := wA_t 612 (by decide +kernel) rfl
theorem kj_M_56 : Cond.fieldLink R_M 56 R_M "isThere" "[Z" ∈ wA := wA_t 613 (by decide +kernel) rfl
theorem kj_M_59 : Cond.fieldLink R_M 59 R_M "isValue" "[I" ∈ wA := wA_t 614 (by decide +kernel) rfl
theorem kj_M_62 : Cond.fieldLink R_M 62 R_M "state" "[I" ∈ wA := wA_t 616 (by decide +kernel) rfl
theorem kj_M_65 : Cond.fieldLink R_M 65 R_M "parent" "[I" ∈ wA := wA_t 617 (by decide +kernel) rfl
theorem kj_M_68 : Cond.fieldLink R_M 68 R_M "began" "[I" ∈ wA := wA_t 618 (by decide +kernel) rfl
theorem kj_M_71 : Cond.fieldLink R_M 71 R_M "locks" "[I" ∈ wA := wA_t 619 (by decide +kernel) rfl
theorem kj_M_74 : Cond.fieldLink R_M 74 R_M "asks" "[I" ∈ wA := wA_t 620 (by decide +kernel) rfl
theorem kj_M_77 : Cond.fieldLink R_M 77 R_M "first" "[I" ∈ wA := wA_t 621 (by decide +kernel) rfl
theorem kj_M_80 : Cond.fieldLink R_M 80 R_M "second" "[I" ∈ wA := wA_t 622 (by decide +kernel) rfl
theorem kj_M_83 : Cond.fieldLink R_M 83 R_M "item" "[I" ∈ wA := wA_t 624 (by decide +kernel) rfl
theorem kj_M_86 : Cond.fieldLink R_M 86 R_M "lacks" "[I" ∈ wA := wA_t 626 (by decide +kernel) rfl
theorem kj_M_89 : Cond.fieldLink R_M 89 R_M "lackMode" "[I" ∈ wA := wA_t 627 (by decide +kernel) rfl
theorem kj_M_92 : Cond.fieldLink R_M 92 R_M "ahead" "[Z" ∈ wA := wA_t 628 (by decide +kernel) rfl
theorem kj_M_95 : Cond.fieldLink R_M 95 R_M "back" "[Z" ∈ wA := wA_t 629 (by decide +kernel) rfl
theorem kj_M_98 : Cond.fieldLink R_M 98 R_M "falls" "[Z" ∈ wA := wA_t 630 (by decide +kernel) rfl
theorem kj_M_101 : Cond.fieldLink R_M 101 R_M "frames" "I" ∈ wA := wA_t 593 (by decide +kernel) rfl
def z_T : List Value := [.int 0, .null, .null, .null, .null, .null, .null, .null, .null, .null, .null]
def i_T (cI cL cZ : ClassId) (b : Int32) (h0 : Nat) (u : Nat → Nat) : va_W := [(h0, .inr (1, [.int 0, .ref (u 0), .ref (u 1), .ref (u 2), .ref (u 3), .ref (u 4), .ref (u 5), .ref (u 6), .ref (u 7), .ref (u 8), .ref (u 9)])), (u 0, .inl (cI, 60, .inl (fun _ => (0 : Int32)))), (u 1, .inl (cI, 60, .inl (fun _ => (0 : Int32)))), (u 2, .inl (cI, 60, .inl (fun _ => (0 : Int32)))), (u 3, .inl (cI, 60, .inl (fun _ => (0 : Int32)))), (u 4, .inl (cI, 60, .inl (fun _ => (0 : Int32)))), (u 5, .inl (cL, 60, .inr (.inl (fun _ => (0 : Int64))))), (u 6, .inl (cI, 60, .inl (fun _ => (0 : Int32)))), (u 7, .inl (cI, 60, .inl (fun _ => (0 : Int32)))), (u 8, .inl (cI, 60, .inl (fun _ => (0 : Int32)))), (u 9, .inl (cI, 60, .inl (fun _ => (0 : Int32))))]
abbrev ri_T : Room := { frames := 1, cells := 10, slots := 600, locals := 21 }
set_option maxHeartbeats 1000000 in
set_option maxRecDepth 100000 in
theorem c_T_init {l : Launch} {dC : Nat → ClassId} {dI : Nat → Nat → Nat} {cI cL cZ : ClassId} (h0 sz : Nat) : Met l y_T_init ws_T_init ri_T (va_Pc [.ref h0] (fun U => U.heap.size = sz ∧ va_P (dC, dI) clZ [(h0, .inr (1, z_T))] U.heap ∧ va_K (dC, dI) clZ (tyZ cI cL cZ) U ∧ va_D (fun _ => True) [(h0, .inr (1, z_T))])) (va_Qv (fun _ : Nat → Nat => True) (fun u t => va_P (dC, dI) clZ (i_T cI cL cZ 0 h0 u) t.heap ∧ va_D (va_A [(h0, .inr (1, z_T))] sz) (i_T cI cL cZ 0 h0 u)) (va_A [(h0, .inr (1, z_T))] sz)) 10 600 (va_A [(h0, .inr (1, z_T))] sz) := by
  refine Met.ofW (cc := b_T_init) (maxL := 1) (ret := none) (by decide) rfl ?_
  intro p e s m args below meth c s₁ B hml hv
  obtain ⟨rfl, hsz, hP, hK, hD0⟩ := hv
  have hx := B.exec
  have hb := B.bytes
  have hr := B.returns
  have hts := atoms_spec (ws := ws_T_init) B.pre
  have hown : s.vm.findClass R_T = some m.cls := findClass_of_methodNamed B.named
  have hlocks := B.notSynchronized
  have hin : meth.name = "<init>" := (name_of_methodNamed B.named B.method).1
  have hiw : ∀ w ∈ u_ws R_T F_T 11, w ∈ ws_T_init := fun w h => List.mem_cons_of_mem _ (in_T w h)
  subst hsz
  have hD := hD0.self (sz := s.heap.size)
  have hA : ∀ q : Nat, s.heap.size ≤ q → va_A [(h0, .inr (1, z_T))] s.heap.size q := fun q h => Or.inr h
  have hS : va_S (va_A [(h0, .inr (1, z_T))] s.heap.size) s.heap s.heap [] := va_S.rf
  have hl := lv_entry ([.ref h0]) (n := 1) (Nat.le_of_ble_eq_true rfl)
  rw [lg_entry_eq]
  generalize (lg_sl ([.ref h0]) ++ List.replicate (1 - (lg_sl ([.ref h0])).length) Slot.unset).toArray = ls at hl ⊢
  have hl : lv_has ls 1 [(0, .ref h0)] := hl
  refine lv_aload_n hx hb d_T_init_0 rfl (lv_at hl 0 rfl) ?_
  refine W.objInit hx hb hown (hts _ (List.mem_cons_of_mem _ kj_T_3)) (hts _ (List.mem_cons_of_mem _ ko_i)) (hts _ (List.mem_cons_of_mem _ ko_c)) rfl (by rw [hml]; exact hl.1) rfl d_T_init_1 (Nat.le_of_ble_eq_true rfl) (Nat.le_of_ble_eq_true rfl) ?_
  refine W.eq (g2 := F0 m 4 ls []) rfl ?_
  refine ini_arr (C := R_T) (T := F_T) (N := 11) (ci := 1) (index := 9) (atype := .int) (ty := .int) (n := 60) (N' := 60) (a0 := (60, .inl (fun _ => (0 : Int32)))) (pc2 := 7) hx hb hts hiw ty_T ty_T_ok nmx_T hown hin rfl hK hP hD hS hA (lv_at hl 0 rfl) rfl (.inl rfl) (hts _ (List.mem_cons_of_mem _ ka_int)) 0 rfl 1 (by decide) (hts _ (List.mem_cons_of_mem _ kj_T_9)) rfl rfl rfl (Nat.le_of_ble_eq_true rfl) (fun _ => rfl) (by decide) (by decide) (Nat.le_of_ble_eq_true rfl) (Nat.le_of_ble_eq_true rfl) (Nat.le_of_ble_eq_true rfl) d_T_init_4 (fun z => lv_bipush hx hb d_T_init_5 (by decide) z) d_T_init_7 d_T_init_9 (fun q0 H0 locs0 hP hD hS => ?_)
  refine W.eq (g2 := F0 m 12 ls []) rfl ?_
  have hP : va_P (dC, dI) clZ [(h0, .inr (1, [.int 0, .ref q0, .null, .null, .null, .null, .null, .null, .null, .null, .null])), (q0, .inl (cI, 60, .inl (fun _ => (0 : Int32))))] H0 := hP
  have hD : va_D (va_A [(h0, .inr (1, z_T))] s.heap.size) [(h0, .inr (1, [.int 0, .ref q0, .null, .null, .null, .null, .null, .null, .null, .null, .null])), (q0, .inl (cI, 60, .inl (fun _ => (0 : Int32))))] := hD
  refine W.widen (k := 1) (n := 60) (Nat.le_of_ble_eq_true rfl) (Nat.le_of_ble_eq_true rfl) ?_
  refine ini_arr (C := R_T) (T := F_T) (N := 11) (ci := 1) (index := 15) (atype := .int) (ty := .int) (n := 60) (N' := 60) (a0 := (60, .inl (fun _ => (0 : Int32)))) (pc2 := 15) hx hb hts hiw ty_T ty_T_ok nmx_T hown hin rfl hK hP hD hS hA (lv_at hl 0 rfl) rfl (.inl rfl) (hts _ (List.mem_cons_of_mem _ ka_int)) 0 rfl 2 (by decide) (hts _ (List.mem_cons_of_mem _ kj_T_15)) rfl rfl rfl (Nat.le_of_ble_eq_true rfl) (fun _ => rfl) (by decide) (by decide) (Nat.le_of_ble_eq_true rfl) (Nat.le_of_ble_eq_true rfl) (Nat.le_of_ble_eq_true rfl) d_T_init_12 (fun z => lv_bipush hx hb d_T_init_13 (by decide) z) d_T_init_15 d_T_init_17 (fun q1 H1 locs1 hP hD hS => ?_)
  refine W.eq (g2 := F0 m 20 ls []) rfl ?_
  have hP : va_P (dC, dI) clZ [(h0, .inr (1, [.int 0, .ref q0, .ref q1, .null, .null, .null, .null, .null, .null, .null, .null])), (q0, .inl (cI, 60, .inl (fun _ => (0 : Int32)))), (q1, .inl (cI, 60, .inl (fun _ => (0 : Int32))))] H1 := hP
  have hD : va_D (va_A [(h0, .inr (1, z_T))] s.heap.size) [(h0, .inr (1, [.int 0, .ref q0, .ref q1, .null, .null, .null, .null, .null, .null, .null, .null])), (q0, .inl (cI, 60, .inl (fun _ => (0 : Int32)))), (q1, .inl (cI, 60, .inl (fun _ => (0 : Int32))))] := hD
  refine W.widen (k := 2) (n := 120) (Nat.le_of_ble_eq_true rfl) (Nat.le_of_ble_eq_true rfl) ?_
  refine ini_arr (C := R_T) (T := F_T) (N := 11) (ci := 1) (index := 18) (atype := .int) (ty := .int) (n := 60) (N' := 60) (a0 := (60, .inl (fun _ => (0 : Int32)))) (pc2 := 23) hx hb hts hiw ty_T ty_T_ok nmx_T hown hin rfl hK hP hD hS hA (lv_at hl 0 rfl) rfl (.inl rfl) (hts _ (List.mem_cons_of_mem _ ka_int)) 0 rfl 3 (by decide) (hts _ (List.mem_cons_of_mem _ kj_T_18)) rfl rfl rfl (Nat.le_of_ble_eq_true rfl) (fun _ => rfl) (by decide) (by decide) (Nat.le_of_ble_eq_true rfl) (Nat.le_of_ble_eq_true rfl) (Nat.le_of_ble_eq_true rfl) d_T_init_20 (fun z => lv_bipush hx hb d_T_init_21 (by decide) z) d_T_init_23 d_T_init_25 (fun q2 H2 locs2 hP hD hS => ?_)
  refine W.eq (g2 := F0 m 28 ls []) rfl ?_
  have hP : va_P (dC, dI) clZ [(h0, .inr (1, [.int 0, .ref q0, .ref q1, .ref q2, .null, .null, .null, .null, .null, .null, .null])), (q0, .inl (cI, 60, .inl (fun _ => (0 : Int32)))), (q1, .inl (cI, 60, .inl (fun _ => (0 : Int32)))), (q2, .inl (cI, 60, .inl (fun _ => (0 : Int32))))] H2 := hP
  have hD : va_D (va_A [(h0, .inr (1, z_T))] s.heap.size) [(h0, .inr (1, [.int 0, .ref q0, .ref q1, .ref q2, .null, .null, .null, .null, .null, .null, .null])), (q0, .inl (cI, 60, .inl (fun _ => (0 : Int32)))), (q1, .inl (cI, 60, .inl (fun _ => (0 : Int32)))), (q2, .inl (cI, 60, .inl (fun _ => (0 : Int32))))] := hD
  refine W.widen (k := 3) (n := 180) (Nat.le_of_ble_eq_true rfl) (Nat.le_of_ble_eq_true rfl) ?_
  refine ini_arr (C := R_T) (T := F_T) (N := 11) (ci := 1) (index := 21) (atype := .int) (ty := .int) (n := 60) (N' := 60) (a0 := (60, .inl (fun _ => (0 : Int32)))) (pc2 := 31) hx hb hts hiw ty_T ty_T_ok nmx_T hown hin rfl hK hP hD hS hA (lv_at hl 0 rfl) rfl (.inl rfl) (hts _ (List.mem_cons_of_mem _ ka_int)) 0 rfl 4 (by decide) (hts _ (List.mem_cons_of_mem _ kj_T_21)) rfl rfl rfl (Nat.le_of_ble_eq_true rfl) (fun _ => rfl) (by decide) (by decide) (Nat.le_of_ble_eq_true rfl) (Nat.le_of_ble_eq_true rfl) (Nat.le_of_ble_eq_true rfl) d_T_init_28 (fun z => lv_bipush hx hb d_T_init_29 (by decide) z) d_T_init_31 d_T_init_33 (fun q3 H3 locs3 hP hD hS => ?_)
  refine W.eq (g2 := F0 m 36 ls []) rfl ?_
  have hP : va_P (dC, dI) clZ [(h0, .inr (1, [.int 0, .ref q0, .ref q1, .ref q2, .ref q3, .null, .null, .null, .null, .null, .null])), (q0, .inl (cI, 60, .inl (fun _ => (0 : Int32)))), (q1, .inl (cI, 60, .inl (fun _ => (0 : Int32)))), (q2, .inl (cI, 60, .inl (fun _ => (0 : Int32)))), (q3, .inl (cI, 60, .inl (fun _ => (0 : Int32))))] H3 := hP
  have hD : va_D (va_A [(h0, .inr (1, z_T))] s.heap.size) [(h0, .inr (1, [.int 0, .ref q0, .ref q1, .ref q2, .ref q3, .null, .null, .null, .null, .null, .null])), (q0, .inl (cI, 60, .inl (fun _ => (0 : Int32)))), (q1, .inl (cI, 60, .inl (fun _ => (0 : Int32)))), (q2, .inl (cI, 60, .inl (fun _ => (0 : Int32)))), (q3, .inl (cI, 60, .inl (fun _ => (0 : Int32))))] := hD
  refine W.widen (k := 4) (n := 240) (Nat.le_of_ble_eq_true rfl) (Nat.le_of_ble_eq_true rfl) ?_
  refine ini_arr (C := R_T) (T := F_T) (N := 11) (ci := 1) (index := 24) (atype := .int) (ty := .int) (n := 60) (N' := 60) (a0 := (60, .inl (fun _ => (0 : Int32)))) (pc2 := 39) hx hb hts hiw ty_T ty_T_ok nmx_T hown hin rfl hK hP hD hS hA (lv_at hl 0 rfl) rfl (.inl rfl) (hts _ (List.mem_cons_of_mem _ ka_int)) 0 rfl 5 (by decide) (hts _ (List.mem_cons_of_mem _ kj_T_24)) rfl rfl rfl (Nat.le_of_ble_eq_true rfl) (fun _ => rfl) (by decide) (by decide) (Nat.le_of_ble_eq_true rfl) (Nat.le_of_ble_eq_true rfl) (Nat.le_of_ble_eq_true rfl) d_T_init_36 (fun z => lv_bipush hx hb d_T_init_37 (by decide) z) d_T_init_39 d_T_init_41 (fun q4 H4 locs4 hP hD hS => ?_)
  refine W.eq (g2 := F0 m 44 ls []) rfl ?_
  have hP : va_P (dC, dI) clZ [(h0, .inr (1, [.int 0, .ref q0, .ref q1, .ref q2, .ref q3, .ref q4, .null, .null, .null, .null, .null])), (q0, .inl (cI, 60, .inl (fun _ => (0 : Int32)))), (q1, .inl (cI, 60, .inl (fun _ => (0 : Int32)))), (q2, .inl (cI, 60, .inl (fun _ => (0 : Int32)))), (q3, .inl (cI, 60, .inl (fun _ => (0 : Int32)))), (q4, .inl (cI, 60, .inl (fun _ => (0 : Int32))))] H4 := hP
  have hD : va_D (va_A [(h0, .inr (1, z_T))] s.heap.size) [(h0, .inr (1, [.int 0, .ref q0, .ref q1, .ref q2, .ref q3, .ref q4, .null, .null, .null, .null, .null])), (q0, .inl (cI, 60, .inl (fun _ => (0 : Int32)))), (q1, .inl (cI, 60, .inl (fun _ => (0 : Int32)))), (q2, .inl (cI, 60, .inl (fun _ => (0 : Int32)))), (q3, .inl (cI, 60, .inl (fun _ => (0 : Int32)))), (q4, .inl (cI, 60, .inl (fun _ => (0 : Int32))))] := hD
  refine W.widen (k := 5) (n := 300) (Nat.le_of_ble_eq_true rfl) (Nat.le_of_ble_eq_true rfl) ?_
  refine ini_arr (C := R_T) (T := F_T) (N := 11) (ci := 1) (index := 27) (atype := .long) (ty := .long) (n := 60) (N' := 60) (a0 := (60, .inr (.inl (fun _ => (0 : Int64))))) (pc2 := 47) hx hb hts hiw ty_T ty_T_ok nmx_T hown hin rfl hK hP hD hS hA (lv_at hl 0 rfl) rfl (.inr (.inl rfl)) (hts _ (List.mem_cons_of_mem _ ka_long)) 1 rfl 6 (by decide) (hts _ (List.mem_cons_of_mem _ kj_T_27)) rfl rfl rfl (Nat.le_of_ble_eq_true rfl) (fun _ => rfl) (by decide) (by decide) (Nat.le_of_ble_eq_true rfl) (Nat.le_of_ble_eq_true rfl) (Nat.le_of_ble_eq_true rfl) d_T_init_44 (fun z => lv_bipush hx hb d_T_init_45 (by decide) z) d_T_init_47 d_T_init_49 (fun q5 H5 locs5 hP hD hS => ?_)
  refine W.eq (g2 := F0 m 52 ls []) rfl ?_
  have hP : va_P (dC, dI) clZ [(h0, .inr (1, [.int 0, .ref q0, .ref q1, .ref q2, .ref q3, .ref q4, .ref q5, .null, .null, .null, .null])), (q0, .inl (cI, 60, .inl (fun _ => (0 : Int32)))), (q1, .inl (cI, 60, .inl (fun _ => (0 : Int32)))), (q2, .inl (cI, 60, .inl (fun _ => (0 : Int32)))), (q3, .inl (cI, 60, .inl (fun _ => (0 : Int32)))), (q4, .inl (cI, 60, .inl (fun _ => (0 : Int32)))), (q5, .inl (cL, 60, .inr (.inl (fun _ => (0 : Int64)))))] H5 := hP
  have hD : va_D (va_A [(h0, .inr (1, z_T))] s.heap.size) [(h0, .inr (1, [.int 0, .ref q0, .ref q1, .ref q2, .ref q3, .ref q4, .ref q5, .null, .null, .null, .null])), (q0, .inl (cI, 60, .inl (fun _ => (0 : Int32)))), (q1, .inl (cI, 60, .inl (fun _ => (0 : Int32)))), (q2, .inl (cI, 60, .inl (fun _ => (0 : Int32)))), (q3, .inl (cI, 60, .inl (fun _ => (0 : Int32)))), (q4, .inl (cI, 60, .inl (fun _ => (0 : Int32)))), (q5, .inl (cL, 60, .inr (.inl (fun _ => (0 : Int64)))))] := hD
  refine W.widen (k := 6) (n := 360) (Nat.le_of_ble_eq_true rfl) (Nat.le_of_ble_eq_true rfl) ?_
  refine ini_arr (C := R_T) (T := F_T) (N := 11) (ci := 1) (index := 31) (atype := .int) (ty := .int) (n := 60) (N' := 60) (a0 := (60, .inl (fun _ => (0 : Int32)))) (pc2 := 55) hx hb hts hiw ty_T ty_T_ok nmx_T hown hin rfl hK hP hD hS hA (lv_at hl 0 rfl) rfl (.inl rfl) (hts _ (List.mem_cons_of_mem _ ka_int)) 0 rfl 7 (by decide) (hts _ (List.mem_cons_of_mem _ kj_T_31)) rfl rfl rfl (Nat.le_of_ble_eq_true rfl) (fun _ => rfl) (by decide) (by decide) (Nat.le_of_ble_eq_true rfl) (Nat.le_of_ble_eq_true rfl) (Nat.le_of_ble_eq_true rfl) d_T_init_52 (fun z => lv_bipush hx hb d_T_init_53 (by decide) z) d_T_init_55 d_T_init_57 (fun q6 H6 locs6 hP hD hS => ?_)
  refine W.eq (g2 := F0 m 60 ls []) rfl ?_
  have hP : va_P (dC, dI) clZ [(h0, .inr (1, [.int 0, .ref q0, .ref q1, .ref q2, .ref q3, .ref q4, .ref q5, .ref q6, .null, .null, .null])), (q0, .inl (cI, 60, .inl (fun _ => (0 : Int32)))), (q1, .inl (cI, 60, .inl (fun _ => (0 : Int32)))), (q2, .inl (cI, 60, .inl (fun _ => (0 : Int32)))), (q3, .inl (cI, 60, .inl (fun _ => (0 : Int32)))), (q4, .inl (cI, 60, .inl (fun _ => (0 : Int32)))), (q5, .inl (cL, 60, .inr (.inl (fun _ => (0 : Int64))))), (q6, .inl (cI, 60, .inl (fun _ => (0 : Int32))))] H6 := hP
  have hD : va_D (va_A [(h0, .inr (1, z_T))] s.heap.size) [(h0, .inr (1, [.int 0, .ref q0, .ref q1, .ref q2, .ref q3, .ref q4, .ref q5, .ref q6, .null, .null, .null])), (q0, .inl (cI, 60, .inl (fun _ => (0 : Int32)))), (q1, .inl (cI, 60, .inl (fun _ => (0 : Int32)))), (q2, .inl (cI, 60, .inl (fun _ => (0 : Int32)))), (q3, .inl (cI, 60, .inl (fun _ => (0 : Int32)))), (q4, .inl (cI, 60, .inl (fun _ => (0 : Int32)))), (q5, .inl (cL, 60, .inr (.inl (fun _ => (0 : Int64))))), (q6, .inl (cI, 60, .inl (fun _ => (0 : Int32))))] := hD
  refine W.widen (k := 7) (n := 420) (Nat.le_of_ble_eq_true rfl) (Nat.le_of_ble_eq_true rfl) ?_
  refine ini_arr (C := R_T) (T := F_T) (N := 11) (ci := 1) (index := 34) (atype := .int) (ty := .int) (n := 60) (N' := 60) (a0 := (60, .inl (fun _ => (0 : Int32)))) (pc2 := 63) hx hb hts hiw ty_T ty_T_ok nmx_T hown hin rfl hK hP hD hS hA (lv_at hl 0 rfl) rfl (.inl rfl) (hts _ (List.mem_cons_of_mem _ ka_int)) 0 rfl 8 (by decide) (hts _ (List.mem_cons_of_mem _ kj_T_34)) rfl rfl rfl (Nat.le_of_ble_eq_true rfl) (fun _ => rfl) (by decide) (by decide) (Nat.le_of_ble_eq_true rfl) (Nat.le_of_ble_eq_true rfl) (Nat.le_of_ble_eq_true rfl) d_T_init_60 (fun z => lv_bipush hx hb d_T_init_61 (by decide) z) d_T_init_63 d_T_init_65 (fun q7 H7 locs7 hP hD hS => ?_)
  refine W.eq (g2 := F0 m 68 ls []) rfl ?_
  have hP : va_P (dC, dI) clZ [(h0, .inr (1, [.int 0, .ref q0, .ref q1, .ref q2, .ref q3, .ref q4, .ref q5, .ref q6, .ref q7, .null, .null])), (q0, .inl (cI, 60, .inl (fun _ => (0 : Int32)))), (q1, .inl (cI, 60, .inl (fun _ => (0 : Int32)))), (q2, .inl (cI, 60, .inl (fun _ => (0 : Int32)))), (q3, .inl (cI, 60, .inl (fun _ => (0 : Int32)))), (q4, .inl (cI, 60, .inl (fun _ => (0 : Int32)))), (q5, .inl (cL, 60, .inr (.inl (fun _ => (0 : Int64))))), (q6, .inl (cI, 60, .inl (fun _ => (0 : Int32)))), (q7, .inl (cI, 60, .inl (fun _ => (0 : Int32))))] H7 := hP
  have hD : va_D (va_A [(h0, .inr (1, z_T))] s.heap.size) [(h0, .inr (1, [.int 0, .ref q0, .ref q1, .ref q2, .ref q3, .ref q4, .ref q5, .ref q6, .ref q7, .null, .null])), (q0, .inl (cI, 60, .inl (fun _ => (0 : Int32)))), (q1, .inl (cI, 60, .inl (fun _ => (0 : Int32)))), (q2, .inl (cI, 60, .inl (fun _ => (0 : Int32)))), (q3, .inl (cI, 60, .inl (fun _ => (0 : Int32)))), (q4, .inl (cI, 60, .inl (fun _ => (0 : Int32)))), (q5, .inl (cL, 60, .inr (.inl (fun _ => (0 : Int64))))), (q6, .inl (cI, 60, .inl (fun _ => (0 : Int32)))), (q7, .inl (cI, 60, .inl (fun _ => (0 : Int32))))] := hD
  refine W.widen (k := 8) (n := 480) (Nat.le_of_ble_eq_true rfl) (Nat.le_of_ble_eq_true rfl) ?_
  refine ini_arr (C := R_T) (T := F_T) (N := 11) (ci := 1) (index := 37) (atype := .int) (ty := .int) (n := 60) (N' := 60) (a0 := (60, .inl (fun _ => (0 : Int32)))) (pc2 := 71) hx hb hts hiw ty_T ty_T_ok nmx_T hown hin rfl hK hP hD hS hA (lv_at hl 0 rfl) rfl (.inl rfl) (hts _ (List.mem_cons_of_mem _ ka_int)) 0 rfl 9 (by decide) (hts _ (List.mem_cons_of_mem _ kj_T_37)) rfl rfl rfl (Nat.le_of_ble_eq_true rfl) (fun _ => rfl) (by decide) (by decide) (Nat.le_of_ble_eq_true rfl) (Nat.le_of_ble_eq_true rfl) (Nat.le_of_ble_eq_true rfl) d_T_init_68 (fun z => lv_bipush hx hb d_T_init_69 (by decide) z) d_T_init_71 d_T_init_73 (fun q8 H8 locs8 hP hD hS => ?_)
  refine W.eq (g2 := F0 m 76 ls []) rfl ?_
  have hP : va_P (dC, dI) clZ [(h0, .inr (1, [.int 0, .ref q0, .ref q1, .ref q2, .ref q3, .ref q4, .ref q5, .ref q6, .ref q7, .ref q8, .null])), (q0, .inl (cI, 60, .inl (fun _ => (0 : Int32)))), (q1, .inl (cI, 60, .inl (fun _ => (0 : Int32)))), (q2, .inl (cI, 60, .inl (fun _ => (0 : Int32)))), (q3, .inl (cI, 60, .inl (fun _ => (0 : Int32)))), (q4, .inl (cI, 60, .inl (fun _ => (0 : Int32)))), (q5, .inl (cL, 60, .inr (.inl (fun _ => (0 : Int64))))), (q6, .inl (cI, 60, .inl (fun _ => (0 : Int32)))), (q7, .inl (cI, 60, .inl (fun _ => (0 : Int32)))), (q8, .inl (cI, 60, .inl (fun _ => (0 : Int32))))] H8 := hP
  have hD : va_D (va_A [(h0, .inr (1, z_T))] s.heap.size) [(h0, .inr (1, [.int 0, .ref q0, .ref q1, .ref q2, .ref q3, .ref q4, .ref q5, .ref q6, .ref q7, .ref q8, .null])), (q0, .inl (cI, 60, .inl (fun _ => (0 : Int32)))), (q1, .inl (cI, 60, .inl (fun _ => (0 : Int32)))), (q2, .inl (cI, 60, .inl (fun _ => (0 : Int32)))), (q3, .inl (cI, 60, .inl (fun _ => (0 : Int32)))), (q4, .inl (cI, 60, .inl (fun _ => (0 : Int32)))), (q5, .inl (cL, 60, .inr (.inl (fun _ => (0 : Int64))))), (q6, .inl (cI, 60, .inl (fun _ => (0 : Int32)))), (q7, .inl (cI, 60, .inl (fun _ => (0 : Int32)))), (q8, .inl (cI, 60, .inl (fun _ => (0 : Int32))))] := hD
  refine W.widen (k := 9) (n := 540) (Nat.le_of_ble_eq_true rfl) (Nat.le_of_ble_eq_true rfl) ?_
  refine ini_arr (C := R_T) (T := F_T) (N := 11) (ci := 1) (index := 40) (atype := .int) (ty := .int) (n := 60) (N' := 60) (a0 := (60, .inl (fun _ => (0 : Int32)))) (pc2 := 79) hx hb hts hiw ty_T ty_T_ok nmx_T hown hin rfl hK hP hD hS hA (lv_at hl 0 rfl) rfl (.inl rfl) (hts _ (List.mem_cons_of_mem _ ka_int)) 0 rfl 10 (by decide) (hts _ (List.mem_cons_of_mem _ kj_T_40)) rfl rfl rfl (Nat.le_of_ble_eq_true rfl) (fun _ => rfl) (by decide) (by decide) (Nat.le_of_ble_eq_true rfl) (Nat.le_of_ble_eq_true rfl) (Nat.le_of_ble_eq_true rfl) d_T_init_76 (fun z => lv_bipush hx hb d_T_init_77 (by decide) z) d_T_init_79 d_T_init_81 (fun q9 H9 locs9 hP hD hS => ?_)
  refine W.eq (g2 := F0 m 84 ls []) rfl ?_
  have hP : va_P (dC, dI) clZ [(h0, .inr (1, [.int 0, .ref q0, .ref q1, .ref q2, .ref q3, .ref q4, .ref q5, .ref q6, .ref q7, .ref q8, .ref q9])), (q0, .inl (cI, 60, .inl (fun _ => (0 : Int32)))), (q1, .inl (cI, 60, .inl (fun _ => (0 : Int32)))), (q2, .inl (cI, 60, .inl (fun _ => (0 : Int32)))), (q3, .inl (cI, 60, .inl (fun _ => (0 : Int32)))), (q4, .inl (cI, 60, .inl (fun _ => (0 : Int32)))), (q5, .inl (cL, 60, .inr (.inl (fun _ => (0 : Int64))))), (q6, .inl (cI, 60, .inl (fun _ => (0 : Int32)))), (q7, .inl (cI, 60, .inl (fun _ => (0 : Int32)))), (q8, .inl (cI, 60, .inl (fun _ => (0 : Int32)))), (q9, .inl (cI, 60, .inl (fun _ => (0 : Int32))))] H9 := hP
  have hD : va_D (va_A [(h0, .inr (1, z_T))] s.heap.size) [(h0, .inr (1, [.int 0, .ref q0, .ref q1, .ref q2, .ref q3, .ref q4, .ref q5, .ref q6, .ref q7, .ref q8, .ref q9])), (q0, .inl (cI, 60, .inl (fun _ => (0 : Int32)))), (q1, .inl (cI, 60, .inl (fun _ => (0 : Int32)))), (q2, .inl (cI, 60, .inl (fun _ => (0 : Int32)))), (q3, .inl (cI, 60, .inl (fun _ => (0 : Int32)))), (q4, .inl (cI, 60, .inl (fun _ => (0 : Int32)))), (q5, .inl (cL, 60, .inr (.inl (fun _ => (0 : Int64))))), (q6, .inl (cI, 60, .inl (fun _ => (0 : Int32)))), (q7, .inl (cI, 60, .inl (fun _ => (0 : Int32)))), (q8, .inl (cI, 60, .inl (fun _ => (0 : Int32)))), (q9, .inl (cI, 60, .inl (fun _ => (0 : Int32))))] := hD
  refine W.widen (k := 10) (n := 600) (Nat.le_of_ble_eq_true rfl) (Nat.le_of_ble_eq_true rfl) ?_
  have hP9 : va_P (dC, dI) clZ (i_T cI cL cZ 0 h0 (fun k => [q0, q1, q2, q3, q4, q5, q6, q7, q8, q9].getD k 0)) _ := hP
  have hD9 : va_D _ (i_T cI cL cZ 0 h0 (fun k => [q0, q1, q2, q3, q4, q5, q6, q7, q8, q9].getD k 0)) := hD
  exact W.vret hx hb hr (fun t ht hW => ⟨⟨(fun k => [q0, q1, q2, q3, q4, q5, q6, q7, q8, q9].getD k 0), rfl, trivial, hp_of ht hP9, hD9⟩, hS.F ht⟩) hS.2.2 d_T_init_84
def z_K : List Value := [.null, .null]
def i_K (cI cL cZ : ClassId) (b : Int32) (h0 : Nat) (u : Nat → Nat) : va_W := [(h0, .inr (2, [.ref (u 0), .ref (u 1)])), (u 0, .inl (cL, 33, .inr (.inl (fun _ => (0 : Int64))))), (u 1, .inl (cL, 33, .inr (.inl (fun _ => (0 : Int64)))))]
abbrev ri_K : Room := { frames := 1, cells := 2, slots := 66, locals := 21 }
set_option maxHeartbeats 1000000 in
set_option maxRecDepth 100000 in
theorem c_K_init {l : Launch} {dC : Nat → ClassId} {dI : Nat → Nat → Nat} {cI cL cZ : ClassId} (h0 sz : Nat) : Met l y_K_init ws_K_init ri_K (va_Pc [.ref h0] (fun U => U.heap.size = sz ∧ va_P (dC, dI) clZ [(h0, .inr (2, z_K))] U.heap ∧ va_K (dC, dI) clZ (tyZ cI cL cZ) U ∧ va_D (fun _ => True) [(h0, .inr (2, z_K))])) (va_Qv (fun _ : Nat → Nat => True) (fun u t => va_P (dC, dI) clZ (i_K cI cL cZ 0 h0 u) t.heap ∧ va_D (va_A [(h0, .inr (2, z_K))] sz) (i_K cI cL cZ 0 h0 u)) (va_A [(h0, .inr (2, z_K))] sz)) 2 66 (va_A [(h0, .inr (2, z_K))] sz) := by
  refine Met.ofW (cc := b_K_init) (maxL := 1) (ret := none) (by decide) rfl ?_
  intro p e s m args below meth c s₁ B hml hv
  obtain ⟨rfl, hsz, hP, hK, hD0⟩ := hv
  have hx := B.exec
  have hb := B.bytes
  have hr := B.returns
  have hts := atoms_spec (ws := ws_K_init) B.pre
  have hown : s.vm.findClass R_K = some m.cls := findClass_of_methodNamed B.named
  have hlocks := B.notSynchronized
  have hin : meth.name = "<init>" := (name_of_methodNamed B.named B.method).1
  have hiw : ∀ w ∈ u_ws R_K F_K 2, w ∈ ws_K_init := fun w h => List.mem_cons_of_mem _ (in_K w h)
  subst hsz
  have hD := hD0.self (sz := s.heap.size)
  have hA : ∀ q : Nat, s.heap.size ≤ q → va_A [(h0, .inr (2, z_K))] s.heap.size q := fun q h => Or.inr h
  have hS : va_S (va_A [(h0, .inr (2, z_K))] s.heap.size) s.heap s.heap [] := va_S.rf
  have hl := lv_entry ([.ref h0]) (n := 1) (Nat.le_of_ble_eq_true rfl)
  rw [lg_entry_eq]
  generalize (lg_sl ([.ref h0]) ++ List.replicate (1 - (lg_sl ([.ref h0])).length) Slot.unset).toArray = ls at hl ⊢
  have hl : lv_has ls 1 [(0, .ref h0)] := hl
  refine lv_aload_n hx hb d_K_init_0 rfl (lv_at hl 0 rfl) ?_
  refine W.objInit hx hb hown (hts _ (List.mem_cons_of_mem _ kj_K_3)) (hts _ (List.mem_cons_of_mem _ ko_i)) (hts _ (List.mem_cons_of_mem _ ko_c)) rfl (by rw [hml]; exact hl.1) rfl d_K_init_1 (Nat.le_of_ble_eq_true rfl) (Nat.le_of_ble_eq_true rfl) ?_
  refine W.eq (g2 := F0 m 4 ls []) rfl ?_
  refine ini_arr (C := R_K) (T := F_K) (N := 2) (ci := 2) (index := 9) (atype := .long) (ty := .long) (n := 33) (N' := 33) (a0 := (33, .inr (.inl (fun _ => (0 : Int64))))) (pc2 := 7) hx hb hts hiw ty_K ty_K_ok nmx_K hown hin rfl hK hP hD hS hA (lv_at hl 0 rfl) rfl (.inr (.inl rfl)) (hts _ (List.mem_cons_of_mem _ ka_long)) 1 rfl 0 (by decide) (hts _ (List.mem_cons_of_mem _ kj_K_9)) rfl rfl rfl (Nat.le_of_ble_eq_true rfl) (fun _ => rfl) (by decide) (by decide) (Nat.le_of_ble_eq_true rfl) (Nat.le_of_ble_eq_true rfl) (Nat.le_of_ble_eq_true rfl) d_K_init_4 (fun z => lv_bipush hx hb d_K_init_5 (by decide) z) d_K_init_7 d_K_init_9 (fun q0 H0 locs0 hP hD hS => ?_)
  refine W.eq (g2 := F0 m 12 ls []) rfl ?_
  have hP : va_P (dC, dI) clZ [(h0, .inr (2, [.ref q0, .null])), (q0, .inl (cL, 33, .inr (.inl (fun _ => (0 : Int64)))))] H0 := hP
  have hD : va_D (va_A [(h0, .inr (2, z_K))] s.heap.size) [(h0, .inr (2, [.ref q0, .null])), (q0, .inl (cL, 33, .inr (.inl (fun _ => (0 : Int64)))))] := hD
  refine W.widen (k := 1) (n := 33) (Nat.le_of_ble_eq_true rfl) (Nat.le_of_ble_eq_true rfl) ?_
  refine ini_arr (C := R_K) (T := F_K) (N := 2) (ci := 2) (index := 15) (atype := .long) (ty := .long) (n := 33) (N' := 33) (a0 := (33, .inr (.inl (fun _ => (0 : Int64))))) (pc2 := 15) hx hb hts hiw ty_K ty_K_ok nmx_K hown hin rfl hK hP hD hS hA (lv_at hl 0 rfl) rfl (.inr (.inl rfl)) (hts _ (List.mem_cons_of_mem _ ka_long)) 1 rfl 1 (by decide) (hts _ (List.mem_cons_of_mem _ kj_K_15)) rfl rfl rfl (Nat.le_of_ble_eq_true rfl) (fun _ => rfl) (by decide) (by decide) (Nat.le_of_ble_eq_true rfl) (Nat.le_of_ble_eq_true rfl) (Nat.le_of_ble_eq_true rfl) d_K_init_12 (fun z => lv_bipush hx hb d_K_init_13 (by decide) z) d_K_init_15 d_K_init_17 (fun q1 H1 locs1 hP hD hS => ?_)
  refine W.eq (g2 := F0 m 20 ls []) rfl ?_
  have hP : va_P (dC, dI) clZ [(h0, .inr (2, [.ref q0, .ref q1])), (q0, .inl (cL, 33, .inr (.inl (fun _ => (0 : Int64))))), (q1, .inl (cL, 33, .inr (.inl (fun _ => (0 : Int64)))))] H1 := hP
  have hD : va_D (va_A [(h0, .inr (2, z_K))] s.heap.size) [(h0, .inr (2, [.ref q0, .ref q1])), (q0, .inl (cL, 33, .inr (.inl (fun _ => (0 : Int64))))), (q1, .inl (cL, 33, .inr (.inl (fun _ => (0 : Int64)))))] := hD
  refine W.widen (k := 2) (n := 66) (Nat.le_of_ble_eq_true rfl) (Nat.le_of_ble_eq_true rfl) ?_
  have hP9 : va_P (dC, dI) clZ (i_K cI cL cZ 0 h0 (fun k => [q0, q1].getD k 0)) _ := hP
  have hD9 : va_D _ (i_K cI cL cZ 0 h0 (fun k => [q0, q1].getD k 0)) := hD
  exact W.vret hx hb hr (fun t ht hW => ⟨⟨(fun k => [q0, q1].getD k 0), rfl, trivial, hp_of ht hP9, hD9⟩, hS.F ht⟩) hS.2.2 d_K_init_20
def z_P : List Value := [.int 0, .int 0, .null]
def i_P (cI cL cZ : ClassId) (b : Int32) (h0 : Nat) (u : Nat → Nat) : va_W := [(h0, .inr (3, [.int 0, .int 0, .ref (u 0)])), (u 0, .inl (cI, 33, .inl (fun _ => (0 : Int32))))]
abbrev ri_P : Room := { frames := 1, cells := 1, slots := 33, locals := 21 }
set_option maxHeartbeats 1000000 in
set_option maxRecDepth 100000 in
theorem c_P_init {l : Launch} {dC : Nat → ClassId} {dI : Nat → Nat → Nat} {cI cL cZ : ClassId} (h0 sz : Nat) : Met l y_P_init ws_P_init ri_P (va_Pc [.ref h0] (fun U => U.heap.size = sz ∧ va_P (dC, dI) clZ [(h0, .inr (3, z_P))] U.heap ∧ va_K (dC, dI) clZ (tyZ cI cL cZ) U ∧ va_D (fun _ => True) [(h0, .inr (3, z_P))])) (va_Qv (fun _ : Nat → Nat => True) (fun u t => va_P (dC, dI) clZ (i_P cI cL cZ 0 h0 u) t.heap ∧ va_D (va_A [(h0, .inr (3, z_P))] sz) (i_P cI cL cZ 0 h0 u)) (va_A [(h0, .inr (3, z_P))] sz)) 1 33 (va_A [(h0, .inr (3, z_P))] sz) := by
  refine Met.ofW (cc := b_P_init) (maxL := 1) (ret := none) (by decide) rfl ?_
  intro p e s m args below meth c s₁ B hml hv
  obtain ⟨rfl, hsz, hP, hK, hD0⟩ := hv
  have hx := B.exec
  have hb := B.bytes
  have hr := B.returns
  have hts := atoms_spec (ws := ws_P_init) B.pre
  have hown : s.vm.findClass R_P = some m.cls := findClass_of_methodNamed B.named
  have hlocks := B.notSynchronized
  have hin : meth.name = "<init>" := (name_of_methodNamed B.named B.method).1
  have hiw : ∀ w ∈ u_ws R_P F_P 3, w ∈ ws_P_init := fun w h => List.mem_cons_of_mem _ (in_P w h)
  subst hsz
  have hD := hD0.self (sz := s.heap.size)
  have hA : ∀ q : Nat, s.heap.size ≤ q → va_A [(h0, .inr (3, z_P))] s.heap.size q := fun q h => Or.inr h
  have hS : va_S (va_A [(h0, .inr (3, z_P))] s.heap.size) s.heap s.heap [] := va_S.rf
  have hl := lv_entry ([.ref h0]) (n := 1) (Nat.le_of_ble_eq_true rfl)
  rw [lg_entry_eq]
  generalize (lg_sl ([.ref h0]) ++ List.replicate (1 - (lg_sl ([.ref h0])).length) Slot.unset).toArray = ls at hl ⊢
  have hl : lv_has ls 1 [(0, .ref h0)] := hl
  refine lv_aload_n hx hb d_P_init_0 rfl (lv_at hl 0 rfl) ?_
  refine W.objInit hx hb hown (hts _ (List.mem_cons_of_mem _ kj_P_3)) (hts _ (List.mem_cons_of_mem _ ko_i)) (hts _ (List.mem_cons_of_mem _ ko_c)) rfl (by rw [hml]; exact hl.1) rfl d_P_init_1 (Nat.le_of_ble_eq_true rfl) (Nat.le_of_ble_eq_true rfl) ?_
  refine W.eq (g2 := F0 m 4 ls []) rfl ?_
  refine ini_arr (C := R_P) (T := F_P) (N := 3) (ci := 3) (index := 9) (atype := .int) (ty := .int) (n := 33) (N' := 33) (a0 := (33, .inl (fun _ => (0 : Int32)))) (pc2 := 7) hx hb hts hiw ty_P ty_P_ok nmx_P hown hin rfl hK hP hD hS hA (lv_at hl 0 rfl) rfl (.inl rfl) (hts _ (List.mem_cons_of_mem _ ka_int)) 0 rfl 2 (by decide) (hts _ (List.mem_cons_of_mem _ kj_P_9)) rfl rfl rfl (Nat.le_of_ble_eq_true rfl) (fun _ => rfl) (by decide) (by decide) (Nat.le_of_ble_eq_true rfl) (Nat.le_of_ble_eq_true rfl) (Nat.le_of_ble_eq_true rfl) d_P_init_4 (fun z => lv_bipush hx hb d_P_init_5 (by decide) z) d_P_init_7 d_P_init_9 (fun q0 H0 locs0 hP hD hS => ?_)
  refine W.eq (g2 := F0 m 12 ls []) rfl ?_
  have hP : va_P (dC, dI) clZ [(h0, .inr (3, [.int 0, .int 0, .ref q0])), (q0, .inl (cI, 33, .inl (fun _ => (0 : Int32))))] H0 := hP
  have hD : va_D (va_A [(h0, .inr (3, z_P))] s.heap.size) [(h0, .inr (3, [.int 0, .int 0, .ref q0])), (q0, .inl (cI, 33, .inl (fun _ => (0 : Int32))))] := hD
  refine W.widen (k := 1) (n := 33) (Nat.le_of_ble_eq_true rfl) (Nat.le_of_ble_eq_true rfl) ?_
  have hP9 : va_P (dC, dI) clZ (i_P cI cL cZ 0 h0 (fun k => [q0].getD k 0)) _ := hP
  have hD9 : va_D _ (i_P cI cL cZ 0 h0 (fun k => [q0].getD k 0)) := hD
  exact W.vret hx hb hr (fun t ht hW => ⟨⟨(fun k => [q0].getD k 0), rfl, trivial, hp_of ht hP9, hD9⟩, hS.F ht⟩) hS.2.2 d_P_init_12
def z_D : List Value := [.null]
def i_D (cI cL cZ : ClassId) (b : Int32) (h0 : Nat) (u : Nat → Nat) : va_W := [(h0, .inr (4, [.ref (u 0)])), (u 0, .inl (cL, 60, .inr (.inl (fun _ => (0 : Int64)))))]
abbrev ri_D : Room := { frames := 1, cells := 1, slots := 60, locals := 21 }
set_option maxHeartbeats 1000000 in
set_option maxRecDepth 100000 in
theorem c_D_init {l : Launch} {dC : Nat → ClassId} {dI : Nat → Nat → Nat} {cI cL cZ : ClassId} (h0 sz : Nat) : Met l y_D_init ws_D_init ri_D (va_Pc [.ref h0] (fun U => U.heap.size = sz ∧ va_P (dC, dI) clZ [(h0, .inr (4, z_D))] U.heap ∧ va_K (dC, dI) clZ (tyZ cI cL cZ) U ∧ va_D (fun _ => True) [(h0, .inr (4, z_D))])) (va_Qv (fun _ : Nat → Nat => True) (fun u t => va_P (dC, dI) clZ (i_D cI cL cZ 0 h0 u) t.heap ∧ va_D (va_A [(h0, .inr (4, z_D))] sz) (i_D cI cL cZ 0 h0 u)) (va_A [(h0, .inr (4, z_D))] sz)) 1 60 (va_A [(h0, .inr (4, z_D))] sz) := by
  refine Met.ofW (cc := b_D_init) (maxL := 1) (ret := none) (by decide) rfl ?_
  intro p e s m args below meth c s₁ B hml hv
  obtain ⟨rfl, hsz, hP, hK, hD0⟩ := hv
  have hx := B.exec
  have hb := B.bytes
  have hr := B.returns
  have hts := atoms_spec (ws := ws_D_init) B.pre
  have hown : s.vm.findClass R_D = some m.cls := findClass_of_methodNamed B.named
  have hlocks := B.notSynchronized
  have hin : meth.name = "<init>" := (name_of_methodNamed B.named B.method).1
  have hiw : ∀ w ∈ u_ws R_D F_D 1, w ∈ ws_D_init := fun w h => List.mem_cons_of_mem _ (in_D w h)
  subst hsz
  have hD := hD0.self (sz := s.heap.size)
  have hA : ∀ q : Nat, s.heap.size ≤ q → va_A [(h0, .inr (4, z_D))] s.heap.size q := fun q h => Or.inr h
  have hS : va_S (va_A [(h0, .inr (4, z_D))] s.heap.size) s.heap s.heap [] := va_S.rf
  have hl := lv_entry ([.ref h0]) (n := 1) (Nat.le_of_ble_eq_true rfl)
  rw [lg_entry_eq]
  generalize (lg_sl ([.ref h0]) ++ List.replicate (1 - (lg_sl ([.ref h0])).length) Slot.unset).toArray = ls at hl ⊢
  have hl : lv_has ls 1 [(0, .ref h0)] := hl
  refine lv_aload_n hx hb d_D_init_0 rfl (lv_at hl 0 rfl) ?_
  refine W.objInit hx hb hown (hts _ (List.mem_cons_of_mem _ kj_D_3)) (hts _ (List.mem_cons_of_mem _ ko_i)) (hts _ (List.mem_cons_of_mem _ ko_c)) rfl (by rw [hml]; exact hl.1) rfl d_D_init_1 (Nat.le_of_ble_eq_true rfl) (Nat.le_of_ble_eq_true rfl) ?_
  refine W.eq (g2 := F0 m 4 ls []) rfl ?_
  refine ini_arr (C := R_D) (T := F_D) (N := 1) (ci := 4) (index := 9) (atype := .long) (ty := .long) (n := 60) (N' := 60) (a0 := (60, .inr (.inl (fun _ => (0 : Int64))))) (pc2 := 7) hx hb hts hiw ty_D ty_D_ok nmx_D hown hin rfl hK hP hD hS hA (lv_at hl 0 rfl) rfl (.inr (.inl rfl)) (hts _ (List.mem_cons_of_mem _ ka_long)) 1 rfl 0 (by decide) (hts _ (List.mem_cons_of_mem _ kj_D_9)) rfl rfl rfl (Nat.le_of_ble_eq_true rfl) (fun _ => rfl) (by decide) (by decide) (Nat.le_of_ble_eq_true rfl) (Nat.le_of_ble_eq_true rfl) (Nat.le_of_ble_eq_true rfl) d_D_init_4 (fun z => lv_bipush hx hb d_D_init_5 (by decide) z) d_D_init_7 d_D_init_9 (fun q0 H0 locs0 hP hD hS => ?_)
  refine W.eq (g2 := F0 m 12 ls []) rfl ?_
  have hP : va_P (dC, dI) clZ [(h0, .inr (4, [.ref q0])), (q0, .inl (cL, 60, .inr (.inl (fun _ => (0 : Int64)))))] H0 := hP
  have hD : va_D (va_A [(h0, .inr (4, z_D))] s.heap.size) [(h0, .inr (4, [.ref q0])), (q0, .inl (cL, 60, .inr (.inl (fun _ => (0 : Int64)))))] := hD
  refine W.widen (k := 1) (n := 60) (Nat.le_of_ble_eq_true rfl) (Nat.le_of_ble_eq_true rfl) ?_
  have hP9 : va_P (dC, dI) clZ (i_D cI cL cZ 0 h0 (fun k => [q0].getD k 0)) _ := hP
  have hD9 : va_D _ (i_D cI cL cZ 0 h0 (fun k => [q0].getD k 0)) := hD
  exact W.vret hx hb hr (fun t ht hW => ⟨⟨(fun k => [q0].getD k 0), rfl, trivial, hp_of ht hP9, hD9⟩, hS.F ht⟩) hS.2.2 d_D_init_12
def z_G : List Value := [.int 0, .int 0, .int 0, .null, .null, .null, .null, .null, .null, .null, .null, .null]
def i_G (cI cL cZ : ClassId) (b : Int32) (h0 : Nat) (u : Nat → Nat) : va_W := [(h0, .inr (5, [.int 0, .int 0, .int 0, .ref (u 0), .ref (u 1), .ref (u 2), .ref (u 3), .ref (u 4), .ref (u 5), .ref (u 6), .ref (u 7), .ref (u 8)])), (u 0, .inl (cI, 300, .inl (fun _ => (0 : Int32)))), (u 1, .inl (cI, 300, .inl (fun _ => (0 : Int32)))), (u 2, .inl (cI, 300, .inl (fun _ => (0 : Int32)))), (u 3, .inl (cZ, 300, .inl (fun _ => (0 : Int32)))), (u 4, .inl (cI, 300, .inl (fun _ => (0 : Int32)))), (u 5, .inl (cZ, 300, .inl (fun _ => (0 : Int32)))), (u 6, .inl (cI, 300, .inl (fun _ => (0 : Int32)))), (u 7, .inl (cI, 300, .inl (fun _ => (0 : Int32)))), (u 8, .inl (cZ, 300, .inl (fun _ => (0 : Int32))))]
abbrev ri_G : Room := { frames := 1, cells := 9, slots := 2700, locals := 21 }
set_option maxHeartbeats 1000000 in
set_option maxRecDepth 100000 in
theorem c_G_init {l : Launch} {dC : Nat → ClassId} {dI : Nat → Nat → Nat} {cI cL cZ : ClassId} (h0 sz : Nat) : Met l y_G_init ws_G_init ri_G (va_Pc [.ref h0] (fun U => U.heap.size = sz ∧ va_P (dC, dI) clZ [(h0, .inr (5, z_G))] U.heap ∧ va_K (dC, dI) clZ (tyZ cI cL cZ) U ∧ va_D (fun _ => True) [(h0, .inr (5, z_G))])) (va_Qv (fun _ : Nat → Nat => True) (fun u t => va_P (dC, dI) clZ (i_G cI cL cZ 0 h0 u) t.heap ∧ va_D (va_A [(h0, .inr (5, z_G))] sz) (i_G cI cL cZ 0 h0 u)) (va_A [(h0, .inr (5, z_G))] sz)) 9 2700 (va_A [(h0, .inr (5, z_G))] sz) := by
  refine Met.ofW (cc := b_G_init) (maxL := 1) (ret := none) (by decide) rfl ?_
  intro p e s m args below meth c s₁ B hml hv
  obtain ⟨rfl, hsz, hP, hK, hD0⟩ := hv
  have hx := B.exec
  have hb := B.bytes
  have hr := B.returns
  have hts := atoms_spec (ws := ws_G_init) B.pre
  have hown : s.vm.findClass R_G = some m.cls := findClass_of_methodNamed B.named
  have hlocks := B.notSynchronized
  have hin : meth.name = "<init>" := (name_of_methodNamed B.named B.method).1
  have hiw : ∀ w ∈ u_ws R_G F_G 12, w ∈ ws_G_init := fun w h => List.mem_cons_of_mem _ (in_G w h)
  subst hsz
  have hD := hD0.self (sz := s.heap.size)
  have hA : ∀ q : Nat, s.heap.size ≤ q → va_A [(h0, .inr (5, z_G))] s.heap.size q := fun q h => Or.inr h
  have hS : va_S (va_A [(h0, .inr (5, z_G))] s.heap.size) s.heap s.heap [] := va_S.rf
  have hl := lv_entry ([.ref h0]) (n := 1) (Nat.le_of_ble_eq_true rfl)
  rw [lg_entry_eq]
  generalize (lg_sl ([.ref h0]) ++ List.replicate (1 - (lg_sl ([.ref h0])).length) Slot.unset).toArray = ls at hl ⊢
  have hl : lv_has ls 1 [(0, .ref h0)] := hl
  refine lv_aload_n hx hb d_G_init_0 rfl (lv_at hl 0 rfl) ?_
  refine W.objInit hx hb hown (hts _ (List.mem_cons_of_mem _ kj_G_3)) (hts _ (List.mem_cons_of_mem _ ko_i)) (hts _ (List.mem_cons_of_mem _ ko_c)) rfl (by rw [hml]; exact hl.1) rfl d_G_init_1 (Nat.le_of_ble_eq_true rfl) (Nat.le_of_ble_eq_true rfl) ?_
  refine W.eq (g2 := F0 m 4 ls []) rfl ?_
  refine ini_arr (C := R_G) (T := F_G) (N := 12) (ci := 5) (index := 9) (atype := .int) (ty := .int) (n := 300) (N' := 300) (a0 := (300, .inl (fun _ => (0 : Int32)))) (pc2 := 8) hx hb hts hiw ty_G ty_G_ok nmx_G hown hin rfl hK hP hD hS hA (lv_at hl 0 rfl) rfl (.inl rfl) (hts _ (List.mem_cons_of_mem _ ka_int)) 0 rfl 3 (by decide) (hts _ (List.mem_cons_of_mem _ kj_G_9)) rfl rfl rfl (Nat.le_of_ble_eq_true rfl) (fun _ => rfl) (by decide) (by decide) (Nat.le_of_ble_eq_true rfl) (Nat.le_of_ble_eq_true rfl) (Nat.le_of_ble_eq_true rfl) d_G_init_4 (fun z => lv_sipush hx hb d_G_init_5 (by decide) z) d_G_init_8 d_G_init_10 (fun q0 H0 locs0 hP hD hS => ?_)
  refine W.eq (g2 := F0 m 13 ls []) rfl ?_
  have hP : va_P (dC, dI) clZ [(h0, .inr (5, [.int 0, .int 0, .int 0, .ref q0, .null, .null, .null, .null, .null, .null, .null, .null])), (q0, .inl (cI, 300, .inl (fun _ => (0 : Int32))))] H0 := hP
  have hD : va_D (va_A [(h0, .inr (5, z_G))] s.heap.size) [(h0, .inr (5, [.int 0, .int 0, .int 0, .ref q0, .null, .null, .null, .null, .null, .null, .null, .null])), (q0, .inl (cI, 300, .inl (fun _ => (0 : Int32))))] := hD
  refine W.widen (k := 1) (n := 300) (Nat.le_of_ble_eq_true rfl) (Nat.le_of_ble_eq_true rfl) ?_
  refine ini_arr (C := R_G) (T := F_G) (N := 12) (ci := 5) (index := 15) (atype := .int) (ty := .int) (n := 300) (N' := 300) (a0 := (300, .inl (fun _ => (0 : Int32)))) (pc2 := 17) hx hb hts hiw ty_G ty_G_ok nmx_G hown hin rfl hK hP hD hS hA (lv_at hl 0 rfl) rfl (.inl rfl) (hts _ (List.mem_cons_of_mem _ ka_int)) 0 rfl 4 (by decide) (hts _ (List.mem_cons_of_mem _ kj_G_15)) rfl rfl rfl (Nat.le_of_ble_eq_true rfl) (fun _ => rfl) (by decide) (by decide) (Nat.le_of_ble_eq_true rfl) (Nat.le_of_ble_eq_true rfl) (Nat.le_of_ble_eq_true rfl) d_G_init_13 (fun z => lv_sipush hx hb d_G_init_14 (by decide) z) d_G_init_17 d_G_init_19 (fun q1 H1 locs1 hP hD hS => ?_)
  refine W.eq (g2 := F0 m 22 ls []) rfl ?_
  have hP : va_P (dC, dI) clZ [(h0, .inr (5, [.int 0, .int 0, .int 0, .ref q0, .ref q1, .null, .null, .null, .null, .null, .null, .null])), (q0, .inl (cI, 300, .inl (fun _ => (0 : Int32)))), (q1, .inl (cI, 300, .inl (fun _ => (0 : Int32))))] H1 := hP
  have hD : va_D (va_A [(h0, .inr (5, z_G))] s.heap.size) [(h0, .inr (5, [.int 0, .int 0, .int 0, .ref q0, .ref q1, .null, .null, .null, .null, .null, .null, .null])), (q0, .inl (cI, 300, .inl (fun _ => (0 : Int32)))), (q1, .inl (cI, 300, .inl (fun _ => (0 : Int32))))] := hD
  refine W.widen (k := 2) (n := 600) (Nat.le_of_ble_eq_true rfl) (Nat.le_of_ble_eq_true rfl) ?_
  refine ini_arr (C := R_G) (T := F_G) (N := 12) (ci := 5) (index := 18) (atype := .int) (ty := .int) (n := 300) (N' := 300) (a0 := (300, .inl (fun _ => (0 : Int32)))) (pc2 := 26) hx hb hts hiw ty_G ty_G_ok nmx_G hown hin rfl hK hP hD hS hA (lv_at hl 0 rfl) rfl (.inl rfl) (hts _ (List.mem_cons_of_mem _ ka_int)) 0 rfl 5 (by decide) (hts _ (List.mem_cons_of_mem _ kj_G_18)) rfl rfl rfl (Nat.le_of_ble_eq_true rfl) (fun _ => rfl) (by decide) (by decide) (Nat.le_of_ble_eq_true rfl) (Nat.le_of_ble_eq_true rfl) (Nat.le_of_ble_eq_true rfl) d_G_init_22 (fun z => lv_sipush hx hb d_G_init_23 (by decide) z) d_G_init_26 d_G_init_28 (fun q2 H2 locs2 hP hD hS => ?_)
  refine W.eq (g2 := F0 m 31 ls []) rfl ?_
  have hP : va_P (dC, dI) clZ [(h0, .inr (5, [.int 0, .int 0, .int 0, .ref q0, .ref q1, .ref q2, .null, .null, .null, .null, .null, .null])), (q0, .inl (cI, 300, .inl (fun _ => (0 : Int32)))), (q1, .inl (cI, 300, .inl (fun _ => (0 : Int32)))), (q2, .inl (cI, 300, .inl (fun _ => (0 : Int32))))] H2 := hP
  have hD : va_D (va_A [(h0, .inr (5, z_G))] s.heap.size) [(h0, .inr (5, [.int 0, .int 0, .int 0, .ref q0, .ref q1, .ref q2, .null, .null, .null, .null, .null, .null])), (q0, .inl (cI, 300, .inl (fun _ => (0 : Int32)))), (q1, .inl (cI, 300, .inl (fun _ => (0 : Int32)))), (q2, .inl (cI, 300, .inl (fun _ => (0 : Int32))))] := hD
  refine W.widen (k := 3) (n := 900) (Nat.le_of_ble_eq_true rfl) (Nat.le_of_ble_eq_true rfl) ?_
  refine ini_arr (C := R_G) (T := F_G) (N := 12) (ci := 5) (index := 21) (atype := .boolean) (ty := .boolean) (n := 300) (N' := 300) (a0 := (300, .inl (fun _ => (0 : Int32)))) (pc2 := 35) hx hb hts hiw ty_G ty_G_ok nmx_G hown hin rfl hK hP hD hS hA (lv_at hl 0 rfl) rfl (.inr (.inr rfl)) (hts _ (List.mem_cons_of_mem _ ka_boolean)) 2 rfl 6 (by decide) (hts _ (List.mem_cons_of_mem _ kj_G_21)) rfl rfl rfl (Nat.le_of_ble_eq_true rfl) (fun _ => rfl) (by decide) (by decide) (Nat.le_of_ble_eq_true rfl) (Nat.le_of_ble_eq_true rfl) (Nat.le_of_ble_eq_true rfl) d_G_init_31 (fun z => lv_sipush hx hb d_G_init_32 (by decide) z) d_G_init_35 d_G_init_37 (fun q3 H3 locs3 hP hD hS => ?_)
  refine W.eq (g2 := F0 m 40 ls []) rfl ?_
  have hP : va_P (dC, dI) clZ [(h0, .inr (5, [.int 0, .int 0, .int 0, .ref q0, .ref q1, .ref q2, .ref q3, .null, .null, .null, .null, .null])), (q0, .inl (cI, 300, .inl (fun _ => (0 : Int32)))), (q1, .inl (cI, 300, .inl (fun _ => (0 : Int32)))), (q2, .inl (cI, 300, .inl (fun _ => (0 : Int32)))), (q3, .inl (cZ, 300, .inl (fun _ => (0 : Int32))))] H3 := hP
  have hD : va_D (va_A [(h0, .inr (5, z_G))] s.heap.size) [(h0, .inr (5, [.int 0, .int 0, .int 0, .ref q0, .ref q1, .ref q2, .ref q3, .null, .null, .null, .null, .null])), (q0, .inl (cI, 300, .inl (fun _ => (0 : Int32)))), (q1, .inl (cI, 300, .inl (fun _ => (0 : Int32)))), (q2, .inl (cI, 300, .inl (fun _ => (0 : Int32)))), (q3, .inl (cZ, 300, .inl (fun _ => (0 : Int32))))] := hD
  refine W.widen (k := 4) (n := 1200) (Nat.le_of_ble_eq_true rfl) (Nat.le_of_ble_eq_true rfl) ?_
  refine ini_arr (C := R_G) (T := F_G) (N := 12) (ci := 5) (index := 25) (atype := .int) (ty := .int) (n := 300) (N' := 300) (a0 := (300, .inl (fun _ => (0 : Int32)))) (pc2 := 44) hx hb hts hiw ty_G ty_G_ok nmx_G hown hin rfl hK hP hD hS hA (lv_at hl 0 rfl) rfl (.inl rfl) (hts _ (List.mem_cons_of_mem _ ka_int)) 0 rfl 7 (by decide) (hts _ (List.mem_cons_of_mem _ kj_G_25)) rfl rfl rfl (Nat.le_of_ble_eq_true rfl) (fun _ => rfl) (by decide) (by decide) (Nat.le_of_ble_eq_true rfl) (Nat.le_of_ble_eq_true rfl) (Nat.le_of_ble_eq_true rfl) d_G_init_40 (fun z => lv_sipush hx hb d_G_init_41 (by decide) z) d_G_init_44 d_G_init_46 (fun q4 H4 locs4 hP hD hS => ?_)
  refine W.eq (g2 := F0 m 49 ls []) rfl ?_
  have hP : va_P (dC, dI) clZ [(h0, .inr (5, [.int 0, .int 0, .int 0, .ref q0, .ref q1, .ref q2, .ref q3, .ref q4, .null, .null, .null, .null])), (q0, .inl (cI, 300, .inl (fun _ => (0 : Int32)))), (q1, .inl (cI, 300, .inl (fun _ => (0 : Int32)))), (q2, .inl (cI, 300, .inl (fun _ => (0 : Int32)))), (q3, .inl (cZ, 300, .inl (fun _ => (0 : Int32)))), (q4, .inl (cI, 300, .inl (fun _ => (0 : Int32))))] H4 := hP
  have hD : va_D (va_A [(h0, .inr (5, z_G))] s.heap.size) [(h0, .inr (5, [.int 0, .int 0, .int 0, .ref q0, .ref q1, .ref q2, .ref q3, .ref q4, .null, .null, .null, .null])), (q0, .inl (cI, 300, .inl (fun _ => (0 : Int32)))), (q1, .inl (cI, 300, .inl (fun _ => (0 : Int32)))), (q2, .inl (cI, 300, .inl (fun _ => (0 : Int32)))), (q3, .inl (cZ, 300, .inl (fun _ => (0 : Int32)))), (q4, .inl (cI, 300, .inl (fun _ => (0 : Int32))))] := hD
  refine W.widen (k := 5) (n := 1500) (Nat.le_of_ble_eq_true rfl) (Nat.le_of_ble_eq_true rfl) ?_
  refine ini_arr (C := R_G) (T := F_G) (N := 12) (ci := 5) (index := 28) (atype := .boolean) (ty := .boolean) (n := 300) (N' := 300) (a0 := (300, .inl (fun _ => (0 : Int32)))) (pc2 := 53) hx hb hts hiw ty_G ty_G_ok nmx_G hown hin rfl hK hP hD hS hA (lv_at hl 0 rfl) rfl (.inr (.inr rfl)) (hts _ (List.mem_cons_of_mem _ ka_boolean)) 2 rfl 8 (by decide) (hts _ (List.mem_cons_of_mem _ kj_G_28)) rfl rfl rfl (Nat.le_of_ble_eq_true rfl) (fun _ => rfl) (by decide) (by decide) (Nat.le_of_ble_eq_true rfl) (Nat.le_of_ble_eq_true rfl) (Nat.le_of_ble_eq_true rfl) d_G_init_49 (fun z => lv_sipush hx hb d_G_init_50 (by decide) z) d_G_init_53 d_G_init_55 (fun q5 H5 locs5 hP hD hS => ?_)
  refine W.eq (g2 := F0 m 58 ls []) rfl ?_
  have hP : va_P (dC, dI) clZ [(h0, .inr (5, [.int 0, .int 0, .int 0, .ref q0, .ref q1, .ref q2, .ref q3, .ref q4, .ref q5, .null, .null, .null])), (q0, .inl (cI, 300, .inl (fun _ => (0 : Int32)))), (q1, .inl (cI, 300, .inl (fun _ => (0 : Int32)))), (q2, .inl (cI, 300, .inl (fun _ => (0 : Int32)))), (q3, .inl (cZ, 300, .inl (fun _ => (0 : Int32)))), (q4, .inl (cI, 300, .inl (fun _ => (0 : Int32)))), (q5, .inl (cZ, 300, .inl (fun _ => (0 : Int32))))] H5 := hP
  have hD : va_D (va_A [(h0, .inr (5, z_G))] s.heap.size) [(h0, .inr (5, [.int 0, .int 0, .int 0, .ref q0, .ref q1, .ref q2, .ref q3, .ref q4, .ref q5, .null, .null, .null])), (q0, .inl (cI, 300, .inl (fun _ => (0 : Int32)))), (q1, .inl (cI, 300, .inl (fun _ => (0 : Int32)))), (q2, .inl (cI, 300, .inl (fun _ => (0 : Int32)))), (q3, .inl (cZ, 300, .inl (fun _ => (0 : Int32)))), (q4, .inl (cI, 300, .inl (fun _ => (0 : Int32)))), (q5, .inl (cZ, 300, .inl (fun _ => (0 : Int32))))] := hD
  refine W.widen (k := 6) (n := 1800) (Nat.le_of_ble_eq_true rfl) (Nat.le_of_ble_eq_true rfl) ?_
  refine ini_arr (C := R_G) (T := F_G) (N := 12) (ci := 5) (index := 31) (atype := .int) (ty := .int) (n := 300) (N' := 300) (a0 := (300, .inl (fun _ => (0 : Int32)))) (pc2 := 62) hx hb hts hiw ty_G ty_G_ok nmx_G hown hin rfl hK hP hD hS hA (lv_at hl 0 rfl) rfl (.inl rfl) (hts _ (List.mem_cons_of_mem _ ka_int)) 0 rfl 9 (by decide) (hts _ (List.mem_cons_of_mem _ kj_G_31)) rfl rfl rfl (Nat.le_of_ble_eq_true rfl) (fun _ => rfl) (by decide) (by decide) (Nat.le_of_ble_eq_true rfl) (Nat.le_of_ble_eq_true rfl) (Nat.le_of_ble_eq_true rfl) d_G_init_58 (fun z => lv_sipush hx hb d_G_init_59 (by decide) z) d_G_init_62 d_G_init_64 (fun q6 H6 locs6 hP hD hS => ?_)
  refine W.eq (g2 := F0 m 67 ls []) rfl ?_
  have hP : va_P (dC, dI) clZ [(h0, .inr (5, [.int 0, .int 0, .int 0, .ref q0, .ref q1, .ref q2, .ref q3, .ref q4, .ref q5, .ref q6, .null, .null])), (q0, .inl (cI, 300, .inl (fun _ => (0 : Int32)))), (q1, .inl (cI, 300, .inl (fun _ => (0 : Int32)))), (q2, .inl (cI, 300, .inl (fun _ => (0 : Int32)))), (q3, .inl (cZ, 300, .inl (fun _ => (0 : Int32)))), (q4, .inl (cI, 300, .inl (fun _ => (0 : Int32)))), (q5, .inl (cZ, 300, .inl (fun _ => (0 : Int32)))), (q6, .inl (cI, 300, .inl (fun _ => (0 : Int32))))] H6 := hP
  have hD : va_D (va_A [(h0, .inr (5, z_G))] s.heap.size) [(h0, .inr (5, [.int 0, .int 0, .int 0, .ref q0, .ref q1, .ref q2, .ref q3, .ref q4, .ref q5, .ref q6, .null, .null])), (q0, .inl (cI, 300, .inl (fun _ => (0 : Int32)))), (q1, .inl (cI, 300, .inl (fun _ => (0 : Int32)))), (q2, .inl (cI, 300, .inl (fun _ => (0 : Int32)))), (q3, .inl (cZ, 300, .inl (fun _ => (0 : Int32)))), (q4, .inl (cI, 300, .inl (fun _ => (0 : Int32)))), (q5, .inl (cZ, 300, .inl (fun _ => (0 : Int32)))), (q6, .inl (cI, 300, .inl (fun _ => (0 : Int32))))] := hD
  refine W.widen (k := 7) (n := 2100) (Nat.le_of_ble_eq_true rfl) (Nat.le_of_ble_eq_true rfl) ?_
  refine ini_arr (C := R_G) (T := F_G) (N := 12) (ci := 5) (index := 34) (atype := .int) (ty := .int) (n := 300) (N' := 300) (a0 := (300, .inl (fun _ => (0 : Int32)))) (pc2 := 71) hx hb hts hiw ty_G ty_G_ok nmx_G hown hin rfl hK hP hD hS hA (lv_at hl 0 rfl) rfl (.inl rfl) (hts _ (List.mem_cons_of_mem _ ka_int)) 0 rfl 10 (by decide) (hts _ (List.mem_cons_of_mem _ kj_G_34)) rfl rfl rfl (Nat.le_of_ble_eq_true rfl) (fun _ => rfl) (by decide) (by decide) (Nat.le_of_ble_eq_true rfl) (Nat.le_of_ble_eq_true rfl) (Nat.le_of_ble_eq_true rfl) d_G_init_67 (fun z => lv_sipush hx hb d_G_init_68 (by decide) z) d_G_init_71 d_G_init_73 (fun q7 H7 locs7 hP hD hS => ?_)
  refine W.eq (g2 := F0 m 76 ls []) rfl ?_
  have hP : va_P (dC, dI) clZ [(h0, .inr (5, [.int 0, .int 0, .int 0, .ref q0, .ref q1, .ref q2, .ref q3, .ref q4, .ref q5, .ref q6, .ref q7, .null])), (q0, .inl (cI, 300, .inl (fun _ => (0 : Int32)))), (q1, .inl (cI, 300, .inl (fun _ => (0 : Int32)))), (q2, .inl (cI, 300, .inl (fun _ => (0 : Int32)))), (q3, .inl (cZ, 300, .inl (fun _ => (0 : Int32)))), (q4, .inl (cI, 300, .inl (fun _ => (0 : Int32)))), (q5, .inl (cZ, 300, .inl (fun _ => (0 : Int32)))), (q6, .inl (cI, 300, .inl (fun _ => (0 : Int32)))), (q7, .inl (cI, 300, .inl (fun _ => (0 : Int32))))] H7 := hP
  have hD : va_D (va_A [(h0, .inr (5, z_G))] s.heap.size) [(h0, .inr (5, [.int 0, .int 0, .int 0, .ref q0, .ref q1, .ref q2, .ref q3, .ref q4, .ref q5, .ref q6, .ref q7, .null])), (q0, .inl (cI, 300, .inl (fun _ => (0 : Int32)))), (q1, .inl (cI, 300, .inl (fun _ => (0 : Int32)))), (q2, .inl (cI, 300, .inl (fun _ => (0 : Int32)))), (q3, .inl (cZ, 300, .inl (fun _ => (0 : Int32)))), (q4, .inl (cI, 300, .inl (fun _ => (0 : Int32)))), (q5, .inl (cZ, 300, .inl (fun _ => (0 : Int32)))), (q6, .inl (cI, 300, .inl (fun _ => (0 : Int32)))), (q7, .inl (cI, 300, .inl (fun _ => (0 : Int32))))] := hD
  refine W.widen (k := 8) (n := 2400) (Nat.le_of_ble_eq_true rfl) (Nat.le_of_ble_eq_true rfl) ?_
  refine ini_arr (C := R_G) (T := F_G) (N := 12) (ci := 5) (index := 37) (atype := .boolean) (ty := .boolean) (n := 300) (N' := 300) (a0 := (300, .inl (fun _ => (0 : Int32)))) (pc2 := 80) hx hb hts hiw ty_G ty_G_ok nmx_G hown hin rfl hK hP hD hS hA (lv_at hl 0 rfl) rfl (.inr (.inr rfl)) (hts _ (List.mem_cons_of_mem _ ka_boolean)) 2 rfl 11 (by decide) (hts _ (List.mem_cons_of_mem _ kj_G_37)) rfl rfl rfl (Nat.le_of_ble_eq_true rfl) (fun _ => rfl) (by decide) (by decide) (Nat.le_of_ble_eq_true rfl) (Nat.le_of_ble_eq_true rfl) (Nat.le_of_ble_eq_true rfl) d_G_init_76 (fun z => lv_sipush hx hb d_G_init_77 (by decide) z) d_G_init_80 d_G_init_82 (fun q8 H8 locs8 hP hD hS => ?_)
  refine W.eq (g2 := F0 m 85 ls []) rfl ?_
  have hP : va_P (dC, dI) clZ [(h0, .inr (5, [.int 0, .int 0, .int 0, .ref q0, .ref q1, .ref q2, .ref q3, .ref q4, .ref q5, .ref q6, .ref q7, .ref q8])), (q0, .inl (cI, 300, .inl (fun _ => (0 : Int32)))), (q1, .inl (cI, 300, .inl (fun _ => (0 : Int32)))), (q2, .inl (cI, 300, .inl (fun _ => (0 : Int32)))), (q3, .inl (cZ, 300, .inl (fun _ => (0 : Int32)))), (q4, .inl (cI, 300, .inl (fun _ => (0 : Int32)))), (q5, .inl (cZ, 300, .inl (fun _ => (0 : Int32)))), (q6, .inl (cI, 300, .inl (fun _ => (0 : Int32)))), (q7, .inl (cI, 300, .inl (fun _ => (0 : Int32)))), (q8, .inl (cZ, 300, .inl (fun _ => (0 : Int32))))] H8 := hP
  have hD : va_D (va_A [(h0, .inr (5, z_G))] s.heap.size) [(h0, .inr (5, [.int 0, .int 0, .int 0, .ref q0, .ref q1, .ref q2, .ref q3, .ref q4, .ref q5, .ref q6, .ref q7, .ref q8])), (q0, .inl (cI, 300, .inl (fun _ => (0 : Int32)))), (q1, .inl (cI, 300, .inl (fun _ => (0 : Int32)))), (q2, .inl (cI, 300, .inl (fun _ => (0 : Int32)))), (q3, .inl (cZ, 300, .inl (fun _ => (0 : Int32)))), (q4, .inl (cI, 300, .inl (fun _ => (0 : Int32)))), (q5, .inl (cZ, 300, .inl (fun _ => (0 : Int32)))), (q6, .inl (cI, 300, .inl (fun _ => (0 : Int32)))), (q7, .inl (cI, 300, .inl (fun _ => (0 : Int32)))), (q8, .inl (cZ, 300, .inl (fun _ => (0 : Int32))))] := hD
  refine W.widen (k := 9) (n := 2700) (Nat.le_of_ble_eq_true rfl) (Nat.le_of_ble_eq_true rfl) ?_
  have hP9 : va_P (dC, dI) clZ (i_G cI cL cZ 0 h0 (fun k => [q0, q1, q2, q3, q4, q5, q6, q7, q8].getD k 0)) _ := hP
  have hD9 : va_D _ (i_G cI cL cZ 0 h0 (fun k => [q0, q1, q2, q3, q4, q5, q6, q7, q8].getD k 0)) := hD
  exact W.vret hx hb hr (fun t ht hW => ⟨⟨(fun k => [q0, q1, q2, q3, q4, q5, q6, q7, q8].getD k 0), rfl, trivial, hp_of ht hP9, hD9⟩, hS.F ht⟩) hS.2.2 d_G_init_85
def z_A : List Value := [.int 0, .int 0, .null, .null, .null, .null, .null, .null, .null, .null]
def i_A (cI cL cZ : ClassId) (b : Int32) (h0 : Nat) (u : Nat → Nat) : va_W := [(h0, .inr (6, [.int b, .int 0, .ref (u 0), .ref (u 1), .ref (u 2), .ref (u 3), .ref (u 4), .ref (u 5), .ref (u 6), .ref (u 7)])), (u 0, .inl (cI, 8, .inl (fun _ => (0 : Int32)))), (u 1, .inl (cZ, 8, .inl (fun _ => (0 : Int32)))), (u 2, .inl (cI, 8, .inl (fun _ => (0 : Int32)))), (u 3, .inl (cZ, 32, .inl (fun _ => (0 : Int32)))), (u 4, .inl (cI, 32, .inl (fun _ => (0 : Int32)))), (u 5, .inl (cI, 8, .inl (fun _ => (0 : Int32)))), (u 6, .inl (cZ, 32, .inl (fun _ => (0 : Int32)))), (u 7, .inl (cI, 32, .inl (fun _ => (0 : Int32))))]
abbrev ri_A : Room := { frames := 1, cells := 8, slots := 160, locals := 21 }
set_option maxHeartbeats 1000000 in
set_option maxRecDepth 100000 in
theorem c_A_init {l : Launch} {dC : Nat → ClassId} {dI : Nat → Nat → Nat} {cI cL cZ : ClassId} (h0 sz : Nat) (a1 : Int32) : Met l y_A_init ws_A_init ri_A (va_Pc [.ref h0, .int a1] (fun U => U.heap.size = sz ∧ va_P (dC, dI) clZ [(h0, .inr (6, z_A))] U.heap ∧ va_K (dC, dI) clZ (tyZ cI cL cZ) U ∧ va_D (fun _ => True) [(h0, .inr (6, z_A))])) (va_Qv (fun _ : Nat → Nat => True) (fun u t => va_P (dC, dI) clZ (i_A cI cL cZ a1 h0 u) t.heap ∧ va_D (va_A [(h0, .inr (6, z_A))] sz) (i_A cI cL cZ a1 h0 u)) (va_A [(h0, .inr (6, z_A))] sz)) 8 160 (va_A [(h0, .inr (6, z_A))] sz) := by
  refine Met.ofW (cc := b_A_init) (maxL := 2) (ret := none) (by decide) rfl ?_
  intro p e s m args below meth c s₁ B hml hv
  obtain ⟨rfl, hsz, hP, hK, hD0⟩ := hv
  have hx := B.exec
  have hb := B.bytes
  have hr := B.returns
  have hts := atoms_spec (ws := ws_A_init) B.pre
  have hown : s.vm.findClass R_A = some m.cls := findClass_of_methodNamed B.named
  have hlocks := B.notSynchronized
  have hin : meth.name = "<init>" := (name_of_methodNamed B.named B.method).1
  have hiw : ∀ w ∈ u_ws R_A F_A 10, w ∈ ws_A_init := fun w h => List.mem_cons_of_mem _ (in_A w h)
  subst hsz
  have hD := hD0.self (sz := s.heap.size)
  have hA : ∀ q : Nat, s.heap.size ≤ q → va_A [(h0, .inr (6, z_A))] s.heap.size q := fun q h => Or.inr h
  have hS : va_S (va_A [(h0, .inr (6, z_A))] s.heap.size) s.heap s.heap [] := va_S.rf
  have hl := lv_entry ([.ref h0, .int a1]) (n := 2) (Nat.le_of_ble_eq_true rfl)
  rw [lg_entry_eq]
  generalize (lg_sl ([.ref h0, .int a1]) ++ List.replicate (2 - (lg_sl ([.ref h0, .int a1])).length) Slot.unset).toArray = ls at hl ⊢
  have hl : lv_has ls 2 [(0, .ref h0), (1, .int a1)] := hl
  refine lv_aload_n hx hb d_A_init_0 rfl (lv_at hl 0 rfl) ?_
  refine W.objInit hx hb hown (hts _ (List.mem_cons_of_mem _ kj_A_3)) (hts _ (List.mem_cons_of_mem _ ko_i)) (hts _ (List.mem_cons_of_mem _ ko_c)) rfl (by rw [hml]; exact hl.1) rfl d_A_init_1 (Nat.le_of_ble_eq_true rfl) (Nat.le_of_ble_eq_true rfl) ?_
  refine W.eq (g2 := F0 m 4 ls []) rfl ?_
  refine ini_arr (C := R_A) (T := F_A) (N := 10) (ci := 6) (index := 9) (atype := .int) (ty := .int) (n := 8) (N' := 8) (a0 := (8, .inl (fun _ => (0 : Int32)))) (pc2 := 7) hx hb hts hiw ty_A ty_A_ok nmx_A hown hin rfl hK hP hD hS hA (lv_at hl 0 rfl) rfl (.inl rfl) (hts _ (List.mem_cons_of_mem _ ka_int)) 0 rfl 2 (by decide) (hts _ (List.mem_cons_of_mem _ kj_A_9)) rfl rfl rfl (Nat.le_of_ble_eq_true rfl) (fun _ => rfl) (by decide) (by decide) (Nat.le_of_ble_eq_true rfl) (Nat.le_of_ble_eq_true rfl) (Nat.le_of_ble_eq_true rfl) d_A_init_4 (fun z => lv_bipush hx hb d_A_init_5 (by decide) z) d_A_init_7 d_A_init_9 (fun q0 H0 locs0 hP hD hS => ?_)
  refine W.eq (g2 := F0 m 12 ls []) rfl ?_
  have hP : va_P (dC, dI) clZ [(h0, .inr (6, [.int 0, .int 0, .ref q0, .null, .null, .null, .null, .null, .null, .null])), (q0, .inl (cI, 8, .inl (fun _ => (0 : Int32))))] H0 := hP
  have hD : va_D (va_A [(h0, .inr (6, z_A))] s.heap.size) [(h0, .inr (6, [.int 0, .int 0, .ref q0, .null, .null, .null, .null, .null, .null, .null])), (q0, .inl (cI, 8, .inl (fun _ => (0 : Int32))))] := hD
  refine W.widen (k := 1) (n := 8) (Nat.le_of_ble_eq_true rfl) (Nat.le_of_ble_eq_true rfl) ?_
  refine ini_arr (C := R_A) (T := F_A) (N := 10) (ci := 6) (index := 15) (atype := .boolean) (ty := .boolean) (n := 8) (N' := 8) (a0 := (8, .inl (fun _ => (0 : Int32)))) (pc2 := 15) hx hb hts hiw ty_A ty_A_ok nmx_A hown hin rfl hK hP hD hS hA (lv_at hl 0 rfl) rfl (.inr (.inr rfl)) (hts _ (List.mem_cons_of_mem _ ka_boolean)) 2 rfl 3 (by decide) (hts _ (List.mem_cons_of_mem _ kj_A_15)) rfl rfl rfl (Nat.le_of_ble_eq_true rfl) (fun _ => rfl) (by decide) (by decide) (Nat.le_of_ble_eq_true rfl) (Nat.le_of_ble_eq_true rfl) (Nat.le_of_ble_eq_true rfl) d_A_init_12 (fun z => lv_bipush hx hb d_A_init_13 (by decide) z) d_A_init_15 d_A_init_17 (fun q1 H1 locs1 hP hD hS => ?_)
  refine W.eq (g2 := F0 m 20 ls []) rfl ?_
  have hP : va_P (dC, dI) clZ [(h0, .inr (6, [.int 0, .int 0, .ref q0, .ref q1, .null, .null, .null, .null, .null, .null])), (q0, .inl (cI, 8, .inl (fun _ => (0 : Int32)))), (q1, .inl (cZ, 8, .inl (fun _ => (0 : Int32))))] H1 := hP
  have hD : va_D (va_A [(h0, .inr (6, z_A))] s.heap.size) [(h0, .inr (6, [.int 0, .int 0, .ref q0, .ref q1, .null, .null, .null, .null, .null, .null])), (q0, .inl (cI, 8, .inl (fun _ => (0 : Int32)))), (q1, .inl (cZ, 8, .inl (fun _ => (0 : Int32))))] := hD
  refine W.widen (k := 2) (n := 16) (Nat.le_of_ble_eq_true rfl) (Nat.le_of_ble_eq_true rfl) ?_
  refine ini_arr (C := R_A) (T := F_A) (N := 10) (ci := 6) (index := 19) (atype := .int) (ty := .int) (n := 8) (N' := 8) (a0 := (8, .inl (fun _ => (0 : Int32)))) (pc2 := 23) hx hb hts hiw ty_A ty_A_ok nmx_A hown hin rfl hK hP hD hS hA (lv_at hl 0 rfl) rfl (.inl rfl) (hts _ (List.mem_cons_of_mem _ ka_int)) 0 rfl 4 (by decide) (hts _ (List.mem_cons_of_mem _ kj_A_19)) rfl rfl rfl (Nat.le_of_ble_eq_true rfl) (fun _ => rfl) (by decide) (by decide) (Nat.le_of_ble_eq_true rfl) (Nat.le_of_ble_eq_true rfl) (Nat.le_of_ble_eq_true rfl) d_A_init_20 (fun z => lv_bipush hx hb d_A_init_21 (by decide) z) d_A_init_23 d_A_init_25 (fun q2 H2 locs2 hP hD hS => ?_)
  refine W.eq (g2 := F0 m 28 ls []) rfl ?_
  have hP : va_P (dC, dI) clZ [(h0, .inr (6, [.int 0, .int 0, .ref q0, .ref q1, .ref q2, .null, .null, .null, .null, .null])), (q0, .inl (cI, 8, .inl (fun _ => (0 : Int32)))), (q1, .inl (cZ, 8, .inl (fun _ => (0 : Int32)))), (q2, .inl (cI, 8, .inl (fun _ => (0 : Int32))))] H2 := hP
  have hD : va_D (va_A [(h0, .inr (6, z_A))] s.heap.size) [(h0, .inr (6, [.int 0, .int 0, .ref q0, .ref q1, .ref q2, .null, .null, .null, .null, .null])), (q0, .inl (cI, 8, .inl (fun _ => (0 : Int32)))), (q1, .inl (cZ, 8, .inl (fun _ => (0 : Int32)))), (q2, .inl (cI, 8, .inl (fun _ => (0 : Int32))))] := hD
  refine W.widen (k := 3) (n := 24) (Nat.le_of_ble_eq_true rfl) (Nat.le_of_ble_eq_true rfl) ?_
  refine ini_arr (C := R_A) (T := F_A) (N := 10) (ci := 6) (index := 22) (atype := .boolean) (ty := .boolean) (n := 32) (N' := 32) (a0 := (32, .inl (fun _ => (0 : Int32)))) (pc2 := 31) hx hb hts hiw ty_A ty_A_ok nmx_A hown hin rfl hK hP hD hS hA (lv_at hl 0 rfl) rfl (.inr (.inr rfl)) (hts _ (List.mem_cons_of_mem _ ka_boolean)) 2 rfl 5 (by decide) (hts _ (List.mem_cons_of_mem _ kj_A_22)) rfl rfl rfl (Nat.le_of_ble_eq_true rfl) (fun _ => rfl) (by decide) (by decide) (Nat.le_of_ble_eq_true rfl) (Nat.le_of_ble_eq_true rfl) (Nat.le_of_ble_eq_true rfl) d_A_init_28 (fun z => lv_bipush hx hb d_A_init_29 (by decide) z) d_A_init_31 d_A_init_33 (fun q3 H3 locs3 hP hD hS => ?_)
  refine W.eq (g2 := F0 m 36 ls []) rfl ?_
  have hP : va_P (dC, dI) clZ [(h0, .inr (6, [.int 0, .int 0, .ref q0, .ref q1, .ref q2, .ref q3, .null, .null, .null, .null])), (q0, .inl (cI, 8, .inl (fun _ => (0 : Int32)))), (q1, .inl (cZ, 8, .inl (fun _ => (0 : Int32)))), (q2, .inl (cI, 8, .inl (fun _ => (0 : Int32)))), (q3, .inl (cZ, 32, .inl (fun _ => (0 : Int32))))] H3 := hP
  have hD : va_D (va_A [(h0, .inr (6, z_A))] s.heap.size) [(h0, .inr (6, [.int 0, .int 0, .ref q0, .ref q1, .ref q2, .ref q3, .null, .null, .null, .null])), (q0, .inl (cI, 8, .inl (fun _ => (0 : Int32)))), (q1, .inl (cZ, 8, .inl (fun _ => (0 : Int32)))), (q2, .inl (cI, 8, .inl (fun _ => (0 : Int32)))), (q3, .inl (cZ, 32, .inl (fun _ => (0 : Int32))))] := hD
  refine W.widen (k := 4) (n := 56) (Nat.le_of_ble_eq_true rfl) (Nat.le_of_ble_eq_true rfl) ?_
  refine ini_arr (C := R_A) (T := F_A) (N := 10) (ci := 6) (index := 25) (atype := .int) (ty := .int) (n := 32) (N' := 32) (a0 := (32, .inl (fun _ => (0 : Int32)))) (pc2 := 39) hx hb hts hiw ty_A ty_A_ok nmx_A hown hin rfl hK hP hD hS hA (lv_at hl 0 rfl) rfl (.inl rfl) (hts _ (List.mem_cons_of_mem _ ka_int)) 0 rfl 6 (by decide) (hts _ (List.mem_cons_of_mem _ kj_A_25)) rfl rfl rfl (Nat.le_of_ble_eq_true rfl) (fun _ => rfl) (by decide) (by decide) (Nat.le_of_ble_eq_true rfl) (Nat.le_of_ble_eq_true rfl) (Nat.le_of_ble_eq_true rfl) d_A_init_36 (fun z => lv_bipush hx hb d_A_init_37 (by decide) z) d_A_init_39 d_A_init_41 (fun q4 H4 locs4 hP hD hS => ?_)
  refine W.eq (g2 := F0 m 44 ls []) rfl ?_
  have hP : va_P (dC, dI) clZ [(h0, .inr (6, [.int 0, .int 0, .ref q0, .ref q1, .ref q2, .ref q3, .ref q4, .null, .null, .null])), (q0, .inl (cI, 8, .inl (fun _ => (0 : Int32)))), (q1, .inl (cZ, 8, .inl (fun _ => (0 : Int32)))), (q2, .inl (cI, 8, .inl (fun _ => (0 : Int32)))), (q3, .inl (cZ, 32, .inl (fun _ => (0 : Int32)))), (q4, .inl (cI, 32, .inl (fun _ => (0 : Int32))))] H4 := hP
  have hD : va_D (va_A [(h0, .inr (6, z_A))] s.heap.size) [(h0, .inr (6, [.int 0, .int 0, .ref q0, .ref q1, .ref q2, .ref q3, .ref q4, .null, .null, .null])), (q0, .inl (cI, 8, .inl (fun _ => (0 : Int32)))), (q1, .inl (cZ, 8, .inl (fun _ => (0 : Int32)))), (q2, .inl (cI, 8, .inl (fun _ => (0 : Int32)))), (q3, .inl (cZ, 32, .inl (fun _ => (0 : Int32)))), (q4, .inl (cI, 32, .inl (fun _ => (0 : Int32))))] := hD
  refine W.widen (k := 5) (n := 88) (Nat.le_of_ble_eq_true rfl) (Nat.le_of_ble_eq_true rfl) ?_
  refine ini_arr (C := R_A) (T := F_A) (N := 10) (ci := 6) (index := 28) (atype := .int) (ty := .int) (n := 8) (N' := 8) (a0 := (8, .inl (fun _ => (0 : Int32)))) (pc2 := 47) hx hb hts hiw ty_A ty_A_ok nmx_A hown hin rfl hK hP hD hS hA (lv_at hl 0 rfl) rfl (.inl rfl) (hts _ (List.mem_cons_of_mem _ ka_int)) 0 rfl 7 (by decide) (hts _ (List.mem_cons_of_mem _ kj_A_28)) rfl rfl rfl (Nat.le_of_ble_eq_true rfl) (fun _ => rfl) (by decide) (by decide) (Nat.le_of_ble_eq_true rfl) (Nat.le_of_ble_eq_true rfl) (Nat.le_of_ble_eq_true rfl) d_A_init_44 (fun z => lv_bipush hx hb d_A_init_45 (by decide) z) d_A_init_47 d_A_init_49 (fun q5 H5 locs5 hP hD hS => ?_)
  refine W.eq (g2 := F0 m 52 ls []) rfl ?_
  have hP : va_P (dC, dI) clZ [(h0, .inr (6, [.int 0, .int 0, .ref q0, .ref q1, .ref q2, .ref q3, .ref q4, .ref q5, .null, .null])), (q0, .inl (cI, 8, .inl (fun _ => (0 : Int32)))), (q1, .inl (cZ, 8, .inl (fun _ => (0 : Int32)))), (q2, .inl (cI, 8, .inl (fun _ => (0 : Int32)))), (q3, .inl (cZ, 32, .inl (fun _ => (0 : Int32)))), (q4, .inl (cI, 32, .inl (fun _ => (0 : Int32)))), (q5, .inl (cI, 8, .inl (fun _ => (0 : Int32))))] H5 := hP
  have hD : va_D (va_A [(h0, .inr (6, z_A))] s.heap.size) [(h0, .inr (6, [.int 0, .int 0, .ref q0, .ref q1, .ref q2, .ref q3, .ref q4, .ref q5, .null, .null])), (q0, .inl (cI, 8, .inl (fun _ => (0 : Int32)))), (q1, .inl (cZ, 8, .inl (fun _ => (0 : Int32)))), (q2, .inl (cI, 8, .inl (fun _ => (0 : Int32)))), (q3, .inl (cZ, 32, .inl (fun _ => (0 : Int32)))), (q4, .inl (cI, 32, .inl (fun _ => (0 : Int32)))), (q5, .inl (cI, 8, .inl (fun _ => (0 : Int32))))] := hD
  refine W.widen (k := 6) (n := 96) (Nat.le_of_ble_eq_true rfl) (Nat.le_of_ble_eq_true rfl) ?_
  refine ini_arr (C := R_A) (T := F_A) (N := 10) (ci := 6) (index := 31) (atype := .boolean) (ty := .boolean) (n := 32) (N' := 32) (a0 := (32, .inl (fun _ => (0 : Int32)))) (pc2 := 55) hx hb hts hiw ty_A ty_A_ok nmx_A hown hin rfl hK hP hD hS hA (lv_at hl 0 rfl) rfl (.inr (.inr rfl)) (hts _ (List.mem_cons_of_mem _ ka_boolean)) 2 rfl 8 (by decide) (hts _ (List.mem_cons_of_mem _ kj_A_31)) rfl rfl rfl (Nat.le_of_ble_eq_true rfl) (fun _ => rfl) (by decide) (by decide) (Nat.le_of_ble_eq_true rfl) (Nat.le_of_ble_eq_true rfl) (Nat.le_of_ble_eq_true rfl) d_A_init_52 (fun z => lv_bipush hx hb d_A_init_53 (by decide) z) d_A_init_55 d_A_init_57 (fun q6 H6 locs6 hP hD hS => ?_)
  refine W.eq (g2 := F0 m 60 ls []) rfl ?_
  have hP : va_P (dC, dI) clZ [(h0, .inr (6, [.int 0, .int 0, .ref q0, .ref q1, .ref q2, .ref q3, .ref q4, .ref q5, .ref q6, .null])), (q0, .inl (cI, 8, .inl (fun _ => (0 : Int32)))), (q1, .inl (cZ, 8, .inl (fun _ => (0 : Int32)))), (q2, .inl (cI, 8, .inl (fun _ => (0 : Int32)))), (q3, .inl (cZ, 32, .inl (fun _ => (0 : Int32)))), (q4, .inl (cI, 32, .inl (fun _ => (0 : Int32)))), (q5, .inl (cI, 8, .inl (fun _ => (0 : Int32)))), (q6, .inl (cZ, 32, .inl (fun _ => (0 : Int32))))] H6 := hP
  have hD : va_D (va_A [(h0, .inr (6, z_A))] s.heap.size) [(h0, .inr (6, [.int 0, .int 0, .ref q0, .ref q1, .ref q2, .ref q3, .ref q4, .ref q5, .ref q6, .null])), (q0, .inl (cI, 8, .inl (fun _ => (0 : Int32)))), (q1, .inl (cZ, 8, .inl (fun _ => (0 : Int32)))), (q2, .inl (cI, 8, .inl (fun _ => (0 : Int32)))), (q3, .inl (cZ, 32, .inl (fun _ => (0 : Int32)))), (q4, .inl (cI, 32, .inl (fun _ => (0 : Int32)))), (q5, .inl (cI, 8, .inl (fun _ => (0 : Int32)))), (q6, .inl (cZ, 32, .inl (fun _ => (0 : Int32))))] := hD
  refine W.widen (k := 7) (n := 128) (Nat.le_of_ble_eq_true rfl) (Nat.le_of_ble_eq_true rfl) ?_
  refine ini_arr (C := R_A) (T := F_A) (N := 10) (ci := 6) (index := 34) (atype := .int) (ty := .int) (n := 32) (N' := 32) (a0 := (32, .inl (fun _ => (0 : Int32)))) (pc2 := 63) hx hb hts hiw ty_A ty_A_ok nmx_A hown hin rfl hK hP hD hS hA (lv_at hl 0 rfl) rfl (.inl rfl) (hts _ (List.mem_cons_of_mem _ ka_int)) 0 rfl 9 (by decide) (hts _ (List.mem_cons_of_mem _ kj_A_34)) rfl rfl rfl (Nat.le_of_ble_eq_true rfl) (fun _ => rfl) (by decide) (by decide) (Nat.le_of_ble_eq_true rfl) (Nat.le_of_ble_eq_true rfl) (Nat.le_of_ble_eq_true rfl) d_A_init_60 (fun z => lv_bipush hx hb d_A_init_61 (by decide) z) d_A_init_63 d_A_init_65 (fun q7 H7 locs7 hP hD hS => ?_)
  refine W.eq (g2 := F0 m 68 ls []) rfl ?_
  have hP : va_P (dC, dI) clZ [(h0, .inr (6, [.int 0, .int 0, .ref q0, .ref q1, .ref q2, .ref q3, .ref q4, .ref q5, .ref q6, .ref q7])), (q0, .inl (cI, 8, .inl (fun _ => (0 : Int32)))), (q1, .inl (cZ, 8, .inl (fun _ => (0 : Int32)))), (q2, .inl (cI, 8, .inl (fun _ => (0 : Int32)))), (q3, .inl (cZ, 32, .inl (fun _ => (0 : Int32)))), (q4, .inl (cI, 32, .inl (fun _ => (0 : Int32)))), (q5, .inl (cI, 8, .inl (fun _ => (0 : Int32)))), (q6, .inl (cZ, 32, .inl (fun _ => (0 : Int32)))), (q7, .inl (cI, 32, .inl (fun _ => (0 : Int32))))] H7 := hP
  have hD : va_D (va_A [(h0, .inr (6, z_A))] s.heap.size) [(h0, .inr (6, [.int 0, .int 0, .ref q0, .ref q1, .ref q2, .ref q3, .ref q4, .ref q5, .ref q6, .ref q7])), (q0, .inl (cI, 8, .inl (fun _ => (0 : Int32)))), (q1, .inl (cZ, 8, .inl (fun _ => (0 : Int32)))), (q2, .inl (cI, 8, .inl (fun _ => (0 : Int32)))), (q3, .inl (cZ, 32, .inl (fun _ => (0 : Int32)))), (q4, .inl (cI, 32, .inl (fun _ => (0 : Int32)))), (q5, .inl (cI, 8, .inl (fun _ => (0 : Int32)))), (q6, .inl (cZ, 32, .inl (fun _ => (0 : Int32)))), (q7, .inl (cI, 32, .inl (fun _ => (0 : Int32))))] := hD
  refine W.widen (k := 8) (n := 160) (Nat.le_of_ble_eq_true rfl) (Nat.le_of_ble_eq_true rfl) ?_
  refine lv_aload_n hx hb d_A_init_68 rfl (lv_at hl 0 rfl) ?_
  refine lv_iload_n hx hb d_A_init_69 rfl (lv_at hl 1 rfl) ?_
  refine va_putF (D := (dC, dI)) (q0 := 0) (ci := 6) (v := .int a1) (ty := .int) (own := R_A) (ref := R_A) (C := R_A) (T := F_A) (N := 10) hx hb hts hiw ty_A ty_A_ok nmx_A hown hK hP hD hS rfl rfl 0 (by decide) (hts _ (List.mem_cons_of_mem _ kj_A_37)) (fun _ h9 => h9) rfl hin rfl rfl rfl rfl (Nat.le_of_ble_eq_true rfl) d_A_init_70 (fun H9 locs9 hP hD hS => ?_)
  have hP9 : va_P (dC, dI) clZ (i_A cI cL cZ a1 h0 (fun k => [q0, q1, q2, q3, q4, q5, q6, q7].getD k 0)) _ := hP
  have hD9 : va_D _ (i_A cI cL cZ a1 h0 (fun k => [q0, q1, q2, q3, q4, q5, q6, q7].getD k 0)) := hD
  exact W.vret hx hb hr (fun t ht hW => ⟨⟨(fun k => [q0, q1, q2, q3, q4, q5, q6, q7].getD k 0), rfl, trivial, hp_of ht hP9, hD9⟩, hS.F ht⟩) hS.2.2 d_A_init_73
