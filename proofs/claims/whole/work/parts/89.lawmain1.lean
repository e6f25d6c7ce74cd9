theorem dz_N : ∀ j, j < 7 → defaultValue (ty_N j) = vp_V z_N j := by
  intro j hj
  match j, hj with
  | 0, _ => rfl
  | 1, _ => rfl
  | 2, _ => rfl
  | 3, _ => rfl
  | 4, _ => rfl
  | 5, _ => rfl
  | 6, _ => rfl
theorem wN_get {cI cL cZ : ClassId} {q : Nat → Nat} {A : S_A} {D : S_D} {G : S_G} {K : S_K} {N : S_N} {P : S_P} {T : S_T} {k : Nat} (hk : k < nN) : ∃ e, (wN cI cL cZ q A D G K N P T)[k]? = some (q k, e) := by
  have hm : (wN cI cL cZ q A D G K N P T).map (fun x => x.1) = (List.range nN).map q := rfl
  have h1 : ((wN cI cL cZ q A D G K N P T).map (fun x => x.1))[k]? = some (q k) := by
    rw [hm, List.getElem?_map, List.getElem?_range hk]
    rfl
  rw [List.getElem?_map] at h1
  cases z : (wN cI cL cZ q A D G K N P T)[k]? with
  | none => rw [z] at h1; cases h1
  | some x =>
    rw [z] at h1
    obtain ⟨x1, x2⟩ := x
    have h1 : x1 = q k := Option.some.inj h1
    exact ⟨x2, by rw [h1]⟩
set_option maxRecDepth 100000 in
/-- cell(s, 0) -/
theorem c_L_cell {l : Launch} {b L : Nat} {xs : Nat → Int32} (hL : L ≤ 2049) : Met l y_L_cell ws_L_cell rm_L_cell (va_Pc [.ref b, .int 0] (fun U => va_X b L xs U U.heap ∧ b < U.heap.size)) (va_Qi (fun (r : Int32) (_ : Unit) => r = if L = 0 then 0 else xs 0) (fun _ _ => True) (fun _ => False)) 0 0 (fun _ => False) := by
  refine Met.ofW (cc := b_L_cell) (maxL := 2) (ret := (some .int)) (by decide) rfl ?_
  intro p e s m args below meth c s₁ B hml hv
  obtain ⟨rfl, hX, hbl⟩ := hv
  have hx := B.exec
  have hb := B.bytes
  have hr := B.returns
  have hS : va_S (fun _ => False) s.heap s.heap [] := va_S.rf
  have hl := lv_entry ([.ref b, .int 0]) (n := 2) (Nat.le_of_ble_eq_true rfl)
  rw [lg_entry_eq]
  generalize (lg_sl ([.ref b, .int 0]) ++ List.replicate (2 - (lg_sl ([.ref b, .int 0])).length) Slot.unset).toArray = ls at hl ⊢
  have hl : lv_has ls 2 [(0, .ref b), (1, .int 0)] := hl
  refine lv_iload_n hx hb d_C_0 rfl (lv_at hl 1 rfl) ?_
  refine lv_aload_n hx hb d_C_1 rfl (lv_at hl 0 rfl) ?_
  refine va_slen (A := fun _ => False) hx hb hX hbl (fun z => z) hS d_C_2 ?_
  have hz : Int32.ofNat L ≤ 0 ↔ L ≤ 0 := jI_le (a := L) (b := 0) (by omega) (by omega)
  refine lv_icmp_ge (tgt := 12) hx hb d_C_3 (by decide) (fun hc => ?_) (fun hc => ?_)
  · have h0 : L = 0 := by
      have := hz.mp hc
      omega
    refine lv_iconst (v := 0) hx hb d_C_12 (by decide) ?_
    exact W.iret (v := 0) hx hb hr (fun t ht hW => ⟨⟨0, (), rfl, by rw [if_pos h0], trivial⟩, hS.F ht⟩) hS.2.2 d_C_13
  · have h0 : ¬ L = 0 := fun z => hc (hz.mpr (by omega))
    refine lv_aload_n hx hb d_C_6 rfl (lv_at hl 0 rfl) ?_
    refine lv_iload_n hx hb d_C_7 rfl (lv_at hl 1 rfl) ?_
    refine va_sld (A := fun _ => False) hx hb hX hbl (fun z => z) hS (jI_in (n := 0) (by omega) (by omega)) d_C_8 ?_
    refine lv_goto (tgt := 13) hx hb d_C_9 (by decide) ?_
    exact W.iret (v := xs 0) hx hb hr (fun t ht hW => ⟨⟨xs 0, (), rfl, by rw [if_neg h0], trivial⟩, hS.F ht⟩) hS.2.2 d_C_13
theorem len4 {L i : Nat} (hL : L ≤ 2049) (hi : i < 4000) (h : ¬ Int32.ofNat L - 4 < jI i) : i + 4 ≤ L := by
  by_cases z : 4 ≤ L
  · have e : Int32.ofNat L - 4 = jI (L - 4) := jI_sub (a := L) (b := 4) z
    rw [e, jI_lt (by omega) (by omega)] at h
    omega
  · refine absurd ?_ h
    have hi2 : (jI i).toInt = (i : Int) := jI_ti (by omega)
    rw [Int32.lt_iff_toInt_lt, hi2]
    rcases (show L = 0 ∨ L = 1 ∨ L = 2 ∨ L = 3 by omega) with rfl | rfl | rfl | rfl
    · have : (Int32.ofNat 0 - 4).toInt = -4 := by decide
      omega
    · have : (Int32.ofNat 1 - 4).toInt = -3 := by decide
      omega
    · have : (Int32.ofNat 2 - 4).toInt = -2 := by decide
      omega
    · have : (Int32.ofNat 3 - 4).toInt = -1 := by decide
      omega
set_option maxHeartbeats 2000000 in
theorem L_loop {p : Program} {l : Launch} {e : Env} {s : State} {m : MethodId} {below : List Frame} {meth : Method} {c : Code} {b L : Nat} {xs : Nat → Int32} {dC : Nat → ClassId} {dI : Nat → Nat → Nat} {cI cL cZ : ClassId} {qN qM : Nat → Nat} (hx : p.tables.exec = Jvm.exec) (hb : c.code = code) (hr : meth.sig.returnType = ret) (hlocks : meth.locks = false) (hml : c.maxLocals = 4) (hown : s.vm.findClass R_law = some m.cls) (hts : ∀ w ∈ (Cond.initialized R_N :: wA), w.before #[Value.ref b] s = true) (hK : va_K (dC, dI) clZ (tyZ cI cL cZ) s) (hX : va_X b L xs s s.heap) (hbl : b < s.heap.size) (hqN : iN qN) (hqM : iM qM) (hN : ∀ k, k < nN → s.heap.size ≤ qN k) (hM : ∀ k, k < nM → s.heap.size ≤ qM k) (hdis : ∀ i j, i < nN → j < nM → qN i ≠ qM j) (hL : L ≤ 2049) : ∀ (d k : Nat) (ls : Array Slot) (A : S_A) (D : S_D) (G : S_G) (K : S_K) (N : S_N) (P : S_P) (T : S_T) (MA : S_MA) (MD : S_MD) (MF : S_MF) (MG : S_MG) (ML : S_ML) (MN : S_MN) (MP : S_MP) (MT : S_MT) (MV : S_MV) (H : Heap) (locs : List Loc), L ≤ 4 * k + 1 + d → k ≤ 512 → lv_has ls 4 [(3, .int (jI (4 * k + 1))), (2, .ref (qM 0)), (1, .ref (qN 0)), (0, .ref b)] → Rel k A G K N T MA MD MG ML MN MT → va_P (dC, dI) clZ (wN cI cL cZ qN A D G K N P T) H → va_P (dC, dI) clZ (wM cI cL cZ qM MA MD MF MG ML MN MP MT MV) H → va_S (fun q => s.heap.size ≤ q) s.heap H locs → W p l e room_1 s m #[Value.ref b] below meth c H locs 69 8953 (lw_Z below #[Value.ref b] s) (F0 m 28 ls []) := by
  intro d
  induction d with
  | zero =>
    intro k ls A D G K N P T MA MD MF MG ML MN MP MT MV H locs hd hk5 hl hR hPN hPM hS
    refine lv_iload_n hx hb d_L_28 rfl (lv_at hl 0 rfl) ?_
    refine lv_aload_n hx hb d_L_29 rfl (lv_at hl 3 rfl) ?_
    refine va_slen (A := fun q => s.heap.size ≤ q) hx hb hX hbl (Nat.not_le.mpr hbl) hS d_L_30 ?_
    refine lv_iconst (v := 4) hx hb d_L_31 (by decide) ?_
    refine lv_isub hx hb d_L_32 ?_
    refine lv_icmp_gt (tgt := 773) hx hb d_L_33 (by decide) (fun hc => ?_) (fun hc => ?_)
    · refine lv_iconst (v := 1) hx hb d_L_773 (by decide) ?_
      refine va_forget (fun q hq => hS.2.2 q hq) ?_
      exact lw_ret hx hb hr hlocks d_L_774
    · have := len4 hL (by omega) hc
      omega
  | succ d ih =>
    intro k ls A D G K N P T MA MD MF MG ML MN MP MT MV H locs hd hk5 hl hR hPN hPM hS
    refine lv_iload_n hx hb d_L_28 rfl (lv_at hl 0 rfl) ?_
    refine lv_aload_n hx hb d_L_29 rfl (lv_at hl 3 rfl) ?_
    refine va_slen (A := fun q => s.heap.size ≤ q) hx hb hX hbl (Nat.not_le.mpr hbl) hS d_L_30 ?_
    refine lv_iconst (v := 4) hx hb d_L_31 (by decide) ?_
    refine lv_isub hx hb d_L_32 ?_
    refine lv_icmp_gt (tgt := 773) hx hb d_L_33 (by decide) (fun hc => ?_) (fun hc => ?_)
    · refine lv_iconst (v := 1) hx hb d_L_773 (by decide) ?_
      refine va_forget (fun q hq => hS.2.2 q hq) ?_
      exact lw_ret hx hb hr hlocks d_L_774
    · have h4 := len4 hL (by omega) hc
      have hk : k < 512 := by omega
      have hi : 4 * k + 1 + 3 < L := by omega
      have hc1 : 69 ≤ room_1.cells := Nat.le_refl _
      have hs1 : 8953 ≤ room_1.slots := Nat.le_refl _
      have go : ∀ (A : S_A) (D : S_D) (G : S_G) (K : S_K) (N : S_N) (P : S_P) (T : S_T) (MA : S_MA) (MD : S_MD) (MF : S_MF) (MG : S_MG) (ML : S_ML) (MN : S_MN) (MP : S_MP) (MT : S_MT) (MV : S_MV) (H : Heap) (locs : List Loc), Rel (k + 1) A G K N T MA MD MG ML MN MT → va_P (dC, dI) clZ (wN cI cL cZ qN A D G K N P T) H → va_P (dC, dI) clZ (wM cI cL cZ qM MA MD MF MG ML MN MP MT MV) H → va_S (fun q => s.heap.size ≤ q) s.heap H locs → W p l e room_1 s m #[Value.ref b] below meth c H locs 69 8953 (lw_Z below #[Value.ref b] s) (F0 m 767 ls []) := by
        intro A D G K N P T MA MD MF MG ML MN MP MT MV H locs hR hPN hPM hS
        refine lv_iinc (k := 0) (v := jI (4 * (k + 1) + 1)) (lv' := [(3, .int (jI (4 * (k + 1) + 1))), (2, .ref (qM 0)), (1, .ref (qN 0)), (0, .ref b)]) hx hb d_L_767 hl rfl (by rw [show Int32.ofInt 4 = jI 4 from rfl, jI_a, show 4 * k + 1 + 4 = 4 * (k + 1) + 1 by omega]) (by decide) rfl (fun ls' hl' => ?_)
        refine lv_goto (tgt := 28) hx hb d_L_770 (by decide) ?_
        exact ih (k + 1) ls' A D G K N P T MA MD MF MG ML MN MP MT MV H locs (by omega) (by omega) hl' hR hPN hPM hS
      refine lv_aload_n hx hb d_L_36 rfl (lv_at hl 3 rfl) ?_
      refine lv_iload_n hx hb d_L_37 rfl (lv_at hl 0 rfl) ?_
      refine va_sld (A := fun q => s.heap.size ≤ q) hx hb hX hbl (Nat.not_le.mpr hbl) hS (jI_in (by omega) (by omega)) d_L_38 ?_
      refine lv_bipush (v := 31) hx hb d_L_39 (by decide) ?_
      refine lv_iand hx hb d_L_41 ?_
      generalize (xs (Int32.toNatClampNeg (jI (4 * k + 1))) &&& 31) = x
      by_cases hin : 0 ≤ x.toInt ∧ x.toInt ≤ 22
      · rcases (show x.toInt = 0 ∨ x.toInt = 1 ∨ x.toInt = 2 ∨ x.toInt = 3 ∨ x.toInt = 4 ∨ x.toInt = 5 ∨ x.toInt = 6 ∨ x.toInt = 7 ∨ x.toInt = 8 ∨ x.toInt = 9 ∨ x.toInt = 10 ∨ x.toInt = 11 ∨ x.toInt = 12 ∨ x.toInt = 13 ∨ x.toInt = 14 ∨ x.toInt = 15 ∨ x.toInt = 16 ∨ x.toInt = 17 ∨ x.toInt = 18 ∨ x.toInt = 19 ∨ x.toInt = 20 ∨ x.toInt = 21 ∨ x.toInt = 22 by omega) with h | h | h | h | h | h | h | h | h | h | h | h | h | h | h | h | h | h | h | h | h | h | h
        · exact lv_tableIn (tgt := 148) hx hb d_L_42 (by rw [h]; decide) (by rw [h]; decide) (by rw [h]; rfl) (by decide) (L_begin hx hb hml hown hts hK hX hbl hqN hqM hN hM hdis hl hi hL hk hR hc1 hs1 hPN hPM hS go)
        · exact lv_tableIn (tgt := 171) hx hb d_L_42 (by rw [h]; decide) (by rw [h]; decide) (by rw [h]; rfl) (by decide) (L_get hx hb hml hown hts hK hX hbl hqN hqM hN hM hdis hl hi hL hk hR hc1 hs1 hPN hPM hS go)
        · exact lv_tableIn (tgt := 204) hx hb d_L_42 (by rw [h]; decide) (by rw [h]; decide) (by rw [h]; rfl) (by decide) (L_put hx hb hml hown hts hK hX hbl hqN hqM hN hM hdis hl hi hL hk hR hc1 hs1 hPN hPM hS go)
        · exact lv_tableIn (tgt := 247) hx hb d_L_42 (by rw [h]; decide) (by rw [h]; decide) (by rw [h]; rfl) (by decide) (L_delete hx hb hml hown hts hK hX hbl hqN hqM hN hM hdis hl hi hL hk hR hc1 hs1 hPN hPM hS go)
        · exact lv_tableIn (tgt := 280) hx hb d_L_42 (by rw [h]; decide) (by rw [h]; decide) (by rw [h]; rfl) (by decide) (L_scan hx hb hml hown hts hK hX hbl hqN hqM hN hM hdis hl hi hL hk hR hc1 hs1 hPN hPM hS go)
        · exact lv_tableIn (tgt := 323) hx hb d_L_42 (by rw [h]; decide) (by rw [h]; decide) (by rw [h]; rfl) (by decide) (L_resume hx hb hml hown hts hK hX hbl hqN hqM hN hM hdis hl hi hL hk hR hc1 hs1 hPN hPM hS go)
        · exact lv_tableIn (tgt := 346) hx hb d_L_42 (by rw [h]; decide) (by rw [h]; decide) (by rw [h]; rfl) (by decide) (L_value hx hb hml hown hts hK hX hbl hqN hqM hN hM hdis hl hi hL hk hR hc1 hs1 hPN hPM hS go)
        · exact lv_tableIn (tgt := 359) hx hb d_L_42 (by rw [h]; decide) (by rw [h]; decide) (by rw [h]; rfl) (by decide) (L_commit hx hb hml hown hts hK hX hbl hqN hqM hN hM hdis hl hi hL hk hR hc1 hs1 hPN hPM hS go)
        · exact lv_tableIn (tgt := 382) hx hb d_L_42 (by rw [h]; decide) (by rw [h]; decide) (by rw [h]; rfl) (by decide) (L_abort hx hb hml hown hts hK hX hbl hqN hqM hN hM hdis hl hi hL hk hR hc1 hs1 hPN hPM hS go)
        · exact lv_tableIn (tgt := 405) hx hb d_L_42 (by rw [h]; decide) (by rw [h]; decide) (by rw [h]; rfl) (by decide) (L_save hx hb hml hown hts hK hX hbl hqN hqM hN hM hdis hl hi hL hk hR hc1 hs1 hPN hPM hS go)
        · exact lv_tableIn (tgt := 428) hx hb d_L_42 (by rw [h]; decide) (by rw [h]; decide) (by rw [h]; rfl) (by decide) (L_rollback hx hb hml hown hts hK hX hbl hqN hqM hN hM hdis hl hi hL hk hR hc1 hs1 hPN hPM hS go)
        · exact lv_tableIn (tgt := 461) hx hb d_L_42 (by rw [h]; decide) (by rw [h]; decide) (by rw [h]; rfl) (by decide) (L_write hx hb hml hown hts hK hX hbl hqN hqM hN hM hdis hl hi hL hk hR hc1 hs1 hPN hPM hS go)
        · exact lv_tableIn (tgt := 484) hx hb d_L_42 (by rw [h]; decide) (by rw [h]; decide) (by rw [h]; rfl) (by decide) (L_archive hx hb hml hown hts hK hX hbl hqN hqM hN hM hdis hl hi hL hk hR hc1 hs1 hPN hPM hS go)
        · exact lv_tableIn (tgt := 497) hx hb d_L_42 (by rw [h]; decide) (by rw [h]; decide) (by rw [h]; rfl) (by decide) (L_crash hx hb hml hown hts hK hX hbl hqN hqM hN hM hdis hl hi hL hk hR hc1 hs1 hPN hPM hS go)
        · exact lv_tableIn (tgt := 520) hx hb d_L_42 (by rw [h]; decide) (by rw [h]; decide) (by rw [h]; rfl) (by decide) (L_state hx hb hml hown hts hK hX hbl hqN hqM hN hM hdis hl hi hL hk hR hc1 hs1 hPN hPM hS go)
        · exact lv_tableIn (tgt := 543) hx hb d_L_42 (by rw [h]; decide) (by rw [h]; decide) (by rw [h]; rfl) (by decide) (L_parent hx hb hml hown hts hK hX hbl hqN hqM hN hM hdis hl hi hL hk hR hc1 hs1 hPN hPM hS go)
        · exact lv_tableIn (tgt := 566) hx hb d_L_42 (by rw [h]; decide) (by rw [h]; decide) (by rw [h]; rfl) (by decide) (L_lock hx hb hml hown hts hK hX hbl hqN hqM hN hM hdis hl hi hL hk hR hc1 hs1 hPN hPM hS go)
        · exact lv_tableIn (tgt := 599) hx hb d_L_42 (by rw [h]; decide) (by rw [h]; decide) (by rw [h]; rfl) (by decide) (L_waits hx hb hml hown hts hK hX hbl hqN hqM hN hM hdis hl hi hL hk hR hc1 hs1 hPN hPM hS go)
        · exact lv_tableIn (tgt := 632) hx hb d_L_42 (by rw [h]; decide) (by rw [h]; decide) (by rw [h]; rfl) (by decide) (L_entry hx hb hml hown hts hK hX hbl hqN hqM hN hM hdis hl hi hL hk hR hc1 hs1 hPN hPM hS go)
        · exact lv_tableIn (tgt := 665) hx hb d_L_42 (by rw [h]; decide) (by rw [h]; decide) (by rw [h]; rfl) (by decide) (L_log hx hb hml hown hts hK hX hbl hqN hqM hN hM hdis hl hi hL hk hR hc1 hs1 hPN hPM hS go)
        · exact lv_tableIn (tgt := 688) hx hb d_L_42 (by rw [h]; decide) (by rw [h]; decide) (by rw [h]; rfl) (by decide) (L_key hx hb hml hown hts hK hX hbl hqN hqM hN hM hdis hl hi hL hk hR hc1 hs1 hPN hPM hS go)
        · exact lv_tableIn (tgt := 721) hx hb d_L_42 (by rw [h]; decide) (by rw [h]; decide) (by rw [h]; rfl) (by decide) (L_frame hx hb hml hown hts hK hX hbl hqN hqM hN hM hdis hl hi hL hk hR hc1 hs1 hPN hPM hS go)
        · exact lv_tableIn (tgt := 744) hx hb d_L_42 (by rw [h]; decide) (by rw [h]; decide) (by rw [h]; rfl) (by decide) (L_page hx hb hml hown hts hK hX hbl hqN hqM hN hM hdis hl hi hL hk hR hc1 hs1 hPN hPM hS go)
      · exact lv_tableOut (tgt := 767) hx hb d_L_42 (by omega) (by decide) (go _ _ _ _ _ _ _ _ _ _ _ _ _ _ _ _ H locs hR.up hPN hPM hS)
