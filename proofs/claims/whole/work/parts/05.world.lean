abbrev nN : Nat := 38
def aN (q : Nat → Nat) : Nat → Prop := fun x => ∃ k, k < nN ∧ x = q k
def iN (q : Nat → Nat) : Prop := ∀ i j, i < nN → j < nN → q i = q j → i = j
def wN (cI cL cZ : ClassId) (q : Nat → Nat) (A : S_A) (D : S_D) (G : S_G) (K : S_K) (N : S_N) (P : S_P) (T : S_T) : va_W :=
  [(q 0, .inr (0, [.ref (q 1), .ref (q 2), .ref (q 3), .ref (q 4), .ref (q 5), .ref (q 6), .int (N_latestValue N)])),
   (q 1, .inr (1, [.int (T_count T), .ref (q 7), .ref (q 8), .ref (q 9), .ref (q 10), .ref (q 11), .ref (q 12), .ref (q 13), .ref (q 14), .ref (q 15), .ref (q 16)])),
   (q 2, .inr (2, [.ref (q 17), .ref (q 18)])),
   (q 3, .inr (3, [.int (P_mode P), .int (P_size P), .ref (q 19)])),
   (q 4, .inr (4, [.ref (q 20)])),
   (q 5, .inr (5, [.int (G_base G), .int (G_size G), .int (G_flushed G), .ref (q 21), .ref (q 22), .ref (q 23), .ref (q 24), .ref (q 25), .ref (q 26), .ref (q 27), .ref (q 28), .ref (q 29)])),
   (q 6, .inr (6, [.int (A_frames A), .int (A_framesInUse A), .ref (q 30), .ref (q 31), .ref (q 32), .ref (q 33), .ref (q 34), .ref (q 35), .ref (q 36), .ref (q 37)])),
   (q 7, .inl (cI, 60, .inl (T_parent T))),
   (q 8, .inl (cI, 60, .inl (T_top T))),
   (q 9, .inl (cI, 60, .inl (T_depth T))),
   (q 10, .inl (cI, 60, .inl (T_state T))),
   (q 11, .inl (cI, 60, .inl (T_begun T))),
   (q 12, .inl (cL, 60, .inr (.inl (T_lineage T)))),
   (q 13, .inl (cI, 60, .inl (T_kind T))),
   (q 14, .inl (cI, 60, .inl (T_low T))),
   (q 15, .inl (cI, 60, .inl (T_high T))),
   (q 16, .inl (cI, 60, .inl (T_newValue T))),
   (q 17, .inl (cL, 33, .inr (.inl (K_shared K)))),
   (q 18, .inl (cL, 33, .inr (.inl (K_exclusive K)))),
   (q 19, .inl (cI, 33, .inl (P_items P))),
   (q 20, .inl (cL, 60, .inr (.inl (D_from D)))),
   (q 21, .inl (cI, 300, .inl (G_kind G))),
   (q 22, .inl (cI, 300, .inl (G_transaction G))),
   (q 23, .inl (cI, 300, .inl (G_subject G))),
   (q 24, .inl (cZ, 300, .inl (G_wasThere G))),
   (q 25, .inl (cI, 300, .inl (G_oldValue G))),
   (q 26, .inl (cZ, 300, .inl (G_isThere G))),
   (q 27, .inl (cI, 300, .inl (G_newValue G))),
   (q 28, .inl (cI, 300, .inl (G_undoes G))),
   (q 29, .inl (cZ, 300, .inl (G_undone G))),
   (q 30, .inl (cI, 8, .inl (A_byTouch A))),
   (q 31, .inl (cZ, 8, .inl (A_dirty A))),
   (q 32, .inl (cI, 8, .inl (A_lsn A))),
   (q 33, .inl (cZ, 32, .inl (A_there A))),
   (q 34, .inl (cI, 32, .inl (A_value A))),
   (q 35, .inl (cI, 8, .inl (A_diskLsn A))),
   (q 36, .inl (cZ, 32, .inl (A_diskThere A))),
   (q 37, .inl (cI, 32, .inl (A_diskValue A)))]
def bN (dC : Nat → ClassId) (dI : Nat → Nat → Nat) (cI cL cZ : ClassId) (q : Nat → Nat) (A : S_A) (D : S_D) (G : S_G) (K : S_K) (N : S_N) (P : S_P) (T : S_T) (U : State) : Prop :=
  va_P (dC, dI) clZ (wN cI cL cZ q A D G K N P T) U.heap ∧ va_K (dC, dI) clZ [(cI, .int), (cL, .long), (cZ, .boolean)] U
theorem dN {cI cL cZ : ClassId} {q : Nat → Nat} (hq : iN q) {A : S_A} {D : S_D} {G : S_G} {K : S_K} {N : S_N} {P : S_P} {T : S_T} : va_D (aN q) (wN cI cL cZ q A D G K N P T) := by
  have hm : (wN cI cL cZ q A D G K N P T).map (fun x => x.1) = (List.range nN).map q := rfl
  have key : ∀ (k : Nat) (x : Nat × va_E), (wN cI cL cZ q A D G K N P T)[k]? = some x → k < nN ∧ x.1 = q k := by
    intro k x h
    have h1 : ((wN cI cL cZ q A D G K N P T).map (fun x => x.1))[k]? = some x.1 := by rw [List.getElem?_map, h]; rfl
    rw [hm, List.getElem?_map] at h1
    cases hk : (List.range nN)[k]? with
    | none => rw [hk] at h1; cases h1
    | some z =>
      rw [hk] at h1
      have hl := (List.getElem?_eq_some_iff.mp hk)
      obtain ⟨hl1, hl2⟩ := hl
      rw [List.getElem_range] at hl2
      rw [List.length_range] at hl1
      subst hl2
      exact ⟨hl1, (Option.some.inj h1).symm⟩
  refine ⟨fun i j x y hx hy e => ?_, fun k x hx => ⟨k, (key k x hx).1, (key k x hx).2⟩⟩
  have h1 := key i x hx
  have h2 := key j y hy
  exact hq i j h1.1 h2.1 (by rw [← h1.2, ← h2.2]; exact e)
abbrev nM : Nat := 31
def aM (q : Nat → Nat) : Nat → Prop := fun x => ∃ k, k < nM ∧ x = q k
def iM (q : Nat → Nat) : Prop := ∀ i j, i < nM → j < nM → q i = q j → i = j
def wM (cI cL cZ : ClassId) (q : Nat → Nat) (MA : S_MA) (MD : S_MD) (MF : S_MF) (MG : S_MG) (ML : S_ML) (MN : S_MN) (MP : S_MP) (MT : S_MT) (MV : S_MV) : va_W :=
  [(q 0, .inr (7, [.int (MA_frames MA), .ref (q 1), .ref (q 2), .ref (q 3), .ref (q 4), .ref (q 5), .ref (q 6), .ref (q 7), .ref (q 8), .ref (q 9), .int (MA_clock MA), .int (MG_base MG), .int (MG_records MG), .int (MG_flushed MG), .ref (q 10), .ref (q 11), .ref (q 12), .ref (q 13), .ref (q 14), .ref (q 15), .ref (q 16), .ref (q 17), .int (MT_many MT), .ref (q 18), .ref (q 19), .ref (q 20), .ref (q 21), .ref (q 22), .ref (q 23), .ref (q 24), .int (MP_wanted MP), .ref (q 25), .int (MP_mode MP), .ref (q 26), .ref (q 27), .ref (q 28), .ref (q 29), .ref (q 30), .int (MN_latest MN)])),
   (q 1, .inl (cZ, 32, .inl (MD_diskThere MD))),
   (q 2, .inl (cI, 32, .inl (MD_diskValue MD))),
   (q 3, .inl (cI, 8, .inl (MD_diskLsn MD))),
   (q 4, .inl (cZ, 32, .inl (MA_there MA))),
   (q 5, .inl (cI, 32, .inl (MA_value MA))),
   (q 6, .inl (cI, 8, .inl (MA_lsn MA))),
   (q 7, .inl (cZ, 8, .inl (MA_inFrame MA))),
   (q 8, .inl (cZ, 8, .inl (MA_dirty MA))),
   (q 9, .inl (cI, 8, .inl (MA_touched MA))),
   (q 10, .inl (cI, 301, .inl (MG_kind MG))),
   (q 11, .inl (cI, 301, .inl (MG_by MG))),
   (q 12, .inl (cI, 301, .inl (MG_about MG))),
   (q 13, .inl (cI, 301, .inl (MG_of MG))),
   (q 14, .inl (cZ, 301, .inl (MG_wasThere MG))),
   (q 15, .inl (cI, 301, .inl (MG_wasValue MG))),
   (q 16, .inl (cZ, 301, .inl (MG_isThere MG))),
   (q 17, .inl (cI, 301, .inl (MG_isValue MG))),
   (q 18, .inl (cI, 60, .inl (MT_state MT))),
   (q 19, .inl (cI, 60, .inl (MT_parent MT))),
   (q 20, .inl (cI, 60, .inl (MT_began MT))),
   (q 21, .inl (cI, 1980, .inl (ML_locks ML))),
   (q 22, .inl (cI, 60, .inl (MT_asks MT))),
   (q 23, .inl (cI, 60, .inl (MT_first MT))),
   (q 24, .inl (cI, 60, .inl (MT_second MT))),
   (q 25, .inl (cI, 33, .inl (MP_item MP))),
   (q 26, .inl (cI, 60, .inl (MV_lacks MV))),
   (q 27, .inl (cI, 60, .inl (MV_lackMode MV))),
   (q 28, .inl (cZ, 60, .inl (MV_ahead MV))),
   (q 29, .inl (cZ, 60, .inl (MV_back MV))),
   (q 30, .inl (cZ, 60, .inl (MF_falls MF)))]
def bM (dC : Nat → ClassId) (dI : Nat → Nat → Nat) (cI cL cZ : ClassId) (q : Nat → Nat) (MA : S_MA) (MD : S_MD) (MF : S_MF) (MG : S_MG) (ML : S_ML) (MN : S_MN) (MP : S_MP) (MT : S_MT) (MV : S_MV) (U : State) : Prop :=
  va_P (dC, dI) clZ (wM cI cL cZ q MA MD MF MG ML MN MP MT MV) U.heap ∧ va_K (dC, dI) clZ [(cI, .int), (cL, .long), (cZ, .boolean)] U
theorem dM {cI cL cZ : ClassId} {q : Nat → Nat} (hq : iM q) {MA : S_MA} {MD : S_MD} {MF : S_MF} {MG : S_MG} {ML : S_ML} {MN : S_MN} {MP : S_MP} {MT : S_MT} {MV : S_MV} : va_D (aM q) (wM cI cL cZ q MA MD MF MG ML MN MP MT MV) := by
  have hm : (wM cI cL cZ q MA MD MF MG ML MN MP MT MV).map (fun x => x.1) = (List.range nM).map q := rfl
  have key : ∀ (k : Nat) (x : Nat × va_E), (wM cI cL cZ q MA MD MF MG ML MN MP MT MV)[k]? = some x → k < nM ∧ x.1 = q k := by
    intro k x h
    have h1 : ((wM cI cL cZ q MA MD MF MG ML MN MP MT MV).map (fun x => x.1))[k]? = some x.1 := by rw [List.getElem?_map, h]; rfl
    rw [hm, List.getElem?_map] at h1
    cases hk : (List.range nM)[k]? with
    | none => rw [hk] at h1; cases h1
    | some z =>
      rw [hk] at h1
      have hl := (List.getElem?_eq_some_iff.mp hk)
      obtain ⟨hl1, hl2⟩ := hl
      rw [List.getElem_range] at hl2
      rw [List.length_range] at hl1
      subst hl2
      exact ⟨hl1, (Option.some.inj h1).symm⟩
  refine ⟨fun i j x y hx hy e => ?_, fun k x hx => ⟨k, (key k x hx).1, (key k x hx).2⟩⟩
  have h1 := key i x hx
  have h2 := key j y hy
  exact hq i j h1.1 h2.1 (by rw [← h1.2, ← h2.2]; exact e)
