abbrev tyZ (cI cL cZ : ClassId) : List (ClassId × FieldType) := [(cI, .int), (cL, .long), (cZ, .boolean)]
section INITROWS
variable {p : Program} {l : Launch} {e : Env} {R : Room} {s : State} {m : MethodId} {args : Array Value} {below : List Frame} {meth : Method} {c : Code} {H : Heap} {locs : List Loc} {cells slots : Nat} {Q : State → Prop} {cc : ByteArray} {pc : Nat} {ls : Array Slot} {rest : List Value} {D : va_G} {cl : List vw_C} {tys : List (ClassId × FieldType)} {A : Nat → Prop} {H0 : Heap} {w ws : va_W}
theorem ra_one {U : State} {c1 c2 : ClassId} {ty : FieldType} (hty : ty = .int ∨ ty = .long ∨ ty = .boolean) (h1 : va_RA U c1 ty) (h2 : va_RA U c2 ty) : c1 = c2 := by
  rcases hty with rfl | rfl | rfl
  · have h1 : U.vm.findClass ("[" ++ FieldType.int.toString) = some c1 := h1
    have h2 : U.vm.findClass ("[" ++ FieldType.int.toString) = some c2 := h2
    exact Option.some.inj (h1.symm.trans h2)
  · have h1 : U.vm.findClass ("[" ++ FieldType.long.toString) = some c1 := h1
    have h2 : U.vm.findClass ("[" ++ FieldType.long.toString) = some c2 := h2
    exact Option.some.inj (h1.symm.trans h2)
  · have h1 : U.vm.findClass ("[" ++ FieldType.boolean.toString) = some c1 := h1
    have h2 : U.vm.findClass ("[" ++ FieldType.boolean.toString) = some c2 := h2
    exact Option.some.inj (h1.symm.trans h2)
/-- an array of a class of arrays that is known -/
theorem mk_arr (hexec : p.tables.exec = Jvm.exec) (hb : c.code = cc) {atype : ArrayType} (harr : (Cond.arrayClass (newarray.typeOf atype)).before args s = true) {ty : FieldType} (hty : newarray.typeOf atype = ty) (hty3 : ty = .int ∨ ty = .long ∨ ty = .boolean) (hK : va_K D cl tys s) (hP : va_P D cl ws H) (hD : va_D A ws) (hS : va_S A H0 H locs) (hA : ∀ q, H0.size ≤ q → A q)
    (t0 : Nat) {cA : ClassId} (ht : tys[t0]? = some (cA, ty))
    {n : Int32} {N' : Nat} {a0 : vp_A} (ha : ∀ cA : ClassId, vp_cell cA a0 = arrV cA N' (fun _ => defaultValue ty)) (hn : ¬ n < 0) (hN : n.toNatClampNeg = N') (hbytes : N' * componentBytes ty ≤ 536870912) (hcells : cells + 1 ≤ R.cells) (hslots : slots + N' ≤ R.slots) (hdg : decode cc pc = .ok (.newarray atype, 2))
    (kk : ∀ (q : Nat) (H1 : Heap), va_P D cl (ws ++ [(q, .inl (cA, a0))]) H1 → va_D A (ws ++ [(q, .inl (cA, a0))]) → va_S A H0 H1 locs →
      W p l e R s m args below meth c H1 locs (cells + 1) (slots + N') Q (F0 m (pc + 2) ls (.ref q :: rest))) : W p l e R s m args below meth c H locs cells slots Q (F0 m pc ls (.int n :: rest)) := by
  refine va_newa hexec hb harr hty hK hP hD hS hA ha hn hN hbytes hcells hslots hdg (fun q cB H1 hK1 hP1 hD1 hS1 => ?_)
  have h1 := (hK1.2 tys.length (cB, ty) (by simp)).2
  have h2 := (hK.2 t0 _ ht).2
  have e : cB = cA := ra_one hty3 h1 h2
  subst e
  exact kk q H1 hP1 hD1 hS1
/-- this.f = new T[n], in a constructor -/
theorem ini_arr (hexec : p.tables.exec = Jvm.exec) (hb : c.code = cc) {C : String} {T : u_T} {N ci index : Nat} {Ts : List Cond} (hts : ∀ w ∈ Ts, w.before args s = true) (hin : ∀ w ∈ u_ws C T N, w ∈ Ts) (ty0 : Nat → FieldType) (hty0 : ∀ k, k < N → parseFieldDescriptor (T k).2.2.1 = some (ty0 k)) (hnm : ∀ a, a < N → ∀ b, b < N → a ≠ b → (T a).2.1 ≠ (T b).2.1) (hown : s.vm.findClass C = some m.cls) (hin2 : meth.name = "<init>") (hc : cl[ci]? = some (C, T, N))
    (hK : va_K D cl tys s) {h0 : Nat} {fs : List Value} (hP : va_P D cl ((h0, .inr (ci, fs)) :: w) H) (hD : va_D A ((h0, .inr (ci, fs)) :: w)) (hS : va_S A H0 H locs) (hA : ∀ q, H0.size ≤ q → A q)
    (hl0 : ls[0]? = some (.val (.ref h0)))
    {atype : ArrayType} {ty : FieldType} (hty : newarray.typeOf atype = ty) (hty3 : ty = .int ∨ ty = .long ∨ ty = .boolean) (harr : (Cond.arrayClass (newarray.typeOf atype)).before args s = true) (t0 : Nat) {cA : ClassId} (ht : tys[t0]? = some (cA, ty))
    (k : Nat) (hk : k < N) (hlink : (Cond.fieldLink C index C (T k).2.1 (T k).2.2.1).before args s = true) (hfin : (T k).2.2.2 = true) (hdecl : (T k).1 = C) (hd : parseFieldDescriptor (T k).2.2.1 = some (.array ty)) (hl : k < fs.length)
    {n : Int32} {N' : Nat} {a0 : vp_A} (ha : ∀ cA : ClassId, vp_cell cA a0 = arrV cA N' (fun _ => defaultValue ty)) (hn : ¬ n < 0) (hN : n.toNatClampNeg = N') (hbytes : N' * componentBytes ty ≤ 536870912) (hcells : cells + 1 ≤ R.cells) (hslots : slots + N' ≤ R.slots)
    (hd0 : decode cc pc = .ok (.aload_n 0, 1)) {pc2 : Nat}
    (hpush : W p l e R s m args below meth c H locs cells slots Q (F0 m pc2 ls [.int n, .ref h0]) → W p l e R s m args below meth c H locs cells slots Q (F0 m (pc + 1) ls [.ref h0]))
    (hd2 : decode cc pc2 = .ok (.newarray atype, 2)) (hd3 : decode cc (pc2 + 2) = .ok (.putfield index, 3))
    (kk : ∀ (q : Nat) (H1 : Heap) (locs1 : List Loc), va_P D cl ((h0, .inr (ci, fs.set k (.ref q))) :: (w ++ [(q, .inl (cA, a0))])) H1 → va_D A ((h0, .inr (ci, fs.set k (.ref q))) :: (w ++ [(q, .inl (cA, a0))])) → va_S A H0 H1 locs1 →
      W p l e R s m args below meth c H1 locs1 (cells + 1) (slots + N') Q (F0 m (pc2 + 2 + 3) ls [])) : W p l e R s m args below meth c H locs cells slots Q (F0 m pc ls []) := by
  refine lv_aload_n hexec hb hd0 rfl hl0 (hpush ?_)
  refine mk_arr hexec hb harr hty hty3 hK hP hD hS hA t0 ht ha hn hN hbytes hcells hslots hd2 (fun q H1 hP1 hD1 hS1 => ?_)
  refine va_putF (q0 := 0) (ci := ci) (v := .ref q) (ty := .array ty) (own := C) (ref := C) (C := C) (T := T) (N := N) hexec hb hts hin ty0 hty0 hnm hown hK hP1 hD1 hS1 rfl hc k hk hlink (fun _ h9 => by rw [hdecl] at h9; exact h9) hfin hin2 hdecl hd rfl rfl hl hd3 (fun H2 locs2 hP2 hD2 hS2 => ?_)
  exact kk q H2 locs2 hP2 hD2 hS2
end INITROWS
