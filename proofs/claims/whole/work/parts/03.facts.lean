abbrev clZ : List vw_C := [(R_N, F_N, 7), (R_T, F_T, 11), (R_K, F_K, 2), (R_P, F_P, 3), (R_D, F_D, 1), (R_G, F_G, 12), (R_A, F_A, 10), (R_M, F_M, 39)]
def wA : List Cond := lw_tbl.filter goodWord
theorem wA_t {w : Cond} (k : Nat) (h : tables_1[k]? = some w) (hg : goodWord w = true) : w ∈ wA := List.mem_filter.mpr ⟨List.mem_append_right _ (List.mem_of_getElem? h), hg⟩
theorem wA_p {y : MethodName} {n : Nat} (h : (y, n) ∈ lw_privs) : Cond.selects y.cls y y ∈ wA := List.mem_filter.mpr ⟨List.mem_append_left _ (List.mem_map.mpr ⟨(y, n), h, rfl⟩), rfl⟩
theorem wA_good {w : Cond} (h : w ∈ wA) : (w.onTables && w.keeps) = true ∨ ∃ ty, w = .arrayClass ty := good_of_word (List.mem_filter.mp h).2
theorem gw_V {own C : String} {ix maxL : Nat} {y : MethodName} {b : ByteArray} {ret : Option FieldType} {c0 : Cond} (h1 : Cond.methodLink own ix y ∈ wA) (h2 : Cond.instanceMethod y ∈ wA) (h3 : Cond.selects C y y ∈ wA) (h4 : Cond.initialized C ∈ wA) (h5 : Cond.code y b maxL ret ∈ wA) : GoodIn (c0 :: wA) (wsV own ix C y (.code y b maxL ret :: wA)) := by
  have key : ∀ w ∈ wsV own ix C y (.code y b maxL ret :: wA), w ∈ wA := by
    intro w hw
    simp only [wsV, List.cons_append, List.nil_append, List.mem_cons] at hw
    rcases hw with rfl | rfl | rfl | rfl | rfl | hw
    · exact h1
    · exact h2
    · exact h3
    · exact h4
    · exact h5
    · exact hw
  exact fun w hw => ⟨List.mem_cons_of_mem _ (key w hw), wA_good (key w hw)⟩
theorem gw_S {own : String} {ix maxL : Nat} {y : MethodName} {b : ByteArray} {ret : Option FieldType} {c0 : Cond} (h1 : Cond.methodLink own ix y ∈ wA) (h2 : Cond.static y ∈ wA) (h4 : Cond.initialized own ∈ wA) (h5 : Cond.code y b maxL ret ∈ wA) : GoodIn (c0 :: wA) (wsS own ix y (.code y b maxL ret :: wA)) := by
  have key : ∀ w ∈ wsS own ix y (.code y b maxL ret :: wA), w ∈ wA := by
    intro w hw
    simp only [wsS, List.cons_append, List.nil_append, List.mem_cons] at hw
    rcases hw with rfl | rfl | rfl | rfl | hw
    · exact h1
    · exact h2
    · exact h4
    · exact h5
    · exact hw
  exact fun w hw => ⟨List.mem_cons_of_mem _ (key w hw), wA_good (key w hw)⟩
theorem ii_1 (x : Int32) : x + Int32.ofInt 1 = x + 1 := rfl
theorem ii_m1 (x : Int32) : x + Int32.ofInt (-1) = x + (-1) := rfl
theorem in_N : ∀ w ∈ u_ws R_N F_N 7, w ∈ wA := by
  intro w hw
  obtain ⟨k, hk, rfl⟩ := List.mem_map.mp hw
  have hk := List.mem_range.mp hk
  match k, hk with
  | 0, _ => exact wA_t 229 (by decide +kernel) rfl
  | 1, _ => exact wA_t 231 (by decide +kernel) rfl
  | 2, _ => exact wA_t 233 (by decide +kernel) rfl
  | 3, _ => exact wA_t 235 (by decide +kernel) rfl
  | 4, _ => exact wA_t 237 (by decide +kernel) rfl
  | 5, _ => exact wA_t 239 (by decide +kernel) rfl
  | 6, _ => exact wA_t 241 (by decide +kernel) rfl
theorem in_T : ∀ w ∈ u_ws R_T F_T 11, w ∈ wA := by
  intro w hw
  obtain ⟨k, hk, rfl⟩ := List.mem_map.mp hw
  have hk := List.mem_range.mp hk
  match k, hk with
  | 0, _ => exact wA_t 46 (by decide +kernel) rfl
  | 1, _ => exact wA_t 48 (by decide +kernel) rfl
  | 2, _ => exact wA_t 50 (by decide +kernel) rfl
  | 3, _ => exact wA_t 52 (by decide +kernel) rfl
  | 4, _ => exact wA_t 54 (by decide +kernel) rfl
  | 5, _ => exact wA_t 56 (by decide +kernel) rfl
  | 6, _ => exact wA_t 58 (by decide +kernel) rfl
  | 7, _ => exact wA_t 60 (by decide +kernel) rfl
  | 8, _ => exact wA_t 62 (by decide +kernel) rfl
  | 9, _ => exact wA_t 64 (by decide +kernel) rfl
  | 10, _ => exact wA_t 66 (by decide +kernel) rfl
theorem in_K : ∀ w ∈ u_ws R_K F_K 2, w ∈ wA := by
  intro w hw
  obtain ⟨k, hk, rfl⟩ := List.mem_map.mp hw
  have hk := List.mem_range.mp hk
  match k, hk with
  | 0, _ => exact wA_t 79 (by decide +kernel) rfl
  | 1, _ => exact wA_t 81 (by decide +kernel) rfl
theorem in_P : ∀ w ∈ u_ws R_P F_P 3, w ∈ wA := by
  intro w hw
  obtain ⟨k, hk, rfl⟩ := List.mem_map.mp hw
  have hk := List.mem_range.mp hk
  match k, hk with
  | 0, _ => exact wA_t 96 (by decide +kernel) rfl
  | 1, _ => exact wA_t 98 (by decide +kernel) rfl
  | 2, _ => exact wA_t 100 (by decide +kernel) rfl
theorem in_D : ∀ w ∈ u_ws R_D F_D 1, w ∈ wA := by
  intro w hw
  obtain ⟨k, hk, rfl⟩ := List.mem_map.mp hw
  have hk := List.mem_range.mp hk
  match k, hk with
  | 0, _ => exact wA_t 111 (by decide +kernel) rfl
theorem in_G : ∀ w ∈ u_ws R_G F_G 12, w ∈ wA := by
  intro w hw
  obtain ⟨k, hk, rfl⟩ := List.mem_map.mp hw
  have hk := List.mem_range.mp hk
  match k, hk with
  | 0, _ => exact wA_t 145 (by decide +kernel) rfl
  | 1, _ => exact wA_t 147 (by decide +kernel) rfl
  | 2, _ => exact wA_t 149 (by decide +kernel) rfl
  | 3, _ => exact wA_t 151 (by decide +kernel) rfl
  | 4, _ => exact wA_t 153 (by decide +kernel) rfl
  | 5, _ => exact wA_t 155 (by decide +kernel) rfl
  | 6, _ => exact wA_t 157 (by decide +kernel) rfl
  | 7, _ => exact wA_t 159 (by decide +kernel) rfl
  | 8, _ => exact wA_t 161 (by decide +kernel) rfl
  | 9, _ => exact wA_t 163 (by decide +kernel) rfl
  | 10, _ => exact wA_t 165 (by decide +kernel) rfl
  | 11, _ => exact wA_t 167 (by decide +kernel) rfl
theorem in_A : ∀ w ∈ u_ws R_A F_A 10, w ∈ wA := by
  intro w hw
  obtain ⟨k, hk, rfl⟩ := List.mem_map.mp hw
  have hk := List.mem_range.mp hk
  match k, hk with
  | 0, _ => exact wA_t 201 (by decide +kernel) rfl
  | 1, _ => exact wA_t 203 (by decide +kernel) rfl
  | 2, _ => exact wA_t 205 (by decide +kernel) rfl
  | 3, _ => exact wA_t 207 (by decide +kernel) rfl
  | 4, _ => exact wA_t 209 (by decide +kernel) rfl
  | 5, _ => exact wA_t 211 (by decide +kernel) rfl
  | 6, _ => exact wA_t 213 (by decide +kernel) rfl
  | 7, _ => exact wA_t 215 (by decide +kernel) rfl
  | 8, _ => exact wA_t 217 (by decide +kernel) rfl
  | 9, _ => exact wA_t 219 (by decide +kernel) rfl
theorem k_A_9 : Cond.fieldLink R_A 9 R_A "byTouch" "[I" ∈ wA := wA_t 186 (by decide +kernel) rfl
theorem k_A_15 : Cond.fieldLink R_A 15 R_A "dirty" "[Z" ∈ wA := wA_t 188 (by decide +kernel) rfl
theorem k_A_19 : Cond.fieldLink R_A 19 R_A "lsn" "[I" ∈ wA := wA_t 190 (by decide +kernel) rfl
theorem k_A_22 : Cond.fieldLink R_A 22 R_A "there" "[Z" ∈ wA := wA_t 192 (by decide +kernel) rfl
theorem k_A_25 : Cond.fieldLink R_A 25 R_A "value" "[I" ∈ wA := wA_t 194 (by decide +kernel) rfl
theorem k_A_28 : Cond.fieldLink R_A 28 R_A "diskLsn" "[I" ∈ wA := wA_t 196 (by decide +kernel) rfl
theorem k_A_31 : Cond.fieldLink R_A 31 R_A "diskThere" "[Z" ∈ wA := wA_t 197 (by decide +kernel) rfl
theorem k_A_34 : Cond.fieldLink R_A 34 R_A "diskValue" "[I" ∈ wA := wA_t 199 (by decide +kernel) rfl
theorem k_A_37 : Cond.fieldLink R_A 37 R_A "frames" "I" ∈ wA := wA_t 183 (by decide +kernel) rfl
theorem k_A_41 : Cond.fieldLink R_A 41 R_A "framesInUse" "I" ∈ wA := wA_t 184 (by decide +kernel) rfl
theorem k_A_48 : Cond.fieldLink R_A 48 R_G "flushed" "I" ∈ wA := wA_t 124 (by decide +kernel) rfl
theorem k_D_9 : Cond.fieldLink R_D 9 R_D "from" "[J" ∈ wA := wA_t 109 (by decide +kernel) rfl
theorem k_G_9 : Cond.fieldLink R_G 9 R_G "kind" "[I" ∈ wA := wA_t 127 (by decide +kernel) rfl
theorem k_G_15 : Cond.fieldLink R_G 15 R_G "transaction" "[I" ∈ wA := wA_t 129 (by decide +kernel) rfl
theorem k_G_18 : Cond.fieldLink R_G 18 R_G "subject" "[I" ∈ wA := wA_t 131 (by decide +kernel) rfl
theorem k_G_21 : Cond.fieldLink R_G 21 R_G "wasThere" "[Z" ∈ wA := wA_t 133 (by decide +kernel) rfl
theorem k_G_25 : Cond.fieldLink R_G 25 R_G "oldValue" "[I" ∈ wA := wA_t 135 (by decide +kernel) rfl
theorem k_G_28 : Cond.fieldLink R_G 28 R_G "isThere" "[Z" ∈ wA := wA_t 137 (by decide +kernel) rfl
theorem k_G_31 : Cond.fieldLink R_G 31 R_G "newValue" "[I" ∈ wA := wA_t 139 (by decide +kernel) rfl
theorem k_G_34 : Cond.fieldLink R_G 34 R_G "undoes" "[I" ∈ wA := wA_t 141 (by decide +kernel) rfl
theorem k_G_37 : Cond.fieldLink R_G 37 R_G "undone" "[Z" ∈ wA := wA_t 143 (by decide +kernel) rfl
theorem k_G_40 : Cond.fieldLink R_G 40 R_G "base" "I" ∈ wA := wA_t 120 (by decide +kernel) rfl
theorem k_G_44 : Cond.fieldLink R_G 44 R_G "size" "I" ∈ wA := wA_t 122 (by decide +kernel) rfl
theorem k_G_54 : Cond.fieldLink R_G 54 R_G "flushed" "I" ∈ wA := wA_t 125 (by decide +kernel) rfl
theorem k_K_9 : Cond.fieldLink R_K 9 R_K "shared" "[J" ∈ wA := wA_t 77 (by decide +kernel) rfl
theorem k_K_15 : Cond.fieldLink R_K 15 R_K "exclusive" "[J" ∈ wA := wA_t 78 (by decide +kernel) rfl
theorem k_N_12 : Cond.fieldLink R_N 12 R_N "transactions" "LNestedStore$Transactions;" ∈ wA := wA_t 222 (by decide +kernel) rfl
theorem k_N_19 : Cond.fieldLink R_N 19 R_N "locks" "LNestedStore$Locks;" ∈ wA := wA_t 223 (by decide +kernel) rfl
theorem k_N_26 : Cond.fieldLink R_N 26 R_N "plan" "LNestedStore$Plan;" ∈ wA := wA_t 224 (by decide +kernel) rfl
theorem k_N_33 : Cond.fieldLink R_N 33 R_N "leads" "LNestedStore$Leads;" ∈ wA := wA_t 225 (by decide +kernel) rfl
theorem k_N_40 : Cond.fieldLink R_N 40 R_N "log" "LNestedStore$Log;" ∈ wA := wA_t 226 (by decide +kernel) rfl
theorem k_N_58 : Cond.fieldLink R_N 58 R_N "pages" "LNestedStore$Pages;" ∈ wA := wA_t 227 (by decide +kernel) rfl
theorem k_N_66 : Cond.fieldLink R_N 66 R_T "depth" "[I" ∈ wA := wA_t 31 (by decide +kernel) rfl
theorem k_N_70 : Cond.fieldLink R_N 70 R_T "count" "I" ∈ wA := wA_t 25 (by decide +kernel) rfl
theorem k_N_100 : Cond.fieldLink R_N 100 R_N "latestValue" "I" ∈ wA := wA_t 228 (by decide +kernel) rfl
theorem k_N_106 : Cond.fieldLink R_N 106 R_T "state" "[I" ∈ wA := wA_t 33 (by decide +kernel) rfl
theorem k_N_109 : Cond.fieldLink R_N 109 R_T "parent" "[I" ∈ wA := wA_t 27 (by decide +kernel) rfl
theorem k_N_112 : Cond.fieldLink R_N 112 R_G "flushed" "I" ∈ wA := wA_t 126 (by decide +kernel) rfl
theorem k_N_128 : Cond.fieldLink R_N 128 R_T "begun" "[I" ∈ wA := wA_t 35 (by decide +kernel) rfl
theorem k_N_140 : Cond.fieldLink R_N 140 R_A "dirty" "[Z" ∈ wA := wA_t 189 (by decide +kernel) rfl
theorem k_N_182 : Cond.fieldLink R_N 182 R_G "base" "I" ∈ wA := wA_t 121 (by decide +kernel) rfl
theorem k_N_188 : Cond.fieldLink R_N 188 R_G "kind" "[I" ∈ wA := wA_t 128 (by decide +kernel) rfl
theorem k_N_191 : Cond.fieldLink R_N 191 R_G "transaction" "[I" ∈ wA := wA_t 130 (by decide +kernel) rfl
theorem k_N_194 : Cond.fieldLink R_N 194 R_G "subject" "[I" ∈ wA := wA_t 132 (by decide +kernel) rfl
theorem k_N_197 : Cond.fieldLink R_N 197 R_G "undoes" "[I" ∈ wA := wA_t 142 (by decide +kernel) rfl
theorem k_N_200 : Cond.fieldLink R_N 200 R_G "wasThere" "[Z" ∈ wA := wA_t 134 (by decide +kernel) rfl
theorem k_N_207 : Cond.fieldLink R_N 207 R_G "isThere" "[Z" ∈ wA := wA_t 138 (by decide +kernel) rfl
theorem k_N_210 : Cond.fieldLink R_N 210 R_G "newValue" "[I" ∈ wA := wA_t 140 (by decide +kernel) rfl
theorem k_N_213 : Cond.fieldLink R_N 213 R_G "size" "I" ∈ wA := wA_t 123 (by decide +kernel) rfl
theorem k_N_222 : Cond.fieldLink R_N 222 R_A "there" "[Z" ∈ wA := wA_t 193 (by decide +kernel) rfl
theorem k_N_225 : Cond.fieldLink R_N 225 R_A "value" "[I" ∈ wA := wA_t 195 (by decide +kernel) rfl
theorem k_N_228 : Cond.fieldLink R_N 228 R_A "diskThere" "[Z" ∈ wA := wA_t 198 (by decide +kernel) rfl
theorem k_N_231 : Cond.fieldLink R_N 231 R_A "diskValue" "[I" ∈ wA := wA_t 200 (by decide +kernel) rfl
theorem k_N_234 : Cond.fieldLink R_N 234 R_A "framesInUse" "I" ∈ wA := wA_t 185 (by decide +kernel) rfl
theorem k_N_237 : Cond.fieldLink R_N 237 R_A "byTouch" "[I" ∈ wA := wA_t 187 (by decide +kernel) rfl
theorem k_N_240 : Cond.fieldLink R_N 240 R_A "lsn" "[I" ∈ wA := wA_t 191 (by decide +kernel) rfl
theorem k_N_262 : Cond.fieldLink R_N 262 R_P "items" "[I" ∈ wA := wA_t 95 (by decide +kernel) rfl
theorem k_N_265 : Cond.fieldLink R_N 265 R_P "mode" "I" ∈ wA := wA_t 91 (by decide +kernel) rfl
theorem k_N_272 : Cond.fieldLink R_N 272 R_P "size" "I" ∈ wA := wA_t 93 (by decide +kernel) rfl
theorem k_N_273 : Cond.fieldLink R_N 273 R_T "lineage" "[J" ∈ wA := wA_t 37 (by decide +kernel) rfl
theorem k_N_281 : Cond.fieldLink R_N 281 R_T "low" "[I" ∈ wA := wA_t 41 (by decide +kernel) rfl
theorem k_N_284 : Cond.fieldLink R_N 284 R_T "high" "[I" ∈ wA := wA_t 43 (by decide +kernel) rfl
theorem k_N_287 : Cond.fieldLink R_N 287 R_T "kind" "[I" ∈ wA := wA_t 39 (by decide +kernel) rfl
theorem k_N_299 : Cond.fieldLink R_N 299 R_T "newValue" "[I" ∈ wA := wA_t 45 (by decide +kernel) rfl
theorem k_N_321 : Cond.fieldLink R_N 321 R_G "oldValue" "[I" ∈ wA := wA_t 136 (by decide +kernel) rfl
theorem k_N_324 : Cond.fieldLink R_N 324 R_G "undone" "[Z" ∈ wA := wA_t 144 (by decide +kernel) rfl
theorem k_N_340 : Cond.fieldLink R_N 340 R_D "from" "[J" ∈ wA := wA_t 110 (by decide +kernel) rfl
theorem k_N_355 : Cond.fieldLink R_N 355 R_T "top" "[I" ∈ wA := wA_t 29 (by decide +kernel) rfl
theorem k_P_9 : Cond.fieldLink R_P 9 R_P "items" "[I" ∈ wA := wA_t 94 (by decide +kernel) rfl
theorem k_P_15 : Cond.fieldLink R_P 15 R_P "mode" "I" ∈ wA := wA_t 90 (by decide +kernel) rfl
theorem k_P_19 : Cond.fieldLink R_P 19 R_P "size" "I" ∈ wA := wA_t 92 (by decide +kernel) rfl
theorem k_T_9 : Cond.fieldLink R_T 9 R_T "parent" "[I" ∈ wA := wA_t 26 (by decide +kernel) rfl
theorem k_T_15 : Cond.fieldLink R_T 15 R_T "top" "[I" ∈ wA := wA_t 28 (by decide +kernel) rfl
theorem k_T_18 : Cond.fieldLink R_T 18 R_T "depth" "[I" ∈ wA := wA_t 30 (by decide +kernel) rfl
theorem k_T_21 : Cond.fieldLink R_T 21 R_T "state" "[I" ∈ wA := wA_t 32 (by decide +kernel) rfl
theorem k_T_24 : Cond.fieldLink R_T 24 R_T "begun" "[I" ∈ wA := wA_t 34 (by decide +kernel) rfl
theorem k_T_27 : Cond.fieldLink R_T 27 R_T "lineage" "[J" ∈ wA := wA_t 36 (by decide +kernel) rfl
theorem k_T_31 : Cond.fieldLink R_T 31 R_T "kind" "[I" ∈ wA := wA_t 38 (by decide +kernel) rfl
theorem k_T_34 : Cond.fieldLink R_T 34 R_T "low" "[I" ∈ wA := wA_t 40 (by decide +kernel) rfl
theorem k_T_37 : Cond.fieldLink R_T 37 R_T "high" "[I" ∈ wA := wA_t 42 (by decide +kernel) rfl
theorem k_T_40 : Cond.fieldLink R_T 40 R_T "newValue" "[I" ∈ wA := wA_t 44 (by decide +kernel) rfl
theorem k_T_43 : Cond.fieldLink R_T 43 R_T "count" "I" ∈ wA := wA_t 24 (by decide +kernel) rfl
theorem hd_A_putOnDisk : y_A_putOnDisk.cls = R_A ∧ y_A_putOnDisk.cls ≠ "java/lang/invoke/MethodHandle" ∧ y_A_putOnDisk.cls ≠ "java/lang/invoke/VarHandle" ∧ (parseMethodDescriptor y_A_putOnDisk.desc).map (fun d => d.parameters.length) = some 2 := by decide +kernel
theorem g_A_44 {c0 : Cond} : GoodIn (c0 :: wA) (wsV R_A 44 R_A y_A_putOnDisk (.code y_A_putOnDisk b_A_putOnDisk 5 none :: wA)) := gw_V (wA_t 377 (by decide +kernel) rfl) (wA_t 378 (by decide +kernel) rfl) (wA_t 379 (by decide +kernel) rfl) (wA_t 7 (by decide +kernel) rfl) (wA_t 380 (by decide +kernel) rfl)
theorem hd_D_reachedFrom : y_D_reachedFrom.cls = R_D ∧ y_D_reachedFrom.cls ≠ "java/lang/invoke/MethodHandle" ∧ y_D_reachedFrom.cls ≠ "java/lang/invoke/VarHandle" ∧ (parseMethodDescriptor y_D_reachedFrom.desc).map (fun d => d.parameters.length) = some 2 := by decide +kernel
theorem g_D_15 {c0 : Cond} : GoodIn (c0 :: wA) (wsV R_D 15 R_D y_D_reachedFrom (.code y_D_reachedFrom b_D_reachedFrom 9 (some .long) :: wA)) := gw_V (wA_t 424 (by decide +kernel) rfl) (wA_t 426 (by decide +kernel) rfl) (wA_p (y := y_D_reachedFrom) (n := 1) (by decide +kernel)) (wA_t 5 (by decide +kernel) rfl) (wA_t 427 (by decide +kernel) rfl)
theorem hd_D_leadingTo : y_D_leadingTo.cls = R_D ∧ y_D_leadingTo.cls ≠ "java/lang/invoke/MethodHandle" ∧ y_D_leadingTo.cls ≠ "java/lang/invoke/VarHandle" ∧ (parseMethodDescriptor y_D_leadingTo.desc).map (fun d => d.parameters.length) = some 2 := by decide +kernel
theorem g_D_19 {c0 : Cond} : GoodIn (c0 :: wA) (wsV R_D 19 R_D y_D_leadingTo (.code y_D_leadingTo b_D_leadingTo 9 (some .long) :: wA)) := gw_V (wA_t 428 (by decide +kernel) rfl) (wA_t 430 (by decide +kernel) rfl) (wA_p (y := y_D_leadingTo) (n := 1) (by decide +kernel)) (wA_t 5 (by decide +kernel) rfl) (wA_t 431 (by decide +kernel) rfl)
theorem hd_G_setBefore : y_G_setBefore.cls = R_G ∧ y_G_setBefore.cls ≠ "java/lang/invoke/MethodHandle" ∧ y_G_setBefore.cls ≠ "java/lang/invoke/VarHandle" ∧ (parseMethodDescriptor y_G_setBefore.desc).map (fun d => d.parameters.length) = some 3 := by decide +kernel
theorem g_G_47 {c0 : Cond} : GoodIn (c0 :: wA) (wsV R_G 47 R_G y_G_setBefore (.code y_G_setBefore b_G_setBefore 4 none :: wA)) := gw_V (wA_t 292 (by decide +kernel) rfl) (wA_t 293 (by decide +kernel) rfl) (wA_t 294 (by decide +kernel) rfl) (wA_t 6 (by decide +kernel) rfl) (wA_t 295 (by decide +kernel) rfl)
theorem hd_G_setAfter : y_G_setAfter.cls = R_G ∧ y_G_setAfter.cls ≠ "java/lang/invoke/MethodHandle" ∧ y_G_setAfter.cls ≠ "java/lang/invoke/VarHandle" ∧ (parseMethodDescriptor y_G_setAfter.desc).map (fun d => d.parameters.length) = some 3 := by decide +kernel
theorem g_G_51 {c0 : Cond} : GoodIn (c0 :: wA) (wsV R_G 51 R_G y_G_setAfter (.code y_G_setAfter b_G_setAfter 4 none :: wA)) := gw_V (wA_t 296 (by decide +kernel) rfl) (wA_t 297 (by decide +kernel) rfl) (wA_t 298 (by decide +kernel) rfl) (wA_t 6 (by decide +kernel) rfl) (wA_t 299 (by decide +kernel) rfl)
theorem hd_G_rowOf : y_G_rowOf.cls = R_G ∧ y_G_rowOf.cls ≠ "java/lang/invoke/MethodHandle" ∧ y_G_rowOf.cls ≠ "java/lang/invoke/VarHandle" ∧ (parseMethodDescriptor y_G_rowOf.desc).map (fun d => d.parameters.length) = some 1 := by decide +kernel
theorem g_G_57 {c0 : Cond} : GoodIn (c0 :: wA) (wsV R_G 57 R_G y_G_rowOf (.code y_G_rowOf b_G_rowOf 2 (some .int) :: wA)) := gw_V (wA_t 518 (by decide +kernel) rfl) (wA_t 519 (by decide +kernel) rfl) (wA_t 520 (by decide +kernel) rfl) (wA_t 6 (by decide +kernel) rfl) (wA_t 521 (by decide +kernel) rfl)
theorem hd_G_last : y_G_last.cls = R_G ∧ y_G_last.cls ≠ "java/lang/invoke/MethodHandle" ∧ y_G_last.cls ≠ "java/lang/invoke/VarHandle" ∧ (parseMethodDescriptor y_G_last.desc).map (fun d => d.parameters.length) = some 0 := by decide +kernel
theorem g_G_61 {c0 : Cond} : GoodIn (c0 :: wA) (wsV R_G 61 R_G y_G_last (.code y_G_last b_G_last 1 (some .int) :: wA)) := gw_V (wA_t 509 (by decide +kernel) rfl) (wA_t 281 (by decide +kernel) rfl) (wA_t 282 (by decide +kernel) rfl) (wA_t 6 (by decide +kernel) rfl) (wA_t 283 (by decide +kernel) rfl)
theorem hd_K_heldBy : y_K_heldBy.cls = R_K ∧ y_K_heldBy.cls ≠ "java/lang/invoke/MethodHandle" ∧ y_K_heldBy.cls ≠ "java/lang/invoke/VarHandle" ∧ (parseMethodDescriptor y_K_heldBy.desc).map (fun d => d.parameters.length) = some 2 := by decide +kernel
theorem g_K_20 {c0 : Cond} : GoodIn (c0 :: wA) (wsV R_K 20 R_K y_K_heldBy (.code y_K_heldBy b_K_heldBy 3 (some .int) :: wA)) := gw_V (wA_t 368 (by decide +kernel) rfl) (wA_t 356 (by decide +kernel) rfl) (wA_t 357 (by decide +kernel) rfl) (wA_t 3 (by decide +kernel) rfl) (wA_t 358 (by decide +kernel) rfl)
theorem hd_K_grant : y_K_grant.cls = R_K ∧ y_K_grant.cls ≠ "java/lang/invoke/MethodHandle" ∧ y_K_grant.cls ≠ "java/lang/invoke/VarHandle" ∧ (parseMethodDescriptor y_K_grant.desc).map (fun d => d.parameters.length) = some 3 := by decide +kernel
theorem g_K_24 {c0 : Cond} : GoodIn (c0 :: wA) (wsV R_K 24 R_K y_K_grant (.code y_K_grant b_K_grant 4 none :: wA)) := gw_V (wA_t 480 (by decide +kernel) rfl) (wA_t 365 (by decide +kernel) rfl) (wA_t 366 (by decide +kernel) rfl) (wA_t 3 (by decide +kernel) rfl) (wA_t 367 (by decide +kernel) rfl)
theorem hd_T_isActive : y_T_isActive.cls = R_T ∧ y_T_isActive.cls ≠ "java/lang/invoke/MethodHandle" ∧ y_T_isActive.cls ≠ "java/lang/invoke/VarHandle" ∧ (parseMethodDescriptor y_T_isActive.desc).map (fun d => d.parameters.length) = some 1 := by decide +kernel
theorem g_N_62 {c0 : Cond} : GoodIn (c0 :: wA) (wsV R_N 62 R_T y_T_isActive (.code y_T_isActive b_T_isActive 2 (some .boolean) :: wA)) := gw_V (wA_t 248 (by decide +kernel) rfl) (wA_t 249 (by decide +kernel) rfl) (wA_t 250 (by decide +kernel) rfl) (wA_t 2 (by decide +kernel) rfl) (wA_t 251 (by decide +kernel) rfl)
theorem hd_N_hasRoomForOne : y_N_hasRoomForOne.cls = R_N ∧ y_N_hasRoomForOne.cls ≠ "java/lang/invoke/MethodHandle" ∧ y_N_hasRoomForOne.cls ≠ "java/lang/invoke/VarHandle" ∧ (parseMethodDescriptor y_N_hasRoomForOne.desc).map (fun d => d.parameters.length) = some 0 := by decide +kernel
theorem g_N_74 {c0 : Cond} : GoodIn (c0 :: wA) (wsV R_N 74 R_N y_N_hasRoomForOne (.code y_N_hasRoomForOne b_N_hasRoomForOne 2 (some .boolean) :: wA)) := gw_V (wA_t 256 (by decide +kernel) rfl) (wA_t 258 (by decide +kernel) rfl) (wA_p (y := y_N_hasRoomForOne) (n := 7) (by decide +kernel)) (wA_t 1 (by decide +kernel) rfl) (wA_t 259 (by decide +kernel) rfl)
theorem g_N_78 {c0 : Cond} : GoodIn (c0 :: wA) (wsV R_N 78 R_G y_G_last (.code y_G_last b_G_last 1 (some .int) :: wA)) := gw_V (wA_t 280 (by decide +kernel) rfl) (wA_t 281 (by decide +kernel) rfl) (wA_t 282 (by decide +kernel) rfl) (wA_t 6 (by decide +kernel) rfl) (wA_t 283 (by decide +kernel) rfl)
theorem hd_T_add : y_T_add.cls = R_T ∧ y_T_add.cls ≠ "java/lang/invoke/MethodHandle" ∧ y_T_add.cls ≠ "java/lang/invoke/VarHandle" ∧ (parseMethodDescriptor y_T_add.desc).map (fun d => d.parameters.length) = some 2 := by decide +kernel
theorem g_N_82 {c0 : Cond} : GoodIn (c0 :: wA) (wsV R_N 82 R_T y_T_add (.code y_T_add b_T_add 5 (some .int) :: wA)) := gw_V (wA_t 284 (by decide +kernel) rfl) (wA_t 285 (by decide +kernel) rfl) (wA_t 286 (by decide +kernel) rfl) (wA_t 2 (by decide +kernel) rfl) (wA_t 287 (by decide +kernel) rfl)
theorem hd_G_append : y_G_append.cls = R_G ∧ y_G_append.cls ≠ "java/lang/invoke/MethodHandle" ∧ y_G_append.cls ≠ "java/lang/invoke/VarHandle" ∧ (parseMethodDescriptor y_G_append.desc).map (fun d => d.parameters.length) = some 3 := by decide +kernel
theorem g_N_85 {c0 : Cond} : GoodIn (c0 :: wA) (wsV R_N 85 R_G y_G_append (.code y_G_append b_G_append 5 (some .int) :: wA)) := gw_V (wA_t 288 (by decide +kernel) rfl) (wA_t 289 (by decide +kernel) rfl) (wA_t 290 (by decide +kernel) rfl) (wA_t 6 (by decide +kernel) rfl) (wA_t 291 (by decide +kernel) rfl)
theorem hd_N_prepare : y_N_prepare.cls = R_N ∧ y_N_prepare.cls ≠ "java/lang/invoke/MethodHandle" ∧ y_N_prepare.cls ≠ "java/lang/invoke/VarHandle" ∧ (parseMethodDescriptor y_N_prepare.desc).map (fun d => d.parameters.length) = some 5 := by decide +kernel
theorem g_N_89 {c0 : Cond} : GoodIn (c0 :: wA) (wsV R_N 89 R_N y_N_prepare (.code y_N_prepare b_N_prepare 7 (some .int) :: wA)) := gw_V (wA_t 304 (by decide +kernel) rfl) (wA_t 306 (by decide +kernel) rfl) (wA_p (y := y_N_prepare) (n := 7) (by decide +kernel)) (wA_t 1 (by decide +kernel) rfl) (wA_t 307 (by decide +kernel) rfl)
theorem hd_N_request : y_N_request.cls = R_N ∧ y_N_request.cls ≠ "java/lang/invoke/MethodHandle" ∧ y_N_request.cls ≠ "java/lang/invoke/VarHandle" ∧ (parseMethodDescriptor y_N_request.desc).map (fun d => d.parameters.length) = some 1 := by decide +kernel
theorem g_N_93 {c0 : Cond} : GoodIn (c0 :: wA) (wsV R_N 93 R_N y_N_request (.code y_N_request b_N_request 4 (some .int) :: wA)) := gw_V (wA_t 327 (by decide +kernel) rfl) (wA_t 329 (by decide +kernel) rfl) (wA_p (y := y_N_request) (n := 7) (by decide +kernel)) (wA_t 1 (by decide +kernel) rfl) (wA_t 330 (by decide +kernel) rfl)
theorem hd_T_isWaiting : y_T_isWaiting.cls = R_T ∧ y_T_isWaiting.cls ≠ "java/lang/invoke/MethodHandle" ∧ y_T_isWaiting.cls ≠ "java/lang/invoke/VarHandle" ∧ (parseMethodDescriptor y_T_isWaiting.desc).map (fun d => d.parameters.length) = some 1 := by decide +kernel
theorem g_N_97 {c0 : Cond} : GoodIn (c0 :: wA) (wsV R_N 97 R_T y_T_isWaiting (.code y_T_isWaiting b_T_isWaiting 2 (some .boolean) :: wA)) := gw_V (wA_t 412 (by decide +kernel) rfl) (wA_t 413 (by decide +kernel) rfl) (wA_t 414 (by decide +kernel) rfl) (wA_t 2 (by decide +kernel) rfl) (wA_t 415 (by decide +kernel) rfl)
theorem hd_N_refusalOf : y_N_refusalOf.cls = R_N ∧ y_N_refusalOf.cls ≠ "java/lang/invoke/MethodHandle" ∧ y_N_refusalOf.cls ≠ "java/lang/invoke/VarHandle" ∧ (parseMethodDescriptor y_N_refusalOf.desc).map (fun d => d.parameters.length) = some 1 := by decide +kernel
theorem g_N_103 {c0 : Cond} : GoodIn (c0 :: wA) (wsV R_N 103 R_N y_N_refusalOf (.code y_N_refusalOf b_N_refusalOf 2 (some .int) :: wA)) := gw_V (wA_t 311 (by decide +kernel) rfl) (wA_t 313 (by decide +kernel) rfl) (wA_p (y := y_N_refusalOf) (n := 7) (by decide +kernel)) (wA_t 1 (by decide +kernel) rfl) (wA_t 314 (by decide +kernel) rfl)
theorem hd_K_passOn : y_K_passOn.cls = R_K ∧ y_K_passOn.cls ≠ "java/lang/invoke/MethodHandle" ∧ y_K_passOn.cls ≠ "java/lang/invoke/VarHandle" ∧ (parseMethodDescriptor y_K_passOn.desc).map (fun d => d.parameters.length) = some 2 := by decide +kernel
theorem g_N_115 {c0 : Cond} : GoodIn (c0 :: wA) (wsV R_N 115 R_K y_K_passOn (.code y_K_passOn b_K_passOn 4 none :: wA)) := gw_V (wA_t 476 (by decide +kernel) rfl) (wA_t 477 (by decide +kernel) rfl) (wA_t 478 (by decide +kernel) rfl) (wA_t 3 (by decide +kernel) rfl) (wA_t 479 (by decide +kernel) rfl)
theorem hd_K_release : y_K_release.cls = R_K ∧ y_K_release.cls ≠ "java/lang/invoke/MethodHandle" ∧ y_K_release.cls ≠ "java/lang/invoke/VarHandle" ∧ (parseMethodDescriptor y_K_release.desc).map (fun d => d.parameters.length) = some 1 := by decide +kernel
theorem g_N_119 {c0 : Cond} : GoodIn (c0 :: wA) (wsV R_N 119 R_K y_K_release (.code y_K_release b_K_release 3 none :: wA)) := gw_V (wA_t 448 (by decide +kernel) rfl) (wA_t 449 (by decide +kernel) rfl) (wA_t 450 (by decide +kernel) rfl) (wA_t 3 (by decide +kernel) rfl) (wA_t 451 (by decide +kernel) rfl)
theorem hd_T_isLive : y_T_isLive.cls = R_T ∧ y_T_isLive.cls ≠ "java/lang/invoke/MethodHandle" ∧ y_T_isLive.cls ≠ "java/lang/invoke/VarHandle" ∧ (parseMethodDescriptor y_T_isLive.desc).map (fun d => d.parameters.length) = some 1 := by decide +kernel
theorem g_N_122 {c0 : Cond} : GoodIn (c0 :: wA) (wsV R_N 122 R_T y_T_isLive (.code y_T_isLive b_T_isLive 2 (some .boolean) :: wA)) := gw_V (wA_t 406 (by decide +kernel) rfl) (wA_t 277 (by decide +kernel) rfl) (wA_t 278 (by decide +kernel) rfl) (wA_t 2 (by decide +kernel) rfl) (wA_t 279 (by decide +kernel) rfl)
theorem hd_N_abortWithDescendants : y_N_abortWithDescendants.cls = R_N ∧ y_N_abortWithDescendants.cls ≠ "java/lang/invoke/MethodHandle" ∧ y_N_abortWithDescendants.cls ≠ "java/lang/invoke/VarHandle" ∧ (parseMethodDescriptor y_N_abortWithDescendants.desc).map (fun d => d.parameters.length) = some 1 := by decide +kernel
theorem g_N_125 {c0 : Cond} : GoodIn (c0 :: wA) (wsV R_N 125 R_N y_N_abortWithDescendants (.code y_N_abortWithDescendants b_N_abortWithDescendants 4 (some .int) :: wA)) := gw_V (wA_t 432 (by decide +kernel) rfl) (wA_t 434 (by decide +kernel) rfl) (wA_p (y := y_N_abortWithDescendants) (n := 7) (by decide +kernel)) (wA_t 1 (by decide +kernel) rfl) (wA_t 435 (by decide +kernel) rfl)
theorem hd_T_isBusy : y_T_isBusy.cls = R_T ∧ y_T_isBusy.cls ≠ "java/lang/invoke/MethodHandle" ∧ y_T_isBusy.cls ≠ "java/lang/invoke/VarHandle" ∧ (parseMethodDescriptor y_T_isBusy.desc).map (fun d => d.parameters.length) = some 1 := by decide +kernel
theorem g_N_131 {c0 : Cond} : GoodIn (c0 :: wA) (wsV R_N 131 R_T y_T_isBusy (.code y_T_isBusy b_T_isBusy 2 (some .boolean) :: wA)) := gw_V (wA_t 315 (by decide +kernel) rfl) (wA_t 316 (by decide +kernel) rfl) (wA_t 317 (by decide +kernel) rfl) (wA_t 2 (by decide +kernel) rfl) (wA_t 318 (by decide +kernel) rfl)
theorem hd_N_undoOpenUpdates : y_N_undoOpenUpdates.cls = R_N ∧ y_N_undoOpenUpdates.cls ≠ "java/lang/invoke/MethodHandle" ∧ y_N_undoOpenUpdates.cls ≠ "java/lang/invoke/VarHandle" ∧ (parseMethodDescriptor y_N_undoOpenUpdates.desc).map (fun d => d.parameters.length) = some 2 := by decide +kernel
theorem g_N_134 {c0 : Cond} : GoodIn (c0 :: wA) (wsV R_N 134 R_N y_N_undoOpenUpdates (.code y_N_undoOpenUpdates b_N_undoOpenUpdates 5 (some .int) :: wA)) := gw_V (wA_t 436 (by decide +kernel) rfl) (wA_t 438 (by decide +kernel) rfl) (wA_p (y := y_N_undoOpenUpdates) (n := 7) (by decide +kernel)) (wA_t 1 (by decide +kernel) rfl) (wA_t 439 (by decide +kernel) rfl)
theorem hd_N_isPage : y_N_isPage.cls = R_N ∧ y_N_isPage.cls ≠ "java/lang/invoke/MethodHandle" ∧ y_N_isPage.cls ≠ "java/lang/invoke/VarHandle" ∧ (parseMethodDescriptor y_N_isPage.desc).map (fun d => d.parameters.length) = some 1 := by decide +kernel
theorem g_N_137 {c0 : Cond} : GoodIn (c0 :: wA) (wsS R_N 137 y_N_isPage (.code y_N_isPage b_N_isPage 1 (some .boolean) :: wA)) := gw_S (wA_t 497 (by decide +kernel) rfl) (wA_t 498 (by decide +kernel) rfl) (wA_t 1 (by decide +kernel) rfl) (wA_t 499 (by decide +kernel) rfl)
theorem g_N_144 {c0 : Cond} : GoodIn (c0 :: wA) (wsV R_N 144 R_A y_A_putOnDisk (.code y_A_putOnDisk b_A_putOnDisk 5 none :: wA)) := gw_V (wA_t 500 (by decide +kernel) rfl) (wA_t 378 (by decide +kernel) rfl) (wA_t 379 (by decide +kernel) rfl) (wA_t 7 (by decide +kernel) rfl) (wA_t 380 (by decide +kernel) rfl)
theorem hd_T_liveCount : y_T_liveCount.cls = R_T ∧ y_T_liveCount.cls ≠ "java/lang/invoke/MethodHandle" ∧ y_T_liveCount.cls ≠ "java/lang/invoke/VarHandle" ∧ (parseMethodDescriptor y_T_liveCount.desc).map (fun d => d.parameters.length) = some 0 := by decide +kernel
theorem g_N_148 {c0 : Cond} : GoodIn (c0 :: wA) (wsV R_N 148 R_T y_T_liveCount (.code y_T_liveCount b_T_liveCount 3 (some .int) :: wA)) := gw_V (wA_t 272 (by decide +kernel) rfl) (wA_t 273 (by decide +kernel) rfl) (wA_t 274 (by decide +kernel) rfl) (wA_t 2 (by decide +kernel) rfl) (wA_t 275 (by decide +kernel) rfl)
theorem hd_G_empty : y_G_empty.cls = R_G ∧ y_G_empty.cls ≠ "java/lang/invoke/MethodHandle" ∧ y_G_empty.cls ≠ "java/lang/invoke/VarHandle" ∧ (parseMethodDescriptor y_G_empty.desc).map (fun d => d.parameters.length) = some 0 := by decide +kernel
theorem g_N_151 {c0 : Cond} : GoodIn (c0 :: wA) (wsV R_N 151 R_G y_G_empty (.code y_G_empty b_G_empty 1 none :: wA)) := gw_V (wA_t 505 (by decide +kernel) rfl) (wA_t 506 (by decide +kernel) rfl) (wA_t 507 (by decide +kernel) rfl) (wA_t 6 (by decide +kernel) rfl) (wA_t 508 (by decide +kernel) rfl)
theorem hd_G_loseUnflushed : y_G_loseUnflushed.cls = R_G ∧ y_G_loseUnflushed.cls ≠ "java/lang/invoke/MethodHandle" ∧ y_G_loseUnflushed.cls ≠ "java/lang/invoke/VarHandle" ∧ (parseMethodDescriptor y_G_loseUnflushed.desc).map (fun d => d.parameters.length) = some 0 := by decide +kernel
theorem g_N_154 {c0 : Cond} : GoodIn (c0 :: wA) (wsV R_N 154 R_G y_G_loseUnflushed (.code y_G_loseUnflushed b_G_loseUnflushed 3 none :: wA)) := gw_V (wA_t 514 (by decide +kernel) rfl) (wA_t 515 (by decide +kernel) rfl) (wA_t 516 (by decide +kernel) rfl) (wA_t 6 (by decide +kernel) rfl) (wA_t 517 (by decide +kernel) rfl)
theorem hd_A_loseFrames : y_A_loseFrames.cls = R_A ∧ y_A_loseFrames.cls ≠ "java/lang/invoke/MethodHandle" ∧ y_A_loseFrames.cls ≠ "java/lang/invoke/VarHandle" ∧ (parseMethodDescriptor y_A_loseFrames.desc).map (fun d => d.parameters.length) = some 0 := by decide +kernel
theorem g_N_157 {c0 : Cond} : GoodIn (c0 :: wA) (wsV R_N 157 R_A y_A_loseFrames (.code y_A_loseFrames b_A_loseFrames 2 none :: wA)) := gw_V (wA_t 522 (by decide +kernel) rfl) (wA_t 523 (by decide +kernel) rfl) (wA_t 524 (by decide +kernel) rfl) (wA_t 7 (by decide +kernel) rfl) (wA_t 525 (by decide +kernel) rfl)
theorem hd_K_releaseAll : y_K_releaseAll.cls = R_K ∧ y_K_releaseAll.cls ≠ "java/lang/invoke/MethodHandle" ∧ y_K_releaseAll.cls ≠ "java/lang/invoke/VarHandle" ∧ (parseMethodDescriptor y_K_releaseAll.desc).map (fun d => d.parameters.length) = some 0 := by decide +kernel
theorem g_N_160 {c0 : Cond} : GoodIn (c0 :: wA) (wsV R_N 160 R_K y_K_releaseAll (.code y_K_releaseAll b_K_releaseAll 2 none :: wA)) := gw_V (wA_t 526 (by decide +kernel) rfl) (wA_t 527 (by decide +kernel) rfl) (wA_t 528 (by decide +kernel) rfl) (wA_t 3 (by decide +kernel) rfl) (wA_t 529 (by decide +kernel) rfl)
theorem hd_T_abortUncommitted : y_T_abortUncommitted.cls = R_T ∧ y_T_abortUncommitted.cls ≠ "java/lang/invoke/MethodHandle" ∧ y_T_abortUncommitted.cls ≠ "java/lang/invoke/VarHandle" ∧ (parseMethodDescriptor y_T_abortUncommitted.desc).map (fun d => d.parameters.length) = some 0 := by decide +kernel
theorem g_N_163 {c0 : Cond} : GoodIn (c0 :: wA) (wsV R_N 163 R_T y_T_abortUncommitted (.code y_T_abortUncommitted b_T_abortUncommitted 2 none :: wA)) := gw_V (wA_t 530 (by decide +kernel) rfl) (wA_t 531 (by decide +kernel) rfl) (wA_t 532 (by decide +kernel) rfl) (wA_t 2 (by decide +kernel) rfl) (wA_t 533 (by decide +kernel) rfl)
theorem hd_N_redoLog : y_N_redoLog.cls = R_N ∧ y_N_redoLog.cls ≠ "java/lang/invoke/MethodHandle" ∧ y_N_redoLog.cls ≠ "java/lang/invoke/VarHandle" ∧ (parseMethodDescriptor y_N_redoLog.desc).map (fun d => d.parameters.length) = some 0 := by decide +kernel
theorem g_N_166 {c0 : Cond} : GoodIn (c0 :: wA) (wsV R_N 166 R_N y_N_redoLog (.code y_N_redoLog b_N_redoLog 2 none :: wA)) := gw_V (wA_t 534 (by decide +kernel) rfl) (wA_t 536 (by decide +kernel) rfl) (wA_p (y := y_N_redoLog) (n := 7) (by decide +kernel)) (wA_t 1 (by decide +kernel) rfl) (wA_t 537 (by decide +kernel) rfl)
theorem hd_N_undoUncommitted : y_N_undoUncommitted.cls = R_N ∧ y_N_undoUncommitted.cls ≠ "java/lang/invoke/MethodHandle" ∧ y_N_undoUncommitted.cls ≠ "java/lang/invoke/VarHandle" ∧ (parseMethodDescriptor y_N_undoUncommitted.desc).map (fun d => d.parameters.length) = some 0 := by decide +kernel
theorem g_N_169 {c0 : Cond} : GoodIn (c0 :: wA) (wsV R_N 169 R_N y_N_undoUncommitted (.code y_N_undoUncommitted b_N_undoUncommitted 4 (some .int) :: wA)) := gw_V (wA_t 542 (by decide +kernel) rfl) (wA_t 544 (by decide +kernel) rfl) (wA_p (y := y_N_undoUncommitted) (n := 7) (by decide +kernel)) (wA_t 1 (by decide +kernel) rfl) (wA_t 545 (by decide +kernel) rfl)
theorem hd_T_exists : y_T_exists.cls = R_T ∧ y_T_exists.cls ≠ "java/lang/invoke/MethodHandle" ∧ y_T_exists.cls ≠ "java/lang/invoke/VarHandle" ∧ (parseMethodDescriptor y_T_exists.desc).map (fun d => d.parameters.length) = some 1 := by decide +kernel
theorem g_N_172 {c0 : Cond} : GoodIn (c0 :: wA) (wsV R_N 172 R_T y_T_exists (.code y_T_exists b_T_exists 2 (some .boolean) :: wA)) := gw_V (wA_t 550 (by decide +kernel) rfl) (wA_t 253 (by decide +kernel) rfl) (wA_t 254 (by decide +kernel) rfl) (wA_t 2 (by decide +kernel) rfl) (wA_t 255 (by decide +kernel) rfl)
theorem g_N_175 {c0 : Cond} : GoodIn (c0 :: wA) (wsV R_N 175 R_K y_K_heldBy (.code y_K_heldBy b_K_heldBy 3 (some .int) :: wA)) := gw_V (wA_t 355 (by decide +kernel) rfl) (wA_t 356 (by decide +kernel) rfl) (wA_t 357 (by decide +kernel) rfl) (wA_t 3 (by decide +kernel) rfl) (wA_t 358 (by decide +kernel) rfl)
theorem hd_N_blockersOf : y_N_blockersOf.cls = R_N ∧ y_N_blockersOf.cls ≠ "java/lang/invoke/MethodHandle" ∧ y_N_blockersOf.cls ≠ "java/lang/invoke/VarHandle" ∧ (parseMethodDescriptor y_N_blockersOf.desc).map (fun d => d.parameters.length) = some 1 := by decide +kernel
theorem g_N_178 {c0 : Cond} : GoodIn (c0 :: wA) (wsV R_N 178 R_N y_N_blockersOf (.code y_N_blockersOf b_N_blockersOf 3 (some .long) :: wA)) := gw_V (wA_t 416 (by decide +kernel) rfl) (wA_t 418 (by decide +kernel) rfl) (wA_p (y := y_N_blockersOf) (n := 7) (by decide +kernel)) (wA_t 1 (by decide +kernel) rfl) (wA_t 419 (by decide +kernel) rfl)
theorem g_N_185 {c0 : Cond} : GoodIn (c0 :: wA) (wsV R_N 185 R_G y_G_rowOf (.code y_G_rowOf b_G_rowOf 2 (some .int) :: wA)) := gw_V (wA_t 567 (by decide +kernel) rfl) (wA_t 519 (by decide +kernel) rfl) (wA_t 520 (by decide +kernel) rfl) (wA_t 6 (by decide +kernel) rfl) (wA_t 521 (by decide +kernel) rfl)
theorem hd_N_asNumber : y_N_asNumber.cls = R_N ∧ y_N_asNumber.cls ≠ "java/lang/invoke/MethodHandle" ∧ y_N_asNumber.cls ≠ "java/lang/invoke/VarHandle" ∧ (parseMethodDescriptor y_N_asNumber.desc).map (fun d => d.parameters.length) = some 1 := by decide +kernel
theorem g_N_203 {c0 : Cond} : GoodIn (c0 :: wA) (wsS R_N 203 y_N_asNumber (.code y_N_asNumber b_N_asNumber 1 (some .int) :: wA)) := gw_S (wA_t 381 (by decide +kernel) rfl) (wA_t 382 (by decide +kernel) rfl) (wA_t 1 (by decide +kernel) rfl) (wA_t 383 (by decide +kernel) rfl)
theorem hd_N_openUpdateCount : y_N_openUpdateCount.cls = R_N ∧ y_N_openUpdateCount.cls ≠ "java/lang/invoke/MethodHandle" ∧ y_N_openUpdateCount.cls ≠ "java/lang/invoke/VarHandle" ∧ (parseMethodDescriptor y_N_openUpdateCount.desc).map (fun d => d.parameters.length) = some 0 := by decide +kernel
theorem g_N_216 {c0 : Cond} : GoodIn (c0 :: wA) (wsV R_N 216 R_N y_N_openUpdateCount (.code y_N_openUpdateCount b_N_openUpdateCount 3 (some .int) :: wA)) := gw_V (wA_t 260 (by decide +kernel) rfl) (wA_t 262 (by decide +kernel) rfl) (wA_p (y := y_N_openUpdateCount) (n := 7) (by decide +kernel)) (wA_t 1 (by decide +kernel) rfl) (wA_t 263 (by decide +kernel) rfl)
theorem hd_N_isKey : y_N_isKey.cls = R_N ∧ y_N_isKey.cls ≠ "java/lang/invoke/MethodHandle" ∧ y_N_isKey.cls ≠ "java/lang/invoke/VarHandle" ∧ (parseMethodDescriptor y_N_isKey.desc).map (fun d => d.parameters.length) = some 1 := by decide +kernel
theorem g_N_219 {c0 : Cond} : GoodIn (c0 :: wA) (wsS R_N 219 y_N_isKey (.code y_N_isKey b_N_isKey 1 (some .boolean) :: wA)) := gw_S (wA_t 308 (by decide +kernel) rfl) (wA_t 309 (by decide +kernel) rfl) (wA_t 1 (by decide +kernel) rfl) (wA_t 310 (by decide +kernel) rfl)
theorem hd_T_setRequest : y_T_setRequest.cls = R_T ∧ y_T_setRequest.cls ≠ "java/lang/invoke/MethodHandle" ∧ y_T_setRequest.cls ≠ "java/lang/invoke/VarHandle" ∧ (parseMethodDescriptor y_T_setRequest.desc).map (fun d => d.parameters.length) = some 5 := by decide +kernel
theorem g_N_243 {c0 : Cond} : GoodIn (c0 :: wA) (wsV R_N 243 R_T y_T_setRequest (.code y_T_setRequest b_T_setRequest 6 none :: wA)) := gw_V (wA_t 323 (by decide +kernel) rfl) (wA_t 324 (by decide +kernel) rfl) (wA_t 325 (by decide +kernel) rfl) (wA_t 2 (by decide +kernel) rfl) (wA_t 326 (by decide +kernel) rfl)
theorem hd_N_takeLocks : y_N_takeLocks.cls = R_N ∧ y_N_takeLocks.cls ≠ "java/lang/invoke/MethodHandle" ∧ y_N_takeLocks.cls ≠ "java/lang/invoke/VarHandle" ∧ (parseMethodDescriptor y_N_takeLocks.desc).map (fun d => d.parameters.length) = some 1 := by decide +kernel
theorem g_N_247 {c0 : Cond} : GoodIn (c0 :: wA) (wsV R_N 247 R_N y_N_takeLocks (.code y_N_takeLocks b_N_takeLocks 4 (some .boolean) :: wA)) := gw_V (wA_t 331 (by decide +kernel) rfl) (wA_t 333 (by decide +kernel) rfl) (wA_p (y := y_N_takeLocks) (n := 7) (by decide +kernel)) (wA_t 1 (by decide +kernel) rfl) (wA_t 334 (by decide +kernel) rfl)
theorem hd_N_carryOut : y_N_carryOut.cls = R_N ∧ y_N_carryOut.cls ≠ "java/lang/invoke/MethodHandle" ∧ y_N_carryOut.cls ≠ "java/lang/invoke/VarHandle" ∧ (parseMethodDescriptor y_N_carryOut.desc).map (fun d => d.parameters.length) = some 1 := by decide +kernel
theorem g_N_250 {c0 : Cond} : GoodIn (c0 :: wA) (wsV R_N 250 R_N y_N_carryOut (.code y_N_carryOut b_N_carryOut 3 (some .int) :: wA)) := gw_V (wA_t 369 (by decide +kernel) rfl) (wA_t 371 (by decide +kernel) rfl) (wA_p (y := y_N_carryOut) (n := 7) (by decide +kernel)) (wA_t 1 (by decide +kernel) rfl) (wA_t 372 (by decide +kernel) rfl)
theorem hd_N_victimOfCircle : y_N_victimOfCircle.cls = R_N ∧ y_N_victimOfCircle.cls ≠ "java/lang/invoke/MethodHandle" ∧ y_N_victimOfCircle.cls ≠ "java/lang/invoke/VarHandle" ∧ (parseMethodDescriptor y_N_victimOfCircle.desc).map (fun d => d.parameters.length) = some 1 := by decide +kernel
theorem g_N_253 {c0 : Cond} : GoodIn (c0 :: wA) (wsV R_N 253 R_N y_N_victimOfCircle (.code y_N_victimOfCircle b_N_victimOfCircle 3 (some .int) :: wA)) := gw_V (wA_t 402 (by decide +kernel) rfl) (wA_t 404 (by decide +kernel) rfl) (wA_p (y := y_N_victimOfCircle) (n := 7) (by decide +kernel)) (wA_t 1 (by decide +kernel) rfl) (wA_t 405 (by decide +kernel) rfl)
theorem hd_N_planLocks : y_N_planLocks.cls = R_N ∧ y_N_planLocks.cls ≠ "java/lang/invoke/MethodHandle" ∧ y_N_planLocks.cls ≠ "java/lang/invoke/VarHandle" ∧ (parseMethodDescriptor y_N_planLocks.desc).map (fun d => d.parameters.length) = some 1 := by decide +kernel
theorem g_N_256 {c0 : Cond} : GoodIn (c0 :: wA) (wsV R_N 256 R_N y_N_planLocks (.code y_N_planLocks b_N_planLocks 6 none :: wA)) := gw_V (wA_t 335 (by decide +kernel) rfl) (wA_t 337 (by decide +kernel) rfl) (wA_p (y := y_N_planLocks) (n := 7) (by decide +kernel)) (wA_t 1 (by decide +kernel) rfl) (wA_t 338 (by decide +kernel) rfl)
theorem hd_N_freeLocks : y_N_freeLocks.cls = R_N ∧ y_N_freeLocks.cls ≠ "java/lang/invoke/MethodHandle" ∧ y_N_freeLocks.cls ≠ "java/lang/invoke/VarHandle" ∧ (parseMethodDescriptor y_N_freeLocks.desc).map (fun d => d.parameters.length) = some 1 := by decide +kernel
theorem g_N_259 {c0 : Cond} : GoodIn (c0 :: wA) (wsV R_N 259 R_N y_N_freeLocks (.code y_N_freeLocks b_N_freeLocks 5 (some .int) :: wA)) := gw_V (wA_t 351 (by decide +kernel) rfl) (wA_t 353 (by decide +kernel) rfl) (wA_p (y := y_N_freeLocks) (n := 7) (by decide +kernel)) (wA_t 1 (by decide +kernel) rfl) (wA_t 354 (by decide +kernel) rfl)
theorem g_N_268 {c0 : Cond} : GoodIn (c0 :: wA) (wsV R_N 268 R_K y_K_grant (.code y_K_grant b_K_grant 4 none :: wA)) := gw_V (wA_t 364 (by decide +kernel) rfl) (wA_t 365 (by decide +kernel) rfl) (wA_t 366 (by decide +kernel) rfl) (wA_t 3 (by decide +kernel) rfl) (wA_t 367 (by decide +kernel) rfl)
theorem hd_K_blockers : y_K_blockers.cls = R_K ∧ y_K_blockers.cls ≠ "java/lang/invoke/MethodHandle" ∧ y_K_blockers.cls ≠ "java/lang/invoke/VarHandle" ∧ (parseMethodDescriptor y_K_blockers.desc).map (fun d => d.parameters.length) = some 3 := by decide +kernel
theorem g_N_277 {c0 : Cond} : GoodIn (c0 :: wA) (wsV R_N 277 R_K y_K_blockers (.code y_K_blockers b_K_blockers 7 (some .long) :: wA)) := gw_V (wA_t 359 (by decide +kernel) rfl) (wA_t 360 (by decide +kernel) rfl) (wA_t 361 (by decide +kernel) rfl) (wA_t 3 (by decide +kernel) rfl) (wA_t 362 (by decide +kernel) rfl)
theorem hd_P_start : y_P_start.cls = R_P ∧ y_P_start.cls ≠ "java/lang/invoke/MethodHandle" ∧ y_P_start.cls ≠ "java/lang/invoke/VarHandle" ∧ (parseMethodDescriptor y_P_start.desc).map (fun d => d.parameters.length) = some 1 := by decide +kernel
theorem g_N_288 {c0 : Cond} : GoodIn (c0 :: wA) (wsV R_N 288 R_P y_P_start (.code y_P_start b_P_start 2 none :: wA)) := gw_V (wA_t 339 (by decide +kernel) rfl) (wA_t 340 (by decide +kernel) rfl) (wA_t 341 (by decide +kernel) rfl) (wA_t 4 (by decide +kernel) rfl) (wA_t 342 (by decide +kernel) rfl)
theorem hd_A_nextItem : y_A_nextItem.cls = R_A ∧ y_A_nextItem.cls ≠ "java/lang/invoke/MethodHandle" ∧ y_A_nextItem.cls ≠ "java/lang/invoke/VarHandle" ∧ (parseMethodDescriptor y_A_nextItem.desc).map (fun d => d.parameters.length) = some 1 := by decide +kernel
theorem g_N_291 {c0 : Cond} : GoodIn (c0 :: wA) (wsV R_N 291 R_A y_A_nextItem (.code y_A_nextItem b_A_nextItem 3 (some .int) :: wA)) := gw_V (wA_t 343 (by decide +kernel) rfl) (wA_t 344 (by decide +kernel) rfl) (wA_t 345 (by decide +kernel) rfl) (wA_t 7 (by decide +kernel) rfl) (wA_t 346 (by decide +kernel) rfl)
theorem hd_P_add : y_P_add.cls = R_P ∧ y_P_add.cls ≠ "java/lang/invoke/MethodHandle" ∧ y_P_add.cls ≠ "java/lang/invoke/VarHandle" ∧ (parseMethodDescriptor y_P_add.desc).map (fun d => d.parameters.length) = some 1 := by decide +kernel
theorem g_N_294 {c0 : Cond} : GoodIn (c0 :: wA) (wsV R_N 294 R_P y_P_add (.code y_P_add b_P_add 2 none :: wA)) := gw_V (wA_t 347 (by decide +kernel) rfl) (wA_t 348 (by decide +kernel) rfl) (wA_t 349 (by decide +kernel) rfl) (wA_t 4 (by decide +kernel) rfl) (wA_t 350 (by decide +kernel) rfl)
theorem hd_A_touch : y_A_touch.cls = R_A ∧ y_A_touch.cls ≠ "java/lang/invoke/MethodHandle" ∧ y_A_touch.cls ≠ "java/lang/invoke/VarHandle" ∧ (parseMethodDescriptor y_A_touch.desc).map (fun d => d.parameters.length) = some 2 := by decide +kernel
theorem g_N_296 {c0 : Cond} : GoodIn (c0 :: wA) (wsV R_N 296 R_A y_A_touch (.code y_A_touch b_A_touch 5 none :: wA)) := gw_V (wA_t 373 (by decide +kernel) rfl) (wA_t 374 (by decide +kernel) rfl) (wA_t 375 (by decide +kernel) rfl) (wA_t 7 (by decide +kernel) rfl) (wA_t 376 (by decide +kernel) rfl)
theorem hd_N_update : y_N_update.cls = R_N ∧ y_N_update.cls ≠ "java/lang/invoke/MethodHandle" ∧ y_N_update.cls ≠ "java/lang/invoke/VarHandle" ∧ (parseMethodDescriptor y_N_update.desc).map (fun d => d.parameters.length) = some 4 := by decide +kernel
theorem g_N_300 {c0 : Cond} : GoodIn (c0 :: wA) (wsV R_N 300 R_N y_N_update (.code y_N_update b_N_update 6 none :: wA)) := gw_V (wA_t 384 (by decide +kernel) rfl) (wA_t 386 (by decide +kernel) rfl) (wA_p (y := y_N_update) (n := 7) (by decide +kernel)) (wA_t 1 (by decide +kernel) rfl) (wA_t 387 (by decide +kernel) rfl)
theorem hd_N_countAndSum : y_N_countAndSum.cls = R_N ∧ y_N_countAndSum.cls ≠ "java/lang/invoke/MethodHandle" ∧ y_N_countAndSum.cls ≠ "java/lang/invoke/VarHandle" ∧ (parseMethodDescriptor y_N_countAndSum.desc).map (fun d => d.parameters.length) = some 2 := by decide +kernel
theorem g_N_304 {c0 : Cond} : GoodIn (c0 :: wA) (wsV R_N 304 R_N y_N_countAndSum (.code y_N_countAndSum b_N_countAndSum 6 (some .int) :: wA)) := gw_V (wA_t 398 (by decide +kernel) rfl) (wA_t 400 (by decide +kernel) rfl) (wA_p (y := y_N_countAndSum) (n := 7) (by decide +kernel)) (wA_t 1 (by decide +kernel) rfl) (wA_t 401 (by decide +kernel) rfl)
theorem g_N_307 {c0 : Cond} : GoodIn (c0 :: wA) (wsV R_N 307 R_G y_G_setBefore (.code y_G_setBefore b_G_setBefore 4 none :: wA)) := gw_V (wA_t 388 (by decide +kernel) rfl) (wA_t 293 (by decide +kernel) rfl) (wA_t 294 (by decide +kernel) rfl) (wA_t 6 (by decide +kernel) rfl) (wA_t 295 (by decide +kernel) rfl)
theorem g_N_311 {c0 : Cond} : GoodIn (c0 :: wA) (wsV R_N 311 R_G y_G_setAfter (.code y_G_setAfter b_G_setAfter 4 none :: wA)) := gw_V (wA_t 389 (by decide +kernel) rfl) (wA_t 297 (by decide +kernel) rfl) (wA_t 298 (by decide +kernel) rfl) (wA_t 6 (by decide +kernel) rfl) (wA_t 299 (by decide +kernel) rfl)
theorem hd_G_lsnOf : y_G_lsnOf.cls = R_G ∧ y_G_lsnOf.cls ≠ "java/lang/invoke/MethodHandle" ∧ y_G_lsnOf.cls ≠ "java/lang/invoke/VarHandle" ∧ (parseMethodDescriptor y_G_lsnOf.desc).map (fun d => d.parameters.length) = some 1 := by decide +kernel
theorem g_N_314 {c0 : Cond} : GoodIn (c0 :: wA) (wsV R_N 314 R_G y_G_lsnOf (.code y_G_lsnOf b_G_lsnOf 2 (some .int) :: wA)) := gw_V (wA_t 390 (by decide +kernel) rfl) (wA_t 391 (by decide +kernel) rfl) (wA_t 392 (by decide +kernel) rfl) (wA_t 6 (by decide +kernel) rfl) (wA_t 393 (by decide +kernel) rfl)
theorem hd_A_change : y_A_change.cls = R_A ∧ y_A_change.cls ≠ "java/lang/invoke/MethodHandle" ∧ y_A_change.cls ≠ "java/lang/invoke/VarHandle" ∧ (parseMethodDescriptor y_A_change.desc).map (fun d => d.parameters.length) = some 4 := by decide +kernel
theorem g_N_317 {c0 : Cond} : GoodIn (c0 :: wA) (wsV R_N 317 R_A y_A_change (.code y_A_change b_A_change 6 none :: wA)) := gw_V (wA_t 394 (by decide +kernel) rfl) (wA_t 395 (by decide +kernel) rfl) (wA_t 396 (by decide +kernel) rfl) (wA_t 7 (by decide +kernel) rfl) (wA_t 397 (by decide +kernel) rfl)
theorem hd_T_isTopLive : y_T_isTopLive.cls = R_T ∧ y_T_isTopLive.cls ≠ "java/lang/invoke/MethodHandle" ∧ y_T_isTopLive.cls ≠ "java/lang/invoke/VarHandle" ∧ (parseMethodDescriptor y_T_isTopLive.desc).map (fun d => d.parameters.length) = some 1 := by decide +kernel
theorem g_N_327 {c0 : Cond} : GoodIn (c0 :: wA) (wsV R_N 327 R_T y_T_isTopLive (.code y_T_isTopLive b_T_isTopLive 3 (some .boolean) :: wA)) := gw_V (wA_t 268 (by decide +kernel) rfl) (wA_t 269 (by decide +kernel) rfl) (wA_t 270 (by decide +kernel) rfl) (wA_t 2 (by decide +kernel) rfl) (wA_t 271 (by decide +kernel) rfl)
theorem hd_N_isOpen : y_N_isOpen.cls = R_N ∧ y_N_isOpen.cls ≠ "java/lang/invoke/MethodHandle" ∧ y_N_isOpen.cls ≠ "java/lang/invoke/VarHandle" ∧ (parseMethodDescriptor y_N_isOpen.desc).map (fun d => d.parameters.length) = some 1 := by decide +kernel
theorem g_N_330 {c0 : Cond} : GoodIn (c0 :: wA) (wsV R_N 330 R_N y_N_isOpen (.code y_N_isOpen b_N_isOpen 2 (some .boolean) :: wA)) := gw_V (wA_t 264 (by decide +kernel) rfl) (wA_t 266 (by decide +kernel) rfl) (wA_p (y := y_N_isOpen) (n := 7) (by decide +kernel)) (wA_t 1 (by decide +kernel) rfl) (wA_t 267 (by decide +kernel) rfl)
theorem hd_T_isWithin : y_T_isWithin.cls = R_T ∧ y_T_isWithin.cls ≠ "java/lang/invoke/MethodHandle" ∧ y_T_isWithin.cls ≠ "java/lang/invoke/VarHandle" ∧ (parseMethodDescriptor y_T_isWithin.desc).map (fun d => d.parameters.length) = some 2 := by decide +kernel
theorem g_N_333 {c0 : Cond} : GoodIn (c0 :: wA) (wsV R_N 333 R_T y_T_isWithin (.code y_T_isWithin b_T_isWithin 3 (some .boolean) :: wA)) := gw_V (wA_t 440 (by decide +kernel) rfl) (wA_t 441 (by decide +kernel) rfl) (wA_t 442 (by decide +kernel) rfl) (wA_t 2 (by decide +kernel) rfl) (wA_t 443 (by decide +kernel) rfl)
theorem hd_N_undo : y_N_undo.cls = R_N ∧ y_N_undo.cls ≠ "java/lang/invoke/MethodHandle" ∧ y_N_undo.cls ≠ "java/lang/invoke/VarHandle" ∧ (parseMethodDescriptor y_N_undo.desc).map (fun d => d.parameters.length) = some 2 := by decide +kernel
theorem g_N_337 {c0 : Cond} : GoodIn (c0 :: wA) (wsV R_N 337 R_N y_N_undo (.code y_N_undo b_N_undo 7 none :: wA)) := gw_V (wA_t 444 (by decide +kernel) rfl) (wA_t 446 (by decide +kernel) rfl) (wA_p (y := y_N_undo) (n := 7) (by decide +kernel)) (wA_t 1 (by decide +kernel) rfl) (wA_t 447 (by decide +kernel) rfl)
theorem hd_N_leadsOf : y_N_leadsOf.cls = R_N ∧ y_N_leadsOf.cls ≠ "java/lang/invoke/MethodHandle" ∧ y_N_leadsOf.cls ≠ "java/lang/invoke/VarHandle" ∧ (parseMethodDescriptor y_N_leadsOf.desc).map (fun d => d.parameters.length) = some 1 := by decide +kernel
theorem g_N_343 {c0 : Cond} : GoodIn (c0 :: wA) (wsV R_N 343 R_N y_N_leadsOf (.code y_N_leadsOf b_N_leadsOf 4 (some .long) :: wA)) := gw_V (wA_t 407 (by decide +kernel) rfl) (wA_t 409 (by decide +kernel) rfl) (wA_p (y := y_N_leadsOf) (n := 7) (by decide +kernel)) (wA_t 1 (by decide +kernel) rfl) (wA_t 410 (by decide +kernel) rfl)
theorem hd_D_greatestInCircle : y_D_greatestInCircle.cls = R_D ∧ y_D_greatestInCircle.cls ≠ "java/lang/invoke/MethodHandle" ∧ y_D_greatestInCircle.cls ≠ "java/lang/invoke/VarHandle" ∧ (parseMethodDescriptor y_D_greatestInCircle.desc).map (fun d => d.parameters.length) = some 2 := by decide +kernel
theorem g_N_346 {c0 : Cond} : GoodIn (c0 :: wA) (wsV R_N 346 R_D y_D_greatestInCircle (.code y_D_greatestInCircle b_D_greatestInCircle 8 (some .int) :: wA)) := gw_V (wA_t 420 (by decide +kernel) rfl) (wA_t 421 (by decide +kernel) rfl) (wA_t 422 (by decide +kernel) rfl) (wA_t 5 (by decide +kernel) rfl) (wA_t 423 (by decide +kernel) rfl)
theorem hd_T_liveChildren : y_T_liveChildren.cls = R_T ∧ y_T_liveChildren.cls ≠ "java/lang/invoke/MethodHandle" ∧ y_T_liveChildren.cls ≠ "java/lang/invoke/VarHandle" ∧ (parseMethodDescriptor y_T_liveChildren.desc).map (fun d => d.parameters.length) = some 1 := by decide +kernel
theorem g_N_349 {c0 : Cond} : GoodIn (c0 :: wA) (wsV R_N 349 R_T y_T_liveChildren (.code y_T_liveChildren b_T_liveChildren 5 (some .long) :: wA)) := gw_V (wA_t 411 (by decide +kernel) rfl) (wA_t 320 (by decide +kernel) rfl) (wA_t 321 (by decide +kernel) rfl) (wA_t 2 (by decide +kernel) rfl) (wA_t 322 (by decide +kernel) rfl)
theorem hd_N_redo : y_N_redo.cls = R_N ∧ y_N_redo.cls ≠ "java/lang/invoke/MethodHandle" ∧ y_N_redo.cls ≠ "java/lang/invoke/VarHandle" ∧ (parseMethodDescriptor y_N_redo.desc).map (fun d => d.parameters.length) = some 1 := by decide +kernel
theorem g_N_352 {c0 : Cond} : GoodIn (c0 :: wA) (wsV R_N 352 R_N y_N_redo (.code y_N_redo b_N_redo 4 none :: wA)) := gw_V (wA_t 538 (by decide +kernel) rfl) (wA_t 540 (by decide +kernel) rfl) (wA_p (y := y_N_redo) (n := 7) (by decide +kernel)) (wA_t 1 (by decide +kernel) rfl) (wA_t 541 (by decide +kernel) rfl)
theorem g_T_47 {c0 : Cond} : GoodIn (c0 :: wA) (wsV R_T 47 R_T y_T_exists (.code y_T_exists b_T_exists 2 (some .boolean) :: wA)) := gw_V (wA_t 252 (by decide +kernel) rfl) (wA_t 253 (by decide +kernel) rfl) (wA_t 254 (by decide +kernel) rfl) (wA_t 2 (by decide +kernel) rfl) (wA_t 255 (by decide +kernel) rfl)
theorem g_T_51 {c0 : Cond} : GoodIn (c0 :: wA) (wsV R_T 51 R_T y_T_liveChildren (.code y_T_liveChildren b_T_liveChildren 5 (some .long) :: wA)) := gw_V (wA_t 319 (by decide +kernel) rfl) (wA_t 320 (by decide +kernel) rfl) (wA_t 321 (by decide +kernel) rfl) (wA_t 2 (by decide +kernel) rfl) (wA_t 322 (by decide +kernel) rfl)
theorem g_T_55 {c0 : Cond} : GoodIn (c0 :: wA) (wsV R_T 55 R_T y_T_isLive (.code y_T_isLive b_T_isLive 2 (some .boolean) :: wA)) := gw_V (wA_t 276 (by decide +kernel) rfl) (wA_t 277 (by decide +kernel) rfl) (wA_t 278 (by decide +kernel) rfl) (wA_t 2 (by decide +kernel) rfl) (wA_t 279 (by decide +kernel) rfl)
abbrev ws_N_init : List Cond := .code y_N_init b_N_init 2 none :: wA
abbrev rm_N_init : Room := { frames := 2, cells := 0, slots := 0, locals := 42 }
abbrev ws_N_begin : List Cond := .code y_N_begin b_N_begin 4 (some .int) :: wA
abbrev rm_N_begin : Room := { frames := 4, cells := 0, slots := 0, locals := 86 }
abbrev ws_N_get : List Cond := .code y_N_get b_N_get 4 (some .int) :: wA
abbrev rm_N_get : Room := { frames := 6, cells := 0, slots := 0, locals := 144 }
abbrev ws_N_put : List Cond := .code y_N_put b_N_put 5 (some .int) :: wA
abbrev rm_N_put : Room := { frames := 6, cells := 0, slots := 0, locals := 144 }
abbrev ws_N_delete : List Cond := .code y_N_delete b_N_delete 4 (some .int) :: wA
abbrev rm_N_delete : Room := { frames := 6, cells := 0, slots := 0, locals := 144 }
abbrev ws_N_scan : List Cond := .code y_N_scan b_N_scan 5 (some .int) :: wA
abbrev rm_N_scan : Room := { frames := 6, cells := 0, slots := 0, locals := 144 }
abbrev ws_N_resume : List Cond := .code y_N_resume b_N_resume 2 (some .int) :: wA
abbrev rm_N_resume : Room := { frames := 6, cells := 0, slots := 0, locals := 144 }
abbrev ws_N_value : List Cond := .code y_N_value b_N_value 1 (some .int) :: wA
abbrev rm_N_value : Room := { frames := 0, cells := 0, slots := 0, locals := 0 }
abbrev ws_N_commit : List Cond := .code y_N_commit b_N_commit 4 (some .int) :: wA
abbrev rm_N_commit : Room := { frames := 5, cells := 0, slots := 0, locals := 108 }
abbrev ws_N_abort : List Cond := .code y_N_abort b_N_abort 2 (some .int) :: wA
abbrev rm_N_abort : Room := { frames := 5, cells := 0, slots := 0, locals := 121 }
abbrev ws_N_save : List Cond := .code y_N_save b_N_save 3 (some .int) :: wA
abbrev rm_N_save : Room := { frames := 5, cells := 0, slots := 0, locals := 108 }
abbrev ws_N_rollback : List Cond := .code y_N_rollback b_N_rollback 3 (some .int) :: wA
abbrev rm_N_rollback : Room := { frames := 4, cells := 0, slots := 0, locals := 98 }
abbrev ws_N_write : List Cond := .code y_N_write b_N_write 2 (some .boolean) :: wA
abbrev rm_N_write : Room := { frames := 1, cells := 0, slots := 0, locals := 24 }
abbrev ws_N_archive : List Cond := .code y_N_archive b_N_archive 3 (some .int) :: wA
abbrev rm_N_archive : Room := { frames := 3, cells := 0, slots := 0, locals := 64 }
abbrev ws_N_crash : List Cond := .code y_N_crash b_N_crash 3 (some .int) :: wA
abbrev rm_N_crash : Room := { frames := 4, cells := 0, slots := 0, locals := 97 }
abbrev ws_N_state : List Cond := .code y_N_state b_N_state 2 (some .int) :: wA
abbrev rm_N_state : Room := { frames := 1, cells := 0, slots := 0, locals := 21 }
abbrev ws_N_parent : List Cond := .code y_N_parent b_N_parent 2 (some .int) :: wA
abbrev rm_N_parent : Room := { frames := 1, cells := 0, slots := 0, locals := 21 }
abbrev ws_N_lock : List Cond := .code y_N_lock b_N_lock 3 (some .int) :: wA
abbrev rm_N_lock : Room := { frames := 1, cells := 0, slots := 0, locals := 22 }
abbrev ws_N_waits : List Cond := .code y_N_waits b_N_waits 3 (some .boolean) :: wA
abbrev rm_N_waits : Room := { frames := 3, cells := 0, slots := 0, locals := 72 }
abbrev ws_N_entry : List Cond := .code y_N_entry b_N_entry 4 (some .int) :: wA
abbrev rm_N_entry : Room := { frames := 1, cells := 0, slots := 0, locals := 21 }
abbrev ws_N_log : List Cond := .code y_N_log b_N_log 2 (some .int) :: wA
abbrev rm_N_log : Room := { frames := 3, cells := 0, slots := 0, locals := 65 }
abbrev ws_N_key : List Cond := .code y_N_key b_N_key 3 (some .int) :: wA
abbrev rm_N_key : Room := { frames := 1, cells := 0, slots := 0, locals := 20 }
abbrev ws_N_frame : List Cond := .code y_N_frame b_N_frame 3 (some .int) :: wA
abbrev rm_N_frame : Room := { frames := 1, cells := 0, slots := 0, locals := 20 }
abbrev ws_N_page : List Cond := .code y_N_page b_N_page 2 (some .int) :: wA
abbrev rm_N_page : Room := { frames := 1, cells := 0, slots := 0, locals := 20 }
abbrev ws_N_isKey : List Cond := .code y_N_isKey b_N_isKey 1 (some .boolean) :: wA
abbrev rm_N_isKey : Room := { frames := 0, cells := 0, slots := 0, locals := 0 }
abbrev ws_N_isPage : List Cond := .code y_N_isPage b_N_isPage 1 (some .boolean) :: wA
abbrev rm_N_isPage : Room := { frames := 0, cells := 0, slots := 0, locals := 0 }
abbrev ws_N_asNumber : List Cond := .code y_N_asNumber b_N_asNumber 1 (some .int) :: wA
abbrev rm_N_asNumber : Room := { frames := 0, cells := 0, slots := 0, locals := 0 }
abbrev ws_N_refusalOf : List Cond := .code y_N_refusalOf b_N_refusalOf 2 (some .int) :: wA
abbrev rm_N_refusalOf : Room := { frames := 4, cells := 0, slots := 0, locals := 87 }
abbrev ws_N_prepare : List Cond := .code y_N_prepare b_N_prepare 7 (some .int) :: wA
abbrev rm_N_prepare : Room := { frames := 5, cells := 0, slots := 0, locals := 108 }
abbrev ws_N_request : List Cond := .code y_N_request b_N_request 4 (some .int) :: wA
abbrev rm_N_request : Room := { frames := 5, cells := 0, slots := 0, locals := 121 }
abbrev ws_N_takeLocks : List Cond := .code y_N_takeLocks b_N_takeLocks 4 (some .boolean) :: wA
abbrev rm_N_takeLocks : Room := { frames := 2, cells := 0, slots := 0, locals := 50 }
abbrev ws_N_blockersOf : List Cond := .code y_N_blockersOf b_N_blockersOf 3 (some .long) :: wA
abbrev rm_N_blockersOf : Room := { frames := 2, cells := 0, slots := 0, locals := 50 }
abbrev ws_N_freeLocks : List Cond := .code y_N_freeLocks b_N_freeLocks 5 (some .int) :: wA
abbrev rm_N_freeLocks : Room := { frames := 1, cells := 0, slots := 0, locals := 26 }
abbrev ws_N_planLocks : List Cond := .code y_N_planLocks b_N_planLocks 6 none :: wA
abbrev rm_N_planLocks : Room := { frames := 1, cells := 0, slots := 0, locals := 22 }
abbrev ws_N_carryOut : List Cond := .code y_N_carryOut b_N_carryOut 3 (some .int) :: wA
abbrev rm_N_carryOut : Room := { frames := 4, cells := 0, slots := 0, locals := 86 }
abbrev ws_N_countAndSum : List Cond := .code y_N_countAndSum b_N_countAndSum 6 (some .int) :: wA
abbrev rm_N_countAndSum : Room := { frames := 2, cells := 0, slots := 0, locals := 48 }
abbrev ws_N_update : List Cond := .code y_N_update b_N_update 6 none :: wA
abbrev rm_N_update : Room := { frames := 2, cells := 0, slots := 0, locals := 48 }
abbrev ws_N_undo : List Cond := .code y_N_undo b_N_undo 7 none :: wA
abbrev rm_N_undo : Room := { frames := 2, cells := 0, slots := 0, locals := 48 }
abbrev ws_N_isOpen : List Cond := .code y_N_isOpen b_N_isOpen 2 (some .boolean) :: wA
abbrev rm_N_isOpen : Room := { frames := 1, cells := 0, slots := 0, locals := 22 }
abbrev ws_N_openUpdateCount : List Cond := .code y_N_openUpdateCount b_N_openUpdateCount 3 (some .int) :: wA
abbrev rm_N_openUpdateCount : Room := { frames := 2, cells := 0, slots := 0, locals := 43 }
abbrev ws_N_hasRoomForOne : List Cond := .code y_N_hasRoomForOne b_N_hasRoomForOne 2 (some .boolean) :: wA
abbrev rm_N_hasRoomForOne : Room := { frames := 3, cells := 0, slots := 0, locals := 65 }
abbrev ws_N_undoOpenUpdates : List Cond := .code y_N_undoOpenUpdates b_N_undoOpenUpdates 5 (some .int) :: wA
abbrev rm_N_undoOpenUpdates : Room := { frames := 3, cells := 0, slots := 0, locals := 74 }
abbrev ws_N_abortWithDescendants : List Cond := .code y_N_abortWithDescendants b_N_abortWithDescendants 4 (some .int) :: wA
abbrev rm_N_abortWithDescendants : Room := { frames := 4, cells := 0, slots := 0, locals := 98 }
abbrev ws_N_victimOfCircle : List Cond := .code y_N_victimOfCircle b_N_victimOfCircle 3 (some .int) :: wA
abbrev rm_N_victimOfCircle : Room := { frames := 4, cells := 0, slots := 0, locals := 95 }
abbrev ws_N_leadsOf : List Cond := .code y_N_leadsOf b_N_leadsOf 4 (some .long) :: wA
abbrev rm_N_leadsOf : Room := { frames := 3, cells := 0, slots := 0, locals := 72 }
abbrev ws_N_redoLog : List Cond := .code y_N_redoLog b_N_redoLog 2 none :: wA
abbrev rm_N_redoLog : Room := { frames := 3, cells := 0, slots := 0, locals := 71 }
abbrev ws_N_redo : List Cond := .code y_N_redo b_N_redo 4 none :: wA
abbrev rm_N_redo : Room := { frames := 2, cells := 0, slots := 0, locals := 48 }
abbrev ws_N_undoUncommitted : List Cond := .code y_N_undoUncommitted b_N_undoUncommitted 4 (some .int) :: wA
abbrev rm_N_undoUncommitted : Room := { frames := 3, cells := 0, slots := 0, locals := 74 }
abbrev ws_D_init : List Cond := .code y_D_init b_D_init 1 none :: wA
abbrev rm_D_init : Room := { frames := 1, cells := 0, slots := 0, locals := 21 }
abbrev ws_D_greatestInCircle : List Cond := .code y_D_greatestInCircle b_D_greatestInCircle 8 (some .int) :: wA
abbrev rm_D_greatestInCircle : Room := { frames := 1, cells := 0, slots := 0, locals := 28 }
abbrev ws_D_reachedFrom : List Cond := .code y_D_reachedFrom b_D_reachedFrom 9 (some .long) :: wA
abbrev rm_D_reachedFrom : Room := { frames := 0, cells := 0, slots := 0, locals := 0 }
abbrev ws_D_leadingTo : List Cond := .code y_D_leadingTo b_D_leadingTo 9 (some .long) :: wA
abbrev rm_D_leadingTo : Room := { frames := 0, cells := 0, slots := 0, locals := 0 }
abbrev ws_K_init : List Cond := .code y_K_init b_K_init 1 none :: wA
abbrev rm_K_init : Room := { frames := 1, cells := 0, slots := 0, locals := 21 }
abbrev ws_K_heldBy : List Cond := .code y_K_heldBy b_K_heldBy 3 (some .int) :: wA
abbrev rm_K_heldBy : Room := { frames := 0, cells := 0, slots := 0, locals := 0 }
abbrev ws_K_blockers : List Cond := .code y_K_blockers b_K_blockers 7 (some .long) :: wA
abbrev rm_K_blockers : Room := { frames := 0, cells := 0, slots := 0, locals := 0 }
abbrev ws_K_grant : List Cond := .code y_K_grant b_K_grant 4 none :: wA
abbrev rm_K_grant : Room := { frames := 1, cells := 0, slots := 0, locals := 22 }
abbrev ws_K_passOn : List Cond := .code y_K_passOn b_K_passOn 4 none :: wA
abbrev rm_K_passOn : Room := { frames := 2, cells := 0, slots := 0, locals := 45 }
abbrev ws_K_release : List Cond := .code y_K_release b_K_release 3 none :: wA
abbrev rm_K_release : Room := { frames := 0, cells := 0, slots := 0, locals := 0 }
abbrev ws_K_releaseAll : List Cond := .code y_K_releaseAll b_K_releaseAll 2 none :: wA
abbrev rm_K_releaseAll : Room := { frames := 0, cells := 0, slots := 0, locals := 0 }
abbrev ws_G_init : List Cond := .code y_G_init b_G_init 1 none :: wA
abbrev rm_G_init : Room := { frames := 1, cells := 0, slots := 0, locals := 21 }
abbrev ws_G_last : List Cond := .code y_G_last b_G_last 1 (some .int) :: wA
abbrev rm_G_last : Room := { frames := 0, cells := 0, slots := 0, locals := 0 }
abbrev ws_G_lsnOf : List Cond := .code y_G_lsnOf b_G_lsnOf 2 (some .int) :: wA
abbrev rm_G_lsnOf : Room := { frames := 0, cells := 0, slots := 0, locals := 0 }
abbrev ws_G_rowOf : List Cond := .code y_G_rowOf b_G_rowOf 2 (some .int) :: wA
abbrev rm_G_rowOf : Room := { frames := 0, cells := 0, slots := 0, locals := 0 }
abbrev ws_G_append : List Cond := .code y_G_append b_G_append 5 (some .int) :: wA
abbrev rm_G_append : Room := { frames := 1, cells := 0, slots := 0, locals := 23 }
abbrev ws_G_setBefore : List Cond := .code y_G_setBefore b_G_setBefore 4 none :: wA
abbrev rm_G_setBefore : Room := { frames := 0, cells := 0, slots := 0, locals := 0 }
abbrev ws_G_setAfter : List Cond := .code y_G_setAfter b_G_setAfter 4 none :: wA
abbrev rm_G_setAfter : Room := { frames := 0, cells := 0, slots := 0, locals := 0 }
abbrev ws_G_loseUnflushed : List Cond := .code y_G_loseUnflushed b_G_loseUnflushed 3 none :: wA
abbrev rm_G_loseUnflushed : Room := { frames := 1, cells := 0, slots := 0, locals := 21 }
abbrev ws_G_empty : List Cond := .code y_G_empty b_G_empty 1 none :: wA
abbrev rm_G_empty : Room := { frames := 1, cells := 0, slots := 0, locals := 20 }
abbrev ws_A_init : List Cond := .code y_A_init b_A_init 2 none :: wA
abbrev rm_A_init : Room := { frames := 1, cells := 0, slots := 0, locals := 21 }
abbrev ws_A_nextItem : List Cond := .code y_A_nextItem b_A_nextItem 3 (some .int) :: wA
abbrev rm_A_nextItem : Room := { frames := 0, cells := 0, slots := 0, locals := 0 }
abbrev ws_A_touch : List Cond := .code y_A_touch b_A_touch 5 none :: wA
abbrev rm_A_touch : Room := { frames := 1, cells := 0, slots := 0, locals := 24 }
abbrev ws_A_putOnDisk : List Cond := .code y_A_putOnDisk b_A_putOnDisk 5 none :: wA
abbrev rm_A_putOnDisk : Room := { frames := 0, cells := 0, slots := 0, locals := 0 }
abbrev ws_A_change : List Cond := .code y_A_change b_A_change 6 none :: wA
abbrev rm_A_change : Room := { frames := 0, cells := 0, slots := 0, locals := 0 }
abbrev ws_A_loseFrames : List Cond := .code y_A_loseFrames b_A_loseFrames 2 none :: wA
abbrev rm_A_loseFrames : Room := { frames := 0, cells := 0, slots := 0, locals := 0 }
abbrev ws_P_init : List Cond := .code y_P_init b_P_init 1 none :: wA
abbrev rm_P_init : Room := { frames := 1, cells := 0, slots := 0, locals := 21 }
abbrev ws_P_start : List Cond := .code y_P_start b_P_start 2 none :: wA
abbrev rm_P_start : Room := { frames := 0, cells := 0, slots := 0, locals := 0 }
abbrev ws_P_add : List Cond := .code y_P_add b_P_add 2 none :: wA
abbrev rm_P_add : Room := { frames := 0, cells := 0, slots := 0, locals := 0 }
abbrev ws_T_init : List Cond := .code y_T_init b_T_init 1 none :: wA
abbrev rm_T_init : Room := { frames := 1, cells := 0, slots := 0, locals := 21 }
abbrev ws_T_exists : List Cond := .code y_T_exists b_T_exists 2 (some .boolean) :: wA
abbrev rm_T_exists : Room := { frames := 0, cells := 0, slots := 0, locals := 0 }
abbrev ws_T_isActive : List Cond := .code y_T_isActive b_T_isActive 2 (some .boolean) :: wA
abbrev rm_T_isActive : Room := { frames := 1, cells := 0, slots := 0, locals := 21 }
abbrev ws_T_isWaiting : List Cond := .code y_T_isWaiting b_T_isWaiting 2 (some .boolean) :: wA
abbrev rm_T_isWaiting : Room := { frames := 1, cells := 0, slots := 0, locals := 21 }
abbrev ws_T_isLive : List Cond := .code y_T_isLive b_T_isLive 2 (some .boolean) :: wA
abbrev rm_T_isLive : Room := { frames := 1, cells := 0, slots := 0, locals := 21 }
abbrev ws_T_isTopLive : List Cond := .code y_T_isTopLive b_T_isTopLive 3 (some .boolean) :: wA
abbrev rm_T_isTopLive : Room := { frames := 0, cells := 0, slots := 0, locals := 0 }
abbrev ws_T_isWithin : List Cond := .code y_T_isWithin b_T_isWithin 3 (some .boolean) :: wA
abbrev rm_T_isWithin : Room := { frames := 0, cells := 0, slots := 0, locals := 0 }
abbrev ws_T_isBusy : List Cond := .code y_T_isBusy b_T_isBusy 2 (some .boolean) :: wA
abbrev rm_T_isBusy : Room := { frames := 3, cells := 0, slots := 0, locals := 66 }
abbrev ws_T_liveChildren : List Cond := .code y_T_liveChildren b_T_liveChildren 5 (some .long) :: wA
abbrev rm_T_liveChildren : Room := { frames := 2, cells := 0, slots := 0, locals := 42 }
abbrev ws_T_liveCount : List Cond := .code y_T_liveCount b_T_liveCount 3 (some .int) :: wA
abbrev rm_T_liveCount : Room := { frames := 2, cells := 0, slots := 0, locals := 42 }
abbrev ws_T_add : List Cond := .code y_T_add b_T_add 5 (some .int) :: wA
abbrev rm_T_add : Room := { frames := 1, cells := 0, slots := 0, locals := 21 }
abbrev ws_T_setRequest : List Cond := .code y_T_setRequest b_T_setRequest 6 none :: wA
abbrev rm_T_setRequest : Room := { frames := 0, cells := 0, slots := 0, locals := 0 }
abbrev ws_T_abortUncommitted : List Cond := .code y_T_abortUncommitted b_T_abortUncommitted 2 none :: wA
abbrev rm_T_abortUncommitted : Room := { frames := 0, cells := 0, slots := 0, locals := 0 }
theorem in_M : ∀ w ∈ u_ws R_M F_M 39, w ∈ wA := by
  intro w hw
  obtain ⟨k, hk, rfl⟩ := List.mem_map.mp hw
  have hk := List.mem_range.mp hk
  match k, hk with
  | 0, _ => exact wA_t 632 (by decide +kernel) rfl
  | 1, _ => exact wA_t 634 (by decide +kernel) rfl
  | 2, _ => exact wA_t 636 (by decide +kernel) rfl
  | 3, _ => exact wA_t 638 (by decide +kernel) rfl
  | 4, _ => exact wA_t 640 (by decide +kernel) rfl
  | 5, _ => exact wA_t 642 (by decide +kernel) rfl
  | 6, _ => exact wA_t 644 (by decide +kernel) rfl
  | 7, _ => exact wA_t 646 (by decide +kernel) rfl
  | 8, _ => exact wA_t 648 (by decide +kernel) rfl
  | 9, _ => exact wA_t 650 (by decide +kernel) rfl
  | 10, _ => exact wA_t 652 (by decide +kernel) rfl
  | 11, _ => exact wA_t 654 (by decide +kernel) rfl
  | 12, _ => exact wA_t 656 (by decide +kernel) rfl
  | 13, _ => exact wA_t 658 (by decide +kernel) rfl
  | 14, _ => exact wA_t 660 (by decide +kernel) rfl
  | 15, _ => exact wA_t 662 (by decide +kernel) rfl
  | 16, _ => exact wA_t 664 (by decide +kernel) rfl
  | 17, _ => exact wA_t 666 (by decide +kernel) rfl
  | 18, _ => exact wA_t 668 (by decide +kernel) rfl
  | 19, _ => exact wA_t 670 (by decide +kernel) rfl
  | 20, _ => exact wA_t 672 (by decide +kernel) rfl
  | 21, _ => exact wA_t 674 (by decide +kernel) rfl
  | 22, _ => exact wA_t 676 (by decide +kernel) rfl
  | 23, _ => exact wA_t 678 (by decide +kernel) rfl
  | 24, _ => exact wA_t 680 (by decide +kernel) rfl
  | 25, _ => exact wA_t 682 (by decide +kernel) rfl
  | 26, _ => exact wA_t 684 (by decide +kernel) rfl
  | 27, _ => exact wA_t 686 (by decide +kernel) rfl
  | 28, _ => exact wA_t 688 (by decide +kernel) rfl
  | 29, _ => exact wA_t 690 (by decide +kernel) rfl
  | 30, _ => exact wA_t 692 (by decide +kernel) rfl
  | 31, _ => exact wA_t 694 (by decide +kernel) rfl
  | 32, _ => exact wA_t 696 (by decide +kernel) rfl
  | 33, _ => exact wA_t 698 (by decide +kernel) rfl
  | 34, _ => exact wA_t 700 (by decide +kernel) rfl
  | 35, _ => exact wA_t 702 (by decide +kernel) rfl
  | 36, _ => exact wA_t 704 (by decide +kernel) rfl
  | 37, _ => exact wA_t 706 (by decide +kernel) rfl
  | 38, _ => exact wA_t 708 (by decide +kernel) rfl
  | j + 39, h => omega
theorem k_M_7 : Cond.fieldLink R_M 7 R_M "diskThere" "[Z" ∈ wA := wA_t 594 (by decide +kernel) rfl
theorem k_M_13 : Cond.fieldLink R_M 13 R_M "diskValue" "[I" ∈ wA := wA_t 595 (by decide +kernel) rfl
theorem k_M_17 : Cond.fieldLink R_M 17 R_M "diskLsn" "[I" ∈ wA := wA_t 596 (by decide +kernel) rfl
theorem k_M_20 : Cond.fieldLink R_M 20 R_M "there" "[Z" ∈ wA := wA_t 597 (by decide +kernel) rfl
theorem k_M_23 : Cond.fieldLink R_M 23 R_M "value" "[I" ∈ wA := wA_t 598 (by decide +kernel) rfl
theorem k_M_26 : Cond.fieldLink R_M 26 R_M "lsn" "[I" ∈ wA := wA_t 599 (by decide +kernel) rfl
theorem k_M_29 : Cond.fieldLink R_M 29 R_M "inFrame" "[Z" ∈ wA := wA_t 600 (by decide +kernel) rfl
theorem k_M_32 : Cond.fieldLink R_M 32 R_M "dirty" "[Z" ∈ wA := wA_t 601 (by decide +kernel) rfl
theorem k_M_35 : Cond.fieldLink R_M 35 R_M "touched" "[I" ∈ wA := wA_t 602 (by decide +kernel) rfl
theorem k_M_38 : Cond.fieldLink R_M 38 R_M "kind" "[I" ∈ wA := wA_t 607 (by decide +kernel) rfl
theorem k_M_41 : Cond.fieldLink R_M 41 R_M "by" "[I" ∈ wA := wA_t 608 (by decide +kernel) rfl
theorem k_M_44 : Cond.fieldLink R_M 44 R_M "about" "[I" ∈ wA := wA_t 609 (by decide +kernel) rfl
theorem k_M_47 : Cond.fieldLink R_M 47 R_M "of" "[I" ∈ wA := wA_t 610 (by decide +kernel) rfl
theorem k_M_50 : Cond.fieldLink R_M 50 R_M "wasThere" "[Z" ∈ wA := wA_t 611 (by decide +kernel) rfl
theorem k_M_53 : Cond.fieldLink R_M 53 R_M "wasValue" "[I" ∈ wA := wA_t 612 (by decide +kernel) rfl
theorem k_M_56 : Cond.fieldLink R_M 56 R_M "isThere" "[Z" ∈ wA := wA_t 613 (by decide +kernel) rfl
theorem k_M_59 : Cond.fieldLink R_M 59 R_M "isValue" "[I" ∈ wA := wA_t 614 (by decide +kernel) rfl
theorem k_M_62 : Cond.fieldLink R_M 62 R_M "state" "[I" ∈ wA := wA_t 616 (by decide +kernel) rfl
theorem k_M_65 : Cond.fieldLink R_M 65 R_M "parent" "[I" ∈ wA := wA_t 617 (by decide +kernel) rfl
theorem k_M_68 : Cond.fieldLink R_M 68 R_M "began" "[I" ∈ wA := wA_t 618 (by decide +kernel) rfl
theorem k_M_71 : Cond.fieldLink R_M 71 R_M "locks" "[I" ∈ wA := wA_t 619 (by decide +kernel) rfl
theorem k_M_74 : Cond.fieldLink R_M 74 R_M "asks" "[I" ∈ wA := wA_t 620 (by decide +kernel) rfl
theorem k_M_77 : Cond.fieldLink R_M 77 R_M "first" "[I" ∈ wA := wA_t 621 (by decide +kernel) rfl
theorem k_M_80 : Cond.fieldLink R_M 80 R_M "second" "[I" ∈ wA := wA_t 622 (by decide +kernel) rfl
theorem k_M_83 : Cond.fieldLink R_M 83 R_M "item" "[I" ∈ wA := wA_t 624 (by decide +kernel) rfl
theorem k_M_86 : Cond.fieldLink R_M 86 R_M "lacks" "[I" ∈ wA := wA_t 626 (by decide +kernel) rfl
theorem k_M_89 : Cond.fieldLink R_M 89 R_M "lackMode" "[I" ∈ wA := wA_t 627 (by decide +kernel) rfl
theorem k_M_92 : Cond.fieldLink R_M 92 R_M "ahead" "[Z" ∈ wA := wA_t 628 (by decide +kernel) rfl
theorem k_M_95 : Cond.fieldLink R_M 95 R_M "back" "[Z" ∈ wA := wA_t 629 (by decide +kernel) rfl
theorem k_M_98 : Cond.fieldLink R_M 98 R_M "falls" "[Z" ∈ wA := wA_t 630 (by decide +kernel) rfl
theorem k_M_101 : Cond.fieldLink R_M 101 R_M "frames" "I" ∈ wA := wA_t 593 (by decide +kernel) rfl
theorem k_M_105 : Cond.fieldLink R_M 105 R_M "flushed" "I" ∈ wA := wA_t 606 (by decide +kernel) rfl
theorem k_M_108 : Cond.fieldLink R_M 108 R_M "clock" "I" ∈ wA := wA_t 603 (by decide +kernel) rfl
theorem k_M_115 : Cond.fieldLink R_M 115 R_M "base" "I" ∈ wA := wA_t 604 (by decide +kernel) rfl
theorem k_M_118 : Cond.fieldLink R_M 118 R_M "records" "I" ∈ wA := wA_t 605 (by decide +kernel) rfl
theorem k_M_147 : Cond.fieldLink R_M 147 R_M "many" "I" ∈ wA := wA_t 615 (by decide +kernel) rfl
theorem k_M_175 : Cond.fieldLink R_M 175 R_M "wanted" "I" ∈ wA := wA_t 623 (by decide +kernel) rfl
theorem k_M_178 : Cond.fieldLink R_M 178 R_M "mode" "I" ∈ wA := wA_t 625 (by decide +kernel) rfl
theorem k_M_216 : Cond.fieldLink R_M 216 R_M "latest" "I" ∈ wA := wA_t 631 (by decide +kernel) rfl
theorem hd_M_writes : y_M_writes.cls = R_M ∧ y_M_writes.cls ≠ "java/lang/invoke/MethodHandle" ∧ y_M_writes.cls ≠ "java/lang/invoke/VarHandle" ∧ (parseMethodDescriptor y_M_writes.desc).map (fun d => d.parameters.length) = some 1 := by decide +kernel
theorem g_M_111 {c0 : Cond} : GoodIn (c0 :: wA) (wsV R_M 111 R_M y_M_writes (.code y_M_writes b_M_writes 3 none :: wA)) := gw_V (wA_t 842 (by decide +kernel) rfl) (wA_t 844 (by decide +kernel) rfl) (wA_p (y := y_M_writes) (n := 39) (by decide +kernel)) (wA_t 9 (by decide +kernel) rfl) (wA_t 845 (by decide +kernel) rfl)
theorem hd_M_append : y_M_append.cls = R_M ∧ y_M_append.cls ≠ "java/lang/invoke/MethodHandle" ∧ y_M_append.cls ≠ "java/lang/invoke/VarHandle" ∧ (parseMethodDescriptor y_M_append.desc).map (fun d => d.parameters.length) = some 3 := by decide +kernel
theorem g_M_121 {c0 : Cond} : GoodIn (c0 :: wA) (wsV R_M 121 R_M y_M_append (.code y_M_append b_M_append 5 (some .int) :: wA)) := gw_V (wA_t 755 (by decide +kernel) rfl) (wA_t 757 (by decide +kernel) rfl) (wA_p (y := y_M_append) (n := 39) (by decide +kernel)) (wA_t 9 (by decide +kernel) rfl) (wA_t 758 (by decide +kernel) rfl)
theorem hd_M_touch : y_M_touch.cls = R_M ∧ y_M_touch.cls ≠ "java/lang/invoke/MethodHandle" ∧ y_M_touch.cls ≠ "java/lang/invoke/VarHandle" ∧ (parseMethodDescriptor y_M_touch.desc).map (fun d => d.parameters.length) = some 1 := by decide +kernel
theorem g_M_125 {c0 : Cond} : GoodIn (c0 :: wA) (wsV R_M 125 R_M y_M_touch (.code y_M_touch b_M_touch 5 none :: wA)) := gw_V (wA_t 838 (by decide +kernel) rfl) (wA_t 840 (by decide +kernel) rfl) (wA_p (y := y_M_touch) (n := 39) (by decide +kernel)) (wA_t 9 (by decide +kernel) rfl) (wA_t 841 (by decide +kernel) rfl)
theorem hd_M_last : y_M_last.cls = R_M ∧ y_M_last.cls ≠ "java/lang/invoke/MethodHandle" ∧ y_M_last.cls ≠ "java/lang/invoke/VarHandle" ∧ (parseMethodDescriptor y_M_last.desc).map (fun d => d.parameters.length) = some 0 := by decide +kernel
theorem g_M_128 {c0 : Cond} : GoodIn (c0 :: wA) (wsV R_M 128 R_M y_M_last (.code y_M_last b_M_last 1 (some .int) :: wA)) := gw_V (wA_t 759 (by decide +kernel) rfl) (wA_t 761 (by decide +kernel) rfl) (wA_p (y := y_M_last) (n := 39) (by decide +kernel)) (wA_t 9 (by decide +kernel) rfl) (wA_t 762 (by decide +kernel) rfl)
theorem hd_M_become : y_M_become.cls = R_M ∧ y_M_become.cls ≠ "java/lang/invoke/MethodHandle" ∧ y_M_become.cls ≠ "java/lang/invoke/VarHandle" ∧ (parseMethodDescriptor y_M_become.desc).map (fun d => d.parameters.length) = some 4 := by decide +kernel
theorem g_M_132 {c0 : Cond} : GoodIn (c0 :: wA) (wsV R_M 132 R_M y_M_become (.code y_M_become b_M_become 5 none :: wA)) := gw_V (wA_t 846 (by decide +kernel) rfl) (wA_t 848 (by decide +kernel) rfl) (wA_p (y := y_M_become) (n := 39) (by decide +kernel)) (wA_t 9 (by decide +kernel) rfl) (wA_t 849 (by decide +kernel) rfl)
theorem hd_M_top : y_M_top.cls = R_M ∧ y_M_top.cls ≠ "java/lang/invoke/MethodHandle" ∧ y_M_top.cls ≠ "java/lang/invoke/VarHandle" ∧ (parseMethodDescriptor y_M_top.desc).map (fun d => d.parameters.length) = some 1 := by decide +kernel
theorem g_M_136 {c0 : Cond} : GoodIn (c0 :: wA) (wsV R_M 136 R_M y_M_top (.code y_M_top b_M_top 4 (some .int) :: wA)) := gw_V (wA_t 739 (by decide +kernel) rfl) (wA_t 741 (by decide +kernel) rfl) (wA_p (y := y_M_top) (n := 39) (by decide +kernel)) (wA_t 9 (by decide +kernel) rfl) (wA_t 742 (by decide +kernel) rfl)
theorem hd_M_undone : y_M_undone.cls = R_M ∧ y_M_undone.cls ≠ "java/lang/invoke/MethodHandle" ∧ y_M_undone.cls ≠ "java/lang/invoke/VarHandle" ∧ (parseMethodDescriptor y_M_undone.desc).map (fun d => d.parameters.length) = some 1 := by decide +kernel
theorem g_M_140 {c0 : Cond} : GoodIn (c0 :: wA) (wsV R_M 140 R_M y_M_undone (.code y_M_undone b_M_undone 4 (some .boolean) :: wA)) := gw_V (wA_t 743 (by decide +kernel) rfl) (wA_t 745 (by decide +kernel) rfl) (wA_p (y := y_M_undone) (n := 39) (by decide +kernel)) (wA_t 9 (by decide +kernel) rfl) (wA_t 746 (by decide +kernel) rfl)
theorem hd_M_open : y_M_open.cls = R_M ∧ y_M_open.cls ≠ "java/lang/invoke/MethodHandle" ∧ y_M_open.cls ≠ "java/lang/invoke/VarHandle" ∧ (parseMethodDescriptor y_M_open.desc).map (fun d => d.parameters.length) = some 1 := by decide +kernel
theorem g_M_144 {c0 : Cond} : GoodIn (c0 :: wA) (wsV R_M 144 R_M y_M_open (.code y_M_open b_M_open 2 (some .boolean) :: wA)) := gw_V (wA_t 735 (by decide +kernel) rfl) (wA_t 737 (by decide +kernel) rfl) (wA_p (y := y_M_open) (n := 39) (by decide +kernel)) (wA_t 9 (by decide +kernel) rfl) (wA_t 738 (by decide +kernel) rfl)
theorem hd_M_live : y_M_live.cls = R_M ∧ y_M_live.cls ≠ "java/lang/invoke/MethodHandle" ∧ y_M_live.cls ≠ "java/lang/invoke/VarHandle" ∧ (parseMethodDescriptor y_M_live.desc).map (fun d => d.parameters.length) = some 1 := by decide +kernel
theorem g_M_150 {c0 : Cond} : GoodIn (c0 :: wA) (wsV R_M 150 R_M y_M_live (.code y_M_live b_M_live 2 (some .boolean) :: wA)) := gw_V (wA_t 751 (by decide +kernel) rfl) (wA_t 753 (by decide +kernel) rfl) (wA_p (y := y_M_live) (n := 39) (by decide +kernel)) (wA_t 9 (by decide +kernel) rfl) (wA_t 754 (by decide +kernel) rfl)
theorem hd_M_opens : y_M_opens.cls = R_M ∧ y_M_opens.cls ≠ "java/lang/invoke/MethodHandle" ∧ y_M_opens.cls ≠ "java/lang/invoke/VarHandle" ∧ (parseMethodDescriptor y_M_opens.desc).map (fun d => d.parameters.length) = some 0 := by decide +kernel
theorem g_M_153 {c0 : Cond} : GoodIn (c0 :: wA) (wsV R_M 153 R_M y_M_opens (.code y_M_opens b_M_opens 3 (some .int) :: wA)) := gw_V (wA_t 731 (by decide +kernel) rfl) (wA_t 733 (by decide +kernel) rfl) (wA_p (y := y_M_opens) (n := 39) (by decide +kernel)) (wA_t 9 (by decide +kernel) rfl) (wA_t 734 (by decide +kernel) rfl)
theorem hd_M_lives : y_M_lives.cls = R_M ∧ y_M_lives.cls ≠ "java/lang/invoke/MethodHandle" ∧ y_M_lives.cls ≠ "java/lang/invoke/VarHandle" ∧ (parseMethodDescriptor y_M_lives.desc).map (fun d => d.parameters.length) = some 0 := by decide +kernel
theorem g_M_156 {c0 : Cond} : GoodIn (c0 :: wA) (wsV R_M 156 R_M y_M_lives (.code y_M_lives b_M_lives 3 (some .int) :: wA)) := gw_V (wA_t 747 (by decide +kernel) rfl) (wA_t 749 (by decide +kernel) rfl) (wA_p (y := y_M_lives) (n := 39) (by decide +kernel)) (wA_t 9 (by decide +kernel) rfl) (wA_t 750 (by decide +kernel) rfl)
theorem hd_M_is : y_M_is.cls = R_M ∧ y_M_is.cls ≠ "java/lang/invoke/MethodHandle" ∧ y_M_is.cls ≠ "java/lang/invoke/VarHandle" ∧ (parseMethodDescriptor y_M_is.desc).map (fun d => d.parameters.length) = some 1 := by decide +kernel
theorem g_M_159 {c0 : Cond} : GoodIn (c0 :: wA) (wsV R_M 159 R_M y_M_is (.code y_M_is b_M_is 2 (some .boolean) :: wA)) := gw_V (wA_t 719 (by decide +kernel) rfl) (wA_t 721 (by decide +kernel) rfl) (wA_p (y := y_M_is) (n := 39) (by decide +kernel)) (wA_t 9 (by decide +kernel) rfl) (wA_t 722 (by decide +kernel) rfl)
theorem hd_M_active : y_M_active.cls = R_M ∧ y_M_active.cls ≠ "java/lang/invoke/MethodHandle" ∧ y_M_active.cls ≠ "java/lang/invoke/VarHandle" ∧ (parseMethodDescriptor y_M_active.desc).map (fun d => d.parameters.length) = some 1 := by decide +kernel
theorem g_M_162 {c0 : Cond} : GoodIn (c0 :: wA) (wsV R_M 162 R_M y_M_active (.code y_M_active b_M_active 2 (some .boolean) :: wA)) := gw_V (wA_t 715 (by decide +kernel) rfl) (wA_t 717 (by decide +kernel) rfl) (wA_p (y := y_M_active) (n := 39) (by decide +kernel)) (wA_t 9 (by decide +kernel) rfl) (wA_t 718 (by decide +kernel) rfl)
theorem hd_M_depth : y_M_depth.cls = R_M ∧ y_M_depth.cls ≠ "java/lang/invoke/MethodHandle" ∧ y_M_depth.cls ≠ "java/lang/invoke/VarHandle" ∧ (parseMethodDescriptor y_M_depth.desc).map (fun d => d.parameters.length) = some 1 := by decide +kernel
theorem g_M_165 {c0 : Cond} : GoodIn (c0 :: wA) (wsV R_M 165 R_M y_M_depth (.code y_M_depth b_M_depth 5 (some .int) :: wA)) := gw_V (wA_t 723 (by decide +kernel) rfl) (wA_t 725 (by decide +kernel) rfl) (wA_p (y := y_M_depth) (n := 39) (by decide +kernel)) (wA_t 9 (by decide +kernel) rfl) (wA_t 726 (by decide +kernel) rfl)
theorem hd_M_full : y_M_full.cls = R_M ∧ y_M_full.cls ≠ "java/lang/invoke/MethodHandle" ∧ y_M_full.cls ≠ "java/lang/invoke/VarHandle" ∧ (parseMethodDescriptor y_M_full.desc).map (fun d => d.parameters.length) = some 0 := by decide +kernel
theorem g_M_168 {c0 : Cond} : GoodIn (c0 :: wA) (wsV R_M 168 R_M y_M_full (.code y_M_full b_M_full 1 (some .boolean) :: wA)) := gw_V (wA_t 727 (by decide +kernel) rfl) (wA_t 729 (by decide +kernel) rfl) (wA_p (y := y_M_full) (n := 39) (by decide +kernel)) (wA_t 9 (by decide +kernel) rfl) (wA_t 730 (by decide +kernel) rfl)
theorem hd_M_isThereNow : y_M_isThereNow.cls = R_M ∧ y_M_isThereNow.cls ≠ "java/lang/invoke/MethodHandle" ∧ y_M_isThereNow.cls ≠ "java/lang/invoke/VarHandle" ∧ (parseMethodDescriptor y_M_isThereNow.desc).map (fun d => d.parameters.length) = some 1 := by decide +kernel
theorem g_M_172 {c0 : Cond} : GoodIn (c0 :: wA) (wsV R_M 172 R_M y_M_isThereNow (.code y_M_isThereNow b_M_isThereNow 2 (some .boolean) :: wA)) := gw_V (wA_t 786 (by decide +kernel) rfl) (wA_t 788 (by decide +kernel) rfl) (wA_p (y := y_M_isThereNow) (n := 39) (by decide +kernel)) (wA_t 9 (by decide +kernel) rfl) (wA_t 789 (by decide +kernel) rfl)
theorem hd_M_want : y_M_want.cls = R_M ∧ y_M_want.cls ≠ "java/lang/invoke/MethodHandle" ∧ y_M_want.cls ≠ "java/lang/invoke/VarHandle" ∧ (parseMethodDescriptor y_M_want.desc).map (fun d => d.parameters.length) = some 1 := by decide +kernel
theorem g_M_181 {c0 : Cond} : GoodIn (c0 :: wA) (wsV R_M 181 R_M y_M_want (.code y_M_want b_M_want 2 none :: wA)) := gw_V (wA_t 790 (by decide +kernel) rfl) (wA_t 792 (by decide +kernel) rfl) (wA_p (y := y_M_want) (n := 39) (by decide +kernel)) (wA_t 9 (by decide +kernel) rfl) (wA_t 793 (by decide +kernel) rfl)
theorem hd_M_next : y_M_next.cls = R_M ∧ y_M_next.cls ≠ "java/lang/invoke/MethodHandle" ∧ y_M_next.cls ≠ "java/lang/invoke/VarHandle" ∧ (parseMethodDescriptor y_M_next.desc).map (fun d => d.parameters.length) = some 1 := by decide +kernel
theorem g_M_184 {c0 : Cond} : GoodIn (c0 :: wA) (wsV R_M 184 R_M y_M_next (.code y_M_next b_M_next 3 (some .int) :: wA)) := gw_V (wA_t 794 (by decide +kernel) rfl) (wA_t 796 (by decide +kernel) rfl) (wA_p (y := y_M_next) (n := 39) (by decide +kernel)) (wA_t 9 (by decide +kernel) rfl) (wA_t 797 (by decide +kernel) rfl)
theorem hd_M_above : y_M_above.cls = R_M ∧ y_M_above.cls ≠ "java/lang/invoke/MethodHandle" ∧ y_M_above.cls ≠ "java/lang/invoke/VarHandle" ∧ (parseMethodDescriptor y_M_above.desc).map (fun d => d.parameters.length) = some 2 := by decide +kernel
theorem g_M_187 {c0 : Cond} : GoodIn (c0 :: wA) (wsV R_M 187 R_M y_M_above (.code y_M_above b_M_above 6 (some .boolean) :: wA)) := gw_V (wA_t 806 (by decide +kernel) rfl) (wA_t 808 (by decide +kernel) rfl) (wA_p (y := y_M_above) (n := 39) (by decide +kernel)) (wA_t 9 (by decide +kernel) rfl) (wA_t 809 (by decide +kernel) rfl)
theorem hd_M_bars : y_M_bars.cls = R_M ∧ y_M_bars.cls ≠ "java/lang/invoke/MethodHandle" ∧ y_M_bars.cls ≠ "java/lang/invoke/VarHandle" ∧ (parseMethodDescriptor y_M_bars.desc).map (fun d => d.parameters.length) = some 4 := by decide +kernel
theorem g_M_191 {c0 : Cond} : GoodIn (c0 :: wA) (wsV R_M 191 R_M y_M_bars (.code y_M_bars b_M_bars 6 (some .boolean) :: wA)) := gw_V (wA_t 802 (by decide +kernel) rfl) (wA_t 804 (by decide +kernel) rfl) (wA_p (y := y_M_bars) (n := 39) (by decide +kernel)) (wA_t 9 (by decide +kernel) rfl) (wA_t 805 (by decide +kernel) rfl)
theorem hd_M_needs : y_M_needs.cls = R_M ∧ y_M_needs.cls ≠ "java/lang/invoke/MethodHandle" ∧ y_M_needs.cls ≠ "java/lang/invoke/VarHandle" ∧ (parseMethodDescriptor y_M_needs.desc).map (fun d => d.parameters.length) = some 3 := by decide +kernel
theorem g_M_195 {c0 : Cond} : GoodIn (c0 :: wA) (wsV R_M 195 R_M y_M_needs (.code y_M_needs b_M_needs 6 none :: wA)) := gw_V (wA_t 782 (by decide +kernel) rfl) (wA_t 784 (by decide +kernel) rfl) (wA_p (y := y_M_needs) (n := 39) (by decide +kernel)) (wA_t 9 (by decide +kernel) rfl) (wA_t 785 (by decide +kernel) rfl)
theorem hd_M_may : y_M_may.cls = R_M ∧ y_M_may.cls ≠ "java/lang/invoke/MethodHandle" ∧ y_M_may.cls ≠ "java/lang/invoke/VarHandle" ∧ (parseMethodDescriptor y_M_may.desc).map (fun d => d.parameters.length) = some 3 := by decide +kernel
theorem g_M_199 {c0 : Cond} : GoodIn (c0 :: wA) (wsV R_M 199 R_M y_M_may (.code y_M_may b_M_may 6 (some .boolean) :: wA)) := gw_V (wA_t 798 (by decide +kernel) rfl) (wA_t 800 (by decide +kernel) rfl) (wA_p (y := y_M_may) (n := 39) (by decide +kernel)) (wA_t 9 (by decide +kernel) rfl) (wA_t 801 (by decide +kernel) rfl)
theorem hd_M_look : y_M_look.cls = R_M ∧ y_M_look.cls ≠ "java/lang/invoke/MethodHandle" ∧ y_M_look.cls ≠ "java/lang/invoke/VarHandle" ∧ (parseMethodDescriptor y_M_look.desc).map (fun d => d.parameters.length) = some 0 := by decide +kernel
theorem g_M_203 {c0 : Cond} : GoodIn (c0 :: wA) (wsV R_M 203 R_M y_M_look (.code y_M_look b_M_look 4 none :: wA)) := gw_V (wA_t 818 (by decide +kernel) rfl) (wA_t 820 (by decide +kernel) rfl) (wA_p (y := y_M_look) (n := 39) (by decide +kernel)) (wA_t 9 (by decide +kernel) rfl) (wA_t 821 (by decide +kernel) rfl)
theorem hd_M_leads : y_M_leads.cls = R_M ∧ y_M_leads.cls ≠ "java/lang/invoke/MethodHandle" ∧ y_M_leads.cls ≠ "java/lang/invoke/VarHandle" ∧ (parseMethodDescriptor y_M_leads.desc).map (fun d => d.parameters.length) = some 2 := by decide +kernel
theorem g_M_206 {c0 : Cond} : GoodIn (c0 :: wA) (wsV R_M 206 R_M y_M_leads (.code y_M_leads b_M_leads 3 (some .boolean) :: wA)) := gw_V (wA_t 822 (by decide +kernel) rfl) (wA_t 824 (by decide +kernel) rfl) (wA_p (y := y_M_leads) (n := 39) (by decide +kernel)) (wA_t 9 (by decide +kernel) rfl) (wA_t 825 (by decide +kernel) rfl)
theorem hd_M_stays : y_M_stays.cls = R_M ∧ y_M_stays.cls ≠ "java/lang/invoke/MethodHandle" ∧ y_M_stays.cls ≠ "java/lang/invoke/VarHandle" ∧ (parseMethodDescriptor y_M_stays.desc).map (fun d => d.parameters.length) = some 4 := by decide +kernel
theorem g_M_209 {c0 : Cond} : GoodIn (c0 :: wA) (wsV R_M 209 R_M y_M_stays (.code y_M_stays b_M_stays 7 (some .int) :: wA)) := gw_V (wA_t 810 (by decide +kernel) rfl) (wA_t 812 (by decide +kernel) rfl) (wA_p (y := y_M_stays) (n := 39) (by decide +kernel)) (wA_t 9 (by decide +kernel) rfl) (wA_t 813 (by decide +kernel) rfl)
theorem hd_M_valueNow : y_M_valueNow.cls = R_M ∧ y_M_valueNow.cls ≠ "java/lang/invoke/MethodHandle" ∧ y_M_valueNow.cls ≠ "java/lang/invoke/VarHandle" ∧ (parseMethodDescriptor y_M_valueNow.desc).map (fun d => d.parameters.length) = some 1 := by decide +kernel
theorem g_M_213 {c0 : Cond} : GoodIn (c0 :: wA) (wsV R_M 213 R_M y_M_valueNow (.code y_M_valueNow b_M_valueNow 2 (some .int) :: wA)) := gw_V (wA_t 854 (by decide +kernel) rfl) (wA_t 856 (by decide +kernel) rfl) (wA_p (y := y_M_valueNow) (n := 39) (by decide +kernel)) (wA_t 9 (by decide +kernel) rfl) (wA_t 857 (by decide +kernel) rfl)
theorem hd_M_scanned : y_M_scanned.cls = R_M ∧ y_M_scanned.cls ≠ "java/lang/invoke/MethodHandle" ∧ y_M_scanned.cls ≠ "java/lang/invoke/VarHandle" ∧ (parseMethodDescriptor y_M_scanned.desc).map (fun d => d.parameters.length) = some 2 := by decide +kernel
theorem g_M_219 {c0 : Cond} : GoodIn (c0 :: wA) (wsV R_M 219 R_M y_M_scanned (.code y_M_scanned b_M_scanned 5 (some .int) :: wA)) := gw_V (wA_t 858 (by decide +kernel) rfl) (wA_t 860 (by decide +kernel) rfl) (wA_p (y := y_M_scanned) (n := 39) (by decide +kernel)) (wA_t 9 (by decide +kernel) rfl) (wA_t 861 (by decide +kernel) rfl)
theorem hd_M_update : y_M_update.cls = R_M ∧ y_M_update.cls ≠ "java/lang/invoke/MethodHandle" ∧ y_M_update.cls ≠ "java/lang/invoke/VarHandle" ∧ (parseMethodDescriptor y_M_update.desc).map (fun d => d.parameters.length) = some 4 := by decide +kernel
theorem g_M_223 {c0 : Cond} : GoodIn (c0 :: wA) (wsV R_M 223 R_M y_M_update (.code y_M_update b_M_update 6 none :: wA)) := gw_V (wA_t 862 (by decide +kernel) rfl) (wA_t 864 (by decide +kernel) rfl) (wA_p (y := y_M_update) (n := 39) (by decide +kernel)) (wA_t 9 (by decide +kernel) rfl) (wA_t 865 (by decide +kernel) rfl)
theorem hd_M_victim : y_M_victim.cls = R_M ∧ y_M_victim.cls ≠ "java/lang/invoke/MethodHandle" ∧ y_M_victim.cls ≠ "java/lang/invoke/VarHandle" ∧ (parseMethodDescriptor y_M_victim.desc).map (fun d => d.parameters.length) = some 1 := by decide +kernel
theorem g_M_227 {c0 : Cond} : GoodIn (c0 :: wA) (wsV R_M 227 R_M y_M_victim (.code y_M_victim b_M_victim 8 (some .int) :: wA)) := gw_V (wA_t 814 (by decide +kernel) rfl) (wA_t 816 (by decide +kernel) rfl) (wA_p (y := y_M_victim) (n := 39) (by decide +kernel)) (wA_t 9 (by decide +kernel) rfl) (wA_t 817 (by decide +kernel) rfl)
theorem hd_M_aborts : y_M_aborts.cls = R_M ∧ y_M_aborts.cls ≠ "java/lang/invoke/MethodHandle" ∧ y_M_aborts.cls ≠ "java/lang/invoke/VarHandle" ∧ (parseMethodDescriptor y_M_aborts.desc).map (fun d => d.parameters.length) = some 1 := by decide +kernel
theorem g_M_230 {c0 : Cond} : GoodIn (c0 :: wA) (wsV R_M 230 R_M y_M_aborts (.code y_M_aborts b_M_aborts 5 (some .int) :: wA)) := gw_V (wA_t 826 (by decide +kernel) rfl) (wA_t 828 (by decide +kernel) rfl) (wA_p (y := y_M_aborts) (n := 39) (by decide +kernel)) (wA_t 9 (by decide +kernel) rfl) (wA_t 829 (by decide +kernel) rfl)
theorem hd_M_busy : y_M_busy.cls = R_M ∧ y_M_busy.cls ≠ "java/lang/invoke/MethodHandle" ∧ y_M_busy.cls ≠ "java/lang/invoke/VarHandle" ∧ (parseMethodDescriptor y_M_busy.desc).map (fun d => d.parameters.length) = some 1 := by decide +kernel
theorem g_M_233 {c0 : Cond} : GoodIn (c0 :: wA) (wsV R_M 233 R_M y_M_busy (.code y_M_busy b_M_busy 4 (some .boolean) :: wA)) := gw_V (wA_t 774 (by decide +kernel) rfl) (wA_t 776 (by decide +kernel) rfl) (wA_p (y := y_M_busy) (n := 39) (by decide +kernel)) (wA_t 9 (by decide +kernel) rfl) (wA_t 777 (by decide +kernel) rfl)
theorem hd_M_request : y_M_request.cls = R_M ∧ y_M_request.cls ≠ "java/lang/invoke/MethodHandle" ∧ y_M_request.cls ≠ "java/lang/invoke/VarHandle" ∧ (parseMethodDescriptor y_M_request.desc).map (fun d => d.parameters.length) = some 4 := by decide +kernel
theorem g_M_236 {c0 : Cond} : GoodIn (c0 :: wA) (wsV R_M 236 R_M y_M_request (.code y_M_request b_M_request 7 (some .int) :: wA)) := gw_V (wA_t 778 (by decide +kernel) rfl) (wA_t 780 (by decide +kernel) rfl) (wA_p (y := y_M_request) (n := 39) (by decide +kernel)) (wA_t 9 (by decide +kernel) rfl) (wA_t 781 (by decide +kernel) rfl)
theorem hd_M_isKey : y_M_isKey.cls = R_M ∧ y_M_isKey.cls ≠ "java/lang/invoke/MethodHandle" ∧ y_M_isKey.cls ≠ "java/lang/invoke/VarHandle" ∧ (parseMethodDescriptor y_M_isKey.desc).map (fun d => d.parameters.length) = some 1 := by decide +kernel
theorem g_M_239 {c0 : Cond} : GoodIn (c0 :: wA) (wsS R_M 239 y_M_isKey (.code y_M_isKey b_M_isKey 1 (some .boolean) :: wA)) := gw_S (wA_t 767 (by decide +kernel) rfl) (wA_t 768 (by decide +kernel) rfl) (wA_t 9 (by decide +kernel) rfl) (wA_t 769 (by decide +kernel) rfl)
theorem hd_M_ask : y_M_ask.cls = R_M ∧ y_M_ask.cls ≠ "java/lang/invoke/MethodHandle" ∧ y_M_ask.cls ≠ "java/lang/invoke/VarHandle" ∧ (parseMethodDescriptor y_M_ask.desc).map (fun d => d.parameters.length) = some 4 := by decide +kernel
theorem g_M_242 {c0 : Cond} : GoodIn (c0 :: wA) (wsV R_M 242 R_M y_M_ask (.code y_M_ask b_M_ask 5 (some .int) :: wA)) := gw_V (wA_t 770 (by decide +kernel) rfl) (wA_t 772 (by decide +kernel) rfl) (wA_p (y := y_M_ask) (n := 39) (by decide +kernel)) (wA_t 9 (by decide +kernel) rfl) (wA_t 773 (by decide +kernel) rfl)
theorem hd_M_unlock : y_M_unlock.cls = R_M ∧ y_M_unlock.cls ≠ "java/lang/invoke/MethodHandle" ∧ y_M_unlock.cls ≠ "java/lang/invoke/VarHandle" ∧ (parseMethodDescriptor y_M_unlock.desc).map (fun d => d.parameters.length) = some 1 := by decide +kernel
theorem g_M_245 {c0 : Cond} : GoodIn (c0 :: wA) (wsV R_M 245 R_M y_M_unlock (.code y_M_unlock b_M_unlock 3 none :: wA)) := gw_V (wA_t 850 (by decide +kernel) rfl) (wA_t 852 (by decide +kernel) rfl) (wA_p (y := y_M_unlock) (n := 39) (by decide +kernel)) (wA_t 9 (by decide +kernel) rfl) (wA_t 853 (by decide +kernel) rfl)
theorem hd_M_undo : y_M_undo.cls = R_M ∧ y_M_undo.cls ≠ "java/lang/invoke/MethodHandle" ∧ y_M_undo.cls ≠ "java/lang/invoke/VarHandle" ∧ (parseMethodDescriptor y_M_undo.desc).map (fun d => d.parameters.length) = some 2 := by decide +kernel
theorem g_M_248 {c0 : Cond} : GoodIn (c0 :: wA) (wsV R_M 248 R_M y_M_undo (.code y_M_undo b_M_undo 4 none :: wA)) := gw_V (wA_t 834 (by decide +kernel) rfl) (wA_t 836 (by decide +kernel) rfl) (wA_p (y := y_M_undo) (n := 39) (by decide +kernel)) (wA_t 9 (by decide +kernel) rfl) (wA_t 837 (by decide +kernel) rfl)
theorem hd_M_undoes : y_M_undoes.cls = R_M ∧ y_M_undoes.cls ≠ "java/lang/invoke/MethodHandle" ∧ y_M_undoes.cls ≠ "java/lang/invoke/VarHandle" ∧ (parseMethodDescriptor y_M_undoes.desc).map (fun d => d.parameters.length) = some 2 := by decide +kernel
theorem g_M_252 {c0 : Cond} : GoodIn (c0 :: wA) (wsV R_M 252 R_M y_M_undoes (.code y_M_undoes b_M_undoes 5 (some .int) :: wA)) := gw_V (wA_t 830 (by decide +kernel) rfl) (wA_t 832 (by decide +kernel) rfl) (wA_p (y := y_M_undoes) (n := 39) (by decide +kernel)) (wA_t 9 (by decide +kernel) rfl) (wA_t 833 (by decide +kernel) rfl)
theorem hd_M_isPage : y_M_isPage.cls = R_M ∧ y_M_isPage.cls ≠ "java/lang/invoke/MethodHandle" ∧ y_M_isPage.cls ≠ "java/lang/invoke/VarHandle" ∧ (parseMethodDescriptor y_M_isPage.desc).map (fun d => d.parameters.length) = some 1 := by decide +kernel
theorem g_M_255 {c0 : Cond} : GoodIn (c0 :: wA) (wsS R_M 255 y_M_isPage (.code y_M_isPage b_M_isPage 1 (some .boolean) :: wA)) := gw_S (wA_t 906 (by decide +kernel) rfl) (wA_t 907 (by decide +kernel) rfl) (wA_t 9 (by decide +kernel) rfl) (wA_t 908 (by decide +kernel) rfl)
theorem hd_M_write : y_M_write.cls = R_M ∧ y_M_write.cls ≠ "java/lang/invoke/MethodHandle" ∧ y_M_write.cls ≠ "java/lang/invoke/VarHandle" ∧ (parseMethodDescriptor y_M_write.desc).map (fun d => d.parameters.length) = some 1 := by decide +kernel
theorem g_M_258 {c0 : Cond} : GoodIn (c0 :: wA) (wsV R_M 258 R_M y_M_write (.code y_M_write b_M_write 2 (some .boolean) :: wA)) := gw_V (wA_t 913 (by decide +kernel) rfl) (wA_t 903 (by decide +kernel) rfl) (wA_t 904 (by decide +kernel) rfl) (wA_t 9 (by decide +kernel) rfl) (wA_t 905 (by decide +kernel) rfl)
theorem hd_M_committed : y_M_committed.cls = R_M ∧ y_M_committed.cls ≠ "java/lang/invoke/MethodHandle" ∧ y_M_committed.cls ≠ "java/lang/invoke/VarHandle" ∧ (parseMethodDescriptor y_M_committed.desc).map (fun d => d.parameters.length) = some 1 := by decide +kernel
theorem g_M_261 {c0 : Cond} : GoodIn (c0 :: wA) (wsV R_M 261 R_M y_M_committed (.code y_M_committed b_M_committed 4 (some .boolean) :: wA)) := gw_V (wA_t 918 (by decide +kernel) rfl) (wA_t 920 (by decide +kernel) rfl) (wA_p (y := y_M_committed) (n := 39) (by decide +kernel)) (wA_t 9 (by decide +kernel) rfl) (wA_t 921 (by decide +kernel) rfl)
theorem hd_M_lsnNow : y_M_lsnNow.cls = R_M ∧ y_M_lsnNow.cls ≠ "java/lang/invoke/MethodHandle" ∧ y_M_lsnNow.cls ≠ "java/lang/invoke/VarHandle" ∧ (parseMethodDescriptor y_M_lsnNow.desc).map (fun d => d.parameters.length) = some 1 := by decide +kernel
theorem g_M_264 {c0 : Cond} : GoodIn (c0 :: wA) (wsV R_M 264 R_M y_M_lsnNow (.code y_M_lsnNow b_M_lsnNow 2 (some .int) :: wA)) := gw_V (wA_t 958 (by decide +kernel) rfl) (wA_t 960 (by decide +kernel) rfl) (wA_p (y := y_M_lsnNow) (n := 39) (by decide +kernel)) (wA_t 9 (by decide +kernel) rfl) (wA_t 961 (by decide +kernel) rfl)
abbrev ws_M_init : List Cond := .code y_M_init b_M_init 2 none :: wA
abbrev rm_M_init : Room := { frames := 1, cells := 0, slots := 0, locals := 21 }
abbrev ws_M_isKey : List Cond := .code y_M_isKey b_M_isKey 1 (some .boolean) :: wA
abbrev rm_M_isKey : Room := { frames := 0, cells := 0, slots := 0, locals := 0 }
abbrev ws_M_isPage : List Cond := .code y_M_isPage b_M_isPage 1 (some .boolean) :: wA
abbrev rm_M_isPage : Room := { frames := 0, cells := 0, slots := 0, locals := 0 }
abbrev ws_M_isThereNow : List Cond := .code y_M_isThereNow b_M_isThereNow 2 (some .boolean) :: wA
abbrev rm_M_isThereNow : Room := { frames := 0, cells := 0, slots := 0, locals := 0 }
abbrev ws_M_valueNow : List Cond := .code y_M_valueNow b_M_valueNow 2 (some .int) :: wA
abbrev rm_M_valueNow : Room := { frames := 0, cells := 0, slots := 0, locals := 0 }
abbrev ws_M_lsnNow : List Cond := .code y_M_lsnNow b_M_lsnNow 2 (some .int) :: wA
abbrev rm_M_lsnNow : Room := { frames := 0, cells := 0, slots := 0, locals := 0 }
abbrev ws_M_writes : List Cond := .code y_M_writes b_M_writes 3 none :: wA
abbrev rm_M_writes : Room := { frames := 0, cells := 0, slots := 0, locals := 0 }
abbrev ws_M_touch : List Cond := .code y_M_touch b_M_touch 5 none :: wA
abbrev rm_M_touch : Room := { frames := 1, cells := 0, slots := 0, locals := 22 }
abbrev ws_M_become : List Cond := .code y_M_become b_M_become 5 none :: wA
abbrev rm_M_become : Room := { frames := 0, cells := 0, slots := 0, locals := 0 }
abbrev ws_M_last : List Cond := .code y_M_last b_M_last 1 (some .int) :: wA
abbrev rm_M_last : Room := { frames := 0, cells := 0, slots := 0, locals := 0 }
abbrev ws_M_append : List Cond := .code y_M_append b_M_append 5 (some .int) :: wA
abbrev rm_M_append : Room := { frames := 0, cells := 0, slots := 0, locals := 0 }
abbrev ws_M_update : List Cond := .code y_M_update b_M_update 6 none :: wA
abbrev rm_M_update : Room := { frames := 2, cells := 0, slots := 0, locals := 46 }
abbrev ws_M_undo : List Cond := .code y_M_undo b_M_undo 4 none :: wA
abbrev rm_M_undo : Room := { frames := 2, cells := 0, slots := 0, locals := 46 }
abbrev ws_M_undone : List Cond := .code y_M_undone b_M_undone 4 (some .boolean) :: wA
abbrev rm_M_undone : Room := { frames := 0, cells := 0, slots := 0, locals := 0 }
abbrev ws_M_top : List Cond := .code y_M_top b_M_top 4 (some .int) :: wA
abbrev rm_M_top : Room := { frames := 0, cells := 0, slots := 0, locals := 0 }
abbrev ws_M_open : List Cond := .code y_M_open b_M_open 2 (some .boolean) :: wA
abbrev rm_M_open : Room := { frames := 1, cells := 0, slots := 0, locals := 23 }
abbrev ws_M_opens : List Cond := .code y_M_opens b_M_opens 3 (some .int) :: wA
abbrev rm_M_opens : Room := { frames := 2, cells := 0, slots := 0, locals := 44 }
abbrev ws_M_live : List Cond := .code y_M_live b_M_live 2 (some .boolean) :: wA
abbrev rm_M_live : Room := { frames := 0, cells := 0, slots := 0, locals := 0 }
abbrev ws_M_lives : List Cond := .code y_M_lives b_M_lives 3 (some .int) :: wA
abbrev rm_M_lives : Room := { frames := 1, cells := 0, slots := 0, locals := 21 }
abbrev ws_M_full : List Cond := .code y_M_full b_M_full 1 (some .boolean) :: wA
abbrev rm_M_full : Room := { frames := 3, cells := 0, slots := 0, locals := 66 }
abbrev ws_M_is : List Cond := .code y_M_is b_M_is 2 (some .boolean) :: wA
abbrev rm_M_is : Room := { frames := 0, cells := 0, slots := 0, locals := 0 }
abbrev ws_M_active : List Cond := .code y_M_active b_M_active 2 (some .boolean) :: wA
abbrev rm_M_active : Room := { frames := 1, cells := 0, slots := 0, locals := 21 }
abbrev ws_M_above : List Cond := .code y_M_above b_M_above 6 (some .boolean) :: wA
abbrev rm_M_above : Room := { frames := 0, cells := 0, slots := 0, locals := 0 }
abbrev ws_M_busy : List Cond := .code y_M_busy b_M_busy 4 (some .boolean) :: wA
abbrev rm_M_busy : Room := { frames := 1, cells := 0, slots := 0, locals := 21 }
abbrev ws_M_depth : List Cond := .code y_M_depth b_M_depth 5 (some .int) :: wA
abbrev rm_M_depth : Room := { frames := 0, cells := 0, slots := 0, locals := 0 }
abbrev ws_M_begin : List Cond := .code y_M_begin b_M_begin 3 (some .int) :: wA
abbrev rm_M_begin : Room := { frames := 4, cells := 0, slots := 0, locals := 86 }
abbrev ws_M_next : List Cond := .code y_M_next b_M_next 3 (some .int) :: wA
abbrev rm_M_next : Room := { frames := 1, cells := 0, slots := 0, locals := 21 }
abbrev ws_M_want : List Cond := .code y_M_want b_M_want 2 none :: wA
abbrev rm_M_want : Room := { frames := 0, cells := 0, slots := 0, locals := 0 }
abbrev ws_M_needs : List Cond := .code y_M_needs b_M_needs 6 none :: wA
abbrev rm_M_needs : Room := { frames := 2, cells := 0, slots := 0, locals := 43 }
abbrev ws_M_bars : List Cond := .code y_M_bars b_M_bars 6 (some .boolean) :: wA
abbrev rm_M_bars : Room := { frames := 1, cells := 0, slots := 0, locals := 25 }
abbrev ws_M_may : List Cond := .code y_M_may b_M_may 6 (some .boolean) :: wA
abbrev rm_M_may : Room := { frames := 2, cells := 0, slots := 0, locals := 50 }
abbrev ws_M_look : List Cond := .code y_M_look b_M_look 4 none :: wA
abbrev rm_M_look : Room := { frames := 3, cells := 0, slots := 0, locals := 75 }
abbrev ws_M_leads : List Cond := .code y_M_leads b_M_leads 3 (some .boolean) :: wA
abbrev rm_M_leads : Room := { frames := 2, cells := 0, slots := 0, locals := 50 }
abbrev ws_M_victim : List Cond := .code y_M_victim b_M_victim 8 (some .int) :: wA
abbrev rm_M_victim : Room := { frames := 4, cells := 0, slots := 0, locals := 98 }
abbrev ws_M_request : List Cond := .code y_M_request b_M_request 7 (some .int) :: wA
abbrev rm_M_request : Room := { frames := 6, cells := 0, slots := 0, locals := 151 }
abbrev ws_M_scanned : List Cond := .code y_M_scanned b_M_scanned 5 (some .int) :: wA
abbrev rm_M_scanned : Room := { frames := 2, cells := 0, slots := 0, locals := 46 }
abbrev ws_M_stays : List Cond := .code y_M_stays b_M_stays 7 (some .int) :: wA
abbrev rm_M_stays : Room := { frames := 5, cells := 0, slots := 0, locals := 125 }
abbrev ws_M_ask : List Cond := .code y_M_ask b_M_ask 5 (some .int) :: wA
abbrev rm_M_ask : Room := { frames := 7, cells := 0, slots := 0, locals := 177 }
abbrev ws_M_get : List Cond := .code y_M_get b_M_get 3 (some .int) :: wA
abbrev rm_M_get : Room := { frames := 8, cells := 0, slots := 0, locals := 201 }
abbrev ws_M_put : List Cond := .code y_M_put b_M_put 4 (some .int) :: wA
abbrev rm_M_put : Room := { frames := 8, cells := 0, slots := 0, locals := 201 }
abbrev ws_M_delete : List Cond := .code y_M_delete b_M_delete 3 (some .int) :: wA
abbrev rm_M_delete : Room := { frames := 8, cells := 0, slots := 0, locals := 201 }
abbrev ws_M_scan : List Cond := .code y_M_scan b_M_scan 4 (some .int) :: wA
abbrev rm_M_scan : Room := { frames := 8, cells := 0, slots := 0, locals := 201 }
abbrev ws_M_resume : List Cond := .code y_M_resume b_M_resume 2 (some .int) :: wA
abbrev rm_M_resume : Room := { frames := 7, cells := 0, slots := 0, locals := 177 }
abbrev ws_M_value : List Cond := .code y_M_value b_M_value 1 (some .int) :: wA
abbrev rm_M_value : Room := { frames := 0, cells := 0, slots := 0, locals := 0 }
abbrev ws_M_unlock : List Cond := .code y_M_unlock b_M_unlock 3 none :: wA
abbrev rm_M_unlock : Room := { frames := 0, cells := 0, slots := 0, locals := 0 }
abbrev ws_M_commit : List Cond := .code y_M_commit b_M_commit 6 (some .int) :: wA
abbrev rm_M_commit : Room := { frames := 2, cells := 0, slots := 0, locals := 44 }
abbrev ws_M_undoes : List Cond := .code y_M_undoes b_M_undoes 5 (some .int) :: wA
abbrev rm_M_undoes : Room := { frames := 3, cells := 0, slots := 0, locals := 69 }
abbrev ws_M_aborts : List Cond := .code y_M_aborts b_M_aborts 5 (some .int) :: wA
abbrev rm_M_aborts : Room := { frames := 4, cells := 0, slots := 0, locals := 93 }
abbrev ws_M_abort : List Cond := .code y_M_abort b_M_abort 2 (some .int) :: wA
abbrev rm_M_abort : Room := { frames := 5, cells := 0, slots := 0, locals := 117 }
abbrev ws_M_save : List Cond := .code y_M_save b_M_save 2 (some .int) :: wA
abbrev rm_M_save : Room := { frames := 2, cells := 0, slots := 0, locals := 44 }
abbrev ws_M_rollback : List Cond := .code y_M_rollback b_M_rollback 3 (some .int) :: wA
abbrev rm_M_rollback : Room := { frames := 4, cells := 0, slots := 0, locals := 93 }
abbrev ws_M_write : List Cond := .code y_M_write b_M_write 2 (some .boolean) :: wA
abbrev rm_M_write : Room := { frames := 1, cells := 0, slots := 0, locals := 22 }
abbrev ws_M_archive : List Cond := .code y_M_archive b_M_archive 3 (some .int) :: wA
abbrev rm_M_archive : Room := { frames := 2, cells := 0, slots := 0, locals := 43 }
abbrev ws_M_committed : List Cond := .code y_M_committed b_M_committed 4 (some .boolean) :: wA
abbrev rm_M_committed : Room := { frames := 0, cells := 0, slots := 0, locals := 0 }
abbrev ws_M_crash : List Cond := .code y_M_crash b_M_crash 5 (some .int) :: wA
abbrev rm_M_crash : Room := { frames := 3, cells := 0, slots := 0, locals := 69 }
abbrev ws_M_state : List Cond := .code y_M_state b_M_state 2 (some .int) :: wA
abbrev rm_M_state : Room := { frames := 1, cells := 0, slots := 0, locals := 21 }
abbrev ws_M_parent : List Cond := .code y_M_parent b_M_parent 2 (some .int) :: wA
abbrev rm_M_parent : Room := { frames := 1, cells := 0, slots := 0, locals := 21 }
abbrev ws_M_lock : List Cond := .code y_M_lock b_M_lock 3 (some .int) :: wA
abbrev rm_M_lock : Room := { frames := 1, cells := 0, slots := 0, locals := 21 }
abbrev ws_M_waits : List Cond := .code y_M_waits b_M_waits 3 (some .boolean) :: wA
abbrev rm_M_waits : Room := { frames := 4, cells := 0, slots := 0, locals := 98 }
abbrev ws_M_entry : List Cond := .code y_M_entry b_M_entry 4 (some .int) :: wA
abbrev rm_M_entry : Room := { frames := 1, cells := 0, slots := 0, locals := 20 }
abbrev ws_M_log : List Cond := .code y_M_log b_M_log 2 (some .int) :: wA
abbrev rm_M_log : Room := { frames := 3, cells := 0, slots := 0, locals := 66 }
abbrev ws_M_key : List Cond := .code y_M_key b_M_key 3 (some .int) :: wA
abbrev rm_M_key : Room := { frames := 1, cells := 0, slots := 0, locals := 21 }
abbrev ws_M_frame : List Cond := .code y_M_frame b_M_frame 5 (some .int) :: wA
abbrev rm_M_frame : Room := { frames := 0, cells := 0, slots := 0, locals := 0 }
abbrev ws_M_page : List Cond := .code y_M_page b_M_page 2 (some .int) :: wA
abbrev rm_M_page : Room := { frames := 1, cells := 0, slots := 0, locals := 21 }
