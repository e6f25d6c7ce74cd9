section
abbrev S_N : Type := Int32
abbrev N_latestValue (s : S_N) : Int32 := s
abbrev N_latestValue' (s : S_N) (v : Int32) : S_N := v
abbrev S_T : Type := Int32 × (Nat → Int32) × (Nat → Int32) × (Nat → Int32) × (Nat → Int32) × (Nat → Int32) × (Nat → Int64) × (Nat → Int32) × (Nat → Int32) × (Nat → Int32) × (Nat → Int32)
abbrev T_count (s : S_T) : Int32 := s.1
abbrev T_count' (s : S_T) (v : Int32) : S_T := (v, s.2.1, s.2.2.1, s.2.2.2.1, s.2.2.2.2.1, s.2.2.2.2.2.1, s.2.2.2.2.2.2.1, s.2.2.2.2.2.2.2.1, s.2.2.2.2.2.2.2.2.1, s.2.2.2.2.2.2.2.2.2.1, s.2.2.2.2.2.2.2.2.2.2)
abbrev T_parent (s : S_T) : Nat → Int32 := s.2.1
abbrev T_parent' (s : S_T) (v : Nat → Int32) : S_T := (s.1, v, s.2.2.1, s.2.2.2.1, s.2.2.2.2.1, s.2.2.2.2.2.1, s.2.2.2.2.2.2.1, s.2.2.2.2.2.2.2.1, s.2.2.2.2.2.2.2.2.1, s.2.2.2.2.2.2.2.2.2.1, s.2.2.2.2.2.2.2.2.2.2)
abbrev T_top (s : S_T) : Nat → Int32 := s.2.2.1
abbrev T_top' (s : S_T) (v : Nat → Int32) : S_T := (s.1, s.2.1, v, s.2.2.2.1, s.2.2.2.2.1, s.2.2.2.2.2.1, s.2.2.2.2.2.2.1, s.2.2.2.2.2.2.2.1, s.2.2.2.2.2.2.2.2.1, s.2.2.2.2.2.2.2.2.2.1, s.2.2.2.2.2.2.2.2.2.2)
abbrev T_depth (s : S_T) : Nat → Int32 := s.2.2.2.1
abbrev T_depth' (s : S_T) (v : Nat → Int32) : S_T := (s.1, s.2.1, s.2.2.1, v, s.2.2.2.2.1, s.2.2.2.2.2.1, s.2.2.2.2.2.2.1, s.2.2.2.2.2.2.2.1, s.2.2.2.2.2.2.2.2.1, s.2.2.2.2.2.2.2.2.2.1, s.2.2.2.2.2.2.2.2.2.2)
abbrev T_state (s : S_T) : Nat → Int32 := s.2.2.2.2.1
abbrev T_state' (s : S_T) (v : Nat → Int32) : S_T := (s.1, s.2.1, s.2.2.1, s.2.2.2.1, v, s.2.2.2.2.2.1, s.2.2.2.2.2.2.1, s.2.2.2.2.2.2.2.1, s.2.2.2.2.2.2.2.2.1, s.2.2.2.2.2.2.2.2.2.1, s.2.2.2.2.2.2.2.2.2.2)
abbrev T_begun (s : S_T) : Nat → Int32 := s.2.2.2.2.2.1
abbrev T_begun' (s : S_T) (v : Nat → Int32) : S_T := (s.1, s.2.1, s.2.2.1, s.2.2.2.1, s.2.2.2.2.1, v, s.2.2.2.2.2.2.1, s.2.2.2.2.2.2.2.1, s.2.2.2.2.2.2.2.2.1, s.2.2.2.2.2.2.2.2.2.1, s.2.2.2.2.2.2.2.2.2.2)
abbrev T_lineage (s : S_T) : Nat → Int64 := s.2.2.2.2.2.2.1
abbrev T_lineage' (s : S_T) (v : Nat → Int64) : S_T := (s.1, s.2.1, s.2.2.1, s.2.2.2.1, s.2.2.2.2.1, s.2.2.2.2.2.1, v, s.2.2.2.2.2.2.2.1, s.2.2.2.2.2.2.2.2.1, s.2.2.2.2.2.2.2.2.2.1, s.2.2.2.2.2.2.2.2.2.2)
abbrev T_kind (s : S_T) : Nat → Int32 := s.2.2.2.2.2.2.2.1
abbrev T_kind' (s : S_T) (v : Nat → Int32) : S_T := (s.1, s.2.1, s.2.2.1, s.2.2.2.1, s.2.2.2.2.1, s.2.2.2.2.2.1, s.2.2.2.2.2.2.1, v, s.2.2.2.2.2.2.2.2.1, s.2.2.2.2.2.2.2.2.2.1, s.2.2.2.2.2.2.2.2.2.2)
abbrev T_low (s : S_T) : Nat → Int32 := s.2.2.2.2.2.2.2.2.1
abbrev T_low' (s : S_T) (v : Nat → Int32) : S_T := (s.1, s.2.1, s.2.2.1, s.2.2.2.1, s.2.2.2.2.1, s.2.2.2.2.2.1, s.2.2.2.2.2.2.1, s.2.2.2.2.2.2.2.1, v, s.2.2.2.2.2.2.2.2.2.1, s.2.2.2.2.2.2.2.2.2.2)
abbrev T_high (s : S_T) : Nat → Int32 := s.2.2.2.2.2.2.2.2.2.1
abbrev T_high' (s : S_T) (v : Nat → Int32) : S_T := (s.1, s.2.1, s.2.2.1, s.2.2.2.1, s.2.2.2.2.1, s.2.2.2.2.2.1, s.2.2.2.2.2.2.1, s.2.2.2.2.2.2.2.1, s.2.2.2.2.2.2.2.2.1, v, s.2.2.2.2.2.2.2.2.2.2)
abbrev T_newValue (s : S_T) : Nat → Int32 := s.2.2.2.2.2.2.2.2.2.2
abbrev T_newValue' (s : S_T) (v : Nat → Int32) : S_T := (s.1, s.2.1, s.2.2.1, s.2.2.2.1, s.2.2.2.2.1, s.2.2.2.2.2.1, s.2.2.2.2.2.2.1, s.2.2.2.2.2.2.2.1, s.2.2.2.2.2.2.2.2.1, s.2.2.2.2.2.2.2.2.2.1, v)
abbrev S_K : Type := (Nat → Int64) × (Nat → Int64)
abbrev K_shared (s : S_K) : Nat → Int64 := s.1
abbrev K_shared' (s : S_K) (v : Nat → Int64) : S_K := (v, s.2)
abbrev K_exclusive (s : S_K) : Nat → Int64 := s.2
abbrev K_exclusive' (s : S_K) (v : Nat → Int64) : S_K := (s.1, v)
abbrev S_P : Type := Int32 × Int32 × (Nat → Int32)
abbrev P_mode (s : S_P) : Int32 := s.1
abbrev P_mode' (s : S_P) (v : Int32) : S_P := (v, s.2.1, s.2.2)
abbrev P_size (s : S_P) : Int32 := s.2.1
abbrev P_size' (s : S_P) (v : Int32) : S_P := (s.1, v, s.2.2)
abbrev P_items (s : S_P) : Nat → Int32 := s.2.2
abbrev P_items' (s : S_P) (v : Nat → Int32) : S_P := (s.1, s.2.1, v)
abbrev S_D : Type := (Nat → Int64)
abbrev D_from (s : S_D) : Nat → Int64 := s
abbrev D_from' (s : S_D) (v : Nat → Int64) : S_D := v
abbrev S_G : Type := Int32 × Int32 × Int32 × (Nat → Int32) × (Nat → Int32) × (Nat → Int32) × (Nat → Int32) × (Nat → Int32) × (Nat → Int32) × (Nat → Int32) × (Nat → Int32) × (Nat → Int32)
abbrev G_base (s : S_G) : Int32 := s.1
abbrev G_base' (s : S_G) (v : Int32) : S_G := (v, s.2.1, s.2.2.1, s.2.2.2.1, s.2.2.2.2.1, s.2.2.2.2.2.1, s.2.2.2.2.2.2.1, s.2.2.2.2.2.2.2.1, s.2.2.2.2.2.2.2.2.1, s.2.2.2.2.2.2.2.2.2.1, s.2.2.2.2.2.2.2.2.2.2.1, s.2.2.2.2.2.2.2.2.2.2.2)
abbrev G_size (s : S_G) : Int32 := s.2.1
abbrev G_size' (s : S_G) (v : Int32) : S_G := (s.1, v, s.2.2.1, s.2.2.2.1, s.2.2.2.2.1, s.2.2.2.2.2.1, s.2.2.2.2.2.2.1, s.2.2.2.2.2.2.2.1, s.2.2.2.2.2.2.2.2.1, s.2.2.2.2.2.2.2.2.2.1, s.2.2.2.2.2.2.2.2.2.2.1, s.2.2.2.2.2.2.2.2.2.2.2)
abbrev G_flushed (s : S_G) : Int32 := s.2.2.1
abbrev G_flushed' (s : S_G) (v : Int32) : S_G := (s.1, s.2.1, v, s.2.2.2.1, s.2.2.2.2.1, s.2.2.2.2.2.1, s.2.2.2.2.2.2.1, s.2.2.2.2.2.2.2.1, s.2.2.2.2.2.2.2.2.1, s.2.2.2.2.2.2.2.2.2.1, s.2.2.2.2.2.2.2.2.2.2.1, s.2.2.2.2.2.2.2.2.2.2.2)
abbrev G_kind (s : S_G) : Nat → Int32 := s.2.2.2.1
abbrev G_kind' (s : S_G) (v : Nat → Int32) : S_G := (s.1, s.2.1, s.2.2.1, v, s.2.2.2.2.1, s.2.2.2.2.2.1, s.2.2.2.2.2.2.1, s.2.2.2.2.2.2.2.1, s.2.2.2.2.2.2.2.2.1, s.2.2.2.2.2.2.2.2.2.1, s.2.2.2.2.2.2.2.2.2.2.1, s.2.2.2.2.2.2.2.2.2.2.2)
abbrev G_transaction (s : S_G) : Nat → Int32 := s.2.2.2.2.1
abbrev G_transaction' (s : S_G) (v : Nat → Int32) : S_G := (s.1, s.2.1, s.2.2.1, s.2.2.2.1, v, s.2.2.2.2.2.1, s.2.2.2.2.2.2.1, s.2.2.2.2.2.2.2.1, s.2.2.2.2.2.2.2.2.1, s.2.2.2.2.2.2.2.2.2.1, s.2.2.2.2.2.2.2.2.2.2.1, s.2.2.2.2.2.2.2.2.2.2.2)
abbrev G_subject (s : S_G) : Nat → Int32 := s.2.2.2.2.2.1
abbrev G_subject' (s : S_G) (v : Nat → Int32) : S_G := (s.1, s.2.1, s.2.2.1, s.2.2.2.1, s.2.2.2.2.1, v, s.2.2.2.2.2.2.1, s.2.2.2.2.2.2.2.1, s.2.2.2.2.2.2.2.2.1, s.2.2.2.2.2.2.2.2.2.1, s.2.2.2.2.2.2.2.2.2.2.1, s.2.2.2.2.2.2.2.2.2.2.2)
abbrev G_wasThere (s : S_G) : Nat → Int32 := s.2.2.2.2.2.2.1
abbrev G_wasThere' (s : S_G) (v : Nat → Int32) : S_G := (s.1, s.2.1, s.2.2.1, s.2.2.2.1, s.2.2.2.2.1, s.2.2.2.2.2.1, v, s.2.2.2.2.2.2.2.1, s.2.2.2.2.2.2.2.2.1, s.2.2.2.2.2.2.2.2.2.1, s.2.2.2.2.2.2.2.2.2.2.1, s.2.2.2.2.2.2.2.2.2.2.2)
abbrev G_oldValue (s : S_G) : Nat → Int32 := s.2.2.2.2.2.2.2.1
abbrev G_oldValue' (s : S_G) (v : Nat → Int32) : S_G := (s.1, s.2.1, s.2.2.1, s.2.2.2.1, s.2.2.2.2.1, s.2.2.2.2.2.1, s.2.2.2.2.2.2.1, v, s.2.2.2.2.2.2.2.2.1, s.2.2.2.2.2.2.2.2.2.1, s.2.2.2.2.2.2.2.2.2.2.1, s.2.2.2.2.2.2.2.2.2.2.2)
abbrev G_isThere (s : S_G) : Nat → Int32 := s.2.2.2.2.2.2.2.2.1
abbrev G_isThere' (s : S_G) (v : Nat → Int32) : S_G := (s.1, s.2.1, s.2.2.1, s.2.2.2.1, s.2.2.2.2.1, s.2.2.2.2.2.1, s.2.2.2.2.2.2.1, s.2.2.2.2.2.2.2.1, v, s.2.2.2.2.2.2.2.2.2.1, s.2.2.2.2.2.2.2.2.2.2.1, s.2.2.2.2.2.2.2.2.2.2.2)
abbrev G_newValue (s : S_G) : Nat → Int32 := s.2.2.2.2.2.2.2.2.2.1
abbrev G_newValue' (s : S_G) (v : Nat → Int32) : S_G := (s.1, s.2.1, s.2.2.1, s.2.2.2.1, s.2.2.2.2.1, s.2.2.2.2.2.1, s.2.2.2.2.2.2.1, s.2.2.2.2.2.2.2.1, s.2.2.2.2.2.2.2.2.1, v, s.2.2.2.2.2.2.2.2.2.2.1, s.2.2.2.2.2.2.2.2.2.2.2)
abbrev G_undoes (s : S_G) : Nat → Int32 := s.2.2.2.2.2.2.2.2.2.2.1
abbrev G_undoes' (s : S_G) (v : Nat → Int32) : S_G := (s.1, s.2.1, s.2.2.1, s.2.2.2.1, s.2.2.2.2.1, s.2.2.2.2.2.1, s.2.2.2.2.2.2.1, s.2.2.2.2.2.2.2.1, s.2.2.2.2.2.2.2.2.1, s.2.2.2.2.2.2.2.2.2.1, v, s.2.2.2.2.2.2.2.2.2.2.2)
abbrev G_undone (s : S_G) : Nat → Int32 := s.2.2.2.2.2.2.2.2.2.2.2
abbrev G_undone' (s : S_G) (v : Nat → Int32) : S_G := (s.1, s.2.1, s.2.2.1, s.2.2.2.1, s.2.2.2.2.1, s.2.2.2.2.2.1, s.2.2.2.2.2.2.1, s.2.2.2.2.2.2.2.1, s.2.2.2.2.2.2.2.2.1, s.2.2.2.2.2.2.2.2.2.1, s.2.2.2.2.2.2.2.2.2.2.1, v)
abbrev S_A : Type := Int32 × Int32 × (Nat → Int32) × (Nat → Int32) × (Nat → Int32) × (Nat → Int32) × (Nat → Int32) × (Nat → Int32) × (Nat → Int32) × (Nat → Int32)
abbrev A_frames (s : S_A) : Int32 := s.1
abbrev A_frames' (s : S_A) (v : Int32) : S_A := (v, s.2.1, s.2.2.1, s.2.2.2.1, s.2.2.2.2.1, s.2.2.2.2.2.1, s.2.2.2.2.2.2.1, s.2.2.2.2.2.2.2.1, s.2.2.2.2.2.2.2.2.1, s.2.2.2.2.2.2.2.2.2)
abbrev A_framesInUse (s : S_A) : Int32 := s.2.1
abbrev A_framesInUse' (s : S_A) (v : Int32) : S_A := (s.1, v, s.2.2.1, s.2.2.2.1, s.2.2.2.2.1, s.2.2.2.2.2.1, s.2.2.2.2.2.2.1, s.2.2.2.2.2.2.2.1, s.2.2.2.2.2.2.2.2.1, s.2.2.2.2.2.2.2.2.2)
abbrev A_byTouch (s : S_A) : Nat → Int32 := s.2.2.1
abbrev A_byTouch' (s : S_A) (v : Nat → Int32) : S_A := (s.1, s.2.1, v, s.2.2.2.1, s.2.2.2.2.1, s.2.2.2.2.2.1, s.2.2.2.2.2.2.1, s.2.2.2.2.2.2.2.1, s.2.2.2.2.2.2.2.2.1, s.2.2.2.2.2.2.2.2.2)
abbrev A_dirty (s : S_A) : Nat → Int32 := s.2.2.2.1
abbrev A_dirty' (s : S_A) (v : Nat → Int32) : S_A := (s.1, s.2.1, s.2.2.1, v, s.2.2.2.2.1, s.2.2.2.2.2.1, s.2.2.2.2.2.2.1, s.2.2.2.2.2.2.2.1, s.2.2.2.2.2.2.2.2.1, s.2.2.2.2.2.2.2.2.2)
abbrev A_lsn (s : S_A) : Nat → Int32 := s.2.2.2.2.1
abbrev A_lsn' (s : S_A) (v : Nat → Int32) : S_A := (s.1, s.2.1, s.2.2.1, s.2.2.2.1, v, s.2.2.2.2.2.1, s.2.2.2.2.2.2.1, s.2.2.2.2.2.2.2.1, s.2.2.2.2.2.2.2.2.1, s.2.2.2.2.2.2.2.2.2)
abbrev A_there (s : S_A) : Nat → Int32 := s.2.2.2.2.2.1
abbrev A_there' (s : S_A) (v : Nat → Int32) : S_A := (s.1, s.2.1, s.2.2.1, s.2.2.2.1, s.2.2.2.2.1, v, s.2.2.2.2.2.2.1, s.2.2.2.2.2.2.2.1, s.2.2.2.2.2.2.2.2.1, s.2.2.2.2.2.2.2.2.2)
abbrev A_value (s : S_A) : Nat → Int32 := s.2.2.2.2.2.2.1
abbrev A_value' (s : S_A) (v : Nat → Int32) : S_A := (s.1, s.2.1, s.2.2.1, s.2.2.2.1, s.2.2.2.2.1, s.2.2.2.2.2.1, v, s.2.2.2.2.2.2.2.1, s.2.2.2.2.2.2.2.2.1, s.2.2.2.2.2.2.2.2.2)
abbrev A_diskLsn (s : S_A) : Nat → Int32 := s.2.2.2.2.2.2.2.1
abbrev A_diskLsn' (s : S_A) (v : Nat → Int32) : S_A := (s.1, s.2.1, s.2.2.1, s.2.2.2.1, s.2.2.2.2.1, s.2.2.2.2.2.1, s.2.2.2.2.2.2.1, v, s.2.2.2.2.2.2.2.2.1, s.2.2.2.2.2.2.2.2.2)
abbrev A_diskThere (s : S_A) : Nat → Int32 := s.2.2.2.2.2.2.2.2.1
abbrev A_diskThere' (s : S_A) (v : Nat → Int32) : S_A := (s.1, s.2.1, s.2.2.1, s.2.2.2.1, s.2.2.2.2.1, s.2.2.2.2.2.1, s.2.2.2.2.2.2.1, s.2.2.2.2.2.2.2.1, v, s.2.2.2.2.2.2.2.2.2)
abbrev A_diskValue (s : S_A) : Nat → Int32 := s.2.2.2.2.2.2.2.2.2
abbrev A_diskValue' (s : S_A) (v : Nat → Int32) : S_A := (s.1, s.2.1, s.2.2.1, s.2.2.2.1, s.2.2.2.2.1, s.2.2.2.2.2.1, s.2.2.2.2.2.2.1, s.2.2.2.2.2.2.2.1, s.2.2.2.2.2.2.2.2.1, v)
abbrev S_MA : Type := Int32 × (Nat → Int32) × (Nat → Int32) × (Nat → Int32) × (Nat → Int32) × (Nat → Int32) × (Nat → Int32) × Int32
abbrev MA_frames (s : S_MA) : Int32 := s.1
abbrev MA_frames' (s : S_MA) (v : Int32) : S_MA := (v, s.2.1, s.2.2.1, s.2.2.2.1, s.2.2.2.2.1, s.2.2.2.2.2.1, s.2.2.2.2.2.2.1, s.2.2.2.2.2.2.2)
abbrev MA_there (s : S_MA) : Nat → Int32 := s.2.1
abbrev MA_there' (s : S_MA) (v : Nat → Int32) : S_MA := (s.1, v, s.2.2.1, s.2.2.2.1, s.2.2.2.2.1, s.2.2.2.2.2.1, s.2.2.2.2.2.2.1, s.2.2.2.2.2.2.2)
abbrev MA_value (s : S_MA) : Nat → Int32 := s.2.2.1
abbrev MA_value' (s : S_MA) (v : Nat → Int32) : S_MA := (s.1, s.2.1, v, s.2.2.2.1, s.2.2.2.2.1, s.2.2.2.2.2.1, s.2.2.2.2.2.2.1, s.2.2.2.2.2.2.2)
abbrev MA_lsn (s : S_MA) : Nat → Int32 := s.2.2.2.1
abbrev MA_lsn' (s : S_MA) (v : Nat → Int32) : S_MA := (s.1, s.2.1, s.2.2.1, v, s.2.2.2.2.1, s.2.2.2.2.2.1, s.2.2.2.2.2.2.1, s.2.2.2.2.2.2.2)
abbrev MA_inFrame (s : S_MA) : Nat → Int32 := s.2.2.2.2.1
abbrev MA_inFrame' (s : S_MA) (v : Nat → Int32) : S_MA := (s.1, s.2.1, s.2.2.1, s.2.2.2.1, v, s.2.2.2.2.2.1, s.2.2.2.2.2.2.1, s.2.2.2.2.2.2.2)
abbrev MA_dirty (s : S_MA) : Nat → Int32 := s.2.2.2.2.2.1
abbrev MA_dirty' (s : S_MA) (v : Nat → Int32) : S_MA := (s.1, s.2.1, s.2.2.1, s.2.2.2.1, s.2.2.2.2.1, v, s.2.2.2.2.2.2.1, s.2.2.2.2.2.2.2)
abbrev MA_touched (s : S_MA) : Nat → Int32 := s.2.2.2.2.2.2.1
abbrev MA_touched' (s : S_MA) (v : Nat → Int32) : S_MA := (s.1, s.2.1, s.2.2.1, s.2.2.2.1, s.2.2.2.2.1, s.2.2.2.2.2.1, v, s.2.2.2.2.2.2.2)
abbrev MA_clock (s : S_MA) : Int32 := s.2.2.2.2.2.2.2
abbrev MA_clock' (s : S_MA) (v : Int32) : S_MA := (s.1, s.2.1, s.2.2.1, s.2.2.2.1, s.2.2.2.2.1, s.2.2.2.2.2.1, s.2.2.2.2.2.2.1, v)
abbrev S_MD : Type := (Nat → Int32) × (Nat → Int32) × (Nat → Int32)
abbrev MD_diskThere (s : S_MD) : Nat → Int32 := s.1
abbrev MD_diskThere' (s : S_MD) (v : Nat → Int32) : S_MD := (v, s.2.1, s.2.2)
abbrev MD_diskValue (s : S_MD) : Nat → Int32 := s.2.1
abbrev MD_diskValue' (s : S_MD) (v : Nat → Int32) : S_MD := (s.1, v, s.2.2)
abbrev MD_diskLsn (s : S_MD) : Nat → Int32 := s.2.2
abbrev MD_diskLsn' (s : S_MD) (v : Nat → Int32) : S_MD := (s.1, s.2.1, v)
abbrev S_MG : Type := Int32 × Int32 × Int32 × (Nat → Int32) × (Nat → Int32) × (Nat → Int32) × (Nat → Int32) × (Nat → Int32) × (Nat → Int32) × (Nat → Int32) × (Nat → Int32)
abbrev MG_base (s : S_MG) : Int32 := s.1
abbrev MG_base' (s : S_MG) (v : Int32) : S_MG := (v, s.2.1, s.2.2.1, s.2.2.2.1, s.2.2.2.2.1, s.2.2.2.2.2.1, s.2.2.2.2.2.2.1, s.2.2.2.2.2.2.2.1, s.2.2.2.2.2.2.2.2.1, s.2.2.2.2.2.2.2.2.2.1, s.2.2.2.2.2.2.2.2.2.2)
abbrev MG_records (s : S_MG) : Int32 := s.2.1
abbrev MG_records' (s : S_MG) (v : Int32) : S_MG := (s.1, v, s.2.2.1, s.2.2.2.1, s.2.2.2.2.1, s.2.2.2.2.2.1, s.2.2.2.2.2.2.1, s.2.2.2.2.2.2.2.1, s.2.2.2.2.2.2.2.2.1, s.2.2.2.2.2.2.2.2.2.1, s.2.2.2.2.2.2.2.2.2.2)
abbrev MG_flushed (s : S_MG) : Int32 := s.2.2.1
abbrev MG_flushed' (s : S_MG) (v : Int32) : S_MG := (s.1, s.2.1, v, s.2.2.2.1, s.2.2.2.2.1, s.2.2.2.2.2.1, s.2.2.2.2.2.2.1, s.2.2.2.2.2.2.2.1, s.2.2.2.2.2.2.2.2.1, s.2.2.2.2.2.2.2.2.2.1, s.2.2.2.2.2.2.2.2.2.2)
abbrev MG_kind (s : S_MG) : Nat → Int32 := s.2.2.2.1
abbrev MG_kind' (s : S_MG) (v : Nat → Int32) : S_MG := (s.1, s.2.1, s.2.2.1, v, s.2.2.2.2.1, s.2.2.2.2.2.1, s.2.2.2.2.2.2.1, s.2.2.2.2.2.2.2.1, s.2.2.2.2.2.2.2.2.1, s.2.2.2.2.2.2.2.2.2.1, s.2.2.2.2.2.2.2.2.2.2)
abbrev MG_by (s : S_MG) : Nat → Int32 := s.2.2.2.2.1
abbrev MG_by' (s : S_MG) (v : Nat → Int32) : S_MG := (s.1, s.2.1, s.2.2.1, s.2.2.2.1, v, s.2.2.2.2.2.1, s.2.2.2.2.2.2.1, s.2.2.2.2.2.2.2.1, s.2.2.2.2.2.2.2.2.1, s.2.2.2.2.2.2.2.2.2.1, s.2.2.2.2.2.2.2.2.2.2)
abbrev MG_about (s : S_MG) : Nat → Int32 := s.2.2.2.2.2.1
abbrev MG_about' (s : S_MG) (v : Nat → Int32) : S_MG := (s.1, s.2.1, s.2.2.1, s.2.2.2.1, s.2.2.2.2.1, v, s.2.2.2.2.2.2.1, s.2.2.2.2.2.2.2.1, s.2.2.2.2.2.2.2.2.1, s.2.2.2.2.2.2.2.2.2.1, s.2.2.2.2.2.2.2.2.2.2)
abbrev MG_of (s : S_MG) : Nat → Int32 := s.2.2.2.2.2.2.1
abbrev MG_of' (s : S_MG) (v : Nat → Int32) : S_MG := (s.1, s.2.1, s.2.2.1, s.2.2.2.1, s.2.2.2.2.1, s.2.2.2.2.2.1, v, s.2.2.2.2.2.2.2.1, s.2.2.2.2.2.2.2.2.1, s.2.2.2.2.2.2.2.2.2.1, s.2.2.2.2.2.2.2.2.2.2)
abbrev MG_wasThere (s : S_MG) : Nat → Int32 := s.2.2.2.2.2.2.2.1
abbrev MG_wasThere' (s : S_MG) (v : Nat → Int32) : S_MG := (s.1, s.2.1, s.2.2.1, s.2.2.2.1, s.2.2.2.2.1, s.2.2.2.2.2.1, s.2.2.2.2.2.2.1, v, s.2.2.2.2.2.2.2.2.1, s.2.2.2.2.2.2.2.2.2.1, s.2.2.2.2.2.2.2.2.2.2)
abbrev MG_wasValue (s : S_MG) : Nat → Int32 := s.2.2.2.2.2.2.2.2.1
abbrev MG_wasValue' (s : S_MG) (v : Nat → Int32) : S_MG := (s.1, s.2.1, s.2.2.1, s.2.2.2.1, s.2.2.2.2.1, s.2.2.2.2.2.1, s.2.2.2.2.2.2.1, s.2.2.2.2.2.2.2.1, v, s.2.2.2.2.2.2.2.2.2.1, s.2.2.2.2.2.2.2.2.2.2)
abbrev MG_isThere (s : S_MG) : Nat → Int32 := s.2.2.2.2.2.2.2.2.2.1
abbrev MG_isThere' (s : S_MG) (v : Nat → Int32) : S_MG := (s.1, s.2.1, s.2.2.1, s.2.2.2.1, s.2.2.2.2.1, s.2.2.2.2.2.1, s.2.2.2.2.2.2.1, s.2.2.2.2.2.2.2.1, s.2.2.2.2.2.2.2.2.1, v, s.2.2.2.2.2.2.2.2.2.2)
abbrev MG_isValue (s : S_MG) : Nat → Int32 := s.2.2.2.2.2.2.2.2.2.2
abbrev MG_isValue' (s : S_MG) (v : Nat → Int32) : S_MG := (s.1, s.2.1, s.2.2.1, s.2.2.2.1, s.2.2.2.2.1, s.2.2.2.2.2.1, s.2.2.2.2.2.2.1, s.2.2.2.2.2.2.2.1, s.2.2.2.2.2.2.2.2.1, s.2.2.2.2.2.2.2.2.2.1, v)
abbrev S_MT : Type := Int32 × (Nat → Int32) × (Nat → Int32) × (Nat → Int32) × (Nat → Int32) × (Nat → Int32) × (Nat → Int32)
abbrev MT_many (s : S_MT) : Int32 := s.1
abbrev MT_many' (s : S_MT) (v : Int32) : S_MT := (v, s.2.1, s.2.2.1, s.2.2.2.1, s.2.2.2.2.1, s.2.2.2.2.2.1, s.2.2.2.2.2.2)
abbrev MT_state (s : S_MT) : Nat → Int32 := s.2.1
abbrev MT_state' (s : S_MT) (v : Nat → Int32) : S_MT := (s.1, v, s.2.2.1, s.2.2.2.1, s.2.2.2.2.1, s.2.2.2.2.2.1, s.2.2.2.2.2.2)
abbrev MT_parent (s : S_MT) : Nat → Int32 := s.2.2.1
abbrev MT_parent' (s : S_MT) (v : Nat → Int32) : S_MT := (s.1, s.2.1, v, s.2.2.2.1, s.2.2.2.2.1, s.2.2.2.2.2.1, s.2.2.2.2.2.2)
abbrev MT_began (s : S_MT) : Nat → Int32 := s.2.2.2.1
abbrev MT_began' (s : S_MT) (v : Nat → Int32) : S_MT := (s.1, s.2.1, s.2.2.1, v, s.2.2.2.2.1, s.2.2.2.2.2.1, s.2.2.2.2.2.2)
abbrev MT_asks (s : S_MT) : Nat → Int32 := s.2.2.2.2.1
abbrev MT_asks' (s : S_MT) (v : Nat → Int32) : S_MT := (s.1, s.2.1, s.2.2.1, s.2.2.2.1, v, s.2.2.2.2.2.1, s.2.2.2.2.2.2)
abbrev MT_first (s : S_MT) : Nat → Int32 := s.2.2.2.2.2.1
abbrev MT_first' (s : S_MT) (v : Nat → Int32) : S_MT := (s.1, s.2.1, s.2.2.1, s.2.2.2.1, s.2.2.2.2.1, v, s.2.2.2.2.2.2)
abbrev MT_second (s : S_MT) : Nat → Int32 := s.2.2.2.2.2.2
abbrev MT_second' (s : S_MT) (v : Nat → Int32) : S_MT := (s.1, s.2.1, s.2.2.1, s.2.2.2.1, s.2.2.2.2.1, s.2.2.2.2.2.1, v)
abbrev S_ML : Type := (Nat → Int32)
abbrev ML_locks (s : S_ML) : Nat → Int32 := s
abbrev ML_locks' (s : S_ML) (v : Nat → Int32) : S_ML := v
abbrev S_MP : Type := Int32 × (Nat → Int32) × Int32
abbrev MP_wanted (s : S_MP) : Int32 := s.1
abbrev MP_wanted' (s : S_MP) (v : Int32) : S_MP := (v, s.2.1, s.2.2)
abbrev MP_item (s : S_MP) : Nat → Int32 := s.2.1
abbrev MP_item' (s : S_MP) (v : Nat → Int32) : S_MP := (s.1, v, s.2.2)
abbrev MP_mode (s : S_MP) : Int32 := s.2.2
abbrev MP_mode' (s : S_MP) (v : Int32) : S_MP := (s.1, s.2.1, v)
abbrev S_MV : Type := (Nat → Int32) × (Nat → Int32) × (Nat → Int32) × (Nat → Int32)
abbrev MV_lacks (s : S_MV) : Nat → Int32 := s.1
abbrev MV_lacks' (s : S_MV) (v : Nat → Int32) : S_MV := (v, s.2.1, s.2.2.1, s.2.2.2)
abbrev MV_lackMode (s : S_MV) : Nat → Int32 := s.2.1
abbrev MV_lackMode' (s : S_MV) (v : Nat → Int32) : S_MV := (s.1, v, s.2.2.1, s.2.2.2)
abbrev MV_ahead (s : S_MV) : Nat → Int32 := s.2.2.1
abbrev MV_ahead' (s : S_MV) (v : Nat → Int32) : S_MV := (s.1, s.2.1, v, s.2.2.2)
abbrev MV_back (s : S_MV) : Nat → Int32 := s.2.2.2
abbrev MV_back' (s : S_MV) (v : Nat → Int32) : S_MV := (s.1, s.2.1, s.2.2.1, v)
abbrev S_MF : Type := (Nat → Int32)
abbrev MF_falls (s : S_MF) : Nat → Int32 := s
abbrev MF_falls' (s : S_MF) (v : Nat → Int32) : S_MF := v
abbrev S_MN : Type := Int32
abbrev MN_latest (s : S_MN) : Int32 := s
abbrev MN_latest' (s : S_MN) (v : Int32) : S_MN := v
def jn {α : Type} (t : α → Prop) (k : α) : Prop := t k
theorem jn_split {α : Type} {t : α → Prop} {k : α} {C : Prop} (h : jn t k) (f : ∀ jk : α, jk = k → t jk → C) : C := f k rfl h
theorem nb_ok {v : Int32} (h : vp_nar .boolean v = v) : narrow .boolean (.int v) = .int v := by
  rw [show narrow .boolean (.int v) = .int (vp_nar .boolean v) from rfl, h]
theorem jn_in {α : Type} {t : α → Prop} {k : α} (P : α → Prop) (hk : P k) (ht : ∀ jk, P jk → t jk) : jn t k := ht k hk
theorem jn_intro {α : Type} {t : α → Prop} {k : α} (h : t k) : jn t k := h
theorem i10 (a b : Prop) : (if (1 : Int32) = 0 then a else b) = b := if_neg (by decide)
theorem i00 (a b : Prop) : (if (0 : Int32) = 0 then a else b) = a := if_pos rfl
theorem ite_iff' {p q : Prop} [dp : Decidable p] [dq : Decidable q] {a b : Prop} (e : p ↔ q) : (if p then a else b) = (if q then a else b) := by
  by_cases h : p
  · rw [if_pos h, if_pos (e.mp h)]
  · rw [if_neg h, if_neg (fun z => h (e.mpr z))]
end
section
def wp_T_exists (T : S_T) (a1 : Int32) (post : Int32 → Prop) : Prop :=
  (if a1 < 0 then post 0
  else (if (T_count T) ≤ a1 then post 0
    else post 1))

def wp_T_isActive (T : S_T) (a1 : Int32) (post : Int32 → Prop) : Prop :=
  wp_T_exists T a1 (fun r1 =>
  (if r1 = 0 then post 0
  else vp_in a1 60 ∧
    (if ((T_state T) (Int32.toNatClampNeg a1)) = 1 then post 1
    else post 0)))

def wp_T_isTopLive (T : S_T) (a1 : Int32) (post : Int32 → Prop) : Prop :=
  vp_in a1 60 ∧
  vp_in ((T_top T) (Int32.toNatClampNeg a1)) 60 ∧
  (if ((T_state T) (Int32.toNatClampNeg ((T_top T) (Int32.toNatClampNeg a1)))) = 1 then post 1
  else (if ((T_state T) (Int32.toNatClampNeg ((T_top T) (Int32.toNatClampNeg a1)))) = 2 then post 1
    else post 0))

def wp_N_isOpen (G : S_G) (T : S_T) (a1 : Int32) (post : Int32 → Prop) : Prop :=
  vp_in a1 300 ∧
  (if ((G_kind G) (Int32.toNatClampNeg a1)) = 2 then vp_in a1 300 ∧
    (if ((G_undone G) (Int32.toNatClampNeg a1)) = 0 then vp_in a1 300 ∧
      wp_T_isTopLive T ((G_transaction G) (Int32.toNatClampNeg a1)) (fun r1 =>
      (if r1 = 0 then post 0
      else post 1))
    else post 0)
  else post 0)

def wp_N_openUpdateCount_L4 (G : S_G) (T : S_T) (Kx : Int32 → Prop) : Nat → Int32 → Int32 → Prop
  | 0, _, _ => False
  | n4 + 1, v1, v2 => (if (G_size G) ≤ v2 then Kx v1
      else wp_N_isOpen G T v2 (fun r1 =>
        (if r1 = 0 then wp_N_openUpdateCount_L4 G T Kx n4 v1 (v2 + 1)
        else wp_N_openUpdateCount_L4 G T Kx n4 (v1 + 1) (v2 + 1))))
def wp_N_openUpdateCount (G : S_G) (T : S_T) (post : Int32 → Prop) : Prop :=
  (∃ e4, wp_N_openUpdateCount_L4 G T (fun x2 =>
  post x2) e4 0 0)

def wp_T_isLive (T : S_T) (a1 : Int32) (post : Int32 → Prop) : Prop :=
  wp_T_exists T a1 (fun r1 =>
  (if r1 = 0 then post 0
  else vp_in a1 60 ∧
    (if ((T_state T) (Int32.toNatClampNeg a1)) = 1 then post 1
    else vp_in a1 60 ∧
      (if ((T_state T) (Int32.toNatClampNeg a1)) = 2 then post 1
      else post 0))))

def wp_T_liveCount_L4 (T : S_T) (Kx : Int32 → Prop) : Nat → Int32 → Int32 → Prop
  | 0, _, _ => False
  | n4 + 1, v1, v2 => (if (T_count T) ≤ v2 then Kx v1
      else wp_T_isLive T v2 (fun r1 =>
        (if r1 = 0 then wp_T_liveCount_L4 T Kx n4 v1 (v2 + 1)
        else wp_T_liveCount_L4 T Kx n4 (v1 + 1) (v2 + 1))))
def wp_T_liveCount (T : S_T) (post : Int32 → Prop) : Prop :=
  (∃ e4, wp_T_liveCount_L4 T (fun x2 =>
  post x2) e4 0 0)

def wp_N_hasRoomForOne (G : S_G) (T : S_T) (post : Int32 → Prop) : Prop :=
  wp_N_openUpdateCount G T (fun r1 =>
  wp_T_liveCount T (fun r2 =>
  (if 300 < ((((G_size G) + r1) + r2) + 2) then post 0
  else post 1)))

def wp_G_last (G : S_G) (post : Int32 → Prop) : Prop :=
  post ((G_base G) + (G_size G))

def wp_T_add (T : S_T) (a1 : Int32) (a2 : Int32) (post : Int32 → S_T → Prop) : Prop :=
  wp_T_exists T a1 (fun r1 =>
  (jn (fun (jk18 : Int32 → Prop) =>
  (if r1 = 0 then jk18 1
    else jk18 0)) (fun b2 =>
  vp_in (T_count T) 60 ∧
    (jn (fun (jk47 : Int32 → Prop) =>
    (if b2 = 0 then vp_in a1 60 ∧
        jk47 ((T_top T) (Int32.toNatClampNeg a1))
      else jk47 (T_count T))) (fun b3 =>
    vp_in (T_count T) 60 ∧
      (jn (fun (jk70 : Int32 → Prop) =>
      (if b2 = 0 then vp_in a1 60 ∧
          jk70 (((T_depth T) (Int32.toNatClampNeg a1)) + 1)
        else jk70 1)) (fun b4 =>
      vp_in (T_count T) 60 ∧
        (jn (fun (jk97 : Int64 → Prop) =>
        (if b2 = 0 then vp_in a1 60 ∧
            jk97 (((T_lineage T) (Int32.toNatClampNeg a1)) ||| ((1 : Int64) <<< (Int32.toInt64 (T_count T) &&& 63)))
          else jk97 ((1 : Int64) <<< (Int32.toInt64 (T_count T) &&& 63)))) (fun b5 =>
        vp_in (T_count T) 60 ∧
          vp_in (T_count T) 60 ∧
          vp_in (T_count T) 60 ∧
          post (T_count T) (T_count' (T_begun' (T_state' (T_lineage' (T_depth' (T_top' (T_parent' T (upd (T_parent T) (Int32.toNatClampNeg (T_count T)) a1)) (upd (T_top T) (Int32.toNatClampNeg (T_count T)) b3)) (upd (T_depth T) (Int32.toNatClampNeg (T_count T)) b4)) (vp_updL (T_lineage T) (Int32.toNatClampNeg (T_count T)) b5)) (upd (T_state T) (Int32.toNatClampNeg (T_count T)) 1)) (upd (T_begun T) (Int32.toNatClampNeg (T_count T)) a2)) ((T_count T) + 1)))))))))))

def wp_G_setBefore (G : S_G) (a1 : Int32) (a2 : Int32) (a3 : Int32) (post : S_G → Prop) : Prop :=
  vp_in a1 300 ∧
  vp_in a1 300 ∧
  post (G_oldValue' (G_wasThere' G (upd (G_wasThere G) (Int32.toNatClampNeg a1) (vp_nar .boolean a2))) (upd (G_oldValue G) (Int32.toNatClampNeg a1) a3))

def wp_G_setAfter (G : S_G) (a1 : Int32) (a2 : Int32) (a3 : Int32) (post : S_G → Prop) : Prop :=
  vp_in a1 300 ∧
  vp_in a1 300 ∧
  post (G_newValue' (G_isThere' G (upd (G_isThere G) (Int32.toNatClampNeg a1) (vp_nar .boolean a2))) (upd (G_newValue G) (Int32.toNatClampNeg a1) a3))

def wp_G_append (G : S_G) (a1 : Int32) (a2 : Int32) (a3 : Int32) (post : Int32 → S_G → Prop) : Prop :=
  (jn (fun (jk20 : S_G → Prop) =>
  (if 300 ≤ (G_size G) then jk20 G
    else jk20 (G_size' G ((G_size G) + 1)))) (fun G1 =>
  vp_in ((G_size G1) - 1) 300 ∧
    vp_in ((G_size G1) - 1) 300 ∧
    vp_in ((G_size G1) - 1) 300 ∧
    wp_G_setBefore (G_subject' (G_transaction' (G_kind' G1 (upd (G_kind G1) (Int32.toNatClampNeg ((G_size G1) - 1)) a1)) (upd (G_transaction G1) (Int32.toNatClampNeg ((G_size G1) - 1)) a2)) (upd (G_subject G1) (Int32.toNatClampNeg ((G_size G1) - 1)) a3)) ((G_size G1) - 1) 0 0 (fun G2 =>
    wp_G_setAfter G2 ((G_size G1) - 1) 0 0 (fun G3 =>
    vp_in ((G_size G1) - 1) 300 ∧
    vp_in ((G_size G1) - 1) 300 ∧
    post ((G_size G1) - 1) (G_undone' (G_undoes' G3 (upd (G_undoes G3) (Int32.toNatClampNeg ((G_size G1) - 1)) 0)) (upd (G_undone G3) (Int32.toNatClampNeg ((G_size G1) - 1)) (vp_nar .boolean 0)))))))

def wp_N_begin (G : S_G) (T : S_T) (a1 : Int32) (post : Int32 → S_G → S_T → Prop) : Prop :=
  (jn (fun (jk34 : Int32 → Prop) =>
  (if a1 = (-1) then jk34 1
    else wp_T_isActive T a1 (fun r1 =>
      (if r1 = 0 then jk34 0
      else vp_in a1 60 ∧
        (if 4 ≤ ((T_depth T) (Int32.toNatClampNeg a1)) then jk34 0
        else jk34 1))))) (fun b2 =>
  (if b2 = 0 then post (-1) G T
    else (if (T_count T) < 60 then wp_N_hasRoomForOne G T (fun r3 =>
        (if r3 = 0 then post (-5) G T
        else wp_G_last G (fun r4 =>
          wp_T_add T a1 (r4 + 1) (fun r5 T6 =>
          wp_G_append G 1 r5 a1 (fun r7 G8 =>
          post r5 G8 T6)))))
      else post (-1) G T))))

def wp_N_isKey (a0 : Int32) (post : Int32 → Prop) : Prop :=
  (if a0 < 0 then post 0
  else (if 32 ≤ a0 then post 0
    else post 1))

def wp_T_liveChildren_L7 (T : S_T) (v1 : Int32) (Kx : Int64 → Prop) : Nat → Int64 → Int32 → Prop
  | 0, _, _ => False
  | n7 + 1, v2, v4 => (if (T_count T) ≤ v4 then Kx v2
      else vp_in v4 60 ∧
        (if ((T_parent T) (Int32.toNatClampNeg v4)) = v1 then wp_T_isLive T v4 (fun r1 =>
          (if r1 = 0 then wp_T_liveChildren_L7 T v1 Kx n7 v2 (v4 + 1)
          else wp_T_liveChildren_L7 T v1 Kx n7 (v2 ||| ((1 : Int64) <<< (Int32.toInt64 v4 &&& 63))) (v4 + 1)))
        else wp_T_liveChildren_L7 T v1 Kx n7 v2 (v4 + 1)))
def wp_T_liveChildren (T : S_T) (a1 : Int32) (post : Int64 → Prop) : Prop :=
  (∃ e7, wp_T_liveChildren_L7 T a1 (fun x2 =>
  post x2) e7 (0 : Int64) (a1 + 1))

def wp_T_isBusy (T : S_T) (a1 : Int32) (post : Int32 → Prop) : Prop :=
  wp_T_liveChildren T a1 (fun r1 =>
  (if (lg_cmp r1 (0 : Int64)) = 0 then post 0
  else post 1))

def wp_N_refusalOf (T : S_T) (a1 : Int32) (post : Int32 → Prop) : Prop :=
  wp_T_isActive T a1 (fun r1 =>
  (if r1 = 0 then post (-1)
  else wp_T_isBusy T a1 (fun r2 =>
    (if r2 = 0 then post 0
    else post (-4)))))

def wp_T_setRequest (T : S_T) (a1 : Int32) (a2 : Int32) (a3 : Int32) (a4 : Int32) (a5 : Int32) (post : S_T → Prop) : Prop :=
  vp_in a1 60 ∧
  vp_in a1 60 ∧
  vp_in a1 60 ∧
  vp_in a1 60 ∧
  post (T_newValue' (T_high' (T_low' (T_kind' T (upd (T_kind T) (Int32.toNatClampNeg a1) a2)) (upd (T_low T) (Int32.toNatClampNeg a1) a3)) (upd (T_high T) (Int32.toNatClampNeg a1) a4)) (upd (T_newValue T) (Int32.toNatClampNeg a1) a5))

def wp_N_prepare (T : S_T) (a1 : Int32) (a2 : Int32) (a3 : Int32) (a4 : Int32) (a5 : Int32) (post : Int32 → S_T → Prop) : Prop :=
  wp_N_isKey a3 (fun r1 =>
  (if r1 = 0 then post (-1) T
  else wp_N_isKey a4 (fun r2 =>
    (if r2 = 0 then post (-1) T
    else (if a3 ≤ a4 then wp_N_refusalOf T a1 (fun r3 =>
        (if r3 = 0 then wp_T_setRequest T a1 a2 a3 a4 a5 (fun T4 =>
          post r3 T4)
        else post r3 T))
      else post (-1) T)))))

def wp_P_start (P : S_P) (a1 : Int32) (post : S_P → Prop) : Prop :=
  post (P_size' (P_mode' P a1) 0)

def wp_A_nextItem_L4 (A : S_A) (post : Int32 → Prop) (Kx : Prop) : Nat → Int32 → Prop
  | 0, _ => False
  | n4 + 1, v2 => (if 32 ≤ v2 then Kx
      else vp_in v2 32 ∧
        (if ((A_there A) (Int32.toNatClampNeg v2)) = 0 then wp_A_nextItem_L4 A post Kx n4 (v2 + 1)
        else post v2))
def wp_A_nextItem (A : S_A) (a1 : Int32) (post : Int32 → Prop) : Prop :=
  (∃ e4, wp_A_nextItem_L4 A post (post 32) e4 (a1 + 1))

def wp_P_add (P : S_P) (a1 : Int32) (post : S_P → Prop) : Prop :=
  (if 33 ≤ (P_size P) then post P
  else vp_in (P_size P) 33 ∧
    post (P_size' (P_items' P (upd (P_items P) (Int32.toNatClampNeg (P_size P)) a1)) ((P_size P) + 1)))

def wp_N_planLocks_L201 (A : S_A) (v3 : Int32) (Kx : S_P → Prop) : Nat → Int32 → S_P → Prop
  | 0, _, _ => False
  | n201 + 1, v5, P => (if v3 < v5 then Kx P
      else vp_in v5 32 ∧
        (if ((A_there A) (Int32.toNatClampNeg v5)) = 0 then wp_N_planLocks_L201 A v3 Kx n201 (v5 + 1) P
        else wp_P_add P v5 (fun P16 =>
          wp_N_planLocks_L201 A v3 Kx n201 (v5 + 1) P16)))
def wp_N_planLocks (A : S_A) (P : S_P) (T : S_T) (a1 : Int32) (post : S_P → Prop) : Prop :=
  vp_in a1 60 ∧
  vp_in a1 60 ∧
  vp_in ((T_low T) (Int32.toNatClampNeg a1)) 32 ∧
  vp_in a1 60 ∧
  (if ((T_kind T) (Int32.toNatClampNeg a1)) = 0 then wp_P_start P 1 (fun P1 =>
    (if ((A_there A) (Int32.toNatClampNeg ((T_low T) (Int32.toNatClampNeg a1)))) = 0 then wp_A_nextItem A ((T_low T) (Int32.toNatClampNeg a1)) (fun r2 =>
      wp_P_add P1 r2 (fun P3 =>
      post P3))
    else wp_P_add P1 ((T_low T) (Int32.toNatClampNeg a1)) (fun P4 =>
      post P4)))
  else if ((T_kind T) (Int32.toNatClampNeg a1)) = 1 then wp_P_start P 2 (fun P5 =>
    (if ((A_there A) (Int32.toNatClampNeg ((T_low T) (Int32.toNatClampNeg a1)))) = 0 then wp_A_nextItem A ((T_low T) (Int32.toNatClampNeg a1)) (fun r7 =>
      wp_P_add P5 r7 (fun P8 =>
      wp_P_add P8 ((T_low T) (Int32.toNatClampNeg a1)) (fun P9 =>
      post P9)))
    else wp_P_add P5 ((T_low T) (Int32.toNatClampNeg a1)) (fun P6 =>
      post P6)))
  else if ((T_kind T) (Int32.toNatClampNeg a1)) = 2 then (jn (fun (jk156 : Int32 → Prop) =>
    (if ((A_there A) (Int32.toNatClampNeg ((T_low T) (Int32.toNatClampNeg a1)))) = 0 then jk156 1
      else jk156 2)) (fun b10 =>
    wp_P_start P b10 (fun P11 =>
      wp_A_nextItem A ((T_low T) (Int32.toNatClampNeg a1)) (fun r12 =>
      wp_P_add P11 r12 (fun P13 =>
      (if ((A_there A) (Int32.toNatClampNeg ((T_low T) (Int32.toNatClampNeg a1)))) = 0 then post P13
      else wp_P_add P13 ((T_low T) (Int32.toNatClampNeg a1)) (fun P14 =>
        post P14)))))))
  else wp_P_start P 1 (fun P15 =>
    (∃ e201, wp_N_planLocks_L201 A ((T_high T) (Int32.toNatClampNeg a1)) (fun P17 =>
    wp_A_nextItem A ((T_high T) (Int32.toNatClampNeg a1)) (fun r18 =>
      wp_P_add P17 r18 (fun P19 =>
      post P19))) e201 ((T_low T) (Int32.toNatClampNeg a1)) P15)))

def wp_K_heldBy (K : S_K) (a1 : Int32) (a2 : Int32) (post : Int32 → Prop) : Prop :=
  vp_in a2 33 ∧
  (if (lg_cmp (((K_exclusive K) (Int32.toNatClampNeg a2)) &&& ((1 : Int64) <<< (Int32.toInt64 a1 &&& 63))) (0 : Int64)) = 0 then vp_in a2 33 ∧
    (if (lg_cmp (((K_shared K) (Int32.toNatClampNeg a2)) &&& ((1 : Int64) <<< (Int32.toInt64 a1 &&& 63))) (0 : Int64)) = 0 then post 0
    else post 1)
  else post 2)

def wp_K_blockers (K : S_K) (a1 : Int32) (a2 : Int32) (a3 : Int64) (post : Int64 → Prop) : Prop :=
  (if a2 = 2 then vp_in a1 33 ∧
    vp_in a1 33 ∧
    post ((((K_shared K) (Int32.toNatClampNeg a1)) ||| ((K_exclusive K) (Int32.toNatClampNeg a1))) &&& (a3 ^^^ (-1)))
  else vp_in a1 33 ∧
    post (((K_exclusive K) (Int32.toNatClampNeg a1)) &&& (a3 ^^^ (-1))))

def wp_N_freeLocks_L2 (K : S_K) (P : S_P) (T : S_T) (v1 : Int32) (post : Int32 → Prop) (Kx : Prop) : Nat → Int32 → Prop
  | 0, _ => False
  | n2 + 1, v2 => (if (P_size P) ≤ v2 then Kx
      else vp_in v2 33 ∧
        wp_K_heldBy K v1 ((P_items P) (Int32.toNatClampNeg v2)) (fun r1 =>
        (jn (fun (jk47 : Int32 → Prop) =>
        (if r1 < (P_mode P) then jk47 0
          else jk47 1)) (fun b2 =>
        (if b2 = 0 then vp_in v1 60 ∧
            wp_K_blockers K ((P_items P) (Int32.toNatClampNeg v2)) (P_mode P) ((T_lineage T) (Int32.toNatClampNeg v1)) (fun r3 =>
            (if (lg_cmp r3 (0 : Int64)) = 0 then wp_N_freeLocks_L2 K P T v1 post Kx n2 (v2 + 1)
            else post v2))
          else wp_N_freeLocks_L2 K P T v1 post Kx n2 (v2 + 1))))))
def wp_N_freeLocks (K : S_K) (P : S_P) (T : S_T) (a1 : Int32) (post : Int32 → Prop) : Prop :=
  (∃ e2, wp_N_freeLocks_L2 K P T a1 post (post (P_size P)) e2 0)

def wp_K_grant (K : S_K) (a1 : Int32) (a2 : Int32) (a3 : Int32) (post : S_K → Prop) : Prop :=
  wp_K_heldBy K a1 a2 (fun r1 =>
  (if r1 < a3 then (if a3 = 2 then vp_in a2 33 ∧
      vp_in a2 33 ∧
      vp_in a2 33 ∧
      vp_in a2 33 ∧
      post (K_exclusive' (K_shared' K (vp_updL (K_shared K) (Int32.toNatClampNeg a2) (((K_shared K) (Int32.toNatClampNeg a2)) &&& (((1 : Int64) <<< (Int32.toInt64 a1 &&& 63)) ^^^ (-1))))) (vp_updL (K_exclusive K) (Int32.toNatClampNeg a2) (((K_exclusive K) (Int32.toNatClampNeg a2)) ||| ((1 : Int64) <<< (Int32.toInt64 a1 &&& 63)))))
    else vp_in a2 33 ∧
      vp_in a2 33 ∧
      post (K_shared' K (vp_updL (K_shared K) (Int32.toNatClampNeg a2) (((K_shared K) (Int32.toNatClampNeg a2)) ||| ((1 : Int64) <<< (Int32.toInt64 a1 &&& 63))))))
  else post K))

def wp_N_takeLocks_L13 (P : S_P) (v1 : Int32) (v2 : Int32) (Kx : S_K → Prop) : Nat → Int32 → S_K → Prop
  | 0, _, _ => False
  | n13 + 1, v3, K => (if v2 ≤ v3 then Kx K
      else vp_in v3 33 ∧
        wp_K_grant K v1 ((P_items P) (Int32.toNatClampNeg v3)) (P_mode P) (fun K3 =>
        wp_N_takeLocks_L13 P v1 v2 Kx n13 (v3 + 1) K3))
def wp_N_takeLocks (A : S_A) (K : S_K) (P : S_P) (T : S_T) (a1 : Int32) (post : Int32 → S_K → S_P → Prop) : Prop :=
  wp_N_planLocks A P T a1 (fun P1 =>
  wp_N_freeLocks K P1 T a1 (fun r2 =>
  (∃ e13, wp_N_takeLocks_L13 P1 a1 r2 (fun K4 =>
  (if r2 = (P_size P1) then post 1 K4 P1
    else post 0 K4 P1)) e13 0 K)))

def wp_A_putOnDisk_L42 (v1 : Int32) (v3 : Int32) (Kx : S_A → Prop) : Nat → Int32 → S_A → Prop
  | 0, _, _ => False
  | n42 + 1, v4, A => (if (v3 + 4) ≤ v4 then Kx A
      else vp_in v4 32 ∧
        vp_in v4 32 ∧
        vp_in v4 32 ∧
        vp_in v4 32 ∧
        wp_A_putOnDisk_L42 v1 v3 Kx n42 (v4 + 1) (A_diskValue' (A_diskThere' A (upd (A_diskThere A) (Int32.toNatClampNeg v4) (vp_nar .boolean ((A_there A) (Int32.toNatClampNeg v4))))) (upd (A_diskValue A) (Int32.toNatClampNeg v4) ((A_value A) (Int32.toNatClampNeg v4)))))
def wp_A_putOnDisk (A : S_A) (G : S_G) (a1 : Int32) (post : S_A → S_G → Prop) : Prop :=
  vp_in a1 8 ∧
  (jn (fun (jk23 : S_G → Prop) =>
  (if ((A_lsn A) (Int32.toNatClampNeg a1)) ≤ (G_flushed G) then jk23 G
    else vp_in a1 8 ∧
      jk23 (G_flushed' G ((A_lsn A) (Int32.toNatClampNeg a1))))) (fun G1 =>
  vp_in a1 8 ∧
    vp_in a1 8 ∧
    (∃ e42, wp_A_putOnDisk_L42 a1 (a1 * 4) (fun A2 =>
    vp_in a1 8 ∧
      post (A_dirty' A2 (upd (A_dirty A2) (Int32.toNatClampNeg a1) (vp_nar .boolean 0))) G1) e42 (a1 * 4) (A_diskLsn' A (upd (A_diskLsn A) (Int32.toNatClampNeg a1) ((A_lsn A) (Int32.toNatClampNeg a1)))))))

def wp_A_touch_L2 (A : S_A) (v1 : Int32) (Kx : Int32 → Prop) : Nat → Int32 → Prop
  | 0, _ => False
  | n2 + 1, v3 => (if (A_framesInUse A) ≤ v3 then Kx v3
      else vp_in v3 8 ∧
        (if ((A_byTouch A) (Int32.toNatClampNeg v3)) = v1 then Kx v3
        else wp_A_touch_L2 A v1 Kx n2 (v3 + 1)))
def wp_A_touch_L86 (v1 : Int32) (Kx : S_A → Prop) : Nat → Int32 → S_A → Prop
  | 0, _, _ => False
  | n86 + 1, v4, A => (if v4 ≤ 0 then Kx A
      else vp_in (v4 - 1) 8 ∧
        vp_in v4 8 ∧
        wp_A_touch_L86 v1 Kx n86 (v4 + (-1)) (A_byTouch' A (upd (A_byTouch A) (Int32.toNatClampNeg v4) ((A_byTouch A) (Int32.toNatClampNeg (v4 - 1))))))
def wp_A_touch (A : S_A) (G : S_G) (a1 : Int32) (post : S_A → S_G → Prop) : Prop :=
  (∃ e2, wp_A_touch_L2 A a1 (fun x1 =>
  (jn (fun (jk83 : Int32 → S_A → S_G → Prop) =>
    (if x1 = (A_frames A) then vp_in (x1 + (-1)) 8 ∧
        vp_in ((A_byTouch A) (Int32.toNatClampNeg (x1 + (-1)))) 8 ∧
        (if ((A_dirty A) (Int32.toNatClampNeg ((A_byTouch A) (Int32.toNatClampNeg (x1 + (-1)))))) = 0 then jk83 (x1 + (-1)) A G
        else vp_in (x1 + (-1)) 8 ∧
          wp_A_putOnDisk A G ((A_byTouch A) (Int32.toNatClampNeg (x1 + (-1)))) (fun A2 G3 =>
          jk83 (x1 + (-1)) A2 G3))
      else (if x1 = (A_framesInUse A) then jk83 x1 (A_framesInUse' A ((A_framesInUse A) + 1)) G
        else jk83 x1 A G))) (fun x4 A5 G6 =>
    (∃ e86, wp_A_touch_L86 a1 (fun A7 =>
      vp_in 0 8 ∧
        post (A_byTouch' A7 (upd (A_byTouch A7) (Int32.toNatClampNeg 0) a1)) G6) e86 x4 A5)))) e2 0)

def wp_N_asNumber (a0 : Int32) (post : Int32 → Prop) : Prop :=
  (if a0 = 0 then post 0
  else post 1)

def wp_G_lsnOf (G : S_G) (a1 : Int32) (post : Int32 → Prop) : Prop :=
  post (((G_base G) + 1) + a1)

def wp_A_change (A : S_A) (a1 : Int32) (a2 : Int32) (a3 : Int32) (a4 : Int32) (post : S_A → Prop) : Prop :=
  vp_in a1 32 ∧
  vp_in a1 32 ∧
  vp_in (a1 / 4) 8 ∧
  vp_in (a1 / 4) 8 ∧
  post (A_dirty' (A_lsn' (A_value' (A_there' A (upd (A_there A) (Int32.toNatClampNeg a1) (vp_nar .boolean a2))) (upd (A_value A) (Int32.toNatClampNeg a1) a3)) (upd (A_lsn A) (Int32.toNatClampNeg (a1 / 4)) a4)) (upd (A_dirty A) (Int32.toNatClampNeg (a1 / 4)) (vp_nar .boolean 1)))

def wp_N_update (A : S_A) (G : S_G) (a1 : Int32) (a2 : Int32) (a3 : Int32) (a4 : Int32) (post : S_A → S_G → Prop) : Prop :=
  wp_G_append G 2 a1 a2 (fun r1 G2 =>
  vp_in a2 32 ∧
  vp_in a2 32 ∧
  wp_G_setBefore G2 r1 ((A_there A) (Int32.toNatClampNeg a2)) ((A_value A) (Int32.toNatClampNeg a2)) (fun G3 =>
  wp_G_setAfter G3 r1 a3 a4 (fun G4 =>
  wp_A_touch A G4 (a2 / 4) (fun A5 G6 =>
  wp_G_lsnOf G6 r1 (fun r7 =>
  wp_A_change A5 a2 a3 a4 r7 (fun A8 =>
  post A8 G6))))))

def wp_N_countAndSum_L4 (v1 : Int32) (v2 : Int32) (Kx : S_A → S_G → Prop) : Nat → Int32 → S_A → S_G → Prop
  | 0, _, _, _ => False
  | n4 + 1, v3, A, G => (if (v2 / 4) < v3 then Kx A G
      else wp_A_touch A G v3 (fun A1 G2 =>
        wp_N_countAndSum_L4 v1 v2 Kx n4 (v3 + 1) A1 G2))
def wp_N_countAndSum_L37 (A : S_A) (v2 : Int32) (Kx : Int32 → Int32 → Prop) : Nat → Int32 → Int32 → Int32 → Prop
  | 0, _, _, _ => False
  | n37 + 1, v3, v4, v5 => (if v2 < v5 then Kx v3 v4
      else vp_in v5 32 ∧
        (if ((A_there A) (Int32.toNatClampNeg v5)) = 0 then wp_N_countAndSum_L37 A v2 Kx n37 v3 v4 (v5 + 1)
        else vp_in v5 32 ∧
          wp_N_countAndSum_L37 A v2 Kx n37 (v3 + 1) (v4 + ((A_value A) (Int32.toNatClampNeg v5))) (v5 + 1)))
def wp_N_countAndSum (A : S_A) (G : S_G) (N : S_N) (a1 : Int32) (a2 : Int32) (post : Int32 → S_A → S_G → S_N → Prop) : Prop :=
  (∃ e4, wp_N_countAndSum_L4 a1 a2 (fun A3 G4 =>
  (∃ e37, wp_N_countAndSum_L37 A3 a2 (fun x5 x6 =>
    post x5 A3 G4 (N_latestValue' N x6)) e37 0 0 a1)) e4 (a1 / 4) A G)

def wp_N_carryOut (A : S_A) (G : S_G) (N : S_N) (T : S_T) (a1 : Int32) (post : Int32 → S_A → S_G → S_N → Prop) : Prop :=
  vp_in a1 60 ∧
  vp_in a1 60 ∧
  (if ((T_kind T) (Int32.toNatClampNeg a1)) = 0 then wp_A_touch A G (((T_low T) (Int32.toNatClampNeg a1)) / 4) (fun A1 G2 =>
    vp_in ((T_low T) (Int32.toNatClampNeg a1)) 32 ∧
    vp_in ((T_low T) (Int32.toNatClampNeg a1)) 32 ∧
    wp_N_asNumber ((A_there A1) (Int32.toNatClampNeg ((T_low T) (Int32.toNatClampNeg a1)))) (fun r3 =>
    post r3 A1 G2 (N_latestValue' N ((A_value A1) (Int32.toNatClampNeg ((T_low T) (Int32.toNatClampNeg a1)))))))
  else if ((T_kind T) (Int32.toNatClampNeg a1)) = 1 then wp_N_hasRoomForOne G T (fun r4 =>
    (if r4 = 0 then post (-5) A G N
    else vp_in a1 60 ∧
      wp_N_update A G a1 ((T_low T) (Int32.toNatClampNeg a1)) 1 ((T_newValue T) (Int32.toNatClampNeg a1)) (fun A5 G6 =>
      post 0 A5 G6 N)))
  else if ((T_kind T) (Int32.toNatClampNeg a1)) = 2 then vp_in ((T_low T) (Int32.toNatClampNeg a1)) 32 ∧
    (if ((A_there A) (Int32.toNatClampNeg ((T_low T) (Int32.toNatClampNeg a1)))) = 0 then post 0 A G N
    else wp_N_hasRoomForOne G T (fun r7 =>
      (if r7 = 0 then post (-5) A G N
      else wp_N_update A G a1 ((T_low T) (Int32.toNatClampNeg a1)) 0 0 (fun A8 G9 =>
        post 1 A8 G9 N))))
  else vp_in a1 60 ∧
    wp_N_countAndSum A G N ((T_low T) (Int32.toNatClampNeg a1)) ((T_high T) (Int32.toNatClampNeg a1)) (fun r10 A11 G12 N13 =>
    post r10 A11 G12 N13))

def wp_T_isWaiting (T : S_T) (a1 : Int32) (post : Int32 → Prop) : Prop :=
  wp_T_exists T a1 (fun r1 =>
  (if r1 = 0 then post 0
  else vp_in a1 60 ∧
    (if ((T_state T) (Int32.toNatClampNeg a1)) = 2 then post 1
    else post 0)))

def wp_N_blockersOf (A : S_A) (K : S_K) (P : S_P) (T : S_T) (a1 : Int32) (post : Int64 → S_P → Prop) : Prop :=
  wp_N_planLocks A P T a1 (fun P1 =>
  wp_N_freeLocks K P1 T a1 (fun r2 =>
  (if r2 = (P_size P1) then post (0 : Int64) P1
  else vp_in r2 33 ∧
    vp_in a1 60 ∧
    wp_K_blockers K ((P_items P1) (Int32.toNatClampNeg r2)) (P_mode P1) ((T_lineage T) (Int32.toNatClampNeg a1)) (fun r3 =>
    post r3 P1))))

def wp_N_leadsOf (A : S_A) (K : S_K) (P : S_P) (T : S_T) (a1 : Int32) (post : Int64 → S_P → Prop) : Prop :=
  wp_T_isLive T a1 (fun r1 =>
  (if r1 = 0 then post (0 : Int64) P
  else wp_T_liveChildren T a1 (fun r2 =>
    wp_T_isWaiting T a1 (fun r3 =>
    (if r3 = 0 then post r2 P
    else wp_N_blockersOf A K P T a1 (fun r4 P5 =>
      post (r2 ||| r4) P5))))))

def wp_D_reachedFrom_L22 (D : S_D) (v2 : Int32) (v5 : Int32) (v6 : Int64) (Kx : Int64 → Prop) : Nat → Int64 → Int32 → Prop
  | 0, _, _ => False
  | n22 + 1, v3, v8 => (if v2 ≤ v8 then Kx v3
      else (if (lg_cmp (v3 &&& ((1 : Int64) <<< (Int32.toInt64 v8 &&& 63))) (0 : Int64)) = 0 then wp_D_reachedFrom_L22 D v2 v5 v6 Kx n22 v3 (v8 + 1)
        else vp_in v8 60 ∧
          wp_D_reachedFrom_L22 D v2 v5 v6 Kx n22 (v3 ||| ((D_from D) (Int32.toNatClampNeg v8))) (v8 + 1)))
def wp_D_reachedFrom_L10 (D : S_D) (v2 : Int32) (Kx : Int64 → Prop) : Nat → Int64 → Int32 → Prop
  | 0, _, _ => False
  | n10 + 1, v3, v5 => (if v2 ≤ v5 then Kx v3
      else (∃ e22, wp_D_reachedFrom_L22 D v2 v5 v3 (fun x1 =>
        (if (lg_cmp x1 v3) = 0 then Kx x1
          else wp_D_reachedFrom_L10 D v2 Kx n10 x1 (v5 + 1))) e22 v3 0))
def wp_D_reachedFrom (D : S_D) (a1 : Int32) (a2 : Int32) (post : Int64 → Prop) : Prop :=
  vp_in a1 60 ∧
  (∃ e10, wp_D_reachedFrom_L10 D a2 (fun x2 =>
  post x2) e10 ((D_from D) (Int32.toNatClampNeg a1)) 0)

def wp_D_leadingTo_L19 (D : S_D) (v2 : Int32) (v5 : Int32) (v6 : Int64) (Kx : Int64 → Prop) : Nat → Int64 → Int32 → Prop
  | 0, _, _ => False
  | n19 + 1, v3, v8 => (if v2 ≤ v8 then Kx v3
      else vp_in v8 60 ∧
        (if (lg_cmp (v3 &&& ((D_from D) (Int32.toNatClampNeg v8))) (0 : Int64)) = 0 then wp_D_leadingTo_L19 D v2 v5 v6 Kx n19 v3 (v8 + 1)
        else wp_D_leadingTo_L19 D v2 v5 v6 Kx n19 (v3 ||| ((1 : Int64) <<< (Int32.toInt64 v8 &&& 63))) (v8 + 1)))
def wp_D_leadingTo_L7 (D : S_D) (v2 : Int32) (Kx : Int64 → Prop) : Nat → Int64 → Int32 → Prop
  | 0, _, _ => False
  | n7 + 1, v3, v5 => (if v2 ≤ v5 then Kx v3
      else (∃ e19, wp_D_leadingTo_L19 D v2 v5 v3 (fun x1 =>
        (if (lg_cmp x1 v3) = 0 then Kx x1
          else wp_D_leadingTo_L7 D v2 Kx n7 x1 (v5 + 1))) e19 v3 0))
def wp_D_leadingTo (D : S_D) (a1 : Int32) (a2 : Int32) (post : Int64 → Prop) : Prop :=
  (∃ e7, wp_D_leadingTo_L7 D a2 (fun x2 =>
  post x2) e7 ((1 : Int64) <<< (Int32.toInt64 a1 &&& 63)) 0)

def wp_D_greatestInCircle_L34 (v1 : Int32) (v5 : Int64) (post : Int32 → Prop) (Kx : Prop) : Nat → Int32 → Prop
  | 0, _ => False
  | n34 + 1, v7 => (if v7 ≤ v1 then Kx
      else (if (lg_cmp (v5 &&& ((1 : Int64) <<< (Int32.toInt64 v7 &&& 63))) (0 : Int64)) = 0 then wp_D_greatestInCircle_L34 v1 v5 post Kx n34 (v7 + (-1))
        else post v7))
def wp_D_greatestInCircle (D : S_D) (a1 : Int32) (a2 : Int32) (post : Int32 → Prop) : Prop :=
  wp_D_reachedFrom D a1 a2 (fun r1 =>
  (if (lg_cmp (r1 &&& ((1 : Int64) <<< (Int32.toInt64 a1 &&& 63))) (0 : Int64)) = 0 then post (-1)
  else wp_D_leadingTo D a1 a2 (fun r2 =>
    (∃ e34, wp_D_greatestInCircle_L34 a1 (r1 &&& r2) post (post a1) e34 (a2 - 1)))))

def wp_N_victimOfCircle_L15 (A : S_A) (K : S_K) (T : S_T) (v1 : Int32) (Kx : S_D → S_P → Prop) : Nat → Int32 → S_D → S_P → Prop
  | 0, _, _, _ => False
  | n15 + 1, v2, D, P => (if (T_count T) ≤ v2 then Kx D P
      else wp_N_leadsOf A K P T v2 (fun r2 P3 =>
        vp_in v2 60 ∧
        wp_N_victimOfCircle_L15 A K T v1 Kx n15 (v2 + 1) (D_from' D (vp_updL (D_from D) (Int32.toNatClampNeg v2) r2)) P3))
def wp_N_victimOfCircle (A : S_A) (D : S_D) (K : S_K) (P : S_P) (T : S_T) (a1 : Int32) (post : Int32 → S_D → S_P → Prop) : Prop :=
  wp_T_isLive T a1 (fun r1 =>
  (if r1 = 0 then post (-1) D P
  else (∃ e15, wp_N_victimOfCircle_L15 A K T a1 (fun D4 P5 =>
    wp_D_greatestInCircle D4 a1 (T_count T) (fun r6 =>
      post r6 D4 P5)) e15 0 D P)))

def wp_T_isWithin (T : S_T) (a1 : Int32) (a2 : Int32) (post : Int32 → Prop) : Prop :=
  vp_in a1 60 ∧
  (if (lg_cmp (((T_lineage T) (Int32.toNatClampNeg a1)) &&& ((1 : Int64) <<< (Int32.toInt64 a2 &&& 63))) (0 : Int64)) = 0 then post 0
  else post 1)

def wp_N_undo (A : S_A) (G : S_G) (a1 : Int32) (a2 : Int32) (post : S_A → S_G → Prop) : Prop :=
  vp_in a1 300 ∧
  vp_in a1 300 ∧
  vp_in a1 300 ∧
  wp_G_append G 3 a2 ((G_subject G) (Int32.toNatClampNeg a1)) (fun r1 G2 =>
  wp_G_setAfter G2 r1 ((G_wasThere G) (Int32.toNatClampNeg a1)) ((G_oldValue G) (Int32.toNatClampNeg a1)) (fun G3 =>
  wp_G_lsnOf G3 a1 (fun r4 =>
  vp_in r1 300 ∧
  vp_in a1 300 ∧
  wp_A_touch A (G_undone' (G_undoes' G3 (upd (G_undoes G3) (Int32.toNatClampNeg r1) r4)) (upd (G_undone G3) (Int32.toNatClampNeg a1) (vp_nar .boolean 1))) (((G_subject G) (Int32.toNatClampNeg a1)) / 4) (fun A5 G6 =>
  wp_G_lsnOf G6 r1 (fun r7 =>
  wp_A_change A5 ((G_subject G) (Int32.toNatClampNeg a1)) ((G_wasThere G) (Int32.toNatClampNeg a1)) ((G_oldValue G) (Int32.toNatClampNeg a1)) r7 (fun A8 =>
  post A8 G6))))))

def wp_N_undoOpenUpdates_L13 (T : S_T) (v1 : Int32) (v2 : Int32) (Kx : Int32 → S_A → S_G → Prop) : Nat → Int32 → Int32 → S_A → S_G → Prop
  | 0, _, _, _, _ => False
  | n13 + 1, v3, v4, A, G => (if v4 < 0 then Kx v3 A G
      else wp_G_lsnOf G v4 (fun r1 =>
        (if r1 ≤ v2 then Kx v3 A G
        else wp_N_isOpen G T v4 (fun r2 =>
          (if r2 = 0 then wp_N_undoOpenUpdates_L13 T v1 v2 Kx n13 v3 (v4 + (-1)) A G
          else vp_in v4 300 ∧
            wp_T_isWithin T ((G_transaction G) (Int32.toNatClampNeg v4)) v1 (fun r3 =>
            (if r3 = 0 then wp_N_undoOpenUpdates_L13 T v1 v2 Kx n13 v3 (v4 + (-1)) A G
            else wp_N_undo A G v4 v1 (fun A4 G5 =>
              wp_N_undoOpenUpdates_L13 T v1 v2 Kx n13 (v3 + 1) (v4 + (-1)) A4 G5))))))))
def wp_N_undoOpenUpdates (A : S_A) (G : S_G) (T : S_T) (a1 : Int32) (a2 : Int32) (post : Int32 → S_A → S_G → Prop) : Prop :=
  (∃ e13, wp_N_undoOpenUpdates_L13 T a1 a2 (fun x6 A7 G8 =>
  post x6 A7 G8) e13 0 ((G_size G) - 1) A G)

def wp_K_release_L2 (v1 : Int32) (Kx : S_K → Prop) : Nat → Int32 → S_K → Prop
  | 0, _, _ => False
  | n2 + 1, v2, K => (if 33 ≤ v2 then Kx K
      else vp_in v2 33 ∧
        vp_in v2 33 ∧
        vp_in v2 33 ∧
        vp_in v2 33 ∧
        wp_K_release_L2 v1 Kx n2 (v2 + 1) (K_exclusive' (K_shared' K (vp_updL (K_shared K) (Int32.toNatClampNeg v2) (((K_shared K) (Int32.toNatClampNeg v2)) &&& (((1 : Int64) <<< (Int32.toInt64 v1 &&& 63)) ^^^ (-1))))) (vp_updL (K_exclusive K) (Int32.toNatClampNeg v2) (((K_exclusive K) (Int32.toNatClampNeg v2)) &&& (((1 : Int64) <<< (Int32.toInt64 v1 &&& 63)) ^^^ (-1))))))
def wp_K_release (K : S_K) (a1 : Int32) (post : S_K → Prop) : Prop :=
  (∃ e2, wp_K_release_L2 a1 (fun K1 =>
  post K1) e2 0 K)

def wp_N_abortWithDescendants_L25 (v1 : Int32) (v2 : Int32) (Kx : S_G → S_K → S_T → Prop) : Nat → Int32 → S_G → S_K → S_T → Prop
  | 0, _, _, _, _ => False
  | n25 + 1, v3, G, K, T => (if v3 < v1 then Kx G K T
      else wp_T_isLive T v3 (fun r4 =>
        (if r4 = 0 then wp_N_abortWithDescendants_L25 v1 v2 Kx n25 (v3 + (-1)) G K T
        else wp_T_isWithin T v3 v1 (fun r5 =>
          (if r5 = 0 then wp_N_abortWithDescendants_L25 v1 v2 Kx n25 (v3 + (-1)) G K T
          else vp_in v3 60 ∧
            wp_G_append G 5 v3 0 (fun r6 G7 =>
            wp_K_release K v3 (fun K8 =>
            wp_N_abortWithDescendants_L25 v1 v2 Kx n25 (v3 + (-1)) G7 K8 (T_state' T (upd (T_state T) (Int32.toNatClampNeg v3) 4)))))))))
def wp_N_abortWithDescendants (A : S_A) (G : S_G) (K : S_K) (T : S_T) (a1 : Int32) (post : Int32 → S_A → S_G → S_K → S_T → Prop) : Prop :=
  vp_in a1 60 ∧
  wp_N_undoOpenUpdates A G T a1 ((T_begun T) (Int32.toNatClampNeg a1)) (fun r1 A2 G3 =>
  (∃ e25, wp_N_abortWithDescendants_L25 a1 r1 (fun G9 K10 T11 =>
  post r1 A2 G9 K10 T11) e25 ((T_count T) - 1) G3 K T))

def wp_N_request_L42 (v1 : Int32) (Kx : S_A → S_D → S_G → S_K → S_P → S_T → Prop) : Nat → Int32 → Int32 → S_A → S_D → S_G → S_K → S_P → S_T → Prop
  | 0, _, _, _, _, _, _, _, _ => False
  | n42 + 1, v2, v3, A, D, G, K, P, T => (if 60 ≤ v3 then Kx A D G K P T
      else (if v2 = (-1) then Kx A D G K P T
        else wp_N_abortWithDescendants A G K T v2 (fun r7 A8 G9 K10 T11 =>
          wp_N_victimOfCircle A8 D K10 P T11 v1 (fun r12 D13 P14 =>
          wp_N_request_L42 v1 Kx n42 r12 (v3 + 1) A8 D13 G9 K10 P14 T11))))
def wp_N_request (A : S_A) (D : S_D) (G : S_G) (K : S_K) (N : S_N) (P : S_P) (T : S_T) (a1 : Int32) (post : Int32 → S_A → S_D → S_G → S_K → S_N → S_P → S_T → Prop) : Prop :=
  wp_N_takeLocks A K P T a1 (fun r1 K2 P3 =>
  (if r1 = 0 then vp_in a1 60 ∧
    wp_N_victimOfCircle A D K2 P3 (T_state' T (upd (T_state T) (Int32.toNatClampNeg a1) 2)) a1 (fun r4 D5 P6 =>
    (∃ e42, wp_N_request_L42 a1 (fun A15 D16 G17 K18 P19 T20 =>
    wp_T_isLive T20 a1 (fun r21 =>
      (if r21 = 0 then post (-3) A15 D16 G17 K18 N P19 T20
      else post (-2) A15 D16 G17 K18 N P19 T20))) e42 r4 0 A D5 G K2 P6 (T_state' T (upd (T_state T) (Int32.toNatClampNeg a1) 2))))
  else vp_in a1 60 ∧
    wp_N_carryOut A G N (T_state' T (upd (T_state T) (Int32.toNatClampNeg a1) 1)) a1 (fun r22 A23 G24 N25 =>
    post r22 A23 D G24 K2 N25 P3 (T_state' T (upd (T_state T) (Int32.toNatClampNeg a1) 1)))))

def wp_N_get (A : S_A) (D : S_D) (G : S_G) (K : S_K) (N : S_N) (P : S_P) (T : S_T) (a1 : Int32) (a2 : Int32) (post : Int32 → S_A → S_D → S_G → S_K → S_N → S_P → S_T → Prop) : Prop :=
  wp_N_prepare T a1 0 a2 a2 0 (fun r1 T2 =>
  (if r1 = 0 then wp_N_request A D G K N P T2 a1 (fun r3 A4 D5 G6 K7 N8 P9 T10 =>
    post r3 A4 D5 G6 K7 N8 P9 T10)
  else post r1 A D G K N P T2))

def wp_N_put (A : S_A) (D : S_D) (G : S_G) (K : S_K) (N : S_N) (P : S_P) (T : S_T) (a1 : Int32) (a2 : Int32) (a3 : Int32) (post : Int32 → S_A → S_D → S_G → S_K → S_N → S_P → S_T → Prop) : Prop :=
  wp_N_prepare T a1 1 a2 a2 a3 (fun r1 T2 =>
  (if r1 = 0 then wp_N_request A D G K N P T2 a1 (fun r3 A4 D5 G6 K7 N8 P9 T10 =>
    post r3 A4 D5 G6 K7 N8 P9 T10)
  else post r1 A D G K N P T2))

def wp_N_delete (A : S_A) (D : S_D) (G : S_G) (K : S_K) (N : S_N) (P : S_P) (T : S_T) (a1 : Int32) (a2 : Int32) (post : Int32 → S_A → S_D → S_G → S_K → S_N → S_P → S_T → Prop) : Prop :=
  wp_N_prepare T a1 2 a2 a2 0 (fun r1 T2 =>
  (if r1 = 0 then wp_N_request A D G K N P T2 a1 (fun r3 A4 D5 G6 K7 N8 P9 T10 =>
    post r3 A4 D5 G6 K7 N8 P9 T10)
  else post r1 A D G K N P T2))

def wp_N_scan (A : S_A) (D : S_D) (G : S_G) (K : S_K) (N : S_N) (P : S_P) (T : S_T) (a1 : Int32) (a2 : Int32) (a3 : Int32) (post : Int32 → S_A → S_D → S_G → S_K → S_N → S_P → S_T → Prop) : Prop :=
  wp_N_prepare T a1 3 a2 a3 0 (fun r1 T2 =>
  (if r1 = 0 then wp_N_request A D G K N P T2 a1 (fun r3 A4 D5 G6 K7 N8 P9 T10 =>
    post r3 A4 D5 G6 K7 N8 P9 T10)
  else post r1 A D G K N P T2))

def wp_N_resume (A : S_A) (D : S_D) (G : S_G) (K : S_K) (N : S_N) (P : S_P) (T : S_T) (a1 : Int32) (post : Int32 → S_A → S_D → S_G → S_K → S_N → S_P → S_T → Prop) : Prop :=
  wp_T_isWaiting T a1 (fun r1 =>
  (if r1 = 0 then post (-1) A D G K N P T
  else wp_N_request A D G K N P T a1 (fun r2 A3 D4 G5 K6 N7 P8 T9 =>
    post r2 A3 D4 G5 K6 N7 P8 T9)))

def wp_N_value (N : S_N) (post : Int32 → Prop) : Prop :=
  post (N_latestValue N)

def wp_K_passOn_L2 (v1 : Int32) (v2 : Int32) (Kx : S_K → Prop) : Nat → Int32 → S_K → Prop
  | 0, _, _ => False
  | n2 + 1, v3, K => (if 33 ≤ v3 then Kx K
      else wp_K_heldBy K v1 v3 (fun r1 =>
        wp_K_grant K v2 v3 r1 (fun K2 =>
        wp_K_passOn_L2 v1 v2 Kx n2 (v3 + 1) K2)))
def wp_K_passOn (K : S_K) (a1 : Int32) (a2 : Int32) (post : S_K → Prop) : Prop :=
  (∃ e2, wp_K_passOn_L2 a1 a2 (fun K3 =>
  post K3) e2 0 K)

def wp_N_commit (G : S_G) (K : S_K) (T : S_T) (a1 : Int32) (post : Int32 → S_G → S_K → S_T → Prop) : Prop :=
  wp_N_refusalOf T a1 (fun r1 =>
  (if r1 = 0 then wp_G_append G 4 a1 0 (fun r2 G3 =>
    vp_in a1 60 ∧
    vp_in a1 60 ∧
    (if ((T_parent T) (Int32.toNatClampNeg a1)) = (-1) then wp_G_last G3 (fun r6 =>
      wp_K_release K a1 (fun K7 =>
      post 0 (G_flushed' G3 r6) K7 (T_state' T (upd (T_state T) (Int32.toNatClampNeg a1) 3))))
    else wp_K_passOn K a1 ((T_parent T) (Int32.toNatClampNeg a1)) (fun K4 =>
      wp_K_release K4 a1 (fun K5 =>
      post 0 G3 K5 (T_state' T (upd (T_state T) (Int32.toNatClampNeg a1) 3))))))
  else post r1 G K T))

def wp_N_abort (A : S_A) (G : S_G) (K : S_K) (T : S_T) (a1 : Int32) (post : Int32 → S_A → S_G → S_K → S_T → Prop) : Prop :=
  wp_T_isLive T a1 (fun r1 =>
  (if r1 = 0 then post (-1) A G K T
  else wp_N_abortWithDescendants A G K T a1 (fun r2 A3 G4 K5 T6 =>
    post r2 A3 G4 K5 T6)))

def wp_N_save (G : S_G) (T : S_T) (a1 : Int32) (post : Int32 → Prop) : Prop :=
  wp_N_refusalOf T a1 (fun r1 =>
  (if r1 = 0 then wp_G_last G (fun r2 =>
    post r2)
  else post r1))

def wp_N_rollback (A : S_A) (G : S_G) (T : S_T) (a1 : Int32) (a2 : Int32) (post : Int32 → S_A → S_G → Prop) : Prop :=
  wp_T_isActive T a1 (fun r1 =>
  (if r1 = 0 then post (-1) A G
  else vp_in a1 60 ∧
    (if a2 < ((T_begun T) (Int32.toNatClampNeg a1)) then post (-1) A G
    else wp_G_last G (fun r2 =>
      (if a2 ≤ r2 then wp_T_isBusy T a1 (fun r3 =>
        (if r3 = 0 then wp_N_undoOpenUpdates A G T a1 a2 (fun r4 A5 G6 =>
          post r4 A5 G6)
        else post (-4) A G))
      else post (-1) A G)))))

def wp_N_isPage (a0 : Int32) (post : Int32 → Prop) : Prop :=
  (if a0 < 0 then post 0
  else (if 8 ≤ a0 then post 0
    else post 1))

def wp_N_write (A : S_A) (G : S_G) (a1 : Int32) (post : Int32 → S_A → S_G → Prop) : Prop :=
  wp_N_isPage a1 (fun r1 =>
  (if r1 = 0 then post 0 A G
  else vp_in a1 8 ∧
    (if ((A_dirty A) (Int32.toNatClampNeg a1)) = 0 then post 0 A G
    else wp_A_putOnDisk A G a1 (fun A2 G3 =>
      post 1 A2 G3))))

def wp_G_empty (G : S_G) (post : S_G → Prop) : Prop :=
  wp_G_last G (fun r1 =>
  post (G_flushed' (G_size' (G_base' G r1) 0) r1))

def wp_N_archive_L16 (Kx : Int32 → S_A → S_G → Prop) : Nat → Int32 → Int32 → S_A → S_G → Prop
  | 0, _, _, _, _ => False
  | n16 + 1, v1, v2, A, G => (if 8 ≤ v2 then Kx v1 A G
      else vp_in v2 8 ∧
        (if ((A_dirty A) (Int32.toNatClampNeg v2)) = 0 then wp_N_archive_L16 Kx n16 v1 (v2 + 1) A G
        else wp_A_putOnDisk A G v2 (fun A2 G3 =>
          wp_N_archive_L16 Kx n16 (v1 + 1) (v2 + 1) A2 G3)))
def wp_N_archive (A : S_A) (G : S_G) (T : S_T) (post : Int32 → S_A → S_G → Prop) : Prop :=
  wp_T_liveCount T (fun r1 =>
  (if r1 ≤ 0 then (∃ e16, wp_N_archive_L16 (fun x4 A5 G6 =>
    wp_G_empty G6 (fun G7 =>
      post x4 A5 G7)) e16 0 0 A G)
  else post (-1) A G))

def wp_G_rowOf (G : S_G) (a1 : Int32) (post : Int32 → Prop) : Prop :=
  post ((a1 - (G_base G)) - 1)

def wp_G_loseUnflushed_L12 (v1 : Int32) (Kx : S_G → Prop) : Nat → Int32 → S_G → Prop
  | 0, _, _ => False
  | n12 + 1, v2, G => (if (G_size G) ≤ v2 then Kx G
      else vp_in v2 300 ∧
        (if ((G_kind G) (Int32.toNatClampNeg v2)) = 3 then vp_in v2 300 ∧
          wp_G_rowOf G ((G_undoes G) (Int32.toNatClampNeg v2)) (fun r1 =>
          vp_in r1 300 ∧
          wp_G_loseUnflushed_L12 v1 Kx n12 (v2 + 1) (G_undone' G (upd (G_undone G) (Int32.toNatClampNeg r1) (vp_nar .boolean 0))))
        else wp_G_loseUnflushed_L12 v1 Kx n12 (v2 + 1) G))
def wp_G_loseUnflushed (G : S_G) (post : S_G → Prop) : Prop :=
  (∃ e12, wp_G_loseUnflushed_L12 ((G_flushed G) - (G_base G)) (fun G2 =>
  post (G_size' G2 ((G_flushed G) - (G_base G)))) e12 ((G_flushed G) - (G_base G)) G)

def wp_A_loseFrames_L7 (Kx : S_A → Prop) : Nat → Int32 → S_A → Prop
  | 0, _, _ => False
  | n7 + 1, v1, A => (if 8 ≤ v1 then Kx A
      else vp_in v1 8 ∧
        vp_in v1 8 ∧
        vp_in v1 8 ∧
        wp_A_loseFrames_L7 Kx n7 (v1 + 1) (A_lsn' (A_dirty' A (upd (A_dirty A) (Int32.toNatClampNeg v1) (vp_nar .boolean 0))) (upd (A_lsn A) (Int32.toNatClampNeg v1) ((A_diskLsn A) (Int32.toNatClampNeg v1)))))
def wp_A_loseFrames_L40 (Kx : S_A → Prop) : Nat → Int32 → S_A → Prop
  | 0, _, _ => False
  | n40 + 1, v1, A => (if 32 ≤ v1 then Kx A
      else vp_in v1 32 ∧
        vp_in v1 32 ∧
        vp_in v1 32 ∧
        vp_in v1 32 ∧
        wp_A_loseFrames_L40 Kx n40 (v1 + 1) (A_value' (A_there' A (upd (A_there A) (Int32.toNatClampNeg v1) (vp_nar .boolean ((A_diskThere A) (Int32.toNatClampNeg v1))))) (upd (A_value A) (Int32.toNatClampNeg v1) ((A_diskValue A) (Int32.toNatClampNeg v1)))))
def wp_A_loseFrames (A : S_A) (post : S_A → Prop) : Prop :=
  (∃ e7, wp_A_loseFrames_L7 (fun A1 =>
  (∃ e40, wp_A_loseFrames_L40 (fun A2 =>
    post A2) e40 0 A1)) e7 0 (A_framesInUse' A 0))

def wp_K_releaseAll_L2 (Kx : S_K → Prop) : Nat → Int32 → S_K → Prop
  | 0, _, _ => False
  | n2 + 1, v1, K => (if 33 ≤ v1 then Kx K
      else vp_in v1 33 ∧
        vp_in v1 33 ∧
        wp_K_releaseAll_L2 Kx n2 (v1 + 1) (K_exclusive' (K_shared' K (vp_updL (K_shared K) (Int32.toNatClampNeg v1) (0 : Int64))) (vp_updL (K_exclusive K) (Int32.toNatClampNeg v1) (0 : Int64))))
def wp_K_releaseAll (K : S_K) (post : S_K → Prop) : Prop :=
  (∃ e2, wp_K_releaseAll_L2 (fun K1 =>
  post K1) e2 0 K)

def wp_T_abortUncommitted_L2 (Kx : S_T → Prop) : Nat → Int32 → S_T → Prop
  | 0, _, _ => False
  | n2 + 1, v1, T => (if (T_count T) ≤ v1 then Kx T
      else vp_in v1 60 ∧
        vp_in ((T_top T) (Int32.toNatClampNeg v1)) 60 ∧
        (if ((T_state T) (Int32.toNatClampNeg ((T_top T) (Int32.toNatClampNeg v1)))) = 3 then wp_T_abortUncommitted_L2 Kx n2 (v1 + 1) T
        else vp_in v1 60 ∧
          wp_T_abortUncommitted_L2 Kx n2 (v1 + 1) (T_state' T (upd (T_state T) (Int32.toNatClampNeg v1) 4))))
def wp_T_abortUncommitted (T : S_T) (post : S_T → Prop) : Prop :=
  (∃ e2, wp_T_abortUncommitted_L2 (fun T1 =>
  post T1) e2 0 T)

def wp_N_redo (A : S_A) (G : S_G) (a1 : Int32) (post : S_A → S_G → Prop) : Prop :=
  vp_in a1 300 ∧
  wp_A_touch A G (((G_subject G) (Int32.toNatClampNeg a1)) / 4) (fun A1 G2 =>
  vp_in (((G_subject G) (Int32.toNatClampNeg a1)) / 4) 8 ∧
  wp_G_lsnOf G2 a1 (fun r3 =>
  (if r3 ≤ ((A_lsn A1) (Int32.toNatClampNeg (((G_subject G) (Int32.toNatClampNeg a1)) / 4))) then post A1 G2
  else vp_in a1 300 ∧
    vp_in a1 300 ∧
    wp_G_lsnOf G2 a1 (fun r4 =>
    wp_A_change A1 ((G_subject G) (Int32.toNatClampNeg a1)) ((G_isThere G2) (Int32.toNatClampNeg a1)) ((G_newValue G2) (Int32.toNatClampNeg a1)) r4 (fun A5 =>
    post A5 G2)))))

def wp_N_redoLog_L2 (Kx : S_A → S_G → Prop) : Nat → Int32 → S_A → S_G → Prop
  | 0, _, _, _ => False
  | n2 + 1, v1, A, G => (if (G_size G) ≤ v1 then Kx A G
      else vp_in v1 300 ∧
        (if ((G_kind G) (Int32.toNatClampNeg v1)) = 2 then wp_N_redo A G v1 (fun A1 G2 =>
          wp_N_redoLog_L2 Kx n2 (v1 + 1) A1 G2)
        else vp_in v1 300 ∧
          (if ((G_kind G) (Int32.toNatClampNeg v1)) = 3 then wp_N_redo A G v1 (fun A3 G4 =>
            wp_N_redoLog_L2 Kx n2 (v1 + 1) A3 G4)
          else wp_N_redoLog_L2 Kx n2 (v1 + 1) A G)))
def wp_N_redoLog (A : S_A) (G : S_G) (post : S_A → S_G → Prop) : Prop :=
  (∃ e2, wp_N_redoLog_L2 (fun A5 G6 =>
  post A5 G6) e2 0 A G)

def wp_N_undoUncommitted_L12 (T : S_T) (Kx : Int32 → S_A → S_G → Prop) : Nat → Int32 → Int32 → S_A → S_G → Prop
  | 0, _, _, _, _ => False
  | n12 + 1, v1, v2, A, G => (if v2 < 0 then Kx v1 A G
      else vp_in v2 300 ∧
        vp_in ((G_transaction G) (Int32.toNatClampNeg v2)) 60 ∧
        vp_in v2 300 ∧
        (if ((G_kind G) (Int32.toNatClampNeg v2)) = 2 then vp_in v2 300 ∧
          (if ((G_undone G) (Int32.toNatClampNeg v2)) = 0 then vp_in ((T_top T) (Int32.toNatClampNeg ((G_transaction G) (Int32.toNatClampNeg v2)))) 60 ∧
            (if ((T_state T) (Int32.toNatClampNeg ((T_top T) (Int32.toNatClampNeg ((G_transaction G) (Int32.toNatClampNeg v2)))))) = 3 then wp_N_undoUncommitted_L12 T Kx n12 v1 (v2 + (-1)) A G
            else wp_N_undo A G v2 ((T_top T) (Int32.toNatClampNeg ((G_transaction G) (Int32.toNatClampNeg v2)))) (fun A1 G2 =>
              wp_N_undoUncommitted_L12 T Kx n12 (v1 + 1) (v2 + (-1)) A1 G2))
          else wp_N_undoUncommitted_L12 T Kx n12 v1 (v2 + (-1)) A G)
        else wp_N_undoUncommitted_L12 T Kx n12 v1 (v2 + (-1)) A G))
def wp_N_undoUncommitted (A : S_A) (G : S_G) (T : S_T) (post : Int32 → S_A → S_G → Prop) : Prop :=
  (∃ e12, wp_N_undoUncommitted_L12 T (fun x3 A4 G5 =>
  post x3 A4 G5) e12 0 ((G_size G) - 1) A G)

def wp_N_crash (A : S_A) (G : S_G) (K : S_K) (T : S_T) (a1 : Int32) (post : Int32 → S_A → S_G → S_K → S_T → Prop) : Prop :=
  (if a1 < 0 then post (-1) A G K T
  else wp_G_last G (fun r1 =>
    (if a1 ≤ (r1 - (G_flushed G)) then wp_G_loseUnflushed (G_flushed' G ((G_flushed G) + a1)) (fun G2 =>
      wp_A_loseFrames A (fun A3 =>
      wp_K_releaseAll K (fun K4 =>
      wp_T_abortUncommitted T (fun T5 =>
      wp_N_redoLog A3 G2 (fun A6 G7 =>
      wp_N_undoUncommitted A6 G7 T5 (fun r8 A9 G10 =>
      wp_G_last G10 (fun r11 =>
      post r8 A9 (G_flushed' G10 r11) K4 T5)))))))
    else post (-1) A G K T)))

def wp_N_state (T : S_T) (a1 : Int32) (post : Int32 → Prop) : Prop :=
  wp_T_exists T a1 (fun r1 =>
  (if r1 = 0 then post (-1)
  else vp_in a1 60 ∧
    post ((T_state T) (Int32.toNatClampNeg a1))))

def wp_N_parent (T : S_T) (a1 : Int32) (post : Int32 → Prop) : Prop :=
  wp_T_exists T a1 (fun r1 =>
  (if r1 = 0 then post (-1)
  else vp_in a1 60 ∧
    post ((T_parent T) (Int32.toNatClampNeg a1))))

def wp_N_lock (K : S_K) (T : S_T) (a1 : Int32) (a2 : Int32) (post : Int32 → Prop) : Prop :=
  wp_T_exists T a1 (fun r1 =>
  (if r1 = 0 then post (-1)
  else (if a2 < 0 then post (-1)
    else (if a2 < 33 then wp_K_heldBy K a1 a2 (fun r2 =>
        post r2)
      else post (-1)))))

def wp_N_waits (A : S_A) (K : S_K) (P : S_P) (T : S_T) (a1 : Int32) (a2 : Int32) (post : Int32 → S_P → Prop) : Prop :=
  wp_T_isWaiting T a1 (fun r1 =>
  (if r1 = 0 then post 0 P
  else wp_T_exists T a2 (fun r2 =>
    (if r2 = 0 then post 0 P
    else wp_N_blockersOf A K P T a1 (fun r3 P4 =>
      (if (lg_cmp (r3 &&& ((1 : Int64) <<< (Int32.toInt64 a2 &&& 63))) (0 : Int64)) = 0 then post 0 P4
      else post 1 P4))))))

def wp_N_entry (G : S_G) (a1 : Int32) (a2 : Int32) (post : Int32 → Prop) : Prop :=
  (if a1 ≤ (G_base G) then post (-1)
  else wp_G_last G (fun r1 =>
    (if a1 ≤ r1 then wp_G_rowOf G a1 (fun r2 =>
      (if a2 = 0 then vp_in r2 300 ∧
        post ((G_kind G) (Int32.toNatClampNeg r2))
      else if a2 = 1 then vp_in r2 300 ∧
        post ((G_transaction G) (Int32.toNatClampNeg r2))
      else if a2 = 2 then vp_in r2 300 ∧
        post ((G_subject G) (Int32.toNatClampNeg r2))
      else if a2 = 3 then vp_in r2 300 ∧
        (if ((G_kind G) (Int32.toNatClampNeg r2)) = 3 then vp_in r2 300 ∧
          post ((G_undoes G) (Int32.toNatClampNeg r2))
        else vp_in r2 300 ∧
          wp_N_asNumber ((G_wasThere G) (Int32.toNatClampNeg r2)) (fun r3 =>
          post r3))
      else if a2 = 4 then vp_in r2 300 ∧
        wp_N_asNumber ((G_isThere G) (Int32.toNatClampNeg r2)) (fun r4 =>
        post r4)
      else if a2 = 5 then vp_in r2 300 ∧
        post ((G_newValue G) (Int32.toNatClampNeg r2))
      else post (-1)))
    else post (-1))))

def wp_N_log (G : S_G) (T : S_T) (a1 : Int32) (post : Int32 → Prop) : Prop :=
  (if a1 = 0 then wp_G_last G (fun r1 =>
    post r1)
  else if a1 = 1 then post (G_flushed G)
  else if a1 = 2 then post (G_size G)
  else if a1 = 3 then wp_N_openUpdateCount G T (fun r2 =>
    post r2)
  else if a1 = 4 then wp_T_liveCount T (fun r3 =>
    post r3)
  else post (-1))

def wp_N_key (A : S_A) (a1 : Int32) (a2 : Int32) (post : Int32 → Prop) : Prop :=
  wp_N_isKey a1 (fun r1 =>
  (if r1 = 0 then post (-1)
  else (if a2 = 0 then vp_in a1 32 ∧
      wp_N_asNumber ((A_there A) (Int32.toNatClampNeg a1)) (fun r2 =>
      post r2)
    else if a2 = 1 then vp_in a1 32 ∧
      post ((A_value A) (Int32.toNatClampNeg a1))
    else if a2 = 2 then vp_in a1 32 ∧
      wp_N_asNumber ((A_diskThere A) (Int32.toNatClampNeg a1)) (fun r3 =>
      post r3)
    else if a2 = 3 then vp_in a1 32 ∧
      post ((A_diskValue A) (Int32.toNatClampNeg a1))
    else post (-1))))

def wp_N_frame (A : S_A) (a1 : Int32) (post : Int32 → Prop) : Prop :=
  (if a1 < 0 then post (-1)
  else (if a1 < (A_framesInUse A) then vp_in a1 8 ∧
      vp_in ((A_byTouch A) (Int32.toNatClampNeg a1)) 8 ∧
      wp_N_asNumber ((A_dirty A) (Int32.toNatClampNeg ((A_byTouch A) (Int32.toNatClampNeg a1)))) (fun r1 =>
      post ((((A_byTouch A) (Int32.toNatClampNeg a1)) * 2) + r1))
    else post (-1)))

def wp_N_page (A : S_A) (a1 : Int32) (post : Int32 → Prop) : Prop :=
  wp_N_isPage a1 (fun r1 =>
  (if r1 = 0 then post (-1)
  else vp_in a1 8 ∧
    post ((A_lsn A) (Int32.toNatClampNeg a1))))
end
section
def wp_M_isKey (a0 : Int32) (post : Int32 → Prop) : Prop :=
  (if a0 < 0 then post 0
  else (if 31 < a0 then post 0
    else post 1))

def wp_M_isPage (a0 : Int32) (post : Int32 → Prop) : Prop :=
  (if a0 < 0 then post 0
  else (if 7 < a0 then post 0
    else post 1))

def wp_M_isThereNow (MA : S_MA) (MD : S_MD) (a1 : Int32) (post : Int32 → Prop) : Prop :=
  vp_in (a1 / 4) 8 ∧
  (if ((MA_inFrame MA) (Int32.toNatClampNeg (a1 / 4))) = 0 then vp_in a1 32 ∧
    vp_nar .boolean ((MD_diskThere MD) (Int32.toNatClampNeg a1)) = ((MD_diskThere MD) (Int32.toNatClampNeg a1)) ∧
    post ((MD_diskThere MD) (Int32.toNatClampNeg a1))
  else vp_in a1 32 ∧
    vp_nar .boolean ((MA_there MA) (Int32.toNatClampNeg a1)) = ((MA_there MA) (Int32.toNatClampNeg a1)) ∧
    post ((MA_there MA) (Int32.toNatClampNeg a1)))

def wp_M_valueNow (MA : S_MA) (MD : S_MD) (a1 : Int32) (post : Int32 → Prop) : Prop :=
  vp_in (a1 / 4) 8 ∧
  (if ((MA_inFrame MA) (Int32.toNatClampNeg (a1 / 4))) = 0 then vp_in a1 32 ∧
    post ((MD_diskValue MD) (Int32.toNatClampNeg a1))
  else vp_in a1 32 ∧
    post ((MA_value MA) (Int32.toNatClampNeg a1)))

def wp_M_lsnNow (MA : S_MA) (MD : S_MD) (a1 : Int32) (post : Int32 → Prop) : Prop :=
  vp_in a1 8 ∧
  (if ((MA_inFrame MA) (Int32.toNatClampNeg a1)) = 0 then vp_in a1 8 ∧
    post ((MD_diskLsn MD) (Int32.toNatClampNeg a1))
  else vp_in a1 8 ∧
    post ((MA_lsn MA) (Int32.toNatClampNeg a1)))

def wp_M_writes_L34 (MA : S_MA) (v1 : Int32) (Kx : S_MD → Prop) : Nat → Int32 → S_MD → Prop
  | 0, _, _ => False
  | n34 + 1, v2, MD => (if ((4 * v1) + 4) ≤ v2 then Kx MD
      else vp_in v2 32 ∧
        vp_in v2 32 ∧
        vp_in v2 32 ∧
        vp_in v2 32 ∧
        wp_M_writes_L34 MA v1 Kx n34 (v2 + 1) (MD_diskValue' (MD_diskThere' MD (upd (MD_diskThere MD) (Int32.toNatClampNeg v2) (vp_nar .boolean ((MA_there MA) (Int32.toNatClampNeg v2))))) (upd (MD_diskValue MD) (Int32.toNatClampNeg v2) ((MA_value MA) (Int32.toNatClampNeg v2)))))
def wp_M_writes (MA : S_MA) (MD : S_MD) (MG : S_MG) (a1 : Int32) (post : S_MA → S_MD → S_MG → Prop) : Prop :=
  vp_in a1 8 ∧
  (jn (fun (jk27 : Int32 → Prop) =>
  (if ((MA_lsn MA) (Int32.toNatClampNeg a1)) ≤ (MG_flushed MG) then jk27 (MG_flushed MG)
    else vp_in a1 8 ∧
      jk27 ((MA_lsn MA) (Int32.toNatClampNeg a1)))) (fun b1 =>
  (∃ e34, wp_M_writes_L34 MA a1 (fun MD2 =>
    vp_in a1 8 ∧
      vp_in a1 8 ∧
      vp_in a1 8 ∧
      post (MA_dirty' MA (upd (MA_dirty MA) (Int32.toNatClampNeg a1) (vp_nar .boolean 0))) (MD_diskLsn' MD2 (upd (MD_diskLsn MD2) (Int32.toNatClampNeg a1) ((MA_lsn MA) (Int32.toNatClampNeg a1)))) (MG_flushed' MG b1)) e34 (4 * a1) MD)))

def wp_M_touch_L26 (MA : S_MA) (v1 : Int32) (Kx : Int32 → Int32 → Prop) : Nat → Int32 → Int32 → Int32 → Prop
  | 0, _, _, _ => False
  | n26 + 1, v2, v3, v4 => (if 8 ≤ v4 then Kx v2 v3
      else vp_in v4 8 ∧
        (jn (fun (jk49 : Int32 → Prop) =>
        (if ((MA_inFrame MA) (Int32.toNatClampNeg v4)) = 0 then jk49 0
          else jk49 1)) (fun b1 =>
        vp_in v4 8 ∧
          (if ((MA_inFrame MA) (Int32.toNatClampNeg v4)) = 0 then wp_M_touch_L26 MA v1 Kx n26 (v2 + b1) v3 (v4 + 1)
          else (if v3 < 0 then wp_M_touch_L26 MA v1 Kx n26 (v2 + b1) v4 (v4 + 1)
            else vp_in v4 8 ∧
              vp_in v3 8 ∧
              (if ((MA_touched MA) (Int32.toNatClampNeg v3)) ≤ ((MA_touched MA) (Int32.toNatClampNeg v4)) then wp_M_touch_L26 MA v1 Kx n26 (v2 + b1) v3 (v4 + 1)
              else wp_M_touch_L26 MA v1 Kx n26 (v2 + b1) v4 (v4 + 1)))))))
def wp_M_touch_L128 (MD : S_MD) (v1 : Int32) (Kx : S_MA → Prop) : Nat → Int32 → S_MA → Prop
  | 0, _, _ => False
  | n128 + 1, v4, MA => (if ((4 * v1) + 4) ≤ v4 then Kx MA
      else vp_in v4 32 ∧
        vp_in v4 32 ∧
        vp_in v4 32 ∧
        vp_in v4 32 ∧
        wp_M_touch_L128 MD v1 Kx n128 (v4 + 1) (MA_value' (MA_there' MA (upd (MA_there MA) (Int32.toNatClampNeg v4) (vp_nar .boolean ((MD_diskThere MD) (Int32.toNatClampNeg v4))))) (upd (MA_value MA) (Int32.toNatClampNeg v4) ((MD_diskValue MD) (Int32.toNatClampNeg v4)))))
def wp_M_touch (MA : S_MA) (MD : S_MD) (MG : S_MG) (a1 : Int32) (post : S_MA → S_MD → S_MG → Prop) : Prop :=
  vp_in a1 8 ∧
  (if ((MA_inFrame MA) (Int32.toNatClampNeg a1)) = 0 then (∃ e26, wp_M_touch_L26 (MA_clock' MA ((MA_clock MA) + 1)) a1 (fun x2 x3 =>
    (jn (fun (jk123 : S_MA → S_MD → S_MG → Prop) =>
      (if x2 = (MA_frames MA) then vp_in x3 8 ∧
          (if ((MA_dirty MA) (Int32.toNatClampNeg x3)) = 0 then vp_in x3 8 ∧
            jk123 (MA_inFrame' (MA_clock' MA ((MA_clock MA) + 1)) (upd (MA_inFrame MA) (Int32.toNatClampNeg x3) (vp_nar .boolean 0))) MD MG
          else wp_M_writes (MA_clock' MA ((MA_clock MA) + 1)) MD MG x3 (fun MA4 MD5 MG6 =>
            vp_in x3 8 ∧
            jk123 (MA_inFrame' MA4 (upd (MA_inFrame MA4) (Int32.toNatClampNeg x3) (vp_nar .boolean 0))) MD5 MG6))
        else jk123 (MA_clock' MA ((MA_clock MA) + 1)) MD MG)) (fun MA7 MD8 MG9 =>
      (∃ e128, wp_M_touch_L128 MD8 a1 (fun MA10 =>
        vp_in a1 8 ∧
          vp_in a1 8 ∧
          vp_in a1 8 ∧
          vp_in a1 8 ∧
          vp_in a1 8 ∧
          post (MA_touched' (MA_inFrame' (MA_dirty' (MA_lsn' MA10 (upd (MA_lsn MA10) (Int32.toNatClampNeg a1) ((MD_diskLsn MD8) (Int32.toNatClampNeg a1)))) (upd (MA_dirty MA10) (Int32.toNatClampNeg a1) (vp_nar .boolean 0))) (upd (MA_inFrame MA10) (Int32.toNatClampNeg a1) (vp_nar .boolean 1))) (upd (MA_touched MA10) (Int32.toNatClampNeg a1) (MA_clock MA10))) MD8 MG9) e128 (4 * a1) MA7)))) e26 0 (-1) 0)
  else vp_in a1 8 ∧
    post (MA_touched' (MA_clock' MA ((MA_clock MA) + 1)) (upd (MA_touched MA) (Int32.toNatClampNeg a1) ((MA_clock MA) + 1))) MD MG)

def wp_M_become (MA : S_MA) (a1 : Int32) (a2 : Int32) (a3 : Int32) (a4 : Int32) (post : S_MA → Prop) : Prop :=
  vp_in a1 32 ∧
  (jn (fun (jk21 : Int32 → Prop) =>
  (if a2 = 0 then jk21 0
    else jk21 a3)) (fun b1 =>
  vp_in a1 32 ∧
    vp_in (a1 / 4) 8 ∧
    vp_in (a1 / 4) 8 ∧
    post (MA_dirty' (MA_lsn' (MA_value' (MA_there' MA (upd (MA_there MA) (Int32.toNatClampNeg a1) (vp_nar .boolean a2))) (upd (MA_value MA) (Int32.toNatClampNeg a1) b1)) (upd (MA_lsn MA) (Int32.toNatClampNeg (a1 / 4)) a4)) (upd (MA_dirty MA) (Int32.toNatClampNeg (a1 / 4)) (vp_nar .boolean 1)))))

def wp_M_last (MG : S_MG) (post : Int32 → Prop) : Prop :=
  post ((MG_base MG) + (MG_records MG))

def wp_M_append (MG : S_MG) (a1 : Int32) (a2 : Int32) (a3 : Int32) (post : Int32 → S_MG → Prop) : Prop :=
  vp_in (MG_records MG) 301 ∧
  vp_in (MG_records MG) 301 ∧
  vp_in (MG_records MG) 301 ∧
  vp_in (MG_records MG) 301 ∧
  vp_in (MG_records MG) 301 ∧
  vp_in (MG_records MG) 301 ∧
  vp_in (MG_records MG) 301 ∧
  vp_in (MG_records MG) 301 ∧
  post (MG_records MG) (MG_records' (MG_isValue' (MG_isThere' (MG_wasValue' (MG_wasThere' (MG_of' (MG_about' (MG_by' (MG_kind' MG (upd (MG_kind MG) (Int32.toNatClampNeg (MG_records MG)) a1)) (upd (MG_by MG) (Int32.toNatClampNeg (MG_records MG)) a2)) (upd (MG_about MG) (Int32.toNatClampNeg (MG_records MG)) a3)) (upd (MG_of MG) (Int32.toNatClampNeg (MG_records MG)) 0)) (upd (MG_wasThere MG) (Int32.toNatClampNeg (MG_records MG)) (vp_nar .boolean 0))) (upd (MG_wasValue MG) (Int32.toNatClampNeg (MG_records MG)) 0)) (upd (MG_isThere MG) (Int32.toNatClampNeg (MG_records MG)) (vp_nar .boolean 0))) (upd (MG_isValue MG) (Int32.toNatClampNeg (MG_records MG)) 0)) ((MG_records MG) + 1))

def wp_M_update (MA : S_MA) (MD : S_MD) (MG : S_MG) (a1 : Int32) (a2 : Int32) (a3 : Int32) (a4 : Int32) (post : S_MA → S_MD → S_MG → Prop) : Prop :=
  wp_M_append MG 2 a1 a2 (fun r1 MG2 =>
  wp_M_touch MA MD MG2 (a2 / 4) (fun MA3 MD4 MG5 =>
  vp_in a2 32 ∧
  vp_in r1 301 ∧
  vp_in a2 32 ∧
  vp_in r1 301 ∧
  vp_in r1 301 ∧
  (jn (fun (jk66 : Int32 → Prop) =>
  (if a3 = 0 then jk66 0
    else jk66 a4)) (fun b6 =>
  vp_in r1 301 ∧
    wp_M_last (MG_isValue' (MG_isThere' (MG_wasValue' (MG_wasThere' MG5 (upd (MG_wasThere MG5) (Int32.toNatClampNeg r1) (vp_nar .boolean ((MA_there MA3) (Int32.toNatClampNeg a2))))) (upd (MG_wasValue MG5) (Int32.toNatClampNeg r1) ((MA_value MA3) (Int32.toNatClampNeg a2)))) (upd (MG_isThere MG5) (Int32.toNatClampNeg r1) (vp_nar .boolean a3))) (upd (MG_isValue MG5) (Int32.toNatClampNeg r1) b6)) (fun r7 =>
    wp_M_become MA3 a2 a3 a4 r7 (fun MA8 =>
    post MA8 MD4 (MG_isValue' (MG_isThere' (MG_wasValue' (MG_wasThere' MG5 (upd (MG_wasThere MG5) (Int32.toNatClampNeg r1) (vp_nar .boolean ((MA_there MA3) (Int32.toNatClampNeg a2))))) (upd (MG_wasValue MG5) (Int32.toNatClampNeg r1) ((MA_value MA3) (Int32.toNatClampNeg a2)))) (upd (MG_isThere MG5) (Int32.toNatClampNeg r1) (vp_nar .boolean a3))) (upd (MG_isValue MG5) (Int32.toNatClampNeg r1) b6))))))))

def wp_M_undo (MA : S_MA) (MD : S_MD) (MG : S_MG) (a1 : Int32) (a2 : Int32) (post : S_MA → S_MD → S_MG → Prop) : Prop :=
  vp_in a2 301 ∧
  wp_M_append MG 3 a1 ((MG_about MG) (Int32.toNatClampNeg a2)) (fun r1 MG2 =>
  vp_in r1 301 ∧
  vp_in a2 301 ∧
  vp_in r1 301 ∧
  vp_in a2 301 ∧
  vp_in r1 301 ∧
  vp_in a2 301 ∧
  wp_M_touch MA MD (MG_isValue' (MG_isThere' (MG_of' MG2 (upd (MG_of MG2) (Int32.toNatClampNeg r1) (((MG_base MG2) + a2) + 1))) (upd (MG_isThere MG2) (Int32.toNatClampNeg r1) (vp_nar .boolean ((MG_wasThere MG2) (Int32.toNatClampNeg a2))))) (upd (MG_isValue MG2) (Int32.toNatClampNeg r1) ((MG_wasValue MG2) (Int32.toNatClampNeg a2)))) (((MG_about MG2) (Int32.toNatClampNeg a2)) / 4) (fun MA3 MD4 MG5 =>
  vp_in a2 301 ∧
  vp_in r1 301 ∧
  vp_in r1 301 ∧
  wp_M_last MG5 (fun r6 =>
  wp_M_become MA3 ((MG_about MG5) (Int32.toNatClampNeg a2)) ((MG_isThere MG5) (Int32.toNatClampNeg r1)) ((MG_isValue MG5) (Int32.toNatClampNeg r1)) r6 (fun MA7 =>
  post MA7 MD4 MG5))))

def wp_M_undone_L6 (MG : S_MG) (v1 : Int32) (Kx : Int32 → Prop) : Nat → Int32 → Int32 → Prop
  | 0, _, _ => False
  | n6 + 1, v2, v3 => (if (MG_records MG) ≤ v3 then Kx v2
      else (if v2 = 0 then vp_in v3 301 ∧
          (if ((MG_kind MG) (Int32.toNatClampNeg v3)) = 3 then vp_in v3 301 ∧
            (if ((MG_of MG) (Int32.toNatClampNeg v3)) = (((MG_base MG) + v1) + 1) then wp_M_undone_L6 MG v1 Kx n6 1 (v3 + 1)
            else wp_M_undone_L6 MG v1 Kx n6 0 (v3 + 1))
          else wp_M_undone_L6 MG v1 Kx n6 0 (v3 + 1))
        else wp_M_undone_L6 MG v1 Kx n6 1 (v3 + 1)))
def wp_M_undone (MG : S_MG) (a1 : Int32) (post : Int32 → Prop) : Prop :=
  (∃ e6, wp_M_undone_L6 MG a1 (fun x1 =>
  vp_nar .boolean x1 = x1 ∧
    post x1) e6 0 (a1 + 1))

def wp_M_top_L4 (MT : S_MT) (Kx : Int32 → Prop) : Nat → Int32 → Int32 → Prop
  | 0, _, _ => False
  | n4 + 1, v2, v3 => (if 4 ≤ v3 then Kx v2
      else vp_in v2 60 ∧
        (if ((MT_parent MT) (Int32.toNatClampNeg v2)) < 0 then Kx v2
        else vp_in v2 60 ∧
          wp_M_top_L4 MT Kx n4 ((MT_parent MT) (Int32.toNatClampNeg v2)) (v3 + 1)))
def wp_M_top (MT : S_MT) (a1 : Int32) (post : Int32 → Prop) : Prop :=
  (∃ e4, wp_M_top_L4 MT (fun x1 =>
  post x1) e4 a1 0)

def wp_M_open (MG : S_MG) (MT : S_MT) (a1 : Int32) (post : Int32 → Prop) : Prop :=
  vp_in a1 301 ∧
  (if ((MG_kind MG) (Int32.toNatClampNeg a1)) = 2 then vp_in a1 301 ∧
    wp_M_top MT ((MG_by MG) (Int32.toNatClampNeg a1)) (fun r1 =>
    vp_in r1 60 ∧
    (if ((MT_state MT) (Int32.toNatClampNeg r1)) = 3 then post 0
    else vp_in a1 301 ∧
      wp_M_top MT ((MG_by MG) (Int32.toNatClampNeg a1)) (fun r2 =>
      vp_in r2 60 ∧
      (if ((MT_state MT) (Int32.toNatClampNeg r2)) = 4 then post 0
      else wp_M_undone MG a1 (fun r3 =>
        (if r3 = 0 then post 1
        else post 0))))))
  else post 0)

def wp_M_opens_L4 (MG : S_MG) (MT : S_MT) (Kx : Int32 → Prop) : Nat → Int32 → Int32 → Prop
  | 0, _, _ => False
  | n4 + 1, v1, v2 => (if (MG_records MG) ≤ v2 then Kx v1
      else wp_M_open MG MT v2 (fun r1 =>
        (if r1 = 0 then wp_M_opens_L4 MG MT Kx n4 (v1 + 0) (v2 + 1)
        else wp_M_opens_L4 MG MT Kx n4 (v1 + 1) (v2 + 1))))
def wp_M_opens (MG : S_MG) (MT : S_MT) (post : Int32 → Prop) : Prop :=
  (∃ e4, wp_M_opens_L4 MG MT (fun x2 =>
  post x2) e4 0 0)

def wp_M_live (MT : S_MT) (a1 : Int32) (post : Int32 → Prop) : Prop :=
  vp_in a1 60 ∧
  (if ((MT_state MT) (Int32.toNatClampNeg a1)) = 1 then post 1
  else vp_in a1 60 ∧
    (if ((MT_state MT) (Int32.toNatClampNeg a1)) = 2 then post 1
    else post 0))

def wp_M_lives_L4 (MT : S_MT) (Kx : Int32 → Prop) : Nat → Int32 → Int32 → Prop
  | 0, _, _ => False
  | n4 + 1, v1, v2 => (if (MT_many MT) ≤ v2 then Kx v1
      else wp_M_live MT v2 (fun r1 =>
        (if r1 = 0 then wp_M_lives_L4 MT Kx n4 (v1 + 0) (v2 + 1)
        else wp_M_lives_L4 MT Kx n4 (v1 + 1) (v2 + 1))))
def wp_M_lives (MT : S_MT) (post : Int32 → Prop) : Prop :=
  (∃ e4, wp_M_lives_L4 MT (fun x2 =>
  post x2) e4 0 0)

def wp_M_full (MG : S_MG) (MT : S_MT) (post : Int32 → Prop) : Prop :=
  wp_M_opens MG MT (fun r1 =>
  wp_M_lives MT (fun r2 =>
  (if ((((MG_records MG) + r1) + r2) + 2) ≤ 300 then post 0
  else post 1)))

def wp_M_is (MT : S_MT) (a1 : Int32) (post : Int32 → Prop) : Prop :=
  (if a1 < 0 then post 0
  else (if (MT_many MT) ≤ a1 then post 0
    else post 1))

def wp_M_active (MT : S_MT) (a1 : Int32) (post : Int32 → Prop) : Prop :=
  wp_M_is MT a1 (fun r1 =>
  (if r1 = 0 then post 0
  else vp_in a1 60 ∧
    (if ((MT_state MT) (Int32.toNatClampNeg a1)) = 1 then post 1
    else post 0)))

def wp_M_above_L13 (MT : S_MT) (v1 : Int32) (Kx : Int32 → Prop) : Nat → Int32 → Int32 → Int32 → Prop
  | 0, _, _, _ => False
  | n13 + 1, v3, v4, v5 => (if 4 ≤ v5 then Kx v3
      else (if v4 < 0 then Kx v3
        else (jn (fun (jk39 : Int32 → Prop) =>
          (if v3 = 0 then (if v4 = v1 then jk39 1
              else jk39 0)
            else jk39 1)) (fun b1 =>
          vp_in v4 60 ∧
            wp_M_above_L13 MT v1 Kx n13 b1 ((MT_parent MT) (Int32.toNatClampNeg v4)) (v5 + 1)))))
def wp_M_above (MT : S_MT) (a1 : Int32) (a2 : Int32) (post : Int32 → Prop) : Prop :=
  vp_in a2 60 ∧
  (∃ e13, wp_M_above_L13 MT a1 (fun x2 =>
  vp_nar .boolean x2 = x2 ∧
    post x2) e13 0 ((MT_parent MT) (Int32.toNatClampNeg a2)) 0)

def wp_M_busy_L4 (MT : S_MT) (v1 : Int32) (Kx : Int32 → Prop) : Nat → Int32 → Int32 → Prop
  | 0, _, _ => False
  | n4 + 1, v2, v3 => (if (MT_many MT) ≤ v3 then Kx v2
      else (if v2 = 0 then wp_M_live MT v3 (fun r1 =>
          (if r1 = 0 then wp_M_busy_L4 MT v1 Kx n4 0 (v3 + 1)
          else vp_in v3 60 ∧
            (if ((MT_parent MT) (Int32.toNatClampNeg v3)) = v1 then wp_M_busy_L4 MT v1 Kx n4 1 (v3 + 1)
            else wp_M_busy_L4 MT v1 Kx n4 0 (v3 + 1))))
        else wp_M_busy_L4 MT v1 Kx n4 1 (v3 + 1)))
def wp_M_busy (MT : S_MT) (a1 : Int32) (post : Int32 → Prop) : Prop :=
  (∃ e4, wp_M_busy_L4 MT a1 (fun x2 =>
  vp_nar .boolean x2 = x2 ∧
    post x2) e4 0 0)

def wp_M_depth_L12 (MT : S_MT) (Kx : Int32 → Prop) : Nat → Int32 → Int32 → Int32 → Prop
  | 0, _, _, _ => False
  | n12 + 1, v2, v3, v4 => (if 4 ≤ v4 then Kx v2
      else (if v3 < 0 then Kx v2
        else vp_in v3 60 ∧
          wp_M_depth_L12 MT Kx n12 (v2 + 1) ((MT_parent MT) (Int32.toNatClampNeg v3)) (v4 + 1)))
def wp_M_depth (MT : S_MT) (a1 : Int32) (post : Int32 → Prop) : Prop :=
  vp_in a1 60 ∧
  (∃ e12, wp_M_depth_L12 MT (fun x1 =>
  post x1) e12 1 ((MT_parent MT) (Int32.toNatClampNeg a1)) 0)

def wp_M_begin (MG : S_MG) (MT : S_MT) (a1 : Int32) (post : Int32 → S_MG → S_MT → Prop) : Prop :=
  (if a1 = (-1) then (if (MT_many MT) = 60 then post (-1) MG MT
    else (if a1 = (-1) then wp_M_full MG MT (fun r1 =>
        (if r1 = 0 then vp_in (MT_many MT) 60 ∧
          vp_in (MT_many MT) 60 ∧
          wp_M_append MG 1 (MT_many MT) a1 (fun r2 MG3 =>
          wp_M_last MG3 (fun r4 =>
          vp_in (MT_many MT) 60 ∧
          vp_in r2 301 ∧
          post ((MG_by MG3) (Int32.toNatClampNeg r2)) MG3 (MT_many' (MT_began' (MT_parent' (MT_state' MT (upd (MT_state MT) (Int32.toNatClampNeg (MT_many MT)) 1)) (upd (MT_parent MT) (Int32.toNatClampNeg (MT_many MT)) a1)) (upd (MT_began MT) (Int32.toNatClampNeg (MT_many MT)) r4)) ((MT_many MT) + 1))))
        else post (-5) MG MT))
      else wp_M_depth MT a1 (fun r5 =>
        (if r5 < 4 then wp_M_full MG MT (fun r6 =>
          (if r6 = 0 then vp_in (MT_many MT) 60 ∧
            vp_in (MT_many MT) 60 ∧
            wp_M_append MG 1 (MT_many MT) a1 (fun r7 MG8 =>
            wp_M_last MG8 (fun r9 =>
            vp_in (MT_many MT) 60 ∧
            vp_in r7 301 ∧
            post ((MG_by MG8) (Int32.toNatClampNeg r7)) MG8 (MT_many' (MT_began' (MT_parent' (MT_state' MT (upd (MT_state MT) (Int32.toNatClampNeg (MT_many MT)) 1)) (upd (MT_parent MT) (Int32.toNatClampNeg (MT_many MT)) a1)) (upd (MT_began MT) (Int32.toNatClampNeg (MT_many MT)) r9)) ((MT_many MT) + 1))))
          else post (-5) MG MT))
        else post (-1) MG MT))))
  else wp_M_active MT a1 (fun r10 =>
    (if r10 = 0 then post (-1) MG MT
    else (if (MT_many MT) = 60 then post (-1) MG MT
      else (if a1 = (-1) then wp_M_full MG MT (fun r11 =>
          (if r11 = 0 then vp_in (MT_many MT) 60 ∧
            vp_in (MT_many MT) 60 ∧
            wp_M_append MG 1 (MT_many MT) a1 (fun r12 MG13 =>
            wp_M_last MG13 (fun r14 =>
            vp_in (MT_many MT) 60 ∧
            vp_in r12 301 ∧
            post ((MG_by MG13) (Int32.toNatClampNeg r12)) MG13 (MT_many' (MT_began' (MT_parent' (MT_state' MT (upd (MT_state MT) (Int32.toNatClampNeg (MT_many MT)) 1)) (upd (MT_parent MT) (Int32.toNatClampNeg (MT_many MT)) a1)) (upd (MT_began MT) (Int32.toNatClampNeg (MT_many MT)) r14)) ((MT_many MT) + 1))))
          else post (-5) MG MT))
        else wp_M_depth MT a1 (fun r15 =>
          (if r15 < 4 then wp_M_full MG MT (fun r16 =>
            (if r16 = 0 then vp_in (MT_many MT) 60 ∧
              vp_in (MT_many MT) 60 ∧
              wp_M_append MG 1 (MT_many MT) a1 (fun r17 MG18 =>
              wp_M_last MG18 (fun r19 =>
              vp_in (MT_many MT) 60 ∧
              vp_in r17 301 ∧
              post ((MG_by MG18) (Int32.toNatClampNeg r17)) MG18 (MT_many' (MT_began' (MT_parent' (MT_state' MT (upd (MT_state MT) (Int32.toNatClampNeg (MT_many MT)) 1)) (upd (MT_parent MT) (Int32.toNatClampNeg (MT_many MT)) a1)) (upd (MT_began MT) (Int32.toNatClampNeg (MT_many MT)) r19)) ((MT_many MT) + 1))))
            else post (-5) MG MT))
          else post (-1) MG MT)))))))

def wp_M_next_L4 (MA : S_MA) (MD : S_MD) (Kx : Int32 → Prop) : Nat → Int32 → Prop
  | 0, _ => False
  | n4 + 1, v2 => (if 32 ≤ v2 then Kx v2
      else wp_M_isThereNow MA MD v2 (fun r1 =>
        (if r1 = 0 then wp_M_next_L4 MA MD Kx n4 (v2 + 1)
        else Kx v2)))
def wp_M_next (MA : S_MA) (MD : S_MD) (a1 : Int32) (post : Int32 → Prop) : Prop :=
  (∃ e4, wp_M_next_L4 MA MD (fun x2 =>
  post x2) e4 (a1 + 1))

def wp_M_want (MP : S_MP) (a1 : Int32) (post : S_MP → Prop) : Prop :=
  vp_in (MP_wanted MP) 33 ∧
  post (MP_wanted' (MP_item' MP (upd (MP_item MP) (Int32.toNatClampNeg (MP_wanted MP)) a1)) ((MP_wanted MP) + 1))

def wp_M_needs_L44 (MA : S_MA) (MD : S_MD) (v3 : Int32) (Kx : S_MP → Prop) : Nat → Int32 → S_MP → Prop
  | 0, _, _ => False
  | n44 + 1, v5, MP => (if v3 < v5 then Kx MP
      else wp_M_isThereNow MA MD v5 (fun r23 =>
        (if r23 = 0 then wp_M_needs_L44 MA MD v3 Kx n44 (v5 + 1) MP
        else wp_M_want MP v5 (fun MP24 =>
          wp_M_needs_L44 MA MD v3 Kx n44 (v5 + 1) MP24))))
def wp_M_needs (MA : S_MA) (MD : S_MD) (MP : S_MP) (a1 : Int32) (a2 : Int32) (a3 : Int32) (post : S_MP → Prop) : Prop :=
  wp_M_isThereNow MA MD a2 (fun r1 =>
  (jn (fun (jk33 : Int32 → Prop) =>
  (if a1 = 2 then jk33 2
    else (if a1 = 3 then (if r1 = 0 then jk33 1
        else jk33 2)
      else jk33 1))) (fun b2 =>
  (if a1 = 4 then (∃ e44, wp_M_needs_L44 MA MD a3 (fun MP25 =>
      wp_M_next MA MD a3 (fun r26 =>
        wp_M_want MP25 r26 (fun MP27 =>
        post MP27))) e44 a2 (MP_mode' (MP_wanted' MP 0) b2))
    else (if a1 = 1 then (if r1 = 0 then wp_M_next MA MD a2 (fun r3 =>
          wp_M_want (MP_mode' (MP_wanted' MP 0) b2) r3 (fun MP4 =>
          post MP4))
        else wp_M_want (MP_mode' (MP_wanted' MP 0) b2) a2 (fun MP5 =>
          post MP5))
      else (if a1 = 3 then (if r1 = 0 then (if r1 = 0 then wp_M_next MA MD a2 (fun r20 =>
              wp_M_want (MP_mode' (MP_wanted' MP 0) b2) r20 (fun MP21 =>
              post MP21))
            else wp_M_want (MP_mode' (MP_wanted' MP 0) b2) a2 (fun MP22 =>
              post MP22))
          else (if a1 = 3 then wp_M_next MA MD a2 (fun r13 =>
              wp_M_want (MP_mode' (MP_wanted' MP 0) b2) r13 (fun MP14 =>
              wp_M_want MP14 a2 (fun MP15 =>
              post MP15)))
            else (if r1 = 0 then wp_M_next MA MD a2 (fun r17 =>
                wp_M_want (MP_mode' (MP_wanted' MP 0) b2) r17 (fun MP18 =>
                wp_M_want MP18 a2 (fun MP19 =>
                post MP19)))
              else wp_M_want (MP_mode' (MP_wanted' MP 0) b2) a2 (fun MP16 =>
                post MP16))))
        else (if a1 = 3 then wp_M_next MA MD a2 (fun r6 =>
            wp_M_want (MP_mode' (MP_wanted' MP 0) b2) r6 (fun MP7 =>
            wp_M_want MP7 a2 (fun MP8 =>
            post MP8)))
          else (if r1 = 0 then wp_M_next MA MD a2 (fun r10 =>
              wp_M_want (MP_mode' (MP_wanted' MP 0) b2) r10 (fun MP11 =>
              wp_M_want MP11 a2 (fun MP12 =>
              post MP12)))
            else wp_M_want (MP_mode' (MP_wanted' MP 0) b2) a2 (fun MP9 =>
              post MP9)))))))))

def wp_M_bars (ML : S_ML) (MT : S_MT) (a1 : Int32) (a2 : Int32) (a3 : Int32) (a4 : Int32) (post : Int32 → Prop) : Prop :=
  vp_in ((33 * a1) + a3) 1980 ∧
  (if a1 = a2 then post 0
  else (if ((ML_locks ML) (Int32.toNatClampNeg ((33 * a1) + a3))) ≤ 0 then post 0
    else (if a4 = 2 then wp_M_above MT a1 a2 (fun r1 =>
        (if r1 = 0 then post 1
        else post 0))
      else (if ((ML_locks ML) (Int32.toNatClampNeg ((33 * a1) + a3))) = 2 then wp_M_above MT a1 a2 (fun r2 =>
          (if r2 = 0 then post 1
          else post 0))
        else post 0))))

def wp_M_may_L6 (ML : S_ML) (MT : S_MT) (v1 : Int32) (v2 : Int32) (v3 : Int32) (Kx : Int32 → Prop) : Nat → Int32 → Int32 → Prop
  | 0, _, _ => False
  | n6 + 1, v4, v5 => (if (MT_many MT) ≤ v5 then Kx v4
      else (if v4 = 0 then wp_M_may_L6 ML MT v1 v2 v3 Kx n6 0 (v5 + 1)
        else wp_M_bars ML MT v5 v1 v2 v3 (fun r1 =>
          (if r1 = 0 then wp_M_may_L6 ML MT v1 v2 v3 Kx n6 1 (v5 + 1)
          else wp_M_may_L6 ML MT v1 v2 v3 Kx n6 0 (v5 + 1)))))
def wp_M_may (ML : S_ML) (MT : S_MT) (a1 : Int32) (a2 : Int32) (a3 : Int32) (post : Int32 → Prop) : Prop :=
  (∃ e6, wp_M_may_L6 ML MT a1 a2 a3 (fun x2 =>
  vp_nar .boolean x2 = x2 ∧
    post x2) e6 1 0)

def wp_M_look_L56 (ML : S_ML) (MP : S_MP) (MT : S_MT) (v1 : Int32) (Kx : S_MV → Prop) : Nat → Int32 → S_MV → Prop
  | 0, _, _ => False
  | n56 + 1, v2, MV => (if v2 < 0 then Kx MV
      else vp_in v2 33 ∧
        vp_in ((33 * v1) + ((MP_item MP) (Int32.toNatClampNeg v2))) 1980 ∧
        (jn (fun (jk106 : Int32 → Prop) =>
        (if (MP_mode MP) ≤ ((ML_locks ML) (Int32.toNatClampNeg ((33 * v1) + ((MP_item MP) (Int32.toNatClampNeg v2))))) then jk106 0
          else vp_in v2 33 ∧
            wp_M_may ML MT v1 ((MP_item MP) (Int32.toNatClampNeg v2)) (MP_mode MP) (fun r2 =>
            (if r2 = 0 then jk106 1
            else jk106 0)))) (fun b3 =>
        (if b3 = 0 then vp_in v1 60 ∧
            vp_in v1 60 ∧
            wp_M_look_L56 ML MP MT v1 Kx n56 (v2 + (-1)) (MV_lacks' MV (upd (MV_lacks MV) (Int32.toNatClampNeg v1) ((MV_lacks MV) (Int32.toNatClampNeg v1))))
          else vp_in v2 33 ∧
            vp_in v1 60 ∧
            wp_M_look_L56 ML MP MT v1 Kx n56 (v2 + (-1)) (MV_lacks' MV (upd (MV_lacks MV) (Int32.toNatClampNeg v1) ((MP_item MP) (Int32.toNatClampNeg v2))))))))
def wp_M_look_L2 (MA : S_MA) (MD : S_MD) (ML : S_ML) (MT : S_MT) (Kx : S_MP → S_MV → Prop) : Nat → Int32 → S_MP → S_MV → Prop
  | 0, _, _, _ => False
  | n2 + 1, v1, MP, MV => (if (MT_many MT) ≤ v1 then Kx MP MV
      else vp_in v1 60 ∧
        vp_in v1 60 ∧
        (if ((MT_state MT) (Int32.toNatClampNeg v1)) = 2 then vp_in v1 60 ∧
          vp_in v1 60 ∧
          vp_in v1 60 ∧
          wp_M_needs MA MD MP ((MT_asks MT) (Int32.toNatClampNeg v1)) ((MT_first MT) (Int32.toNatClampNeg v1)) ((MT_second MT) (Int32.toNatClampNeg v1)) (fun MP1 =>
          (∃ e56, wp_M_look_L56 ML MP1 MT v1 (fun MV4 =>
          vp_in v1 60 ∧
            wp_M_look_L2 MA MD ML MT Kx n2 (v1 + 1) MP1 (MV_lackMode' MV4 (upd (MV_lackMode MV4) (Int32.toNatClampNeg v1) (MP_mode MP1)))) e56 ((MP_wanted MP1) - 1) (MV_lacks' MV (upd (MV_lacks MV) (Int32.toNatClampNeg v1) (-1)))))
        else wp_M_look_L2 MA MD ML MT Kx n2 (v1 + 1) MP (MV_lacks' MV (upd (MV_lacks MV) (Int32.toNatClampNeg v1) (-1)))))
def wp_M_look (MA : S_MA) (MD : S_MD) (ML : S_ML) (MP : S_MP) (MT : S_MT) (MV : S_MV) (post : S_MP → S_MV → Prop) : Prop :=
  (∃ e2, wp_M_look_L2 MA MD ML MT (fun MP5 MV6 =>
  post MP5 MV6) e2 0 MP MV)

def wp_M_leads (ML : S_ML) (MT : S_MT) (MV : S_MV) (a1 : Int32) (a2 : Int32) (post : Int32 → Prop) : Prop :=
  wp_M_live MT a1 (fun r1 =>
  (if r1 = 0 then vp_in a1 60 ∧
    (if ((MT_state MT) (Int32.toNatClampNeg a1)) = 2 then vp_in a1 60 ∧
      (if ((MV_lacks MV) (Int32.toNatClampNeg a1)) < 0 then post 0
      else vp_in a1 60 ∧
        vp_in a1 60 ∧
        wp_M_bars ML MT a2 a1 ((MV_lacks MV) (Int32.toNatClampNeg a1)) ((MV_lackMode MV) (Int32.toNatClampNeg a1)) (fun r2 =>
        (if r2 = 0 then post 0
        else post 1)))
    else post 0)
  else wp_M_live MT a2 (fun r3 =>
    (if r3 = 0 then vp_in a1 60 ∧
      (if ((MT_state MT) (Int32.toNatClampNeg a1)) = 2 then vp_in a1 60 ∧
        (if ((MV_lacks MV) (Int32.toNatClampNeg a1)) < 0 then post 0
        else vp_in a1 60 ∧
          vp_in a1 60 ∧
          wp_M_bars ML MT a2 a1 ((MV_lacks MV) (Int32.toNatClampNeg a1)) ((MV_lackMode MV) (Int32.toNatClampNeg a1)) (fun r4 =>
          (if r4 = 0 then post 0
          else post 1)))
      else post 0)
    else vp_in a2 60 ∧
      (if ((MT_parent MT) (Int32.toNatClampNeg a2)) = a1 then post 1
      else vp_in a1 60 ∧
        (if ((MT_state MT) (Int32.toNatClampNeg a1)) = 2 then vp_in a1 60 ∧
          (if ((MV_lacks MV) (Int32.toNatClampNeg a1)) < 0 then post 0
          else vp_in a1 60 ∧
            vp_in a1 60 ∧
            wp_M_bars ML MT a2 a1 ((MV_lacks MV) (Int32.toNatClampNeg a1)) ((MV_lackMode MV) (Int32.toNatClampNeg a1)) (fun r5 =>
            (if r5 = 0 then post 0
            else post 1)))
        else post 0))))))

def wp_M_victim_L6 (MT : S_MT) (v1 : Int32) (Kx : S_MV → Prop) : Nat → Int32 → S_MV → Prop
  | 0, _, _ => False
  | n6 + 1, v2, MV => (if (MT_many MT) ≤ v2 then Kx MV
      else vp_in v2 60 ∧
        vp_in v2 60 ∧
        wp_M_victim_L6 MT v1 Kx n6 (v2 + 1) (MV_back' (MV_ahead' MV (upd (MV_ahead MV) (Int32.toNatClampNeg v2) (vp_nar .boolean 0))) (upd (MV_back MV) (Int32.toNatClampNeg v2) (vp_nar .boolean 0))))
def wp_M_victim_L65 (ML : S_ML) (MT : S_MT) (v1 : Int32) (v3 : Int32) (v4 : Int32) (Kx : Int32 → S_MV → Prop) : Nat → Int32 → Int32 → S_MV → Prop
  | 0, _, _, _ => False
  | n65 + 1, v2, v5, MV => (if (MT_many MT) ≤ v5 then Kx v2 MV
      else (jn (fun (jk116 : Int32 → Prop) =>
        (if v4 = v1 then vp_in v5 60 ∧
            (if ((MV_ahead MV) (Int32.toNatClampNeg v5)) = 0 then wp_M_leads ML MT MV v4 v5 (fun r4 =>
              (if r4 = 0 then jk116 0
              else jk116 1))
            else jk116 0)
          else vp_in v4 60 ∧
            (if ((MV_ahead MV) (Int32.toNatClampNeg v4)) = 0 then jk116 0
            else vp_in v5 60 ∧
              (if ((MV_ahead MV) (Int32.toNatClampNeg v5)) = 0 then wp_M_leads ML MT MV v4 v5 (fun r5 =>
                (if r5 = 0 then jk116 0
                else jk116 1))
              else jk116 0)))) (fun b6 =>
        (jn (fun (jk160 : Int32 → Prop) =>
          (if v5 = v1 then vp_in v4 60 ∧
              (if ((MV_back MV) (Int32.toNatClampNeg v4)) = 0 then wp_M_leads ML MT MV v4 v5 (fun r7 =>
                (if r7 = 0 then jk160 0
                else jk160 1))
              else jk160 0)
            else vp_in v5 60 ∧
              (if ((MV_back MV) (Int32.toNatClampNeg v5)) = 0 then jk160 0
              else vp_in v4 60 ∧
                (if ((MV_back MV) (Int32.toNatClampNeg v4)) = 0 then wp_M_leads ML MT MV v4 v5 (fun r8 =>
                  (if r8 = 0 then jk160 0
                  else jk160 1))
                else jk160 0)))) (fun b9 =>
          vp_in v5 60 ∧
            (jn (fun (jk188 : Int32 → Prop) =>
            (if ((MV_ahead MV) (Int32.toNatClampNeg v5)) = 0 then (if b6 = 0 then jk188 0
                else jk188 1)
              else jk188 1)) (fun b10 =>
            vp_in v5 60 ∧
              vp_in v4 60 ∧
              (jn (fun (jk215 : Int32 → Prop) =>
              (if ((MV_back MV) (Int32.toNatClampNeg v4)) = 0 then (if b9 = 0 then jk215 0
                  else jk215 1)
                else jk215 1)) (fun b11 =>
              vp_in v4 60 ∧
                (if v2 = 0 then (if b6 = 0 then (if b9 = 0 then wp_M_victim_L65 ML MT v1 v3 v4 Kx n65 0 (v5 + 1) (MV_back' (MV_ahead' MV (upd (MV_ahead MV) (Int32.toNatClampNeg v5) (vp_nar .boolean b10))) (upd (MV_back MV) (Int32.toNatClampNeg v4) (vp_nar .boolean b11)))
                    else wp_M_victim_L65 ML MT v1 v3 v4 Kx n65 1 (v5 + 1) (MV_back' (MV_ahead' MV (upd (MV_ahead MV) (Int32.toNatClampNeg v5) (vp_nar .boolean b10))) (upd (MV_back MV) (Int32.toNatClampNeg v4) (vp_nar .boolean b11))))
                  else wp_M_victim_L65 ML MT v1 v3 v4 Kx n65 1 (v5 + 1) (MV_back' (MV_ahead' MV (upd (MV_ahead MV) (Int32.toNatClampNeg v5) (vp_nar .boolean b10))) (upd (MV_back MV) (Int32.toNatClampNeg v4) (vp_nar .boolean b11))))
                else wp_M_victim_L65 ML MT v1 v3 v4 Kx n65 1 (v5 + 1) (MV_back' (MV_ahead' MV (upd (MV_ahead MV) (Int32.toNatClampNeg v5) (vp_nar .boolean b10))) (upd (MV_back MV) (Int32.toNatClampNeg v4) (vp_nar .boolean b11)))))))))))))
def wp_M_victim_L53 (ML : S_ML) (MT : S_MT) (v1 : Int32) (v3 : Int32) (Kx : Int32 → S_MV → Prop) : Nat → Int32 → Int32 → S_MV → Prop
  | 0, _, _, _ => False
  | n53 + 1, v2, v4, MV => (if (MT_many MT) ≤ v4 then Kx v2 MV
      else (∃ e65, wp_M_victim_L65 ML MT v1 v3 v4 (fun x12 MV13 =>
        wp_M_victim_L53 ML MT v1 v3 Kx n53 x12 (v4 + 1) MV13) e65 v2 0 MV))
def wp_M_victim_L38 (ML : S_ML) (MT : S_MT) (v1 : Int32) (Kx : S_MV → Prop) : Nat → Int32 → Int32 → S_MV → Prop
  | 0, _, _, _ => False
  | n38 + 1, v2, v3, MV => (if 61 ≤ v3 then Kx MV
      else (if v2 = 0 then Kx MV
        else (∃ e53, wp_M_victim_L53 ML MT v1 v3 (fun x14 MV15 =>
          wp_M_victim_L38 ML MT v1 Kx n38 x14 (v3 + 1) MV15) e53 0 0 MV)))
def wp_M_victim_L259 (MT : S_MT) (MV : S_MV) (v1 : Int32) (Kx : Int32 → Prop) : Nat → Int32 → Int32 → Prop
  | 0, _, _ => False
  | n259 + 1, v3, v4 => (if (MT_many MT) ≤ v4 then Kx v3
      else vp_in v1 60 ∧
        (if ((MV_ahead MV) (Int32.toNatClampNeg v1)) = 0 then Kx v3
        else vp_in v4 60 ∧
          (if ((MV_ahead MV) (Int32.toNatClampNeg v4)) = 0 then wp_M_victim_L259 MT MV v1 Kx n259 v3 (v4 + 1)
          else vp_in v4 60 ∧
            (if ((MV_back MV) (Int32.toNatClampNeg v4)) = 0 then wp_M_victim_L259 MT MV v1 Kx n259 v3 (v4 + 1)
            else wp_M_victim_L259 MT MV v1 Kx n259 v4 (v4 + 1)))))
def wp_M_victim (MA : S_MA) (MD : S_MD) (ML : S_ML) (MP : S_MP) (MT : S_MT) (MV : S_MV) (a1 : Int32) (post : Int32 → S_MP → S_MV → Prop) : Prop :=
  wp_M_look MA MD ML MP MT MV (fun MP1 MV2 =>
  (∃ e6, wp_M_victim_L6 MT a1 (fun MV3 =>
  (∃ e38, wp_M_victim_L38 ML MT a1 (fun MV16 =>
    (∃ e259, wp_M_victim_L259 MT MV16 a1 (fun x17 =>
      post x17 MP1 MV16) e259 (-1) 0)) e38 1 0 MV3)) e6 0 MV2))

def wp_M_undoes_L10 (MT : S_MT) (v1 : Int32) (v2 : Int32) (Kx : Int32 → S_MA → S_MD → S_MG → Prop) : Nat → Int32 → Int32 → S_MA → S_MD → S_MG → Prop
  | 0, _, _, _, _, _ => False
  | n10 + 1, v3, v4, MA, MD, MG => (if v4 < 0 then Kx v3 MA MD MG
      else (if (((MG_base MG) + v4) + 1) ≤ v2 then wp_M_undoes_L10 MT v1 v2 Kx n10 v3 (v4 + (-1)) MA MD MG
        else wp_M_open MG MT v4 (fun r1 =>
          (if r1 = 0 then wp_M_undoes_L10 MT v1 v2 Kx n10 v3 (v4 + (-1)) MA MD MG
          else vp_in v4 301 ∧
            (if ((MG_by MG) (Int32.toNatClampNeg v4)) = v1 then wp_M_undo MA MD MG v1 v4 (fun MA2 MD3 MG4 =>
              wp_M_undoes_L10 MT v1 v2 Kx n10 (v3 + 1) (v4 + (-1)) MA2 MD3 MG4)
            else vp_in v4 301 ∧
              wp_M_above MT v1 ((MG_by MG) (Int32.toNatClampNeg v4)) (fun r5 =>
              (if r5 = 0 then wp_M_undoes_L10 MT v1 v2 Kx n10 v3 (v4 + (-1)) MA MD MG
              else wp_M_undo MA MD MG v1 v4 (fun MA6 MD7 MG8 =>
                wp_M_undoes_L10 MT v1 v2 Kx n10 (v3 + 1) (v4 + (-1)) MA6 MD7 MG8))))))))
def wp_M_undoes (MA : S_MA) (MD : S_MD) (MG : S_MG) (MT : S_MT) (a1 : Int32) (a2 : Int32) (post : Int32 → S_MA → S_MD → S_MG → Prop) : Prop :=
  (∃ e10, wp_M_undoes_L10 MT a1 a2 (fun x9 MA10 MD11 MG12 =>
  post x9 MA10 MD11 MG12) e10 0 ((MG_records MG) - 1) MA MD MG)

def wp_M_unlock_L2 (v1 : Int32) (Kx : S_ML → Prop) : Nat → Int32 → S_ML → Prop
  | 0, _, _ => False
  | n2 + 1, v2, ML => (if 33 ≤ v2 then Kx ML
      else vp_in ((33 * v1) + v2) 1980 ∧
        wp_M_unlock_L2 v1 Kx n2 (v2 + 1) (ML_locks' ML (upd (ML_locks ML) (Int32.toNatClampNeg ((33 * v1) + v2)) 0)))
def wp_M_unlock (ML : S_ML) (a1 : Int32) (post : S_ML → Prop) : Prop :=
  (∃ e2, wp_M_unlock_L2 a1 (fun ML1 =>
  post ML1) e2 0 ML)

def wp_M_aborts_L2 (MT : S_MT) (v1 : Int32) (Kx : S_MF → Prop) : Nat → Int32 → S_MF → Prop
  | 0, _, _ => False
  | n2 + 1, v2, MF => (if (MT_many MT) ≤ v2 then Kx MF
      else wp_M_live MT v2 (fun r1 =>
        (if r1 = 0 then vp_in v2 60 ∧
          wp_M_aborts_L2 MT v1 Kx n2 (v2 + 1) (MF_falls' MF (upd (MF_falls MF) (Int32.toNatClampNeg v2) (vp_nar .boolean 0)))
        else (if v2 = v1 then vp_in v2 60 ∧
            wp_M_aborts_L2 MT v1 Kx n2 (v2 + 1) (MF_falls' MF (upd (MF_falls MF) (Int32.toNatClampNeg v2) (vp_nar .boolean 1)))
          else wp_M_above MT v1 v2 (fun r2 =>
            (if r2 = 0 then vp_in v2 60 ∧
              wp_M_aborts_L2 MT v1 Kx n2 (v2 + 1) (MF_falls' MF (upd (MF_falls MF) (Int32.toNatClampNeg v2) (vp_nar .boolean 0)))
            else vp_in v2 60 ∧
              wp_M_aborts_L2 MT v1 Kx n2 (v2 + 1) (MF_falls' MF (upd (MF_falls MF) (Int32.toNatClampNeg v2) (vp_nar .boolean 1)))))))))
def wp_M_aborts_L63 (MF : S_MF) (v2 : Int32) (Kx : S_MG → S_ML → S_MT → Prop) : Nat → Int32 → S_MG → S_ML → S_MT → Prop
  | 0, _, _, _, _ => False
  | n63 + 1, v3, MG, ML, MT => (if v3 < 0 then Kx MG ML MT
      else vp_in v3 60 ∧
        (if ((MF_falls MF) (Int32.toNatClampNeg v3)) = 0 then wp_M_aborts_L63 MF v2 Kx n63 (v3 + (-1)) MG ML MT
        else wp_M_append MG 5 v3 0 (fun r8 MG9 =>
          vp_in r8 301 ∧
          vp_in ((MG_by MG9) (Int32.toNatClampNeg r8)) 60 ∧
          wp_M_unlock ML v3 (fun ML10 =>
          wp_M_aborts_L63 MF v2 Kx n63 (v3 + (-1)) MG9 ML10 (MT_state' MT (upd (MT_state MT) (Int32.toNatClampNeg ((MG_by MG9) (Int32.toNatClampNeg r8))) 4))))))
def wp_M_aborts (MA : S_MA) (MD : S_MD) (MF : S_MF) (MG : S_MG) (ML : S_ML) (MT : S_MT) (a1 : Int32) (post : Int32 → S_MA → S_MD → S_MF → S_MG → S_ML → S_MT → Prop) : Prop :=
  (∃ e2, wp_M_aborts_L2 MT a1 (fun MF3 =>
  wp_M_undoes MA MD MG MT a1 0 (fun r4 MA5 MD6 MG7 =>
    (∃ e63, wp_M_aborts_L63 MF3 r4 (fun MG11 ML12 MT13 =>
    post r4 MA5 MD6 MF3 MG11 ML12 MT13) e63 ((MT_many MT) - 1) MG7 ML MT))) e2 0 MF)

def wp_M_stays_L32 (v1 : Int32) (post : Int32 → S_MA → S_MD → S_MF → S_MG → S_ML → S_MP → S_MT → S_MV → Prop) (Kx : S_MA → S_MD → S_MF → S_MG → S_ML → S_MP → S_MT → S_MV → Prop) : Nat → Int32 → S_MA → S_MD → S_MF → S_MG → S_ML → S_MP → S_MT → S_MV → Prop
  | 0, _, _, _, _, _, _, _, _, _ => False
  | n32 + 1, v5, MA, MD, MF, MG, ML, MP, MT, MV => (if 60 ≤ v5 then Kx MA MD MF MG ML MP MT MV
      else wp_M_live MT v1 (fun r1 =>
        (if r1 = 0 then Kx MA MD MF MG ML MP MT MV
        else wp_M_victim MA MD ML MP MT MV v1 (fun r2 MP3 MV4 =>
          (if 0 ≤ r2 then wp_M_aborts MA MD MF MG ML MT r2 (fun r5 MA6 MD7 MF8 MG9 ML10 MT11 =>
            wp_M_stays_L32 v1 post Kx n32 (v5 + 1) MA6 MD7 MF8 MG9 ML10 MP3 MT11 MV4)
          else post (-2) MA MD MF MG ML MP3 MT MV4)))))
def wp_M_stays (MA : S_MA) (MD : S_MD) (MF : S_MF) (MG : S_MG) (ML : S_ML) (MP : S_MP) (MT : S_MT) (MV : S_MV) (a1 : Int32) (a2 : Int32) (a3 : Int32) (a4 : Int32) (post : Int32 → S_MA → S_MD → S_MF → S_MG → S_ML → S_MP → S_MT → S_MV → Prop) : Prop :=
  vp_in a1 60 ∧
  vp_in a1 60 ∧
  vp_in a1 60 ∧
  vp_in a1 60 ∧
  (∃ e32, wp_M_stays_L32 a1 post (fun MA12 MD13 MF14 MG15 ML16 MP17 MT18 MV19 =>
  wp_M_live MT18 a1 (fun r20 =>
    (if r20 = 0 then post (-3) MA12 MD13 MF14 MG15 ML16 MP17 MT18 MV19
    else post (-2) MA12 MD13 MF14 MG15 ML16 MP17 MT18 MV19))) e32 0 MA MD MF MG ML MP (MT_second' (MT_first' (MT_asks' (MT_state' MT (upd (MT_state MT) (Int32.toNatClampNeg a1) 2)) (upd (MT_asks MT) (Int32.toNatClampNeg a1) a2)) (upd (MT_first MT) (Int32.toNatClampNeg a1) a3)) (upd (MT_second MT) (Int32.toNatClampNeg a1) a4)) MV)

def wp_M_scanned_L4 (v1 : Int32) (v2 : Int32) (Kx : S_MA → S_MD → S_MG → Prop) : Nat → Int32 → S_MA → S_MD → S_MG → Prop
  | 0, _, _, _, _ => False
  | n4 + 1, v3, MA, MD, MG => (if (v2 / 4) < v3 then Kx MA MD MG
      else wp_M_touch MA MD MG v3 (fun MA1 MD2 MG3 =>
        wp_M_scanned_L4 v1 v2 Kx n4 (v3 + 1) MA1 MD2 MG3))
def wp_M_scanned_L32 (MA : S_MA) (MD : S_MD) (v2 : Int32) (Kx : Int32 → S_MN → Prop) : Nat → Int32 → Int32 → S_MN → Prop
  | 0, _, _, _ => False
  | n32 + 1, v3, v4, MN => (if v2 < v4 then Kx v3 MN
      else wp_M_isThereNow MA MD v4 (fun r7 =>
        (jn (fun (jk53 : Int32 → Prop) =>
        (if r7 = 0 then jk53 0
          else jk53 1)) (fun b8 =>
        wp_M_valueNow MA MD v4 (fun r9 =>
          wp_M_scanned_L32 MA MD v2 Kx n32 (v3 + b8) (v4 + 1) (MN_latest' MN ((MN_latest MN) + r9)))))))
def wp_M_scanned (MA : S_MA) (MD : S_MD) (MG : S_MG) (MN : S_MN) (a1 : Int32) (a2 : Int32) (post : Int32 → S_MA → S_MD → S_MG → S_MN → Prop) : Prop :=
  (∃ e4, wp_M_scanned_L4 a1 a2 (fun MA4 MD5 MG6 =>
  (∃ e32, wp_M_scanned_L32 MA4 MD5 a2 (fun x10 MN11 =>
    post x10 MA4 MD5 MG6 MN11) e32 0 a1 (MN_latest' MN 0))) e4 (a1 / 4) MA MD MG)

def wp_M_request_L18 (MN : S_MN) (v1 : Int32) (v2 : Int32) (v3 : Int32) (v4 : Int32) (post : Int32 → S_MA → S_MD → S_MF → S_MG → S_ML → S_MN → S_MP → S_MT → S_MV → Prop) (Kx : S_MA → S_MD → S_MF → S_MG → S_ML → S_MP → S_MT → S_MV → Prop) : Nat → Int32 → S_MA → S_MD → S_MF → S_MG → S_ML → S_MP → S_MT → S_MV → Prop
  | 0, _, _, _, _, _, _, _, _, _ => False
  | n18 + 1, v5, MA, MD, MF, MG, ML, MP, MT, MV => (if (MP_wanted MP) ≤ v5 then Kx MA MD MF MG ML MP MT MV
      else vp_in v5 33 ∧
        vp_in ((33 * v1) + ((MP_item MP) (Int32.toNatClampNeg v5))) 1980 ∧
        (if (MP_mode MP) ≤ ((ML_locks ML) (Int32.toNatClampNeg ((33 * v1) + ((MP_item MP) (Int32.toNatClampNeg v5))))) then wp_M_request_L18 MN v1 v2 v3 v4 post Kx n18 (v5 + 1) MA MD MF MG ML MP MT MV
        else vp_in v5 33 ∧
          wp_M_may ML MT v1 ((MP_item MP) (Int32.toNatClampNeg v5)) (MP_mode MP) (fun r2 =>
          (if r2 = 0 then wp_M_stays MA MD MF MG ML MP MT MV v1 v2 v3 v4 (fun r3 MA4 MD5 MF6 MG7 ML8 MP9 MT10 MV11 =>
            post r3 MA4 MD5 MF6 MG7 ML8 MN MP9 MT10 MV11)
          else vp_in ((33 * v1) + ((MP_item MP) (Int32.toNatClampNeg v5))) 1980 ∧
            wp_M_request_L18 MN v1 v2 v3 v4 post Kx n18 (v5 + 1) MA MD MF MG (ML_locks' ML (upd (ML_locks ML) (Int32.toNatClampNeg ((33 * v1) + ((MP_item MP) (Int32.toNatClampNeg v5)))) (MP_mode MP))) MP MT MV))))
def wp_M_request (MA : S_MA) (MD : S_MD) (MF : S_MF) (MG : S_MG) (ML : S_ML) (MN : S_MN) (MP : S_MP) (MT : S_MT) (MV : S_MV) (a1 : Int32) (a2 : Int32) (a3 : Int32) (a4 : Int32) (post : Int32 → S_MA → S_MD → S_MF → S_MG → S_ML → S_MN → S_MP → S_MT → S_MV → Prop) : Prop :=
  vp_in a1 60 ∧
  wp_M_needs MA MD MP a2 a3 a4 (fun MP1 =>
  (∃ e18, wp_M_request_L18 MN a1 a2 a3 a4 post (fun MA12 MD13 MF14 MG15 ML16 MP17 MT18 MV19 =>
  (if a2 = 1 then wp_M_touch MA12 MD13 MG15 (a3 / 4) (fun MA36 MD37 MG38 =>
      wp_M_valueNow MA36 MD37 a3 (fun r39 =>
      wp_M_isThereNow MA36 MD37 a3 (fun r40 =>
      (if r40 = 0 then post 0 MA36 MD37 MF14 MG38 ML16 (MN_latest' MN r39) MP17 MT18 MV19
      else post 1 MA36 MD37 MF14 MG38 ML16 (MN_latest' MN r39) MP17 MT18 MV19))))
    else (if a2 = 4 then wp_M_scanned MA12 MD13 MG15 MN a3 a4 (fun r31 MA32 MD33 MG34 MN35 =>
        post r31 MA32 MD33 MF14 MG34 ML16 MN35 MP17 MT18 MV19)
      else wp_M_isThereNow MA12 MD13 a3 (fun r20 =>
        (if a2 = 3 then (if r20 = 0 then post 0 MA12 MD13 MF14 MG15 ML16 MN MP17 MT18 MV19
          else wp_M_full MG15 MT18 (fun r26 =>
            (if r26 = 0 then (jn (fun (jk191 : Int32 → Prop) =>
              (if a2 = 2 then jk191 1
                else jk191 0)) (fun b27 =>
              wp_M_update MA12 MD13 MG15 a1 a3 b27 a4 (fun MA28 MD29 MG30 =>
                (if a2 = 2 then post 0 MA28 MD29 MF14 MG30 ML16 MN MP17 MT18 MV19
                else post 1 MA28 MD29 MF14 MG30 ML16 MN MP17 MT18 MV19))))
            else post (-5) MA12 MD13 MF14 MG15 ML16 MN MP17 MT18 MV19)))
        else wp_M_full MG15 MT18 (fun r21 =>
          (if r21 = 0 then (jn (fun (jk191 : Int32 → Prop) =>
            (if a2 = 2 then jk191 1
              else jk191 0)) (fun b22 =>
            wp_M_update MA12 MD13 MG15 a1 a3 b22 a4 (fun MA23 MD24 MG25 =>
              (if a2 = 2 then post 0 MA23 MD24 MF14 MG25 ML16 MN MP17 MT18 MV19
              else post 1 MA23 MD24 MF14 MG25 ML16 MN MP17 MT18 MV19))))
          else post (-5) MA12 MD13 MF14 MG15 ML16 MN MP17 MT18 MV19))))))) e18 0 MA MD MF MG ML MP1 (MT_state' MT (upd (MT_state MT) (Int32.toNatClampNeg a1) 1)) MV))

def wp_M_ask (MA : S_MA) (MD : S_MD) (MF : S_MF) (MG : S_MG) (ML : S_ML) (MN : S_MN) (MP : S_MP) (MT : S_MT) (MV : S_MV) (a1 : Int32) (a2 : Int32) (a3 : Int32) (a4 : Int32) (post : Int32 → S_MA → S_MD → S_MF → S_MG → S_ML → S_MN → S_MP → S_MT → S_MV → Prop) : Prop :=
  wp_M_busy MT a1 (fun r1 =>
  (if r1 = 0 then wp_M_request MA MD MF MG ML MN MP MT MV a1 a2 a3 a4 (fun r2 MA3 MD4 MF5 MG6 ML7 MN8 MP9 MT10 MV11 =>
    post r2 MA3 MD4 MF5 MG6 ML7 MN8 MP9 MT10 MV11)
  else post (-4) MA MD MF MG ML MN MP MT MV))

def wp_M_get (MA : S_MA) (MD : S_MD) (MF : S_MF) (MG : S_MG) (ML : S_ML) (MN : S_MN) (MP : S_MP) (MT : S_MT) (MV : S_MV) (a1 : Int32) (a2 : Int32) (post : Int32 → S_MA → S_MD → S_MF → S_MG → S_ML → S_MN → S_MP → S_MT → S_MV → Prop) : Prop :=
  wp_M_active MT a1 (fun r1 =>
  (if r1 = 0 then post (-1) MA MD MF MG ML MN MP MT MV
  else wp_M_isKey a2 (fun r2 =>
    (if r2 = 0 then post (-1) MA MD MF MG ML MN MP MT MV
    else wp_M_ask MA MD MF MG ML MN MP MT MV a1 1 a2 0 (fun r3 MA4 MD5 MF6 MG7 ML8 MN9 MP10 MT11 MV12 =>
      post r3 MA4 MD5 MF6 MG7 ML8 MN9 MP10 MT11 MV12)))))

def wp_M_put (MA : S_MA) (MD : S_MD) (MF : S_MF) (MG : S_MG) (ML : S_ML) (MN : S_MN) (MP : S_MP) (MT : S_MT) (MV : S_MV) (a1 : Int32) (a2 : Int32) (a3 : Int32) (post : Int32 → S_MA → S_MD → S_MF → S_MG → S_ML → S_MN → S_MP → S_MT → S_MV → Prop) : Prop :=
  wp_M_active MT a1 (fun r1 =>
  (if r1 = 0 then post (-1) MA MD MF MG ML MN MP MT MV
  else wp_M_isKey a2 (fun r2 =>
    (if r2 = 0 then post (-1) MA MD MF MG ML MN MP MT MV
    else wp_M_ask MA MD MF MG ML MN MP MT MV a1 2 a2 a3 (fun r3 MA4 MD5 MF6 MG7 ML8 MN9 MP10 MT11 MV12 =>
      post r3 MA4 MD5 MF6 MG7 ML8 MN9 MP10 MT11 MV12)))))

def wp_M_delete (MA : S_MA) (MD : S_MD) (MF : S_MF) (MG : S_MG) (ML : S_ML) (MN : S_MN) (MP : S_MP) (MT : S_MT) (MV : S_MV) (a1 : Int32) (a2 : Int32) (post : Int32 → S_MA → S_MD → S_MF → S_MG → S_ML → S_MN → S_MP → S_MT → S_MV → Prop) : Prop :=
  wp_M_active MT a1 (fun r1 =>
  (if r1 = 0 then post (-1) MA MD MF MG ML MN MP MT MV
  else wp_M_isKey a2 (fun r2 =>
    (if r2 = 0 then post (-1) MA MD MF MG ML MN MP MT MV
    else wp_M_ask MA MD MF MG ML MN MP MT MV a1 3 a2 0 (fun r3 MA4 MD5 MF6 MG7 ML8 MN9 MP10 MT11 MV12 =>
      post r3 MA4 MD5 MF6 MG7 ML8 MN9 MP10 MT11 MV12)))))

def wp_M_scan (MA : S_MA) (MD : S_MD) (MF : S_MF) (MG : S_MG) (ML : S_ML) (MN : S_MN) (MP : S_MP) (MT : S_MT) (MV : S_MV) (a1 : Int32) (a2 : Int32) (a3 : Int32) (post : Int32 → S_MA → S_MD → S_MF → S_MG → S_ML → S_MN → S_MP → S_MT → S_MV → Prop) : Prop :=
  wp_M_active MT a1 (fun r1 =>
  (if r1 = 0 then post (-1) MA MD MF MG ML MN MP MT MV
  else wp_M_isKey a2 (fun r2 =>
    (if r2 = 0 then post (-1) MA MD MF MG ML MN MP MT MV
    else wp_M_isKey a3 (fun r3 =>
      (if r3 = 0 then post (-1) MA MD MF MG ML MN MP MT MV
      else (if a2 ≤ a3 then wp_M_ask MA MD MF MG ML MN MP MT MV a1 4 a2 a3 (fun r4 MA5 MD6 MF7 MG8 ML9 MN10 MP11 MT12 MV13 =>
          post r4 MA5 MD6 MF7 MG8 ML9 MN10 MP11 MT12 MV13)
        else post (-1) MA MD MF MG ML MN MP MT MV)))))))

def wp_M_resume (MA : S_MA) (MD : S_MD) (MF : S_MF) (MG : S_MG) (ML : S_ML) (MN : S_MN) (MP : S_MP) (MT : S_MT) (MV : S_MV) (a1 : Int32) (post : Int32 → S_MA → S_MD → S_MF → S_MG → S_ML → S_MN → S_MP → S_MT → S_MV → Prop) : Prop :=
  wp_M_is MT a1 (fun r1 =>
  (if r1 = 0 then post (-1) MA MD MF MG ML MN MP MT MV
  else vp_in a1 60 ∧
    (if ((MT_state MT) (Int32.toNatClampNeg a1)) = 2 then vp_in a1 60 ∧
      vp_in a1 60 ∧
      vp_in a1 60 ∧
      wp_M_request MA MD MF MG ML MN MP MT MV a1 ((MT_asks MT) (Int32.toNatClampNeg a1)) ((MT_first MT) (Int32.toNatClampNeg a1)) ((MT_second MT) (Int32.toNatClampNeg a1)) (fun r2 MA3 MD4 MF5 MG6 ML7 MN8 MP9 MT10 MV11 =>
      post r2 MA3 MD4 MF5 MG6 ML7 MN8 MP9 MT10 MV11)
    else post (-1) MA MD MF MG ML MN MP MT MV)))

def wp_M_value (MN : S_MN) (post : Int32 → Prop) : Prop :=
  post (MN_latest MN)

def wp_M_commit_L51 (v1 : Int32) (v3 : Int32) (Kx : S_ML → Prop) : Nat → Int32 → S_ML → Prop
  | 0, _, _ => False
  | n51 + 1, v4, ML => (if 33 ≤ v4 then Kx ML
      else (if v3 < 0 then Kx ML
        else vp_in ((33 * v1) + v4) 1980 ∧
          vp_in ((33 * v3) + v4) 1980 ∧
          (if ((ML_locks ML) (Int32.toNatClampNeg ((33 * v1) + v4))) ≤ ((ML_locks ML) (Int32.toNatClampNeg ((33 * v3) + v4))) then vp_in ((33 * v3) + v4) 1980 ∧
            vp_in ((33 * v3) + v4) 1980 ∧
            wp_M_commit_L51 v1 v3 Kx n51 (v4 + 1) (ML_locks' ML (upd (ML_locks ML) (Int32.toNatClampNeg ((33 * v3) + v4)) ((ML_locks ML) (Int32.toNatClampNeg ((33 * v3) + v4)))))
          else vp_in ((33 * v3) + v4) 1980 ∧
            wp_M_commit_L51 v1 v3 Kx n51 (v4 + 1) (ML_locks' ML (upd (ML_locks ML) (Int32.toNatClampNeg ((33 * v3) + v4)) ((ML_locks ML) (Int32.toNatClampNeg ((33 * v1) + v4))))))))
def wp_M_commit (MG : S_MG) (ML : S_ML) (MT : S_MT) (a1 : Int32) (post : Int32 → S_MG → S_ML → S_MT → Prop) : Prop :=
  wp_M_active MT a1 (fun r1 =>
  (if r1 = 0 then post (-1) MG ML MT
  else wp_M_busy MT a1 (fun r2 =>
    (if r2 = 0 then wp_M_append MG 4 a1 0 (fun r3 MG4 =>
      vp_in r3 301 ∧
      vp_in ((MG_by MG4) (Int32.toNatClampNeg r3)) 60 ∧
      vp_in a1 60 ∧
      (∃ e51, wp_M_commit_L51 a1 ((MT_parent MT) (Int32.toNatClampNeg a1)) (fun ML5 =>
      (if 0 ≤ ((MT_parent MT) (Int32.toNatClampNeg a1)) then wp_M_unlock ML5 a1 (fun ML6 =>
          post 0 (MG_flushed' MG4 (MG_flushed MG4)) ML6 (MT_state' MT (upd (MT_state MT) (Int32.toNatClampNeg ((MG_by MG4) (Int32.toNatClampNeg r3))) 3)))
        else wp_M_last MG4 (fun r7 =>
          wp_M_unlock ML5 a1 (fun ML8 =>
          post 0 (MG_flushed' MG4 r7) ML8 (MT_state' MT (upd (MT_state MT) (Int32.toNatClampNeg ((MG_by MG4) (Int32.toNatClampNeg r3))) 3)))))) e51 0 ML))
    else post (-4) MG ML MT))))

def wp_M_abort (MA : S_MA) (MD : S_MD) (MF : S_MF) (MG : S_MG) (ML : S_ML) (MT : S_MT) (a1 : Int32) (post : Int32 → S_MA → S_MD → S_MF → S_MG → S_ML → S_MT → Prop) : Prop :=
  wp_M_is MT a1 (fun r1 =>
  (if r1 = 0 then post (-1) MA MD MF MG ML MT
  else wp_M_live MT a1 (fun r2 =>
    (if r2 = 0 then post (-1) MA MD MF MG ML MT
    else wp_M_aborts MA MD MF MG ML MT a1 (fun r3 MA4 MD5 MF6 MG7 ML8 MT9 =>
      post r3 MA4 MD5 MF6 MG7 ML8 MT9)))))

def wp_M_save (MG : S_MG) (MT : S_MT) (a1 : Int32) (post : Int32 → Prop) : Prop :=
  wp_M_active MT a1 (fun r1 =>
  (if r1 = 0 then post (-1)
  else wp_M_busy MT a1 (fun r2 =>
    (if r2 = 0 then wp_M_last MG (fun r3 =>
      post r3)
    else post (-4)))))

def wp_M_rollback (MA : S_MA) (MD : S_MD) (MG : S_MG) (MT : S_MT) (a1 : Int32) (a2 : Int32) (post : Int32 → S_MA → S_MD → S_MG → Prop) : Prop :=
  wp_M_active MT a1 (fun r1 =>
  (if r1 = 0 then post (-1) MA MD MG
  else vp_in a1 60 ∧
    (if a2 < ((MT_began MT) (Int32.toNatClampNeg a1)) then post (-1) MA MD MG
    else wp_M_last MG (fun r2 =>
      (if a2 ≤ r2 then wp_M_busy MT a1 (fun r3 =>
        (if r3 = 0 then wp_M_undoes MA MD MG MT a1 a2 (fun r4 MA5 MD6 MG7 =>
          post r4 MA5 MD6 MG7)
        else post (-4) MA MD MG))
      else post (-1) MA MD MG)))))

def wp_M_write (MA : S_MA) (MD : S_MD) (MG : S_MG) (a1 : Int32) (post : Int32 → S_MA → S_MD → S_MG → Prop) : Prop :=
  wp_M_isPage a1 (fun r1 =>
  (if r1 = 0 then post 0 MA MD MG
  else vp_in a1 8 ∧
    (if ((MA_inFrame MA) (Int32.toNatClampNeg a1)) = 0 then post 0 MA MD MG
    else vp_in a1 8 ∧
      (if ((MA_dirty MA) (Int32.toNatClampNeg a1)) = 0 then post 0 MA MD MG
      else wp_M_writes MA MD MG a1 (fun MA2 MD3 MG4 =>
        post 1 MA2 MD3 MG4)))))

def wp_M_archive_L13 (Kx : Int32 → S_MA → S_MD → S_MG → Prop) : Nat → Int32 → Int32 → S_MA → S_MD → S_MG → Prop
  | 0, _, _, _, _, _ => False
  | n13 + 1, v1, v2, MA, MD, MG => (if 8 ≤ v2 then Kx v1 MA MD MG
      else wp_M_write MA MD MG v2 (fun r2 MA3 MD4 MG5 =>
        (if r2 = 0 then wp_M_archive_L13 Kx n13 (v1 + 0) (v2 + 1) MA3 MD4 MG5
        else wp_M_archive_L13 Kx n13 (v1 + 1) (v2 + 1) MA3 MD4 MG5)))
def wp_M_archive (MA : S_MA) (MD : S_MD) (MG : S_MG) (MT : S_MT) (post : Int32 → S_MA → S_MD → S_MG → Prop) : Prop :=
  wp_M_lives MT (fun r1 =>
  (if r1 ≤ 0 then (∃ e13, wp_M_archive_L13 (fun x6 MA7 MD8 MG9 =>
    wp_M_last MG9 (fun r10 =>
      post x6 MA7 MD8 (MG_flushed' (MG_records' (MG_base' MG9 r10) 0) r10))) e13 0 0 MA MD MG)
  else post (-1) MA MD MG))

def wp_M_committed_L4 (MG : S_MG) (v1 : Int32) (Kx : Int32 → Prop) : Nat → Int32 → Int32 → Prop
  | 0, _, _ => False
  | n4 + 1, v2, v3 => (if (MG_records MG) ≤ v3 then Kx v2
      else (if v2 = 0 then vp_in v3 301 ∧
          (if ((MG_kind MG) (Int32.toNatClampNeg v3)) = 4 then vp_in v3 301 ∧
            (if ((MG_by MG) (Int32.toNatClampNeg v3)) = v1 then wp_M_committed_L4 MG v1 Kx n4 1 (v3 + 1)
            else wp_M_committed_L4 MG v1 Kx n4 0 (v3 + 1))
          else wp_M_committed_L4 MG v1 Kx n4 0 (v3 + 1))
        else wp_M_committed_L4 MG v1 Kx n4 1 (v3 + 1)))
def wp_M_committed (MG : S_MG) (a1 : Int32) (post : Int32 → Prop) : Prop :=
  (∃ e4, wp_M_committed_L4 MG a1 (fun x1 =>
  vp_nar .boolean x1 = x1 ∧
    post x1) e4 0 0)

def wp_M_crash_L44 (Kx : S_MA → Prop) : Nat → Int32 → S_MA → Prop
  | 0, _, _ => False
  | n44 + 1, v2, MA => (if 8 ≤ v2 then Kx MA
      else vp_in v2 8 ∧
        vp_in v2 8 ∧
        wp_M_crash_L44 Kx n44 (v2 + 1) (MA_dirty' (MA_inFrame' MA (upd (MA_inFrame MA) (Int32.toNatClampNeg v2) (vp_nar .boolean 0))) (upd (MA_dirty MA) (Int32.toNatClampNeg v2) (vp_nar .boolean 0))))
def wp_M_crash_L72 (Kx : S_ML → S_MT → Prop) : Nat → Int32 → S_ML → S_MT → Prop
  | 0, _, _, _ => False
  | n72 + 1, v2, ML, MT => (if (MT_many MT) ≤ v2 then Kx ML MT
      else wp_M_unlock ML v2 (fun ML3 =>
        wp_M_top MT v2 (fun r4 =>
        vp_in r4 60 ∧
        (if ((MT_state MT) (Int32.toNatClampNeg r4)) = 3 then vp_in v2 60 ∧
          vp_in v2 60 ∧
          wp_M_crash_L72 Kx n72 (v2 + 1) ML3 (MT_state' MT (upd (MT_state MT) (Int32.toNatClampNeg v2) ((MT_state MT) (Int32.toNatClampNeg v2))))
        else vp_in v2 60 ∧
          wp_M_crash_L72 Kx n72 (v2 + 1) ML3 (MT_state' MT (upd (MT_state MT) (Int32.toNatClampNeg v2) 4))))))
def wp_M_crash_L128 (v2 : Int32) (Kx : S_MA → S_MD → S_MG → Prop) : Nat → Int32 → S_MA → S_MD → S_MG → Prop
  | 0, _, _, _, _ => False
  | n128 + 1, v3, MA, MD, MG => (if v2 ≤ v3 then Kx MA MD MG
      else vp_in v3 301 ∧
        (if ((MG_kind MG) (Int32.toNatClampNeg v3)) = 2 then vp_in v3 301 ∧
          wp_M_touch MA MD MG (((MG_about MG) (Int32.toNatClampNeg v3)) / 4) (fun MA7 MD8 MG9 =>
          vp_in v3 301 ∧
          vp_in (((MG_about MG9) (Int32.toNatClampNeg v3)) / 4) 8 ∧
          (if (((MG_base MG9) + v3) + 1) ≤ ((MA_lsn MA7) (Int32.toNatClampNeg (((MG_about MG9) (Int32.toNatClampNeg v3)) / 4))) then wp_M_crash_L128 v2 Kx n128 (v3 + 1) MA7 MD8 MG9
          else vp_in v3 301 ∧
            vp_in v3 301 ∧
            vp_in v3 301 ∧
            wp_M_become MA7 ((MG_about MG9) (Int32.toNatClampNeg v3)) ((MG_isThere MG9) (Int32.toNatClampNeg v3)) ((MG_isValue MG9) (Int32.toNatClampNeg v3)) (((MG_base MG9) + v3) + 1) (fun MA10 =>
            wp_M_crash_L128 v2 Kx n128 (v3 + 1) MA10 MD8 MG9)))
        else vp_in v3 301 ∧
          (if ((MG_kind MG) (Int32.toNatClampNeg v3)) = 3 then vp_in v3 301 ∧
            wp_M_touch MA MD MG (((MG_about MG) (Int32.toNatClampNeg v3)) / 4) (fun MA11 MD12 MG13 =>
            vp_in v3 301 ∧
            vp_in (((MG_about MG13) (Int32.toNatClampNeg v3)) / 4) 8 ∧
            (if (((MG_base MG13) + v3) + 1) ≤ ((MA_lsn MA11) (Int32.toNatClampNeg (((MG_about MG13) (Int32.toNatClampNeg v3)) / 4))) then wp_M_crash_L128 v2 Kx n128 (v3 + 1) MA11 MD12 MG13
            else vp_in v3 301 ∧
              vp_in v3 301 ∧
              vp_in v3 301 ∧
              wp_M_become MA11 ((MG_about MG13) (Int32.toNatClampNeg v3)) ((MG_isThere MG13) (Int32.toNatClampNeg v3)) ((MG_isValue MG13) (Int32.toNatClampNeg v3)) (((MG_base MG13) + v3) + 1) (fun MA14 =>
              wp_M_crash_L128 v2 Kx n128 (v3 + 1) MA14 MD12 MG13)))
          else wp_M_crash_L128 v2 Kx n128 (v3 + 1) MA MD MG)))
def wp_M_crash_L232 (MT : S_MT) (Kx : Int32 → S_MA → S_MD → S_MG → Prop) : Nat → Int32 → Int32 → S_MA → S_MD → S_MG → Prop
  | 0, _, _, _, _, _ => False
  | n232 + 1, v3, v4, MA, MD, MG => (if v4 < 0 then Kx v3 MA MD MG
      else vp_in v4 301 ∧
        (if ((MG_kind MG) (Int32.toNatClampNeg v4)) = 2 then wp_M_undone MG v4 (fun r18 =>
          (if r18 = 0 then vp_in v4 301 ∧
            wp_M_top MT ((MG_by MG) (Int32.toNatClampNeg v4)) (fun r19 =>
            wp_M_committed MG r19 (fun r20 =>
            (if r20 = 0 then vp_in v4 301 ∧
              wp_M_top MT ((MG_by MG) (Int32.toNatClampNeg v4)) (fun r21 =>
              wp_M_undo MA MD MG r21 v4 (fun MA22 MD23 MG24 =>
              wp_M_crash_L232 MT Kx n232 (v3 + 1) (v4 + (-1)) MA22 MD23 MG24))
            else wp_M_crash_L232 MT Kx n232 v3 (v4 + (-1)) MA MD MG)))
          else wp_M_crash_L232 MT Kx n232 v3 (v4 + (-1)) MA MD MG))
        else wp_M_crash_L232 MT Kx n232 v3 (v4 + (-1)) MA MD MG))
def wp_M_crash (MA : S_MA) (MD : S_MD) (MG : S_MG) (ML : S_ML) (MT : S_MT) (a1 : Int32) (post : Int32 → S_MA → S_MD → S_MG → S_ML → S_MT → Prop) : Prop :=
  (if a1 < 0 then post (-1) MA MD MG ML MT
  else wp_M_last MG (fun r1 =>
    (if a1 ≤ (r1 - (MG_flushed MG)) then (∃ e44, wp_M_crash_L44 (fun MA2 =>
      (∃ e72, wp_M_crash_L72 (fun ML5 MT6 =>
        (∃ e128, wp_M_crash_L128 (((MG_flushed MG) + a1) - (MG_base MG)) (fun MA15 MD16 MG17 =>
          (∃ e232, wp_M_crash_L232 MT6 (fun x25 MA26 MD27 MG28 =>
            wp_M_last MG28 (fun r29 =>
              post x25 MA26 MD27 (MG_flushed' MG28 r29) ML5 MT6)) e232 0 ((((MG_flushed MG) + a1) - (MG_base MG)) - 1) MA15 MD16 MG17)) e128 0 MA2 MD (MG_records' (MG_flushed' MG ((MG_flushed MG) + a1)) (((MG_flushed MG) + a1) - (MG_base MG))))) e72 0 ML MT)) e44 0 MA)
    else post (-1) MA MD MG ML MT)))

def wp_M_state (MT : S_MT) (a1 : Int32) (post : Int32 → Prop) : Prop :=
  wp_M_is MT a1 (fun r1 =>
  (if r1 = 0 then post (-1)
  else vp_in a1 60 ∧
    post ((MT_state MT) (Int32.toNatClampNeg a1))))

def wp_M_parent (MT : S_MT) (a1 : Int32) (post : Int32 → Prop) : Prop :=
  wp_M_is MT a1 (fun r1 =>
  (if r1 = 0 then post (-1)
  else vp_in a1 60 ∧
    post ((MT_parent MT) (Int32.toNatClampNeg a1))))

def wp_M_lock (ML : S_ML) (MT : S_MT) (a1 : Int32) (a2 : Int32) (post : Int32 → Prop) : Prop :=
  wp_M_is MT a1 (fun r1 =>
  (if r1 = 0 then post (-1)
  else (if a2 < 0 then post (-1)
    else (if a2 ≤ 32 then vp_in ((33 * a1) + a2) 1980 ∧
        post ((ML_locks ML) (Int32.toNatClampNeg ((33 * a1) + a2)))
      else post (-1)))))

def wp_M_waits (MA : S_MA) (MD : S_MD) (ML : S_ML) (MP : S_MP) (MT : S_MT) (MV : S_MV) (a1 : Int32) (a2 : Int32) (post : Int32 → S_MP → S_MV → Prop) : Prop :=
  wp_M_is MT a1 (fun r1 =>
  (if r1 = 0 then post 0 MP MV
  else wp_M_is MT a2 (fun r2 =>
    (if r2 = 0 then post 0 MP MV
    else vp_in a1 60 ∧
      (if ((MT_state MT) (Int32.toNatClampNeg a1)) = 2 then wp_M_look MA MD ML MP MT MV (fun MP3 MV4 =>
        vp_in a1 60 ∧
        (if ((MV_lacks MV4) (Int32.toNatClampNeg a1)) < 0 then post 0 MP3 MV4
        else vp_in a1 60 ∧
          vp_in a1 60 ∧
          wp_M_bars ML MT a2 a1 ((MV_lacks MV4) (Int32.toNatClampNeg a1)) ((MV_lackMode MV4) (Int32.toNatClampNeg a1)) (fun r5 =>
          (if r5 = 0 then post 0 MP3 MV4
          else post 1 MP3 MV4))))
      else post 0 MP MV)))))

def wp_M_entry (MG : S_MG) (a1 : Int32) (a2 : Int32) (post : Int32 → Prop) : Prop :=
  (if a1 ≤ (MG_base MG) then post (-1)
  else wp_M_last MG (fun r1 =>
    (if r1 < a1 then post (-1)
    else (if a2 < 0 then post (-1)
      else (if a2 ≤ 5 then (if a2 = 0 then vp_in ((a1 - (MG_base MG)) - 1) 301 ∧
            post ((MG_kind MG) (Int32.toNatClampNeg ((a1 - (MG_base MG)) - 1)))
          else if a2 = 1 then vp_in ((a1 - (MG_base MG)) - 1) 301 ∧
            post ((MG_by MG) (Int32.toNatClampNeg ((a1 - (MG_base MG)) - 1)))
          else if a2 = 2 then vp_in ((a1 - (MG_base MG)) - 1) 301 ∧
            post ((MG_about MG) (Int32.toNatClampNeg ((a1 - (MG_base MG)) - 1)))
          else if a2 = 3 then vp_in ((a1 - (MG_base MG)) - 1) 301 ∧
            (if ((MG_kind MG) (Int32.toNatClampNeg ((a1 - (MG_base MG)) - 1))) = 3 then vp_in ((a1 - (MG_base MG)) - 1) 301 ∧
              post ((MG_of MG) (Int32.toNatClampNeg ((a1 - (MG_base MG)) - 1)))
            else vp_in ((a1 - (MG_base MG)) - 1) 301 ∧
              (if ((MG_wasThere MG) (Int32.toNatClampNeg ((a1 - (MG_base MG)) - 1))) = 0 then post 0
              else post 1))
          else if a2 = 4 then vp_in ((a1 - (MG_base MG)) - 1) 301 ∧
            (if ((MG_isThere MG) (Int32.toNatClampNeg ((a1 - (MG_base MG)) - 1))) = 0 then post 0
            else post 1)
          else vp_in ((a1 - (MG_base MG)) - 1) 301 ∧
            post ((MG_isValue MG) (Int32.toNatClampNeg ((a1 - (MG_base MG)) - 1))))
        else post (-1))))))

def wp_M_log (MG : S_MG) (MT : S_MT) (a1 : Int32) (post : Int32 → Prop) : Prop :=
  (if a1 = 0 then wp_M_last MG (fun r1 =>
    post r1)
  else if a1 = 1 then post (MG_flushed MG)
  else if a1 = 2 then post (MG_records MG)
  else if a1 = 3 then wp_M_opens MG MT (fun r2 =>
    post r2)
  else if a1 = 4 then wp_M_lives MT (fun r3 =>
    post r3)
  else post (-1))

def wp_M_key (MA : S_MA) (MD : S_MD) (a1 : Int32) (a2 : Int32) (post : Int32 → Prop) : Prop :=
  wp_M_isKey a1 (fun r1 =>
  (if r1 = 0 then post (-1)
  else (if a2 < 0 then post (-1)
    else (if a2 ≤ 3 then (if 2 ≤ a2 then (if a2 = 2 then vp_in a1 32 ∧
            (if ((MD_diskThere MD) (Int32.toNatClampNeg a1)) = 0 then post 0
            else post 1)
          else vp_in a1 32 ∧
            post ((MD_diskValue MD) (Int32.toNatClampNeg a1)))
        else (if a2 = 0 then wp_M_isThereNow MA MD a1 (fun r3 =>
            (if r3 = 0 then post 0
            else post 1))
          else wp_M_valueNow MA MD a1 (fun r2 =>
            post r2)))
      else post (-1)))))

def wp_M_frame_L17 (MA : S_MA) (v1 : Int32) (v2 : Int32) (Kx : Int32 → Prop) : Nat → Int32 → Int32 → Prop
  | 0, _, _ => False
  | n17 + 1, v3, v4 => (if 8 ≤ v4 then Kx v3
      else vp_in v4 8 ∧
        (if ((MA_inFrame MA) (Int32.toNatClampNeg v4)) = 0 then wp_M_frame_L17 MA v1 v2 Kx n17 (v3 + 0) (v4 + 1)
        else vp_in v4 8 ∧
          vp_in v2 8 ∧
          (if ((MA_touched MA) (Int32.toNatClampNeg v4)) ≤ ((MA_touched MA) (Int32.toNatClampNeg v2)) then wp_M_frame_L17 MA v1 v2 Kx n17 (v3 + 0) (v4 + 1)
          else wp_M_frame_L17 MA v1 v2 Kx n17 (v3 + 1) (v4 + 1))))
def wp_M_frame_L2 (MA : S_MA) (v1 : Int32) (post : Int32 → Prop) (Kx : Prop) : Nat → Int32 → Prop
  | 0, _ => False
  | n2 + 1, v2 => (if 8 ≤ v2 then Kx
      else (if v1 < 0 then Kx
        else (∃ e17, wp_M_frame_L17 MA v1 v2 (fun x1 =>
          vp_in v2 8 ∧
            (if ((MA_inFrame MA) (Int32.toNatClampNeg v2)) = 0 then wp_M_frame_L2 MA v1 post Kx n2 (v2 + 1)
            else (if x1 = v1 then vp_in v2 8 ∧
                (if ((MA_dirty MA) (Int32.toNatClampNeg v2)) = 0 then post ((2 * v2) + 0)
                else post ((2 * v2) + 1))
              else wp_M_frame_L2 MA v1 post Kx n2 (v2 + 1)))) e17 0 0)))
def wp_M_frame (MA : S_MA) (a1 : Int32) (post : Int32 → Prop) : Prop :=
  (∃ e2, wp_M_frame_L2 MA a1 post (post (-1)) e2 0)

def wp_M_page (MA : S_MA) (MD : S_MD) (a1 : Int32) (post : Int32 → Prop) : Prop :=
  wp_M_isPage a1 (fun r1 =>
  (if r1 = 0 then post (-1)
  else wp_M_lsnNow MA MD a1 (fun r2 =>
    post r2)))
end
section
def jI (n : Nat) : Int32 := Int32.ofNat n
def b2i (b : Bool) : Int32 := if b then 1 else 0
def updN {α : Type} (f : Nat → α) (k : Nat) (x : α) : Nat → α := fun j => if j = k then x else f j
theorem updN_same {α : Type} (f : Nat → α) (k : Nat) (x : α) : updN f k x k = x := if_pos rfl
theorem updN_ne {α : Type} (f : Nat → α) {k j : Nat} (x : α) (h : j ≠ k) : updN f k x j = f j := if_neg h
theorem upd_same (f : Nat → Int32) (k : Nat) (x : Int32) : upd f k x k = x := if_pos rfl
theorem upd_ne (f : Nat → Int32) {k j : Nat} (x : Int32) (h : j ≠ k) : upd f k x j = f j := if_neg h
theorem updL_same (f : Nat → Int64) (k : Nat) (x : Int64) : vp_updL f k x k = x := if_pos rfl
theorem updL_ne (f : Nat → Int64) {k j : Nat} (x : Int64) (h : j ≠ k) : vp_updL f k x j = f j := if_neg h
theorem b2i_t : b2i true = 1 := rfl
theorem b2i_f : b2i false = 0 := rfl
theorem nar_b (b : Bool) : vp_nar .boolean (b2i b) = b2i b := by cases b <;> decide
theorem nar_0 : vp_nar .boolean 0 = b2i false := by decide
theorem nar_1 : vp_nar .boolean 1 = b2i true := by decide
theorem b2i_0 {b : Bool} : b2i b = 0 ↔ b = false := by cases b <;> decide
theorem b2i_1 {b : Bool} : b2i b = 1 ↔ b = true := by cases b <;> decide
theorem jI_tn {n : Nat} (h : n < 2147483648) : Int32.toNatClampNeg (jI n) = n := Int32.toNatClampNeg_ofNat_of_lt h
theorem jI_ti {n : Nat} (h : n < 2147483648) : (jI n).toInt = (n : Int) := Int32.toInt_ofNat_of_lt h
theorem jI_s (n : Nat) : jI n + 1 = jI (n + 1) := (Int32.ofNat_add n 1).symm
theorem jI_a (a b : Nat) : jI a + jI b = jI (a + b) := (Int32.ofNat_add a b).symm
theorem jI_m (a b : Nat) : jI a * jI b = jI (a * b) := (Int32.ofNat_mul a b).symm
theorem jI_sub {a b : Nat} (h : b ≤ a) : jI a - jI b = jI (a - b) := (Int32.ofNat_sub a b h).symm
theorem jI_p (n : Nat) : jI (n + 1) + (-1) = jI n := by
  rw [← jI_s, Int32.add_assoc, show (1 : Int32) + (-1) = 0 from by decide, Int32.add_zero]
theorem jI_d (n : Nat) : jI (n + 1) - 1 = jI n := by rw [← jI_s, Int32.add_sub_cancel]
theorem jI_dm (m : Nat) : jI m - 1 = jI m + (-1) := Int32.sub_eq_add_neg _ _
theorem jI_le {a b : Nat} (ha : a < 2147483648) (hb : b < 2147483648) : jI a ≤ jI b ↔ a ≤ b := Int32.ofNat_le_iff_le ha hb
theorem jI_lt {a b : Nat} (ha : a < 2147483648) (hb : b < 2147483648) : jI a < jI b ↔ a < b := Int32.ofNat_lt_iff_lt ha hb
theorem jI_eq {a b : Nat} (ha : a < 2147483648) (hb : b < 2147483648) : jI a = jI b ↔ a = b := by
  constructor
  · intro h
    have h2 := congrArg Int32.toNatClampNeg h
    rwa [jI_tn ha, jI_tn hb] at h2
  · intro h
    rw [h]
theorem jI_nn {n : Nat} (h : n < 2147483648) : ¬ jI n < 0 := fun q => absurd ((jI_lt h (by decide : 0 < 2147483648)).mp q) (Nat.not_lt_zero _)
theorem jI_in {n k : Nat} (h : n < 2147483648) (hk : n < k) : vp_in (jI n) k := by
  unfold vp_in
  rw [jI_tn h]
  intro q
  rcases q with q | q
  · exact jI_nn h q
  · omega
theorem jI_of {x : Int32} (h : ¬ x < 0) : x = jI (Int32.toNatClampNeg x) := by
  have h0 : 0 ≤ x := by
    rw [Int32.lt_iff_toInt_lt] at h
    rw [Int32.le_iff_toInt_le]
    omega
  exact (Int32.ofNat_toNatClampNeg x h0).symm
theorem jI_ex (x : Int32) : x < 0 ∨ ∃ n, n < 2147483648 ∧ x = jI n := by
  by_cases h : x < 0
  · exact Or.inl h
  · exact Or.inr ⟨_, Int32.toNatClampNeg_lt x, jI_of h⟩
theorem jI_m1 {n : Nat} (h : n < 2147483648) : jI n ≠ -1 := by
  intro q
  have h2 := jI_nn h
  rw [q] at h2
  exact h2 (by decide)
theorem jI_div {n : Nat} (h : n < 2147483648) : jI n / 4 = jI (n / 4) := (Int32.ofNat_div h (by decide : 4 < 2 ^ 31)).symm
theorem jI_0 : jI 0 = 0 := rfl
/-- a loop that goes N rounds at most, its state at round k told by Inv k -/
theorem lpi {σ : Type} (L : Nat → σ → Prop) (Inv : Nat → σ → Prop) (N : Nat) (hstep : ∀ k, k < N → ∀ s n, Inv k s → (∀ s', Inv (k + 1) s' → L n s') → L (n + 1) s) (hend : ∀ s n, Inv N s → L (n + 1) s) : ∀ k, k ≤ N → ∀ s, Inv k s → ∃ e, L e s := by
  have key : ∀ d k, k + d = N → ∀ s, Inv k s → L (d + 1) s := by
    intro d
    induction d with
    | zero =>
      intro k hk s hs
      have hk : k = N := hk
      subst hk
      exact hend s 0 hs
    | succ d ih =>
      intro k hk s hs
      exact hstep k (by omega) s (d + 1) hs (fun s' h' => ih (k + 1) (by omega) s' h')
  intro k hk s hs
  exact ⟨_, key (N - k) k (by omega) s hs⟩
/-- a loop that counts m down -/
theorem lpd {σ : Type} (L : Nat → Nat → σ → Prop) (Inv : Nat → σ → Prop) (hstep : ∀ m s n, Inv (m + 1) s → (∀ s', Inv m s' → L n m s') → L (n + 1) (m + 1) s) (hend : ∀ s n, Inv 0 s → L (n + 1) 0 s) : ∀ m s, Inv m s → ∃ e, L e m s := by
  have key : ∀ m s, Inv m s → L (m + 1) m s := by
    intro m
    induction m with
    | zero => exact fun s hs => hend s 0 hs
    | succ m ih => exact fun s hs => hstep m s (m + 1) hs ih
  exact fun m s hs => ⟨_, key m s hs⟩
/-- how many below n, and whether one below n -/
def bc : Nat → (Nat → Bool) → Nat
  | 0, _ => 0
  | n + 1, P => bc n P + (if P n then 1 else 0)
def bx : Nat → (Nat → Bool) → Bool
  | 0, _ => false
  | n + 1, P => bx n P || P n
theorem bc_le (n : Nat) (P : Nat → Bool) : bc n P ≤ n := by
  induction n with
  | zero => exact Nat.le_refl _
  | succ n ih =>
    unfold bc
    split <;> omega
theorem bc_congr {n : Nat} {P Q : Nat → Bool} (h : ∀ k, k < n → P k = Q k) : bc n P = bc n Q := by
  induction n with
  | zero => rfl
  | succ n ih =>
    unfold bc
    rw [ih (fun k hk => h k (by omega)), h n (by omega)]
theorem bx_iff {n : Nat} {P : Nat → Bool} : bx n P = true ↔ ∃ k, k < n ∧ P k = true := by
  induction n with
  | zero => exact ⟨fun h => (by cases h), fun ⟨k, hk, _⟩ => absurd hk (Nat.not_lt_zero _)⟩
  | succ n ih =>
    unfold bx
    rw [Bool.or_eq_true, ih]
    constructor
    · rintro (⟨k, hk, h⟩ | h)
      · exact ⟨k, by omega, h⟩
      · exact ⟨n, by omega, h⟩
    · rintro ⟨k, hk, h⟩
      by_cases hkn : k = n
      · subst hkn
        exact Or.inr h
      · exact Or.inl ⟨k, by omega, h⟩
theorem bx_congr {n : Nat} {P Q : Nat → Bool} (h : ∀ k, k < n → P k = Q k) : bx n P = bx n Q := by
  induction n with
  | zero => rfl
  | succ n ih =>
    unfold bx
    rw [ih (fun k hk => h k (by omega)), h n (by omega)]
theorem bc_up {n : Nat} {P Q : Nat → Bool} (h : ∀ k, k < n → P k = true → Q k = true) : bc n P ≤ bc n Q := by
  induction n with
  | zero => exact Nat.le_refl _
  | succ n ih =>
    unfold bc
    have h1 := ih (fun k hk => h k (by omega))
    have h2 := h n (by omega)
    by_cases hp : P n = true
    · rw [if_pos hp, if_pos (h2 hp)]
      omega
    · rw [if_neg hp]
      omega
/-- one more -/
theorem bc_one {n x : Nat} {P Q : Nat → Bool} (hx : x < n) (h1 : P x = false) (h2 : Q x = true) (h : ∀ k, k < n → k ≠ x → P k = Q k) : bc n Q = bc n P + 1 := by
  induction n with
  | zero => exact absurd hx (Nat.not_lt_zero _)
  | succ n ih =>
    unfold bc
    by_cases hn : x = n
    · subst hn
      rw [h1, h2, bc_congr (fun k hk => (h k (by omega) (by omega)).symm : ∀ k, k < x → Q k = P k)]
      simp
    · rw [ih (by omega) (fun k hk => h k (by omega)), h n (by omega) (fun q => hn q.symm)]
      omega
theorem bc_zero {n : Nat} {P : Nat → Bool} : bc n P = 0 ↔ ∀ k, k < n → P k = false := by
  induction n with
  | zero => exact ⟨fun _ k hk => absurd hk (Nat.not_lt_zero _), fun _ => rfl⟩
  | succ n ih =>
    unfold bc
    constructor
    · intro h k hk
      have h1 : bc n P = 0 := by omega
      by_cases hkn : k = n
      · subst hkn
        cases hp : P k with
        | false => rfl
        | true => rw [hp] at h; simp at h
      · exact ih.mp h1 k (by omega)
    · intro h
      rw [ih.mpr (fun k hk => h k (by omega)), h n (by omega)]
      rfl
/-- bits of a long -/
def tb (x : Int64) (t : Nat) : Bool := x.toBitVec.getLsbD t
def oneb (t : Nat) : Int64 := (1 : Int64) <<< (Int32.toInt64 (jI t) &&& 63)
theorem oneb_bv : ∀ t, t < 64 → (oneb t).toBitVec = BitVec.twoPow 64 t := by decide +kernel
theorem tb_oneb {t : Nat} (h : t < 64) (u : Nat) : tb (oneb t) u = decide (t = u) := by
  unfold tb
  rw [oneb_bv t h, BitVec.getLsbD_twoPow]
  simp [h]
theorem tb_or (x y : Int64) (u : Nat) : tb (x ||| y) u = (tb x u || tb y u) := by
  unfold tb
  rw [Int64.toBitVec_or, BitVec.getLsbD_or]
theorem tb_and (x y : Int64) (u : Nat) : tb (x &&& y) u = (tb x u && tb y u) := by
  unfold tb
  rw [Int64.toBitVec_and, BitVec.getLsbD_and]
theorem tb_m1 {u : Nat} (h : u < 64) : tb (-1) u = true := by
  unfold tb
  rw [Int64.toBitVec_neg, Int64.toBitVec_one, BitVec.neg_one_eq_allOnes, BitVec.getLsbD_allOnes]
  simp [h]
theorem tb_not (x : Int64) {u : Nat} (h : u < 64) : tb (x ^^^ (-1)) u = !tb x u := by
  have h2 := tb_m1 h
  unfold tb at h2 ⊢
  rw [Int64.toBitVec_xor, BitVec.getLsbD_xor, h2]
  simp
theorem tb_0 (u : Nat) : tb 0 u = false := by
  unfold tb
  rw [Int64.toBitVec_zero, BitVec.getLsbD_zero]
theorem tb_hi (x : Int64) {u : Nat} (h : 64 ≤ u) : tb x u = false := BitVec.getLsbD_of_ge _ _ h
theorem tb_ext {x y : Int64} (h : ∀ u, u < 64 → tb x u = tb y u) : x = y := by
  apply Int64.toBitVec_inj.mp
  apply BitVec.eq_of_getLsbD_eq
  intro i hi
  exact h i hi
theorem cmp_0 {x y : Int64} : lg_cmp x y = 0 ↔ x = y := by
  unfold lg_cmp
  constructor
  · intro h
    split at h
    · exact absurd h (by decide)
    · split at h
      · assumption
      · exact absurd h (by decide)
  · intro h
    subst h
    rw [if_neg (by rw [gt_iff_lt, Int64.lt_iff_toInt_lt]; omega), if_pos rfl]
theorem cmp_z {x : Int64} : lg_cmp x 0 = 0 ↔ ∀ u, u < 64 → tb x u = false := by
  rw [cmp_0]
  constructor
  · intro h u _
    rw [h, tb_0]
  · intro h
    exact tb_ext (fun u hu => by rw [h u hu, tb_0])
theorem cmp_bit {x : Int64} {t : Nat} (ht : t < 64) : lg_cmp (x &&& oneb t) 0 = 0 ↔ tb x t = false := by
  rw [cmp_z]
  constructor
  · intro h
    have h2 := h t ht
    rw [tb_and, tb_oneb ht] at h2
    simpa using h2
  · intro h u hu
    rw [tb_and, tb_oneb ht]
    by_cases htu : t = u
    · subst htu
      rw [h]
      rfl
    · simp [htu]
theorem up_k {α : Type} (m : α → Int32) {f : Nat → Int32} {g : Nat → α} {N k : Nat} {x : Int32} {y : α} (h : ∀ t, t < N → f t = m (g t)) (hx : x = m y) : ∀ t, t < N → upd f k x t = m (updN g k y t) := by
  intro t ht
  by_cases e : t = k
  · rw [e, upd_same, updN_same, hx]
  · rw [upd_ne _ _ e, updN_ne _ _ e, h t ht]
theorem up_n {α : Type} (m : α → Int32) {f : Nat → Int32} {g : Nat → α} {n : Nat} {x : Int32} {y : α} (h : ∀ t, t < n → f t = m (g t)) (hx : x = m y) : ∀ t, t < n + 1 → upd f n x t = m (updN g n y t) := by
  intro t ht
  by_cases e : t = n
  · rw [e, upd_same, updN_same, hx]
  · rw [upd_ne _ _ e, updN_ne _ _ e, h t (by omega)]
def pI (p : Option Nat) : Int32 := match p with
  | none => -1
  | some q => jI q
end
section
abbrev VP : Type := Nat × Nat × (Nat → Nat) × (Nat → Bool) × (Nat → Bool) × (Nat → Int32) × (Nat → Nat) × (Nat → Bool) × (Nat → Int32) × (Nat → Nat) × Nat × (Nat → Nat)
abbrev pv_F (s : VP) : Nat := s.1
abbrev pv_F' (s : VP) (v : Nat) : VP := (v, s.2.1, s.2.2.1, s.2.2.2.1, s.2.2.2.2.1, s.2.2.2.2.2.1, s.2.2.2.2.2.2.1, s.2.2.2.2.2.2.2.1, s.2.2.2.2.2.2.2.2.1, s.2.2.2.2.2.2.2.2.2.1, s.2.2.2.2.2.2.2.2.2.2.1, s.2.2.2.2.2.2.2.2.2.2.2)
abbrev pv_m (s : VP) : Nat := s.2.1
abbrev pv_m' (s : VP) (v : Nat) : VP := (s.1, v, s.2.2.1, s.2.2.2.1, s.2.2.2.2.1, s.2.2.2.2.2.1, s.2.2.2.2.2.2.1, s.2.2.2.2.2.2.2.1, s.2.2.2.2.2.2.2.2.1, s.2.2.2.2.2.2.2.2.2.1, s.2.2.2.2.2.2.2.2.2.2.1, s.2.2.2.2.2.2.2.2.2.2.2)
abbrev pv_bt (s : VP) : Nat → Nat := s.2.2.1
abbrev pv_bt' (s : VP) (v : Nat → Nat) : VP := (s.1, s.2.1, v, s.2.2.2.1, s.2.2.2.2.1, s.2.2.2.2.2.1, s.2.2.2.2.2.2.1, s.2.2.2.2.2.2.2.1, s.2.2.2.2.2.2.2.2.1, s.2.2.2.2.2.2.2.2.2.1, s.2.2.2.2.2.2.2.2.2.2.1, s.2.2.2.2.2.2.2.2.2.2.2)
abbrev pv_dy (s : VP) : Nat → Bool := s.2.2.2.1
abbrev pv_dy' (s : VP) (v : Nat → Bool) : VP := (s.1, s.2.1, s.2.2.1, v, s.2.2.2.2.1, s.2.2.2.2.2.1, s.2.2.2.2.2.2.1, s.2.2.2.2.2.2.2.1, s.2.2.2.2.2.2.2.2.1, s.2.2.2.2.2.2.2.2.2.1, s.2.2.2.2.2.2.2.2.2.2.1, s.2.2.2.2.2.2.2.2.2.2.2)
abbrev pv_th (s : VP) : Nat → Bool := s.2.2.2.2.1
abbrev pv_th' (s : VP) (v : Nat → Bool) : VP := (s.1, s.2.1, s.2.2.1, s.2.2.2.1, v, s.2.2.2.2.2.1, s.2.2.2.2.2.2.1, s.2.2.2.2.2.2.2.1, s.2.2.2.2.2.2.2.2.1, s.2.2.2.2.2.2.2.2.2.1, s.2.2.2.2.2.2.2.2.2.2.1, s.2.2.2.2.2.2.2.2.2.2.2)
abbrev pv_va (s : VP) : Nat → Int32 := s.2.2.2.2.2.1
abbrev pv_va' (s : VP) (v : Nat → Int32) : VP := (s.1, s.2.1, s.2.2.1, s.2.2.2.1, s.2.2.2.2.1, v, s.2.2.2.2.2.2.1, s.2.2.2.2.2.2.2.1, s.2.2.2.2.2.2.2.2.1, s.2.2.2.2.2.2.2.2.2.1, s.2.2.2.2.2.2.2.2.2.2.1, s.2.2.2.2.2.2.2.2.2.2.2)
abbrev pv_ls (s : VP) : Nat → Nat := s.2.2.2.2.2.2.1
abbrev pv_ls' (s : VP) (v : Nat → Nat) : VP := (s.1, s.2.1, s.2.2.1, s.2.2.2.1, s.2.2.2.2.1, s.2.2.2.2.2.1, v, s.2.2.2.2.2.2.2.1, s.2.2.2.2.2.2.2.2.1, s.2.2.2.2.2.2.2.2.2.1, s.2.2.2.2.2.2.2.2.2.2.1, s.2.2.2.2.2.2.2.2.2.2.2)
abbrev pv_dth (s : VP) : Nat → Bool := s.2.2.2.2.2.2.2.1
abbrev pv_dth' (s : VP) (v : Nat → Bool) : VP := (s.1, s.2.1, s.2.2.1, s.2.2.2.1, s.2.2.2.2.1, s.2.2.2.2.2.1, s.2.2.2.2.2.2.1, v, s.2.2.2.2.2.2.2.2.1, s.2.2.2.2.2.2.2.2.2.1, s.2.2.2.2.2.2.2.2.2.2.1, s.2.2.2.2.2.2.2.2.2.2.2)
abbrev pv_dva (s : VP) : Nat → Int32 := s.2.2.2.2.2.2.2.2.1
abbrev pv_dva' (s : VP) (v : Nat → Int32) : VP := (s.1, s.2.1, s.2.2.1, s.2.2.2.1, s.2.2.2.2.1, s.2.2.2.2.2.1, s.2.2.2.2.2.2.1, s.2.2.2.2.2.2.2.1, v, s.2.2.2.2.2.2.2.2.2.1, s.2.2.2.2.2.2.2.2.2.2.1, s.2.2.2.2.2.2.2.2.2.2.2)
abbrev pv_dls (s : VP) : Nat → Nat := s.2.2.2.2.2.2.2.2.2.1
abbrev pv_dls' (s : VP) (v : Nat → Nat) : VP := (s.1, s.2.1, s.2.2.1, s.2.2.2.1, s.2.2.2.2.1, s.2.2.2.2.2.1, s.2.2.2.2.2.2.1, s.2.2.2.2.2.2.2.1, s.2.2.2.2.2.2.2.2.1, v, s.2.2.2.2.2.2.2.2.2.2.1, s.2.2.2.2.2.2.2.2.2.2.2)
abbrev pv_tk (s : VP) : Nat := s.2.2.2.2.2.2.2.2.2.2.1
abbrev pv_tk' (s : VP) (v : Nat) : VP := (s.1, s.2.1, s.2.2.1, s.2.2.2.1, s.2.2.2.2.1, s.2.2.2.2.2.1, s.2.2.2.2.2.2.1, s.2.2.2.2.2.2.2.1, s.2.2.2.2.2.2.2.2.1, s.2.2.2.2.2.2.2.2.2.1, v, s.2.2.2.2.2.2.2.2.2.2.2)
abbrev pv_tt (s : VP) : Nat → Nat := s.2.2.2.2.2.2.2.2.2.2.2
abbrev pv_tt' (s : VP) (v : Nat → Nat) : VP := (s.1, s.2.1, s.2.2.1, s.2.2.2.1, s.2.2.2.2.1, s.2.2.2.2.2.1, s.2.2.2.2.2.2.1, s.2.2.2.2.2.2.2.1, s.2.2.2.2.2.2.2.2.1, s.2.2.2.2.2.2.2.2.2.1, s.2.2.2.2.2.2.2.2.2.2.1, v)
abbrev VG : Type := Nat × Nat × Nat × (Nat → Int32) × (Nat → Nat) × (Nat → Int32) × (Nat → Int32) × (Nat → Nat) × (Nat → Bool) × (Nat → Int32) × (Nat → Bool) × (Nat → Int32)
abbrev gv_b (s : VG) : Nat := s.1
abbrev gv_b' (s : VG) (v : Nat) : VG := (v, s.2.1, s.2.2.1, s.2.2.2.1, s.2.2.2.2.1, s.2.2.2.2.2.1, s.2.2.2.2.2.2.1, s.2.2.2.2.2.2.2.1, s.2.2.2.2.2.2.2.2.1, s.2.2.2.2.2.2.2.2.2.1, s.2.2.2.2.2.2.2.2.2.2.1, s.2.2.2.2.2.2.2.2.2.2.2)
abbrev gv_n (s : VG) : Nat := s.2.1
abbrev gv_n' (s : VG) (v : Nat) : VG := (s.1, v, s.2.2.1, s.2.2.2.1, s.2.2.2.2.1, s.2.2.2.2.2.1, s.2.2.2.2.2.2.1, s.2.2.2.2.2.2.2.1, s.2.2.2.2.2.2.2.2.1, s.2.2.2.2.2.2.2.2.2.1, s.2.2.2.2.2.2.2.2.2.2.1, s.2.2.2.2.2.2.2.2.2.2.2)
abbrev gv_f (s : VG) : Nat := s.2.2.1
abbrev gv_f' (s : VG) (v : Nat) : VG := (s.1, s.2.1, v, s.2.2.2.1, s.2.2.2.2.1, s.2.2.2.2.2.1, s.2.2.2.2.2.2.1, s.2.2.2.2.2.2.2.1, s.2.2.2.2.2.2.2.2.1, s.2.2.2.2.2.2.2.2.2.1, s.2.2.2.2.2.2.2.2.2.2.1, s.2.2.2.2.2.2.2.2.2.2.2)
abbrev gv_kd (s : VG) : Nat → Int32 := s.2.2.2.1
abbrev gv_kd' (s : VG) (v : Nat → Int32) : VG := (s.1, s.2.1, s.2.2.1, v, s.2.2.2.2.1, s.2.2.2.2.2.1, s.2.2.2.2.2.2.1, s.2.2.2.2.2.2.2.1, s.2.2.2.2.2.2.2.2.1, s.2.2.2.2.2.2.2.2.2.1, s.2.2.2.2.2.2.2.2.2.2.1, s.2.2.2.2.2.2.2.2.2.2.2)
abbrev gv_by (s : VG) : Nat → Nat := s.2.2.2.2.1
abbrev gv_by' (s : VG) (v : Nat → Nat) : VG := (s.1, s.2.1, s.2.2.1, s.2.2.2.1, v, s.2.2.2.2.2.1, s.2.2.2.2.2.2.1, s.2.2.2.2.2.2.2.1, s.2.2.2.2.2.2.2.2.1, s.2.2.2.2.2.2.2.2.2.1, s.2.2.2.2.2.2.2.2.2.2.1, s.2.2.2.2.2.2.2.2.2.2.2)
abbrev gv_ab (s : VG) : Nat → Int32 := s.2.2.2.2.2.1
abbrev gv_ab' (s : VG) (v : Nat → Int32) : VG := (s.1, s.2.1, s.2.2.1, s.2.2.2.1, s.2.2.2.2.1, v, s.2.2.2.2.2.2.1, s.2.2.2.2.2.2.2.1, s.2.2.2.2.2.2.2.2.1, s.2.2.2.2.2.2.2.2.2.1, s.2.2.2.2.2.2.2.2.2.2.1, s.2.2.2.2.2.2.2.2.2.2.2)
abbrev gv_of (s : VG) : Nat → Int32 := s.2.2.2.2.2.2.1
abbrev gv_of' (s : VG) (v : Nat → Int32) : VG := (s.1, s.2.1, s.2.2.1, s.2.2.2.1, s.2.2.2.2.1, s.2.2.2.2.2.1, v, s.2.2.2.2.2.2.2.1, s.2.2.2.2.2.2.2.2.1, s.2.2.2.2.2.2.2.2.2.1, s.2.2.2.2.2.2.2.2.2.2.1, s.2.2.2.2.2.2.2.2.2.2.2)
abbrev gv_ou (s : VG) : Nat → Nat := s.2.2.2.2.2.2.2.1
abbrev gv_ou' (s : VG) (v : Nat → Nat) : VG := (s.1, s.2.1, s.2.2.1, s.2.2.2.1, s.2.2.2.2.1, s.2.2.2.2.2.1, s.2.2.2.2.2.2.1, v, s.2.2.2.2.2.2.2.2.1, s.2.2.2.2.2.2.2.2.2.1, s.2.2.2.2.2.2.2.2.2.2.1, s.2.2.2.2.2.2.2.2.2.2.2)
abbrev gv_wt (s : VG) : Nat → Bool := s.2.2.2.2.2.2.2.2.1
abbrev gv_wt' (s : VG) (v : Nat → Bool) : VG := (s.1, s.2.1, s.2.2.1, s.2.2.2.1, s.2.2.2.2.1, s.2.2.2.2.2.1, s.2.2.2.2.2.2.1, s.2.2.2.2.2.2.2.1, v, s.2.2.2.2.2.2.2.2.2.1, s.2.2.2.2.2.2.2.2.2.2.1, s.2.2.2.2.2.2.2.2.2.2.2)
abbrev gv_wv (s : VG) : Nat → Int32 := s.2.2.2.2.2.2.2.2.2.1
abbrev gv_wv' (s : VG) (v : Nat → Int32) : VG := (s.1, s.2.1, s.2.2.1, s.2.2.2.1, s.2.2.2.2.1, s.2.2.2.2.2.1, s.2.2.2.2.2.2.1, s.2.2.2.2.2.2.2.1, s.2.2.2.2.2.2.2.2.1, v, s.2.2.2.2.2.2.2.2.2.2.1, s.2.2.2.2.2.2.2.2.2.2.2)
abbrev gv_it (s : VG) : Nat → Bool := s.2.2.2.2.2.2.2.2.2.2.1
abbrev gv_it' (s : VG) (v : Nat → Bool) : VG := (s.1, s.2.1, s.2.2.1, s.2.2.2.1, s.2.2.2.2.1, s.2.2.2.2.2.1, s.2.2.2.2.2.2.1, s.2.2.2.2.2.2.2.1, s.2.2.2.2.2.2.2.2.1, s.2.2.2.2.2.2.2.2.2.1, v, s.2.2.2.2.2.2.2.2.2.2.2)
abbrev gv_iv (s : VG) : Nat → Int32 := s.2.2.2.2.2.2.2.2.2.2.2
abbrev gv_iv' (s : VG) (v : Nat → Int32) : VG := (s.1, s.2.1, s.2.2.1, s.2.2.2.1, s.2.2.2.2.1, s.2.2.2.2.2.1, s.2.2.2.2.2.2.1, s.2.2.2.2.2.2.2.1, s.2.2.2.2.2.2.2.2.1, s.2.2.2.2.2.2.2.2.2.1, s.2.2.2.2.2.2.2.2.2.2.1, v)
abbrev VT : Type := Nat × (Nat → Int32) × (Nat → Option Nat) × (Nat → Nat) × (Nat → Nat) × (Nat → Nat) × (Nat → Nat → Bool) × (Nat → Nat) × (Nat → Nat) × (Nat → Nat) × (Nat → Int32)
abbrev tv_c (s : VT) : Nat := s.1
abbrev tv_c' (s : VT) (v : Nat) : VT := (v, s.2.1, s.2.2.1, s.2.2.2.1, s.2.2.2.2.1, s.2.2.2.2.2.1, s.2.2.2.2.2.2.1, s.2.2.2.2.2.2.2.1, s.2.2.2.2.2.2.2.2.1, s.2.2.2.2.2.2.2.2.2.1, s.2.2.2.2.2.2.2.2.2.2)
abbrev tv_st (s : VT) : Nat → Int32 := s.2.1
abbrev tv_st' (s : VT) (v : Nat → Int32) : VT := (s.1, v, s.2.2.1, s.2.2.2.1, s.2.2.2.2.1, s.2.2.2.2.2.1, s.2.2.2.2.2.2.1, s.2.2.2.2.2.2.2.1, s.2.2.2.2.2.2.2.2.1, s.2.2.2.2.2.2.2.2.2.1, s.2.2.2.2.2.2.2.2.2.2)
abbrev tv_par (s : VT) : Nat → Option Nat := s.2.2.1
abbrev tv_par' (s : VT) (v : Nat → Option Nat) : VT := (s.1, s.2.1, v, s.2.2.2.1, s.2.2.2.2.1, s.2.2.2.2.2.1, s.2.2.2.2.2.2.1, s.2.2.2.2.2.2.2.1, s.2.2.2.2.2.2.2.2.1, s.2.2.2.2.2.2.2.2.2.1, s.2.2.2.2.2.2.2.2.2.2)
abbrev tv_top (s : VT) : Nat → Nat := s.2.2.2.1
abbrev tv_top' (s : VT) (v : Nat → Nat) : VT := (s.1, s.2.1, s.2.2.1, v, s.2.2.2.2.1, s.2.2.2.2.2.1, s.2.2.2.2.2.2.1, s.2.2.2.2.2.2.2.1, s.2.2.2.2.2.2.2.2.1, s.2.2.2.2.2.2.2.2.2.1, s.2.2.2.2.2.2.2.2.2.2)
abbrev tv_dep (s : VT) : Nat → Nat := s.2.2.2.2.1
abbrev tv_dep' (s : VT) (v : Nat → Nat) : VT := (s.1, s.2.1, s.2.2.1, s.2.2.2.1, v, s.2.2.2.2.2.1, s.2.2.2.2.2.2.1, s.2.2.2.2.2.2.2.1, s.2.2.2.2.2.2.2.2.1, s.2.2.2.2.2.2.2.2.2.1, s.2.2.2.2.2.2.2.2.2.2)
abbrev tv_bg (s : VT) : Nat → Nat := s.2.2.2.2.2.1
abbrev tv_bg' (s : VT) (v : Nat → Nat) : VT := (s.1, s.2.1, s.2.2.1, s.2.2.2.1, s.2.2.2.2.1, v, s.2.2.2.2.2.2.1, s.2.2.2.2.2.2.2.1, s.2.2.2.2.2.2.2.2.1, s.2.2.2.2.2.2.2.2.2.1, s.2.2.2.2.2.2.2.2.2.2)
abbrev tv_lin (s : VT) : Nat → Nat → Bool := s.2.2.2.2.2.2.1
abbrev tv_lin' (s : VT) (v : Nat → Nat → Bool) : VT := (s.1, s.2.1, s.2.2.1, s.2.2.2.1, s.2.2.2.2.1, s.2.2.2.2.2.1, v, s.2.2.2.2.2.2.2.1, s.2.2.2.2.2.2.2.2.1, s.2.2.2.2.2.2.2.2.2.1, s.2.2.2.2.2.2.2.2.2.2)
abbrev tv_rk (s : VT) : Nat → Nat := s.2.2.2.2.2.2.2.1
abbrev tv_rk' (s : VT) (v : Nat → Nat) : VT := (s.1, s.2.1, s.2.2.1, s.2.2.2.1, s.2.2.2.2.1, s.2.2.2.2.2.1, s.2.2.2.2.2.2.1, v, s.2.2.2.2.2.2.2.2.1, s.2.2.2.2.2.2.2.2.2.1, s.2.2.2.2.2.2.2.2.2.2)
abbrev tv_lo (s : VT) : Nat → Nat := s.2.2.2.2.2.2.2.2.1
abbrev tv_lo' (s : VT) (v : Nat → Nat) : VT := (s.1, s.2.1, s.2.2.1, s.2.2.2.1, s.2.2.2.2.1, s.2.2.2.2.2.1, s.2.2.2.2.2.2.1, s.2.2.2.2.2.2.2.1, v, s.2.2.2.2.2.2.2.2.2.1, s.2.2.2.2.2.2.2.2.2.2)
abbrev tv_hi (s : VT) : Nat → Nat := s.2.2.2.2.2.2.2.2.2.1
abbrev tv_hi' (s : VT) (v : Nat → Nat) : VT := (s.1, s.2.1, s.2.2.1, s.2.2.2.1, s.2.2.2.2.1, s.2.2.2.2.2.1, s.2.2.2.2.2.2.1, s.2.2.2.2.2.2.2.1, s.2.2.2.2.2.2.2.2.1, v, s.2.2.2.2.2.2.2.2.2.2)
abbrev tv_nv (s : VT) : Nat → Int32 := s.2.2.2.2.2.2.2.2.2.2
abbrev tv_nv' (s : VT) (v : Nat → Int32) : VT := (s.1, s.2.1, s.2.2.1, s.2.2.2.1, s.2.2.2.2.1, s.2.2.2.2.2.1, s.2.2.2.2.2.2.1, s.2.2.2.2.2.2.2.1, s.2.2.2.2.2.2.2.2.1, s.2.2.2.2.2.2.2.2.2.1, v)
/-- the first place from i on, n at most, where P holds; behind them all if none -/
def ff (P : Nat → Bool) : Nat → Nat → Nat
  | 0, i => i
  | n + 1, i => if P i then i else ff P n (i + 1)
theorem ff_spec (P : Nat → Bool) : ∀ n i, i ≤ ff P n i ∧ ff P n i ≤ i + n ∧ (∀ x, i ≤ x → x < ff P n i → P x = false) ∧ (ff P n i < i + n → P (ff P n i) = true) := by
  intro n
  induction n with
  | zero =>
    intro i
    exact ⟨Nat.le_refl _, Nat.le_refl _, fun x h1 h2 => by unfold ff at h2; omega, fun h => by unfold ff at h; omega⟩
  | succ n ih =>
    intro i
    unfold ff
    by_cases hp : P i = true
    · rw [if_pos hp]
      exact ⟨Nat.le_refl _, by omega, fun x h1 h2 => by omega, fun _ => hp⟩
    · rw [if_neg hp]
      obtain ⟨h1, h2, h3, h4⟩ := ih (i + 1)
      refine ⟨by omega, by omega, fun x hx1 hx2 => ?_, fun h => h4 (by omega)⟩
      by_cases hxi : x = i
      · subst hxi
        simpa using hp
      · exact h3 x (by omega) hx2
theorem ff_eq (P : Nat → Bool) : ∀ n i j, i ≤ j → j ≤ i + n → (∀ x, i ≤ x → x < j → P x = false) → (j < i + n → P j = true) → ff P n i = j := by
  intro n i j h1 h2 h3 h4
  obtain ⟨g1, g2, g3, g4⟩ := ff_spec P n i
  rcases Nat.lt_trichotomy (ff P n i) j with h | h | h
  · have := h3 _ g1 h
    rw [g4 (by omega)] at this
    cases this
  · exact h
  · have := g3 _ h1 h
    rw [h4 (by omega)] at this
    cases this
/-- pages -/
def sp_wrP (v : VP) (p : Nat) : VP := pv_dy' (pv_dls' (pv_dva' (pv_dth' v (fun k => if k / 4 = p then pv_th v k else pv_dth v k)) (fun k => if k / 4 = p then pv_va v k else pv_dva v k)) (updN (pv_dls v) p (pv_ls v p))) (updN (pv_dy v) p false)
def sp_wrF (v : VP) (f p : Nat) : Nat := if pv_ls v p ≤ f then f else pv_ls v p
def sp_pl (v : VP) (p : Nat) : Nat := ff (fun i => pv_bt v i == p) (pv_m v) 0
def sp_sh (bt : Nat → Nat) (pl p : Nat) : Nat → Nat := fun i => if i = 0 then p else if i ≤ pl then bt (i - 1) else bt i
def sp_fin (v w : VP) (q p : Nat) : VP := pv_tt' (pv_tk' (pv_bt' w (sp_sh (pv_bt w) q p)) (pv_tk v + 1)) (updN (pv_tt v) p (pv_tk v + 1))
def sp_tP (v : VP) (p : Nat) : VP :=
  if sp_pl v p = pv_F v then sp_fin v (if pv_dy v (pv_bt v (pv_F v - 1)) then sp_wrP v (pv_bt v (pv_F v - 1)) else v) (pv_F v - 1) p
  else if sp_pl v p = pv_m v then sp_fin v (pv_m' v (pv_m v + 1)) (pv_m v) p
  else sp_fin v v (sp_pl v p) p
def sp_tF (v : VP) (f p : Nat) : Nat := if sp_pl v p = pv_F v ∧ pv_dy v (pv_bt v (pv_F v - 1)) = true then sp_wrF v f (pv_bt v (pv_F v - 1)) else f
def sp_ch (v : VP) (k : Nat) (now : Bool) (x : Int32) (lsn : Nat) : VP := pv_dy' (pv_ls' (pv_va' (pv_th' v (updN (pv_th v) k now)) (updN (pv_va v) k x)) (updN (pv_ls v) (k / 4) lsn)) (updN (pv_dy v) (k / 4) true)
def sp_nx (v : VP) (k : Nat) : Nat := ff (pv_th v) (31 - k) (k + 1)
def sp_lose (v : VP) : VP := pv_m' (pv_dy' (pv_va' (pv_th' (pv_ls' v (pv_dls v)) (pv_dth v)) (pv_dva v)) (fun _ => false)) 0
def iP (v : VP) : Prop := 1 ≤ pv_F v ∧ pv_F v ≤ 8 ∧ pv_m v ≤ pv_F v ∧ (∀ i, i < pv_m v → pv_bt v i < 8) ∧ (∀ i j, i < pv_m v → j < pv_m v → pv_bt v i = pv_bt v j → i = j) ∧ (∀ p, p < 8 → (∀ i, i < pv_m v → pv_bt v i ≠ p) → pv_dy v p = false ∧ pv_ls v p = pv_dls v p ∧ ∀ k, k / 4 = p → pv_th v k = pv_dth v k ∧ pv_va v k = pv_dva v k) ∧ (∀ k, k < 32 → pv_th v k = false → pv_va v k = 0) ∧ (∀ k, k < 32 → pv_dth v k = false → pv_dva v k = 0) ∧ (∀ i j, i < j → j < pv_m v → pv_tt v (pv_bt v j) < pv_tt v (pv_bt v i)) ∧ ∀ i, i < pv_m v → pv_tt v (pv_bt v i) ≤ pv_tk v
def sp_in (v : VP) (p : Nat) : Bool := bx (pv_m v) (fun i => pv_bt v i == p)
/-- the log -/
def sp_ud (g : VG) (r : Nat) : Bool := bx (gv_n g) (fun x => decide (gv_kd g x = 3) && gv_ou g x == r)
def sp_app (g : VG) (k : Int32) (t : Nat) (a : Int32) : VG := gv_n' (gv_iv' (gv_it' (gv_wv' (gv_wt' (gv_ou' (gv_of' (gv_ab' (gv_by' (gv_kd' g (updN (gv_kd g) (gv_n g) k)) (updN (gv_by g) (gv_n g) t)) (updN (gv_ab g) (gv_n g) a)) (updN (gv_of g) (gv_n g) 0)) (updN (gv_ou g) (gv_n g) (gv_n g + 1))) (updN (gv_wt g) (gv_n g) false)) (updN (gv_wv g) (gv_n g) 0)) (updN (gv_it g) (gv_n g) false)) (updN (gv_iv g) (gv_n g) 0)) (gv_n g + 1)
def sp_bef (g : VG) (r : Nat) (b : Bool) (x : Int32) : VG := gv_wv' (gv_wt' g (updN (gv_wt g) r b)) (updN (gv_wv g) r x)
def sp_aft (g : VG) (r : Nat) (b : Bool) (x : Int32) : VG := gv_iv' (gv_it' g (updN (gv_it g) r b)) (updN (gv_iv g) r x)
def sp_mark (g : VG) (r u : Nat) : VG := gv_ou' (gv_of' g (updN (gv_of g) r (jI (gv_b g + u + 1)))) (updN (gv_ou g) r u)
def sp_emp (g : VG) : VG := gv_f' (gv_n' (gv_b' g (gv_b g + gv_n g)) 0) (gv_b g + gv_n g)
/-- what holds of the log's rows: c transactions -/
def iG (g : VG) (c : Nat) : Prop := gv_n g ≤ 300 ∧ gv_b g ≤ gv_f g ∧ gv_f g ≤ gv_b g + gv_n g ∧ gv_b g ≤ 300000 ∧ (∀ r, r < gv_n g → gv_by g r < c) ∧ (∀ r, r < gv_n g → (gv_kd g r = 2 ∨ gv_kd g r = 3) → ∃ k, k < 32 ∧ gv_ab g r = jI k) ∧ (∀ r, r < gv_n g → gv_kd g r = 3 → gv_ou g r < r ∧ gv_kd g (gv_ou g r) = 2 ∧ gv_of g r = jI (gv_b g + gv_ou g r + 1)) ∧ (∀ x y, x < gv_n g → y < gv_n g → gv_kd g x = 3 → gv_kd g y = 3 → gv_ou g x = gv_ou g y → x = y) ∧ (∀ r, r < gv_n g → gv_wt g r = false → gv_wv g r = 0) ∧ ∀ r, r < gv_n g → gv_it g r = false → gv_iv g r = 0
/-- the reference's pages and log -/
def RMA (A : S_MA) (D : S_MD) (v : VP) : Prop := MA_frames A = jI (pv_F v) ∧ (∀ p, p < 8 → MA_inFrame A p = b2i (sp_in v p)) ∧ (∀ p, p < 8 → MA_dirty A p = b2i (pv_dy v p)) ∧ (∀ p, p < 8 → sp_in v p = true → MA_lsn A p = jI (pv_ls v p)) ∧ (∀ k, k < 32 → sp_in v (k / 4) = true → MA_there A k = b2i (pv_th v k)) ∧ (∀ k, k < 32 → sp_in v (k / 4) = true → MA_value A k = pv_va v k) ∧ MA_clock A = jI (pv_tk v) ∧ (∀ p, p < 8 → MA_touched A p = jI (pv_tt v p)) ∧ (∀ k, k < 32 → MD_diskThere D k = b2i (pv_dth v k)) ∧ (∀ k, k < 32 → MD_diskValue D k = pv_dva v k) ∧ ∀ p, p < 8 → MD_diskLsn D p = jI (pv_dls v p)
def RMG (G : S_MG) (g : VG) : Prop := MG_base G = jI (gv_b g) ∧ MG_records G = jI (gv_n g) ∧ MG_flushed G = jI (gv_f g) ∧ (∀ r, r < gv_n g → MG_kind G r = gv_kd g r) ∧ (∀ r, r < gv_n g → MG_by G r = jI (gv_by g r)) ∧ (∀ r, r < gv_n g → MG_about G r = gv_ab g r) ∧ (∀ r, r < gv_n g → MG_of G r = gv_of g r) ∧ (∀ r, r < gv_n g → MG_wasThere G r = b2i (gv_wt g r)) ∧ (∀ r, r < gv_n g → MG_wasValue G r = gv_wv g r) ∧ (∀ r, r < gv_n g → MG_isThere G r = b2i (gv_it g r)) ∧ ∀ r, r < gv_n g → MG_isValue G r = gv_iv g r
/-- the class's pages and log -/
def RA (A : S_A) (v : VP) : Prop := A_frames A = jI (pv_F v) ∧ A_framesInUse A = jI (pv_m v) ∧ (∀ i, i < pv_m v → A_byTouch A i = jI (pv_bt v i)) ∧ (∀ p, p < 8 → A_dirty A p = b2i (pv_dy v p)) ∧ (∀ p, p < 8 → A_lsn A p = jI (pv_ls v p)) ∧ (∀ k, k < 32 → A_there A k = b2i (pv_th v k)) ∧ (∀ k, k < 32 → A_value A k = pv_va v k) ∧ (∀ p, p < 8 → A_diskLsn A p = jI (pv_dls v p)) ∧ (∀ k, k < 32 → A_diskThere A k = b2i (pv_dth v k)) ∧ ∀ k, k < 32 → A_diskValue A k = pv_dva v k
def RG (G : S_G) (g : VG) : Prop := G_base G = jI (gv_b g) ∧ G_size G = jI (gv_n g) ∧ G_flushed G = jI (gv_f g) ∧ (∀ r, r < gv_n g → G_kind G r = gv_kd g r) ∧ (∀ r, r < gv_n g → G_transaction G r = jI (gv_by g r)) ∧ (∀ r, r < gv_n g → G_subject G r = gv_ab g r) ∧ (∀ r, r < gv_n g → G_wasThere G r = b2i (gv_wt g r)) ∧ (∀ r, r < gv_n g → G_oldValue G r = gv_wv g r) ∧ (∀ r, r < gv_n g → G_isThere G r = b2i (gv_it g r)) ∧ (∀ r, r < gv_n g → G_newValue G r = gv_iv g r) ∧ (∀ r, r < gv_n g → G_undoes G r = gv_of g r) ∧ ∀ r, r < gv_n g → G_undone G r = b2i (sp_ud g r)
/-- transactions -/
def sp_act (v : VT) (t : Nat) : Bool := decide (t < tv_c v) && decide (tv_st v t = 1)
def sp_wai (v : VT) (t : Nat) : Bool := decide (t < tv_c v) && decide (tv_st v t = 2)
def sp_liv (v : VT) (t : Nat) : Bool := decide (t < tv_c v) && (decide (tv_st v t = 1) || decide (tv_st v t = 2))
def sp_chl (v : VT) (t u : Nat) : Bool := sp_liv v u && decide (tv_par v u = some t)
def sp_busy (v : VT) (t : Nat) : Bool := bx (tv_c v) (sp_chl v t)
def sp_lives (v : VT) : Nat := bc (tv_c v) (sp_liv v)
def iT (v : VT) : Prop := tv_c v ≤ 60 ∧ (∀ t, t < tv_c v → (tv_st v t = 1 ∨ tv_st v t = 2 ∨ tv_st v t = 3 ∨ tv_st v t = 4) ∧ 1 ≤ tv_dep v t ∧ tv_dep v t ≤ 4 ∧ tv_bg v t < 2147483648 ∧ (tv_par v t = none → tv_top v t = t ∧ tv_dep v t = 1 ∧ ∀ a, tv_lin v t a = decide (t = a)) ∧ ∀ p, tv_par v t = some p → p < t ∧ tv_top v t = tv_top v p ∧ tv_dep v t = tv_dep v p + 1 ∧ ∀ a, tv_lin v t a = (decide (t = a) || tv_lin v p a)) ∧ ∀ t, t < 60 → tv_rk v t < 4 ∧ tv_lo v t ≤ tv_hi v t ∧ tv_hi v t < 32
theorem iT.lin_le {v : VT} (h : iT v) : ∀ t, t < tv_c v → ∀ a, tv_lin v t a = true → a ≤ t := by
  intro t
  induction t using Nat.strongRecOn with
  | ind t ih =>
    intro ht a ha
    obtain ⟨-, -, -, -, h1, h2⟩ := h.2.1 t ht
    cases hp : tv_par v t with
    | none =>
      rw [(h1 hp).2.2 a] at ha
      simp at ha
      omega
    | some p =>
      obtain ⟨g1, -, -, g4⟩ := h2 p hp
      rw [g4 a] at ha
      simp at ha
      rcases ha with ha | ha
      · omega
      · have := ih p g1 (by omega) a ha
        omega
theorem iT.lin_self {v : VT} (h : iT v) {t : Nat} (ht : t < tv_c v) : tv_lin v t t = true := by
  obtain ⟨-, -, -, -, h1, h2⟩ := h.2.1 t ht
  cases hp : tv_par v t with
  | none =>
    rw [(h1 hp).2.2 t]
    simp
  | some p =>
    rw [(h2 p hp).2.2.2 t]
    simp
theorem iT.top_lt {v : VT} (h : iT v) : ∀ t, t < tv_c v → tv_top v t ≤ t := by
  intro t
  induction t using Nat.strongRecOn with
  | ind t ih =>
    intro ht
    obtain ⟨-, -, -, -, h1, h2⟩ := h.2.1 t ht
    cases hp : tv_par v t with
    | none => rw [(h1 hp).1]; omega
    | some p =>
      obtain ⟨g1, g2, -, -⟩ := h2 p hp
      have := ih p g1 (by omega)
      omega
def sp_addT (v : VT) (p : Option Nat) (l : Nat) : VT := tv_c' (tv_bg' (tv_lin' (tv_dep' (tv_top' (tv_par' (tv_st' v (updN (tv_st v) (tv_c v) 1)) (updN (tv_par v) (tv_c v) p)) (updN (tv_top v) (tv_c v) (match p with | none => tv_c v | some q => tv_top v q))) (updN (tv_dep v) (tv_c v) (match p with | none => 1 | some q => tv_dep v q + 1))) (updN (tv_lin v) (tv_c v) (fun a => decide (tv_c v = a) || (match p with | none => false | some q => tv_lin v q a)))) (updN (tv_bg v) (tv_c v) l)) (tv_c v + 1)
def sp_req (v : VT) (t k lo hi : Nat) (x : Int32) : VT := tv_nv' (tv_hi' (tv_lo' (tv_rk' v (updN (tv_rk v) t k)) (updN (tv_lo v) t lo)) (updN (tv_hi v) t hi)) (updN (tv_nv v) t x)
def sp_abU (v : VT) : VT := tv_st' v (fun t => if t < tv_c v ∧ ¬ tv_st v (tv_top v t) = 3 then 4 else tv_st v t)
/-- the class's transactions -/
def RT (T : S_T) (v : VT) : Prop := T_count T = jI (tv_c v) ∧ (∀ t, t < tv_c v → T_parent T t = pI (tv_par v t)) ∧ (∀ t, t < tv_c v → T_top T t = jI (tv_top v t)) ∧ (∀ t, t < tv_c v → T_depth T t = jI (tv_dep v t)) ∧ (∀ t, t < tv_c v → T_state T t = tv_st v t) ∧ (∀ t, t < tv_c v → T_begun T t = jI (tv_bg v t)) ∧ (∀ t, t < tv_c v → ∀ u, tb (T_lineage T t) u = tv_lin v t u) ∧ (∀ t, t < 60 → T_kind T t = jI (tv_rk v t)) ∧ (∀ t, t < 60 → T_low T t = jI (tv_lo v t)) ∧ (∀ t, t < 60 → T_high T t = jI (tv_hi v t)) ∧ ∀ t, t < 60 → T_newValue T t = tv_nv v t
theorem iT.top_top {v : VT} (h : iT v) : ∀ t, t < tv_c v → tv_top v (tv_top v t) = tv_top v t := by
  intro t
  induction t using Nat.strongRecOn with
  | ind t ih =>
    intro ht
    obtain ⟨-, -, -, -, h1, h2⟩ := h.2.1 t ht
    cases hp : tv_par v t with
    | none => rw [(h1 hp).1, (h1 hp).1]
    | some p =>
      obtain ⟨g1, g2, -, -⟩ := h2 p hp
      rw [g2]
      exact ih p g1 (by omega)
/-- locks: VK t i -/
abbrev VK : Type := Nat → Nat → Nat
def sp_bl (L : VK) (lin : Nat → Bool) (i mode u : Nat) : Bool := decide (0 < L u i) && (decide (mode = 2) || decide (L u i = 2)) && !lin u
def sp_gr (L : VK) (t i m : Nat) : VK := fun u j => if u = t ∧ j = i then (if m ≤ L t i then L t i else m) else L u j
def sp_rel (L : VK) (t : Nat) : VK := fun u j => if u = t then 0 else L u j
def sp_pass (L : VK) (t h : Nat) : VK := fun u j => if u = h then (if L t j ≤ L h j then L h j else L t j) else L u j
def iK (v : VT) (L : VK) : Prop := ∀ t i, i < 33 → L t i ≤ 2 ∧ (sp_liv v t = false → L t i = 0)
/-- the class's locks -/
def RK (K : S_K) (L : VK) : Prop := ∀ i, i < 33 → (∀ u, tb (K_shared K i) u = decide (L u i = 1)) ∧ ∀ u, tb (K_exclusive K i) u = decide (L u i = 2)
/-- open updates, room, updates and undos -/
def sp_opn (g : VG) (tv : VT) (r : Nat) : Bool := decide (gv_kd g r = 2) && !sp_ud g r && sp_liv tv (tv_top tv (gv_by g r))
def sp_opens (g : VG) (tv : VT) : Nat := bc (gv_n g) (sp_opn g tv)
def sp_room (g : VG) (tv : VT) : Bool := decide (gv_n g + sp_opens g tv + sp_lives tv + 2 ≤ 300)
def sp_updG (v : VP) (g : VG) (t k : Nat) (now : Bool) (x : Int32) : VG := gv_f' (sp_aft (sp_bef (sp_app g 2 t (jI k)) (gv_n g) (pv_th v k) (pv_va v k)) (gv_n g) now x) (sp_tF v (gv_f g) (k / 4))
def sp_updP (v : VP) (g : VG) (k : Nat) (now : Bool) (x : Int32) : VP := sp_ch (sp_tP v (k / 4)) k now x (gv_b g + gv_n g + 1)
def sp_key (g : VG) (u : Nat) : Nat := Int32.toNatClampNeg (gv_ab g u)
def sp_undG (v : VP) (g : VG) (u t : Nat) : VG := gv_f' (sp_mark (sp_aft (sp_app g 3 t (gv_ab g u)) (gv_n g) (gv_wt g u) (gv_wv g u)) (gv_n g) u) (sp_tF v (gv_f g) (sp_key g u / 4))
def sp_undP (v : VP) (g : VG) (u : Nat) : VP := sp_ch (sp_tP v (sp_key g u / 4)) (sp_key g u) (gv_wt g u) (gv_wv g u) (gv_b g + gv_n g + 1)
theorem sp_ud_und {v : VP} {g : VG} {u t : Nat} (hou : ∀ x, x < gv_n g → gv_kd g x = 3 → gv_ou g x < x) {r : Nat} (hr : r ≤ gv_n g) (hu : u < gv_n g) : sp_ud (sp_undG v g u t) r = if r = u then true else if r < gv_n g then sp_ud g r else false := by
  have e : sp_ud (sp_undG v g u t) r = (sp_ud g r || u == r) := by
    show bx (gv_n g + 1) (fun x => decide (updN (gv_kd g) (gv_n g) 3 x = 3) && updN (updN (gv_ou g) (gv_n g) (gv_n g + 1)) (gv_n g) u x == r) = (bx (gv_n g) (fun x => decide (gv_kd g x = 3) && gv_ou g x == r) || u == r)
    rw [bx, updN_same, updN_same, bx_congr (Q := fun x => decide (gv_kd g x = 3) && gv_ou g x == r) (fun x hx => by rw [updN_ne _ _ (by omega), updN_ne _ _ (by omega), updN_ne _ _ (by omega)])]
    simp
  rw [e]
  by_cases q : r = u
  · rw [if_pos q, q]
    simp
  · rw [if_neg q]
    have : (u == r) = false := by
      rw [beq_eq_false_iff_ne]
      exact fun z => q z.symm
    rw [this, Bool.or_false]
    by_cases q2 : r < gv_n g
    · rw [if_pos q2]
    · rw [if_neg q2]
      cases z : sp_ud g r with
      | false => rfl
      | true =>
        obtain ⟨x, hx, hz⟩ := bx_iff.mp z
        simp at hz
        have := hou x hx hz.1
        omega
/-- the reference's transactions and locks -/
def sp_sec (tv : VT) (t : Nat) : Int32 := if tv_rk tv t = 3 then jI (tv_hi tv t) else if tv_rk tv t = 1 then tv_nv tv t else 0
def RMT (T : S_MT) (tv : VT) : Prop := MT_many T = jI (tv_c tv) ∧ (∀ t, t < tv_c tv → MT_state T t = tv_st tv t) ∧ (∀ t, t < tv_c tv → MT_parent T t = pI (tv_par tv t)) ∧ (∀ t, t < tv_c tv → MT_began T t = jI (tv_bg tv t)) ∧ ∀ t, t < tv_c tv → tv_st tv t = 2 → MT_asks T t = jI (tv_rk tv t + 1) ∧ MT_first T t = jI (tv_lo tv t) ∧ MT_second T t = sp_sec tv t
def RML (K : S_ML) (L : VK) : Prop := ∀ t i, t < 60 → i < 33 → ML_locks K (33 * t + i) = jI (L t i)
def sp_linO (tv : VT) (o : Option Nat) (a : Nat) : Bool := match o with
  | none => false
  | some x => tv_lin tv x a
def sp_abv (tv : VT) (a t : Nat) : Bool := sp_linO tv (tv_par tv t) a
theorem iT.lin_abv {tv : VT} (h : iT tv) {t : Nat} (ht : t < tv_c tv) (a : Nat) : tv_lin tv t a = (decide (t = a) || sp_abv tv a t) := by
  obtain ⟨-, -, -, -, h1, h2⟩ := h.2.1 t ht
  unfold sp_abv
  cases hp : tv_par tv t with
  | none =>
    rw [(h1 hp).2.2 a]
    simp [sp_linO]
  | some p =>
    rw [(h2 p hp).2.2.2 a]
    rfl
/-- what a request wants: items in their order, and the mode -/
def sp_ks (v : VP) (lo : Nat) : Nat → List Nat
  | 0 => []
  | n + 1 => sp_ks v lo n ++ (if pv_th v (lo + n) then [lo + n] else [])
def sp_its (v : VP) (tv : VT) (t : Nat) : List Nat :=
  if tv_rk tv t = 0 then [if pv_th v (tv_lo tv t) then tv_lo tv t else sp_nx v (tv_lo tv t)]
  else if tv_rk tv t = 1 then (if pv_th v (tv_lo tv t) then [tv_lo tv t] else [sp_nx v (tv_lo tv t), tv_lo tv t])
  else if tv_rk tv t = 2 then (if pv_th v (tv_lo tv t) then [sp_nx v (tv_lo tv t), tv_lo tv t] else [sp_nx v (tv_lo tv t)])
  else sp_ks v (tv_lo tv t) (tv_hi tv t + 1 - tv_lo tv t) ++ [sp_nx v (tv_hi tv t)]
def sp_pm (v : VP) (tv : VT) (t : Nat) : Nat := if tv_rk tv t = 1 then 2 else if tv_rk tv t = 2 then (if pv_th v (tv_lo tv t) then 2 else 1) else 1
def RPl (P : S_P) (its : List Nat) (m : Nat) : Prop := P_mode P = jI m ∧ P_size P = jI its.length ∧ ∀ i x, its[i]? = some x → P_items P i = jI x
def RMP (P : S_MP) (its : List Nat) (m : Nat) : Prop := MP_mode P = jI m ∧ MP_wanted P = jI its.length ∧ ∀ i x, its[i]? = some x → MP_item P i = jI x
theorem sp_nx_le (v : VP) {k : Nat} (hk : k < 32) : sp_nx v k ≤ 32 := by
  have := (ff_spec (pv_th v) (31 - k) (k + 1)).2.1
  show ff (pv_th v) (31 - k) (k + 1) ≤ 32
  omega
theorem sp_ks_len (v : VP) (lo : Nat) : ∀ n, (sp_ks v lo n).length ≤ n := by
  intro n
  induction n with
  | zero => exact Nat.le_refl _
  | succ n ih =>
    unfold sp_ks
    rw [List.length_append]
    split
    · simp
      omega
    · simp
      omega
theorem sp_ks_mem (v : VP) (lo : Nat) : ∀ n x, x ∈ sp_ks v lo n → lo ≤ x ∧ x < lo + n := by
  intro n
  induction n with
  | zero =>
    intro x hx
    cases hx
  | succ n ih =>
    intro x hx
    unfold sp_ks at hx
    rcases List.mem_append.mp hx with h | h
    · have := ih x h
      omega
    · split at h
      · have := List.mem_singleton.mp h
        omega
      · cases h
theorem sp_its_lt {v : VP} {tv : VT} {t : Nat} (hv : iT tv) (ht : t < tv_c tv) : ∀ x, x ∈ sp_its v tv t → x < 33 := by
  obtain ⟨h1, h2, h3⟩ := hv.2.2 t (by have := hv.1; omega)
  have n1 := sp_nx_le v (show tv_lo tv t < 32 by omega)
  have n2 := sp_nx_le v h3
  intro x hx
  unfold sp_its at hx
  split at hx
  · have := List.mem_singleton.mp hx
    split at this <;> omega
  · split at hx
    · split at hx
      · have := List.mem_singleton.mp hx
        omega
      · simp at hx
        omega
    · split at hx
      · split at hx
        · simp at hx
          omega
        · have := List.mem_singleton.mp hx
          omega
      · rcases List.mem_append.mp hx with h | h
        · have := sp_ks_mem v _ _ x h
          omega
        · have := List.mem_singleton.mp h
          omega
theorem sp_its_len {v : VP} {tv : VT} {t : Nat} (hv : iT tv) (ht : t < tv_c tv) : (sp_its v tv t).length ≤ 33 := by
  obtain ⟨h1, h2, h3⟩ := hv.2.2 t (by have := hv.1; omega)
  unfold sp_its
  split
  · simp
  · split
    · split <;> simp
    · split
      · split <;> simp
      · have := sp_ks_len v (tv_lo tv t) (tv_hi tv t + 1 - tv_lo tv t)
        simp
        omega
/-- someone bars; what is wanting; for whom t waits -/
def sp_bar (L : VK) (tv : VT) (t i m : Nat) : Bool := bx (tv_c tv) (sp_bl L (tv_lin tv t) i m)
def sp_lk (L : VK) (tv : VT) (t m i : Nat) : Bool := decide (L t i < m) && sp_bar L tv t i m
def sp_fr (L : VK) (tv : VT) (t m : Nat) (its : List Nat) : Nat := ff (fun i => sp_lk L tv t m (its.getD i 0)) its.length 0
def sp_wf (v : VP) (L : VK) (tv : VT) (t u : Nat) : Bool := decide (sp_fr L tv t (sp_pm v tv t) (sp_its v tv t) < (sp_its v tv t).length) && sp_bl L (tv_lin tv t) ((sp_its v tv t).getD (sp_fr L tv t (sp_pm v tv t) (sp_its v tv t)) 0) (sp_pm v tv t) u
def sp_ld (v : VP) (L : VK) (tv : VT) (t u : Nat) : Bool := sp_liv tv t && (sp_chl tv t u || (sp_wai tv t && sp_wf v L tv t u))
/-- the locks of a list of items -/
def sp_grs (L : VK) (t m : Nat) (its : List Nat) : Nat → VK
  | 0 => L
  | n + 1 => sp_gr (sp_grs L t m its n) t (its.getD n 0) m
theorem sp_pm_le (v : VP) (tv : VT) (t : Nat) : sp_pm v tv t ≤ 2 ∧ 1 ≤ sp_pm v tv t := by
  unfold sp_pm
  split
  · omega
  · split
    · split <;> omega
    · omega
theorem iK.bl_out {tv : VT} {L : VK} (hK : iK tv L) {lin : Nat → Bool} {i m u : Nat} (hi : i < 33) (hu : tv_c tv ≤ u) : sp_bl L lin i m u = false := by
  have : sp_liv tv u = false := by
    unfold sp_liv
    rw [decide_eq_false (by omega)]
    rfl
  unfold sp_bl
  rw [(hK u i hi).2 this]
  rfl
theorem getD_of {its : List Nat} {i : Nat} (h : i < its.length) : its[i]? = some (its.getD i 0) := by
  rw [List.getD_eq_getElem?_getD, List.getElem?_eq_getElem h]
  rfl
theorem getD_mem {its : List Nat} {i : Nat} (h : i < its.length) : its.getD i 0 ∈ its := List.mem_of_getElem? (getD_of h)
theorem sp_gr_le {L : VK} {t i m : Nat} (hm : m ≤ 2) (h : ∀ u j, j < 33 → L u j ≤ 2) : ∀ u j, j < 33 → sp_gr L t i m u j ≤ 2 := by
  intro u j hj
  unfold sp_gr
  split
  · rename_i e
    have := h t i (by omega)
    split <;> omega
  · exact h u j hj
theorem sp_grs_le {L : VK} {t m : Nat} {its : List Nat} (hm : m ≤ 2) (h : ∀ u j, j < 33 → L u j ≤ 2) : ∀ n u j, j < 33 → sp_grs L t m its n u j ≤ 2 := by
  intro n
  induction n with
  | zero => exact h
  | succ n ih => exact sp_gr_le hm ih
/-- circles -/
abbrev tg (ld : Nat → Nat → Bool) (a b : Nat) : Prop := Relation.TransGen (fun x y => ld x y = true) a b
noncomputable def dP (p : Prop) : Bool := @decide p (Classical.propDecidable p)
theorem dP_iff {p : Prop} : dP p = true ↔ p := by
  unfold dP
  exact @decide_eq_true_iff p (Classical.propDecidable p)
theorem dP_not {p : Prop} (h : ¬ p) : dP p = false := by
  cases q : dP p with
  | false => rfl
  | true => exact absurd (dP_iff.mp q) h
/-- the greatest below n -/
def gl : Nat → (Nat → Bool) → Option Nat
  | 0, _ => none
  | n + 1, P => if P n then some n else gl n P
theorem gl_eq {n x : Nat} {P : Nat → Bool} (hx : x < n) (h1 : P x = true) (h2 : ∀ y, x < y → y < n → P y = false) : gl n P = some x := by
  induction n with
  | zero => exact absurd hx (Nat.not_lt_zero _)
  | succ n ih =>
    unfold gl
    by_cases e : x = n
    · rw [← e, if_pos h1]
    · rw [if_neg (by rw [h2 n (by omega) (by omega)]; decide)]
      exact ih (by omega) (fun y hy1 hy2 => h2 y hy1 (by omega))
noncomputable def sp_vic (ld : Nat → Nat → Bool) (c t : Nat) : Option Nat := if dP (tg ld t t) then gl c (fun u => dP (tg ld t u ∧ tg ld u t)) else none
noncomputable def sp_vict (v : VP) (L : VK) (tv : VT) (t : Nat) : Option Nat := if sp_liv tv t then sp_vic (sp_ld v L tv) (tv_c tv) t else none
theorem tg_closed {ld : Nat → Nat → Bool} {S : Nat → Prop} {t : Nat} (h1 : ∀ v, ld t v = true → S v) (h2 : ∀ u v, S u → ld u v = true → S v) : ∀ v, tg ld t v → S v := by
  intro v h
  induction h with
  | single h => exact h1 _ h
  | tail _ h ih => exact h2 _ _ ih h
theorem tg_back {ld : Nat → Nat → Bool} {S : Nat → Prop} {t : Nat} (h1 : ∀ u, ld u t = true → S u) (h2 : ∀ u v, S v → ld u v = true → S u) : ∀ u, tg ld u t → S u := by
  have key : ∀ a b, tg ld a b → (b = t ∨ S b) → S a := by
    intro a b h
    induction h with
    | single h =>
      intro q
      rcases q with q | q
      · subst q
        exact h1 _ h
      · exact h2 _ _ q h
    | tail _ h ih =>
      intro q
      refine ih (Or.inr ?_)
      rcases q with q | q
      · subst q
        exact h1 _ h
      · exact h2 _ _ q h
  exact fun u h => key u t h (Or.inl rfl)
theorem tg_head {ld : Nat → Nat → Bool} {a b c : Nat} (h1 : ld a b = true) (h2 : tg ld b c) : tg ld a c := Relation.TransGen.trans (Relation.TransGen.single h1) h2
theorem bc_lt {n : Nat} {P Q : Nat → Bool} (h : ∀ k, k < n → P k = true → Q k = true) {x : Nat} (hx : x < n) (h1 : P x = false) (h2 : Q x = true) : bc n P + 1 ≤ bc n Q := by
  induction n with
  | zero => exact absurd hx (Nat.not_lt_zero _)
  | succ n ih =>
    unfold bc
    by_cases e : x = n
    · subst e
      rw [h1, h2]
      have := bc_up (n := x) (fun k hk => h k (by omega : k < x + 1))
      simp
      exact this
    · have i := ih (fun k hk => h k (by omega)) (by omega)
      by_cases hp : P n = true
      · rw [if_pos hp, if_pos (h n (by omega) hp)]
        omega
      · rw [if_neg hp]
        omega
theorem bc_full {n : Nat} {P : Nat → Bool} (h : n ≤ bc n P) : ∀ k, k < n → P k = true := by
  induction n with
  | zero => exact fun k hk => absurd hk (Nat.not_lt_zero _)
  | succ n ih =>
    intro k hk
    unfold bc at h
    have hle := bc_le n P
    by_cases hp : P n = true
    · rw [if_pos hp] at h
      by_cases e : k = n
      · rw [e, hp]
      · exact ih (by omega) k (by omega)
    · rw [if_neg hp] at h
      omega
theorem sp_ld_in {v : VP} {L : VK} {tv : VT} (hv : iT tv) (hL : iK tv L) {t u : Nat} (h : sp_ld v L tv t u = true) : t < tv_c tv ∧ u < tv_c tv := by
  unfold sp_ld at h
  rw [Bool.and_eq_true] at h
  have ht : t < tv_c tv := by
    have := h.1
    unfold sp_liv at this
    simp at this
    exact this.1
  refine ⟨ht, ?_⟩
  rcases Bool.or_eq_true _ _ ▸ h.2 with q | q
  · unfold sp_chl sp_liv at q
    simp at q
    exact q.1.1
  · rw [Bool.and_eq_true] at q
    have q2 := q.2
    unfold sp_wf at q2
    rw [Bool.and_eq_true, decide_eq_true_eq] at q2
    by_cases hu : u < tv_c tv
    · exact hu
    · rw [hL.bl_out (sp_its_lt hv ht _ (getD_mem q2.1)) (by omega)] at q2
      cases q2.2
def sp_lack (v : VP) (L : VK) (tv : VT) (t : Nat) : Option Nat := if sp_fr L tv t (sp_pm v tv t) (sp_its v tv t) < (sp_its v tv t).length then some ((sp_its v tv t).getD (sp_fr L tv t (sp_pm v tv t) (sp_its v tv t)) 0) else none
/-- what the reference's look leaves, for the first n -/
def RMV (V : S_MV) (v : VP) (L : VK) (tv : VT) (n : Nat) : Prop := ∀ t, t < n → (tv_st tv t = 2 → MV_lacks V t = pI (sp_lack v L tv t) ∧ MV_lackMode V t = jI (sp_pm v tv t)) ∧ (¬ tv_st tv t = 2 → MV_lacks V t = -1)
theorem sp_wf_lack (v : VP) (L : VK) (tv : VT) (t u : Nat) : sp_wf v L tv t u = match sp_lack v L tv t with
    | none => false
    | some i => sp_bl L (tv_lin tv t) i (sp_pm v tv t) u := by
  unfold sp_wf sp_lack
  by_cases q : sp_fr L tv t (sp_pm v tv t) (sp_its v tv t) < (sp_its v tv t).length
  · rw [if_pos q, decide_eq_true q]
    rfl
  · rw [if_neg q, decide_eq_false q]
    rfl
end
section
theorem RG.fl {G : S_G} {g : VG} (h : RG G g) (f : Nat) : RG (G_flushed' G (jI f)) (gv_f' g f) := ⟨h.1, h.2.1, rfl, h.2.2.2⟩
theorem RG.same {G : S_G} {g : VG} (h : RG G g) {f : Nat} (hf : f = gv_f g) : RG G (gv_f' g f) := by
  subst hf
  exact h
theorem k_A_putOnDisk {A : S_A} {G : S_G} {v : VP} {g : VG} {p : Nat} {post : S_A → S_G → Prop} (hA : RA A v) (hG : RG G g) (hp : p < 8) (hb1 : pv_ls v p < 2147483648) (hb2 : gv_f g < 2147483648)
    (h : ∀ A' G', RA A' (sp_wrP v p) → RG G' (gv_f' g (sp_wrF v (gv_f g) p)) → post A' G') : wp_A_putOnDisk A G (jI p) post := by
  have hp' : p < 2147483648 := by omega
  have loop : ∀ (K : S_A → Prop) (A : S_A) (v : VP), RA A v → (∀ A', RA A' (pv_dva' (pv_dth' v (fun k => if k / 4 = p then pv_th v k else pv_dth v k)) (fun k => if k / 4 = p then pv_va v k else pv_dva v k)) → K A') → ∃ e, wp_A_putOnDisk_L42 (jI p) (jI p * 4) K e (jI p * 4) A := by
    intro K A v hA hK
    have h4 : jI p * 4 = jI (4 * p) := by rw [show (4 : Int32) = jI 4 from rfl, jI_m, Nat.mul_comm]
    rw [h4]
    refine lpi (fun n (s : Int32 × S_A) => wp_A_putOnDisk_L42 (jI p) (jI (4 * p)) K n s.1 s.2) (fun k s => s.1 = jI (4 * p + k) ∧ RA s.2 (pv_dva' (pv_dth' v (fun x => if 4 * p ≤ x ∧ x < 4 * p + k then pv_th v x else pv_dth v x)) (fun x => if 4 * p ≤ x ∧ x < 4 * p + k then pv_va v x else pv_dva v x))) 4 ?_ ?_ 0 (by omega) (jI (4 * p), A) ?_
    · intro k hk s n hs hn
      obtain ⟨x, A⟩ := s
      obtain ⟨hx, h1, h2, h3, h4, h5, h6, h7, h8, h9, h10⟩ := hs
      dsimp only at hx h1 h2 h3 h4 h5 h6 h7 h8 h9 h10 ⊢
      subst hx
      have h9 : ∀ x, x < 32 → A_diskThere A x = b2i (if 4 * p ≤ x ∧ x < 4 * p + k then pv_th v x else pv_dth v x) := h9
      have h10 : ∀ x, x < 32 → A_diskValue A x = if 4 * p ≤ x ∧ x < 4 * p + k then pv_va v x else pv_dva v x := h10
      have h6 : ∀ x, x < 32 → A_there A x = b2i (pv_th v x) := h6
      have h7 : ∀ x, x < 32 → A_value A x = pv_va v x := h7
      rw [wp_A_putOnDisk_L42]
      have hb : 4 * p + k < 2147483648 := by omega
      rw [if_neg (by rw [show (4 : Int32) = jI 4 from rfl, jI_a, jI_le (by omega) hb]; omega), jI_tn hb]
      refine ⟨jI_in hb (by omega), jI_in hb (by omega), jI_in hb (by omega), jI_in hb (by omega), hn (_, _) ⟨jI_s _, h1, h2, h3, h4, h5, h6, h7, h8, ?_, ?_⟩⟩
      · intro x hx
        show upd (A_diskThere A) (4 * p + k) (vp_nar .boolean (A_there A (4 * p + k))) x = b2i (if 4 * p ≤ x ∧ x < 4 * p + (k + 1) then pv_th v x else pv_dth v x)
        by_cases hxk : x = 4 * p + k
        · subst hxk
          rw [upd_same, h6 _ hx, nar_b, if_pos (by omega)]
        · rw [upd_ne _ _ hxk, h9 x hx]
          by_cases hc : 4 * p ≤ x ∧ x < 4 * p + k
          · rw [if_pos hc, if_pos (by omega)]
          · rw [if_neg hc, if_neg (by omega)]
      · intro x hx
        show upd (A_diskValue A) (4 * p + k) (A_value A (4 * p + k)) x = if 4 * p ≤ x ∧ x < 4 * p + (k + 1) then pv_va v x else pv_dva v x
        by_cases hxk : x = 4 * p + k
        · subst hxk
          rw [upd_same, h7 _ hx, if_pos (by omega)]
        · rw [upd_ne _ _ hxk, h10 x hx]
          by_cases hc : 4 * p ≤ x ∧ x < 4 * p + k
          · rw [if_pos hc, if_pos (by omega)]
          · rw [if_neg hc, if_neg (by omega)]
    · intro s n hs
      obtain ⟨x, A⟩ := s
      obtain ⟨hx, h1, h2, h3, h4, h5, h6, h7, h8, h9, h10⟩ := hs
      dsimp only at hx h1 h2 h3 h4 h5 h6 h7 h8 h9 h10 ⊢
      subst hx
      rw [wp_A_putOnDisk_L42, if_pos (by rw [show (4 : Int32) = jI 4 from rfl, jI_a, jI_le (by omega) (by omega)]; omega)]
      refine hK A ⟨h1, h2, h3, h4, h5, h6, h7, h8, ?_, ?_⟩
      · intro x hx
        have h9 : A_diskThere A x = b2i (if 4 * p ≤ x ∧ x < 4 * p + 4 then pv_th v x else pv_dth v x) := h9 x hx
        show A_diskThere A x = b2i (if x / 4 = p then pv_th v x else pv_dth v x)
        rw [h9]
        by_cases hc : x / 4 = p
        · rw [if_pos hc, if_pos (by omega)]
        · rw [if_neg hc, if_neg (by omega)]
      · intro x hx
        have h10 : A_diskValue A x = if 4 * p ≤ x ∧ x < 4 * p + 4 then pv_va v x else pv_dva v x := h10 x hx
        show A_diskValue A x = if x / 4 = p then pv_va v x else pv_dva v x
        rw [h10]
        by_cases hc : x / 4 = p
        · rw [if_pos hc, if_pos (by omega)]
        · rw [if_neg hc, if_neg (by omega)]
    · refine ⟨rfl, hA.1, hA.2.1, hA.2.2.1, hA.2.2.2.1, hA.2.2.2.2.1, hA.2.2.2.2.2.1, hA.2.2.2.2.2.2.1, hA.2.2.2.2.2.2.2.1, ?_, ?_⟩
      · intro x hx
        show A_diskThere A x = b2i (if 4 * p ≤ x ∧ x < 4 * p + 0 then pv_th v x else pv_dth v x)
        rw [if_neg (by omega)]
        exact hA.2.2.2.2.2.2.2.2.1 x hx
      · intro x hx
        show A_diskValue A x = if 4 * p ≤ x ∧ x < 4 * p + 0 then pv_va v x else pv_dva v x
        rw [if_neg (by omega)]
        exact hA.2.2.2.2.2.2.2.2.2 x hx
  obtain ⟨h1, h2, h3, h4, h5, h6, h7, h8, h9, h10⟩ := hA
  have fin : ∀ A' : S_A, RA A' (pv_dva' (pv_dth' (pv_dls' v (updN (pv_dls v) p (pv_ls v p))) (fun k => if k / 4 = p then pv_th v k else pv_dth v k)) (fun k => if k / 4 = p then pv_va v k else pv_dva v k)) → RA (A_dirty' A' (upd (A_dirty A') p (vp_nar .boolean 0))) (sp_wrP v p) := by
    intro A' q
    obtain ⟨q1, q2, q3, q4, q5, q6, q7, q8, q9, q10⟩ := q
    refine ⟨q1, q2, q3, ?_, q5, q6, q7, q8, q9, q10⟩
    intro x hx
    by_cases hxp : x = p
    · subst hxp
      show upd (A_dirty A') x (vp_nar .boolean 0) x = b2i (updN (pv_dy v) x false x)
      rw [upd_same, updN_same, nar_0]
    · show upd (A_dirty A') p (vp_nar .boolean 0) x = b2i (updN (pv_dy v) p false x)
      rw [upd_ne _ _ hxp, updN_ne _ _ hxp]
      exact q4 x hx
  have start : RA (A_diskLsn' A (upd (A_diskLsn A) p (A_lsn A p))) (pv_dls' v (updN (pv_dls v) p (pv_ls v p))) := by
    refine ⟨h1, h2, h3, h4, h5, h6, h7, ?_, h9, h10⟩
    intro x hx
    show upd (A_diskLsn A) p (A_lsn A p) x = jI (updN (pv_dls v) p (pv_ls v p) x)
    by_cases hxp : x = p
    · subst hxp
      rw [upd_same, updN_same, h5 x hx]
    · rw [upd_ne _ _ hxp, updN_ne _ _ hxp]
      exact h8 x hx
  unfold wp_A_putOnDisk
  rw [jI_tn hp']
  have hi := jI_in hp' hp
  refine ⟨hi, jn_in (fun jk => ∀ G', RG G' (gv_f' g (sp_wrF v (gv_f g) p)) → jk G') ?_ ?_⟩
  · intro G' hG'
    exact ⟨hi, hi, loop _ _ _ start (fun A' hA' => ⟨hi, h _ _ (fin A' hA') hG'⟩)⟩
  · intro jk hjk
    rw [h5 p hp, hG.2.2.1]
    by_cases hle : pv_ls v p ≤ gv_f g
    · rw [if_pos ((jI_le hb1 hb2).mpr hle)]
      refine hjk G (hG.same ?_)
      unfold sp_wrF
      rw [if_pos hle]
    · rw [if_neg (fun q => hle ((jI_le hb1 hb2).mp q))]
      refine ⟨hi, hjk _ ?_⟩
      have hf : sp_wrF v (gv_f g) p = pv_ls v p := by
        unfold sp_wrF
        rw [if_neg hle]
      rw [hf]
      exact hG.fl _
theorem k_A_nextItem {A : S_A} {v : VP} {k : Nat} {post : Int32 → Prop} (hA : RA A v) (hk : k < 32) (h : post (jI (sp_nx v k))) : wp_A_nextItem A (jI k) post := by
  unfold wp_A_nextItem
  rw [jI_s]
  obtain ⟨g1, g2, g3, g4⟩ := ff_spec (pv_th v) (31 - k) (k + 1)
  refine lpi (fun n (s : Int32) => wp_A_nextItem_L4 A post (post 32) n s) (fun d s => s = jI (k + 1 + d) ∧ ∀ x, k + 1 ≤ x → x < k + 1 + d → pv_th v x = false) (31 - k) ?_ ?_ 0 (by omega) (jI (k + 1)) ⟨rfl, fun x h1 h2 => by omega⟩
  · intro d hd s n hs hn
    obtain ⟨rfl, hs⟩ := hs
    rw [wp_A_nextItem_L4]
    have hb : k + 1 + d < 2147483648 := by omega
    rw [if_neg (by rw [show (32 : Int32) = jI 32 from rfl, jI_le (by omega) hb]; omega), jI_tn hb, hA.2.2.2.2.2.1 _ (by omega)]
    refine ⟨jI_in hb (by omega), ?_⟩
    cases ht : pv_th v (k + 1 + d) with
    | false =>
      rw [if_pos (by rfl)]
      refine hn _ ⟨jI_s _, fun x h1 h2 => ?_⟩
      by_cases hx : x = k + 1 + d
      · rw [hx, ht]
      · exact hs x h1 (by omega)
    | true =>
      rw [if_neg (by decide)]
      rw [← ff_eq (pv_th v) (31 - k) (k + 1) (k + 1 + d) (by omega) (by omega) hs (fun _ => ht)]
      exact h
  · intro s n hs
    obtain ⟨rfl, hs⟩ := hs
    have e : k + 1 + (31 - k) = 32 := by omega
    rw [e] at hs ⊢
    rw [wp_A_nextItem_L4, if_pos (by decide)]
    have := ff_eq (pv_th v) (31 - k) (k + 1) 32 (by omega) (by omega) hs (fun q => by omega)
    unfold sp_nx at h
    rw [this] at h
    exact h
theorem k_A_change {A : S_A} {v : VP} {k lsn : Nat} {now : Bool} {x : Int32} {post : S_A → Prop} (hA : RA A v) (hk : k < 32) (h : ∀ A', RA A' (sp_ch v k now x lsn) → post A') : wp_A_change A (jI k) (b2i now) x (jI lsn) post := by
  have hk' : k < 2147483648 := by omega
  have hq' : k / 4 < 2147483648 := by omega
  unfold wp_A_change
  rw [jI_div hk', jI_tn hk', jI_tn hq', nar_b, nar_1]
  refine ⟨jI_in hk' hk, jI_in hk' hk, jI_in hq' (by omega), jI_in hq' (by omega), h _ ?_⟩
  obtain ⟨h1, h2, h3, h4, h5, h6, h7, h8, h9, h10⟩ := hA
  refine ⟨h1, h2, h3, ?_, ?_, ?_, ?_, h8, h9, h10⟩
  · intro y hy
    show upd (A_dirty A) (k / 4) (b2i true) y = b2i (updN (pv_dy v) (k / 4) true y)
    by_cases hyk : y = k / 4
    · rw [hyk, upd_same, updN_same]
    · rw [upd_ne _ _ hyk, updN_ne _ _ hyk, h4 y hy]
  · intro y hy
    show upd (A_lsn A) (k / 4) (jI lsn) y = jI (updN (pv_ls v) (k / 4) lsn y)
    by_cases hyk : y = k / 4
    · rw [hyk, upd_same, updN_same]
    · rw [upd_ne _ _ hyk, updN_ne _ _ hyk, h5 y hy]
  · intro y hy
    show upd (A_there A) k (b2i now) y = b2i (updN (pv_th v) k now y)
    by_cases hyk : y = k
    · rw [hyk, upd_same, updN_same]
    · rw [upd_ne _ _ hyk, updN_ne _ _ hyk, h6 y hy]
  · intro y hy
    show upd (A_value A) k x y = updN (pv_va v) k x y
    by_cases hyk : y = k
    · rw [hyk, upd_same, updN_same]
    · rw [upd_ne _ _ hyk, updN_ne _ _ hyk, h7 y hy]
end
section
theorem k_A_touch86 {A0 : S_A} {x : Int32} {K : S_A → Prop} {pl : Nat} (hpl : pl < 8) (h : K (A_byTouch' A0 (fun i => if 0 < i ∧ i ≤ pl then A_byTouch A0 (i - 1) else A_byTouch A0 i))) : ∃ e, wp_A_touch_L86 x K e (jI pl) A0 := by
  refine lpd (fun n m (s : S_A) => wp_A_touch_L86 x K n (jI m) s) (fun m s => m ≤ pl ∧ s = A_byTouch' A0 (fun i => if m < i ∧ i ≤ pl then A_byTouch A0 (i - 1) else A_byTouch A0 i)) ?_ ?_ pl A0 ⟨Nat.le_refl _, ?_⟩
  · intro m s n hs hn
    obtain ⟨hm, rfl⟩ := hs
    have hb : m + 1 < 2147483648 := by omega
    have hb0 : m < 2147483648 := by omega
    rw [wp_A_touch_L86, if_neg (by rw [← jI_0, jI_le hb (by omega)]; omega), jI_d, jI_p, jI_tn hb0, jI_tn hb]
    refine ⟨jI_in hb0 (by omega), jI_in hb (by omega), hn _ ⟨by omega, ?_⟩⟩
    have e : upd (fun i => if m + 1 < i ∧ i ≤ pl then A_byTouch A0 (i - 1) else A_byTouch A0 i) (m + 1) (A_byTouch A0 m) = fun i => if m < i ∧ i ≤ pl then A_byTouch A0 (i - 1) else A_byTouch A0 i := by
      funext i
      by_cases hi : i = m + 1
      · rw [hi, upd_same, if_pos (by omega)]
        rfl
      · rw [upd_ne _ _ hi]
        by_cases hc : m < i ∧ i ≤ pl
        · rw [if_pos hc, if_pos (by omega)]
        · rw [if_neg hc, if_neg (by omega)]
    rw [← e]
    show A_byTouch' A0 (upd (fun i => if m + 1 < i ∧ i ≤ pl then A_byTouch A0 (i - 1) else A_byTouch A0 i) (m + 1) (if m + 1 < m ∧ m ≤ pl then A_byTouch A0 (m - 1) else A_byTouch A0 m)) = _
    rw [if_neg (by omega)]
  · intro s n hs
    obtain ⟨-, rfl⟩ := hs
    rw [wp_A_touch_L86, if_pos (by decide)]
    exact h
  · have e : (fun i => if pl < i ∧ i ≤ pl then A_byTouch A0 (i - 1) else A_byTouch A0 i) = A_byTouch A0 := by
      funext i
      rw [if_neg (by omega)]
    rw [e]
theorem k_A_touch2 {A : S_A} {v : VP} {p : Nat} {K : Int32 → Prop} (hA : RA A v) (hm : pv_m v ≤ 8) (hbt : ∀ i, i < pv_m v → pv_bt v i < 8) (hp : p < 8) (h : K (jI (sp_pl v p))) : ∃ e, wp_A_touch_L2 A (jI p) K e 0 := by
  refine lpi (fun n (s : Int32) => wp_A_touch_L2 A (jI p) K n s) (fun d s => s = jI d ∧ ∀ x, x < d → ¬ pv_bt v x = p) (pv_m v) ?_ ?_ 0 (by omega) 0 ⟨rfl, fun x hx => by omega⟩
  · intro d hd s n hs hn
    obtain ⟨rfl, hs⟩ := hs
    have hb : d < 2147483648 := by omega
    have hv := hbt d hd
    rw [wp_A_touch_L2, hA.2.1, if_neg (by rw [jI_le (by omega) hb]; omega), jI_tn hb, hA.2.2.1 d hd]
    refine ⟨jI_in hb (by omega), ?_⟩
    by_cases he : pv_bt v d = p
    · rw [if_pos (by rw [he])]
      have hpl : sp_pl v p = d := ff_eq _ _ _ _ (by omega) (by omega) (fun x _ h2 => by simpa using hs x h2) (fun _ => by simpa using he)
      rw [hpl] at h
      exact h
    · rw [if_neg (by rw [jI_eq (by omega) (by omega)]; exact he)]
      refine hn _ ⟨jI_s _, fun x hx => ?_⟩
      by_cases hxd : x = d
      · rw [hxd]
        exact he
      · exact hs x (by omega)
  · intro s n hs
    obtain ⟨rfl, hs⟩ := hs
    rw [wp_A_touch_L2, hA.2.1, if_pos (by rw [jI_le (by omega) (by omega)]; omega)]
    have hpl : sp_pl v p = pv_m v := ff_eq _ _ _ _ (by omega) (by omega) (fun x _ h2 => by simpa using hs x h2) (fun q => by omega)
    rw [hpl] at h
    exact h
/-- all of RA but the place q of the row of touches -/
def RAh (A : S_A) (v : VP) (q : Nat) : Prop := A_frames A = jI (pv_F v) ∧ A_framesInUse A = jI (pv_m v) ∧ (∀ i, i < pv_m v → i ≠ q → A_byTouch A i = jI (pv_bt v i)) ∧ (∀ p, p < 8 → A_dirty A p = b2i (pv_dy v p)) ∧ (∀ p, p < 8 → A_lsn A p = jI (pv_ls v p)) ∧ (∀ k, k < 32 → A_there A k = b2i (pv_th v k)) ∧ (∀ k, k < 32 → A_value A k = pv_va v k) ∧ (∀ p, p < 8 → A_diskLsn A p = jI (pv_dls v p)) ∧ (∀ k, k < 32 → A_diskThere A k = b2i (pv_dth v k)) ∧ ∀ k, k < 32 → A_diskValue A k = pv_dva v k
theorem RA.h {A : S_A} {v : VP} (h : RA A v) (q : Nat) : RAh A v q := ⟨h.1, h.2.1, fun i hi _ => h.2.2.1 i hi, h.2.2.2⟩
theorem k_A_touch {A : S_A} {G : S_G} {v : VP} {g : VG} {p : Nat} {post : S_A → S_G → Prop} (hA : RA A v) (hG : RG G g) (hi : iP v) (hp : p < 8) (hb : ∀ q, q < 8 → pv_ls v q < 2147483648) (hf : gv_f g < 2147483648)
    (h : ∀ A' G', RA A' (sp_tP v p) → RG G' (gv_f' g (sp_tF v (gv_f g) p)) → post A' G') : wp_A_touch A G (jI p) post := by
  obtain ⟨i1, i2, i3, i4, -⟩ := hi
  obtain ⟨-, g2, g3, g4⟩ := ff_spec (fun i => pv_bt v i == p) (pv_m v) 0
  have g2 : sp_pl v p ≤ pv_m v := by
    show ff (fun i => pv_bt v i == p) (pv_m v) 0 ≤ pv_m v
    omega
  unfold wp_A_touch
  refine k_A_touch2 hA (by omega) i4 hp ?_
  refine jn_in (fun jk => ∀ (q : Nat) (A' : S_A) (G' : S_G) (v' : VP), q < pv_m v' → pv_m v' ≤ 8 → RAh A' v' q → sp_tP v p = sp_fin v v' q p → RG G' (gv_f' g (sp_tF v (gv_f g) p)) → jk (jI q) A' G') ?_ ?_
  · intro q A' G' v' hq hm hR he hG'
    refine k_A_touch86 (by omega) ⟨jI_in (n := 0) (by omega) (by omega), h _ _ ?_ hG'⟩
    rw [he]
    obtain ⟨r1, r2, r3, r4⟩ := hR
    refine ⟨r1, r2, ?_, r4⟩
    intro i hi
    show upd (fun i => if 0 < i ∧ i ≤ q then A_byTouch A' (i - 1) else A_byTouch A' i) 0 (jI p) i = jI (sp_sh (pv_bt v') q p i)
    have hi : i < pv_m v' := hi
    unfold sp_sh
    by_cases h0 : i = 0
    · rw [h0, upd_same, if_pos (by rfl)]
    · rw [upd_ne _ _ h0, if_neg h0]
      by_cases hc : i ≤ q
      · rw [if_pos ⟨by omega, hc⟩, if_pos hc]
        exact r3 (i - 1) (by omega) (by omega)
      · rw [if_neg (by omega), if_neg hc]
        exact r3 i hi (by omega)
  · intro jk hjk
    have hpl : sp_pl v p < 2147483648 := by omega
    rw [hA.1, hA.2.1]
    by_cases hF : sp_pl v p = pv_F v
    · rw [if_pos (by rw [hF])]
      have hmF : pv_m v = pv_F v := by omega
      obtain ⟨F', hF'⟩ : ∃ F', pv_F v = F' + 1 := ⟨pv_F v - 1, by omega⟩
      have hFb : F' < 2147483648 := by omega
      have hbt := i4 F' (by omega)
      rw [hF, hF', jI_p, jI_tn hFb, hA.2.2.1 F' (by omega), jI_tn (by omega : pv_bt v F' < 2147483648), hA.2.2.2.1 _ hbt]
      refine ⟨jI_in hFb (by omega), jI_in (by omega) hbt, ?_⟩
      have e1 : pv_F v - 1 = F' := by omega
      cases hd : pv_dy v (pv_bt v F') with
      | false =>
        rw [if_pos (by rfl)]
        refine hjk F' A G v (by omega) (by omega) (hA.h _) ?_ (hG.same ?_)
        · unfold sp_tP
          rw [if_pos hF, e1, hd, if_neg (by decide)]
        · unfold sp_tF
          rw [e1, hd, if_neg (fun q => by cases q.2)]
      | true =>
        rw [if_neg (by decide)]
        refine ⟨jI_in hFb (by omega), k_A_putOnDisk hA hG hbt (hb _ hbt) hf (fun A' G' hA' hG' => ?_)⟩
        refine hjk F' A' G' (sp_wrP v (pv_bt v F')) (show F' < pv_m v by omega) (show pv_m v ≤ 8 by omega) (hA'.h _) ?_ ?_
        · unfold sp_tP
          rw [if_pos hF, e1, hd, if_pos (by rfl)]
        · unfold sp_tF
          rw [e1, if_pos ⟨hF, hd⟩]
          exact hG'
    · rw [if_neg (by rw [jI_eq hpl (by omega)]; exact hF)]
      have e2 : sp_tF v (gv_f g) p = gv_f g := by
        unfold sp_tF
        rw [if_neg (fun q => hF q.1)]
      by_cases hm : sp_pl v p = pv_m v
      · rw [if_pos (by rw [hm]), jI_s]
        refine hjk (sp_pl v p) _ G (pv_m' v (pv_m v + 1)) (show sp_pl v p < pv_m v + 1 by omega) (show pv_m v + 1 ≤ 8 by omega) ?_ ?_ (hG.same e2)
        · refine ⟨hA.1, rfl, fun i h1 h2 => hA.2.2.1 i ?_, hA.2.2.2⟩
          have h1 : i < pv_m v + 1 := h1
          omega
        · unfold sp_tP
          rw [if_neg hF, if_pos hm, hm]
      · rw [if_neg (by rw [jI_eq hpl (by omega)]; exact hm)]
        refine hjk (sp_pl v p) A G v (by omega) (by omega) (hA.h _) ?_ (hG.same e2)
        unfold sp_tP
        rw [if_neg hF, if_neg hm]
end
section
section PT
variable {T : S_T} {v : VT} {t : Nat}
theorem k_T_exists {post : Int32 → Prop} (hT : RT T v) (hv : iT v) (ht : t < 2147483648) (h : post (b2i (decide (t < tv_c v)))) : wp_T_exists T (jI t) post := by
  have hc := hv.1
  unfold wp_T_exists
  rw [if_neg (jI_nn ht), hT.1, ite_iff' (jI_le (by omega) ht)]
  by_cases q : t < tv_c v
  · rw [if_neg (by omega)]
    rw [decide_eq_true q] at h
    exact h
  · rw [if_pos (by omega)]
    rw [decide_eq_false q] at h
    exact h
theorem k_T_exists_neg {post : Int32 → Prop} {a : Int32} (ha : a < 0) (h : post 0) : wp_T_exists T a post := by
  unfold wp_T_exists
  rw [if_pos ha]
  exact h
theorem k_T_isActive {post : Int32 → Prop} (hT : RT T v) (hv : iT v) (ht : t < 2147483648) (h : post (b2i (sp_act v t))) : wp_T_isActive T (jI t) post := by
  have hc := hv.1
  unfold wp_T_isActive
  refine k_T_exists hT hv ht ?_
  unfold sp_act at h
  by_cases q : t < tv_c v
  · rw [decide_eq_true q] at h ⊢
    rw [if_neg (by decide), jI_tn ht, hT.2.2.2.2.1 t q]
    refine ⟨jI_in ht (by omega), ?_⟩
    by_cases e : tv_st v t = 1
    · rw [if_pos e]
      rw [decide_eq_true e] at h
      exact h
    · rw [if_neg e]
      rw [decide_eq_false e] at h
      exact h
  · rw [decide_eq_false q] at h ⊢
    rw [if_pos (by rfl)]
    exact h
theorem k_T_isWaiting {post : Int32 → Prop} (hT : RT T v) (hv : iT v) (ht : t < 2147483648) (h : post (b2i (sp_wai v t))) : wp_T_isWaiting T (jI t) post := by
  have hc := hv.1
  unfold wp_T_isWaiting
  refine k_T_exists hT hv ht ?_
  unfold sp_wai at h
  by_cases q : t < tv_c v
  · rw [decide_eq_true q] at h ⊢
    rw [if_neg (by decide), jI_tn ht, hT.2.2.2.2.1 t q]
    refine ⟨jI_in ht (by omega), ?_⟩
    by_cases e : tv_st v t = 2
    · rw [if_pos e]
      rw [decide_eq_true e] at h
      exact h
    · rw [if_neg e]
      rw [decide_eq_false e] at h
      exact h
  · rw [decide_eq_false q] at h ⊢
    rw [if_pos (by rfl)]
    exact h
theorem k_T_isLive {post : Int32 → Prop} (hT : RT T v) (hv : iT v) (ht : t < 2147483648) (h : post (b2i (sp_liv v t))) : wp_T_isLive T (jI t) post := by
  have hc := hv.1
  unfold wp_T_isLive
  refine k_T_exists hT hv ht ?_
  unfold sp_liv at h
  by_cases q : t < tv_c v
  · rw [decide_eq_true q] at h ⊢
    have hi : vp_in (jI t) 60 := jI_in ht (by omega)
    rw [if_neg (by decide), jI_tn ht, hT.2.2.2.2.1 t q]
    refine ⟨hi, ?_⟩
    by_cases e : tv_st v t = 1
    · rw [if_pos e]
      rw [decide_eq_true e] at h
      exact h
    · rw [if_neg e]
      rw [decide_eq_false e] at h
      refine ⟨hi, ?_⟩
      by_cases e2 : tv_st v t = 2
      · rw [if_pos e2]
        rw [decide_eq_true e2] at h
        exact h
      · rw [if_neg e2]
        rw [decide_eq_false e2] at h
        exact h
  · rw [decide_eq_false q] at h ⊢
    rw [if_pos (by rfl)]
    exact h
theorem k_T_isTopLive {post : Int32 → Prop} (hT : RT T v) (hv : iT v) (ht : t < tv_c v) (h : post (b2i (sp_liv v (tv_top v t)))) : wp_T_isTopLive T (jI t) post := by
  have hc := hv.1
  have hb : t < 2147483648 := by omega
  have htt := hv.top_lt t ht
  have hb2 : tv_top v t < 2147483648 := by omega
  unfold wp_T_isTopLive
  rw [jI_tn hb, hT.2.2.1 t ht, jI_tn hb2, hT.2.2.2.2.1 _ (by omega)]
  refine ⟨jI_in hb (by omega), jI_in hb2 (by omega), ?_⟩
  unfold sp_liv at h
  rw [decide_eq_true (by omega : tv_top v t < tv_c v)] at h
  by_cases e : tv_st v (tv_top v t) = 1
  · rw [if_pos e]
    rw [decide_eq_true e] at h
    exact h
  · rw [if_neg e]
    rw [decide_eq_false e] at h
    by_cases e2 : tv_st v (tv_top v t) = 2
    · rw [if_pos e2]
      rw [decide_eq_true e2] at h
      exact h
    · rw [if_neg e2]
      rw [decide_eq_false e2] at h
      exact h
theorem k_T_isWithin {post : Int32 → Prop} {a : Nat} (hT : RT T v) (hv : iT v) (ht : t < tv_c v) (ha : a < 64) (h : post (b2i (tv_lin v t a))) : wp_T_isWithin T (jI t) (jI a) post := by
  have hc := hv.1
  have hb : t < 2147483648 := by omega
  unfold wp_T_isWithin
  rw [jI_tn hb]
  refine ⟨jI_in hb (by omega), ?_⟩
  have e := hT.2.2.2.2.2.2.1 t ht a
  by_cases q : tv_lin v t a = true
  · rw [if_neg (fun z => by rw [show (1 : Int64) <<< (Int32.toInt64 (jI a) &&& 63) = oneb a from rfl, cmp_bit ha, e, q] at z; cases z)]
    rw [q] at h
    exact h
  · have q : tv_lin v t a = false := by simpa using q
    rw [if_pos (by rw [show (1 : Int64) <<< (Int32.toInt64 (jI a) &&& 63) = oneb a from rfl, cmp_bit ha, e, q])]
    rw [q] at h
    exact h
theorem k_T_liveCount {post : Int32 → Prop} (hT : RT T v) (hv : iT v) (h : post (jI (sp_lives v))) : wp_T_liveCount T post := by
  have hc := hv.1
  unfold wp_T_liveCount
  refine lpi (fun n (s : Int32 × Int32) => wp_T_liveCount_L4 T (fun x2 => post x2) n s.1 s.2) (fun k s => s = (jI (bc k (sp_liv v)), jI k)) (tv_c v) ?_ ?_ 0 (by omega) (0, 0) rfl
  · intro k hk s n hs hn
    subst hs
    have hb : k < 2147483648 := by omega
    dsimp only
    rw [wp_T_liveCount_L4, hT.1, if_neg (by rw [jI_le (by omega) hb]; omega)]
    refine k_T_isLive hT hv hb ?_
    have hs : bc (k + 1) (sp_liv v) = bc k (sp_liv v) + (if sp_liv v k then 1 else 0) := rfl
    cases q : sp_liv v k with
    | true =>
      rw [if_neg (by decide), jI_s, jI_s]
      refine hn (_, _) ?_
      rw [hs, q]
      rfl
    | false =>
      rw [if_pos (by rfl), jI_s]
      refine hn (_, _) ?_
      rw [hs, q]
      rfl
  · intro s n hs
    subst hs
    dsimp only
    rw [wp_T_liveCount_L4, hT.1, if_pos (by rw [jI_le (by omega) (by omega)]; omega)]
    exact h
theorem k_T_liveChildren {post : Int64 → Prop} (hT : RT T v) (hv : iT v) (ht : t < tv_c v) (h : ∀ x, (∀ u, tb x u = sp_chl v t u) → post x) : wp_T_liveChildren T (jI t) post := by
  have hc := hv.1
  unfold wp_T_liveChildren
  rw [jI_s]
  have hin : ∀ u, sp_chl v t u = true → t < u ∧ u < tv_c v := by
    intro u hu
    unfold sp_chl sp_liv at hu
    simp at hu
    obtain ⟨⟨h1, -⟩, h2⟩ := hu
    exact ⟨((hv.2.1 u h1).2.2.2.2.2 t h2).1, h1⟩
  refine lpi (fun n (s : Int64 × Int32) => wp_T_liveChildren_L7 T (jI t) (fun x2 => post x2) n s.1 s.2) (fun k s => s.2 = jI (t + 1 + k) ∧ ∀ u, tb s.1 u = (decide (u < t + 1 + k) && sp_chl v t u)) (tv_c v - (t + 1)) ?_ ?_ 0 (by omega) (0, jI (t + 1)) ⟨rfl, fun u => ?_⟩
  · intro k hk s n hs hn
    obtain ⟨x, i⟩ := s
    obtain ⟨hi, hs⟩ := hs
    dsimp only at hi hs ⊢
    subst hi
    have hb : t + 1 + k < 2147483648 := by omega
    rw [wp_T_liveChildren_L7, hT.1, if_neg (by rw [jI_le (by omega) hb]; omega), jI_tn hb, hT.2.1 _ (by omega), jI_s]
    refine ⟨jI_in hb (by omega), ?_⟩
    have hpp : pI (tv_par v (t + 1 + k)) = jI t ↔ tv_par v (t + 1 + k) = some t := by
      cases hp : tv_par v (t + 1 + k) with
      | none =>
        constructor
        · intro q
          exact absurd q.symm (jI_m1 (by omega))
        · intro q
          cases q
      | some p =>
        have := (hv.2.1 _ (by omega : t + 1 + k < tv_c v)).2.2.2.2.2 p hp
        constructor
        · intro q
          rw [(jI_eq (by omega) (by omega)).mp q]
        · intro q
          cases q
          rfl
    by_cases hp : tv_par v (t + 1 + k) = some t
    · rw [if_pos (hpp.mpr hp)]
      refine k_T_isLive hT hv hb ?_
      cases hl : sp_liv v (t + 1 + k) with
      | false =>
        rw [if_pos (by rfl)]
        refine hn (_, _) ⟨rfl, fun u => ?_⟩
        dsimp only
        rw [hs u]
        by_cases hu : u = t + 1 + k
        · rw [hu]
          simp [sp_chl, hl]
        · congr 1
          rw [decide_eq_decide]
          omega
      | true =>
        rw [if_neg (by decide)]
        refine hn (_, _) ⟨rfl, fun u => ?_⟩
        dsimp only
        rw [tb_or, show (1 : Int64) <<< (Int32.toInt64 (jI (t + 1 + k)) &&& 63) = oneb (t + 1 + k) from rfl, tb_oneb (by omega), hs u]
        by_cases hu : u = t + 1 + k
        · rw [hu]
          simp [sp_chl, hl, hp]
        · have : ¬ t + 1 + k = u := fun q => hu q.symm
          simp only [this, decide_false, Bool.or_false]
          congr 1
          rw [decide_eq_decide]
          omega
    · rw [if_neg (fun q => hp (hpp.mp q))]
      refine hn (_, _) ⟨rfl, fun u => ?_⟩
      dsimp only
      rw [hs u]
      by_cases hu : u = t + 1 + k
      · rw [hu]
        simp [sp_chl, hp]
      · congr 1
        rw [decide_eq_decide]
        omega
  · intro s n hs
    obtain ⟨x, i⟩ := s
    obtain ⟨hi, hs⟩ := hs
    dsimp only at hi hs ⊢
    subst hi
    rw [wp_T_liveChildren_L7, hT.1, if_pos (by rw [jI_le (by omega) (by omega)]; omega)]
    refine h x (fun u => ?_)
    rw [hs u]
    cases q : sp_chl v t u with
    | false => simp
    | true =>
      have := hin u q
      simp
      omega
  · dsimp only
    rw [tb_0]
    cases q : sp_chl v t u with
    | false => simp
    | true =>
      have := hin u q
      simp
      omega
theorem k_T_isBusy {post : Int32 → Prop} (hT : RT T v) (hv : iT v) (ht : t < tv_c v) (h : post (b2i (sp_busy v t))) : wp_T_isBusy T (jI t) post := by
  have hc := hv.1
  unfold wp_T_isBusy
  refine k_T_liveChildren hT hv ht (fun x hx => ?_)
  cases q : sp_busy v t with
  | true =>
    obtain ⟨u, hu, hcu⟩ := bx_iff.mp q
    rw [if_neg (fun z => by have := cmp_z.mp z u (by omega); rw [hx u, hcu] at this; cases this)]
    rw [q] at h
    exact h
  | false =>
    rw [if_pos (cmp_z.mpr (fun u _ => by
      rw [hx u]
      cases hcu : sp_chl v t u with
      | false => rfl
      | true =>
        have hu : u < tv_c v := by
          unfold sp_chl sp_liv at hcu
          simp at hcu
          exact hcu.1.1
        have : sp_busy v t = true := bx_iff.mpr ⟨u, hu, hcu⟩
        rw [q] at this
        cases this))]
    rw [q] at h
    exact h
end PT
end
section
section PT2
variable {T : S_T} {v : VT} {t : Nat}
theorem k_T_add {p : Option Nat} {l : Nat} {post : Int32 → S_T → Prop} (hT : RT T v) (hv : iT v) (hc : tv_c v < 60) (hp : ∀ q, p = some q → q < tv_c v) (h : ∀ T', RT T' (sp_addT v p l) → post (jI (tv_c v)) T') : wp_T_add T (pI p) (jI l) post := by
  have hb : tv_c v < 2147483648 := by omega
  have hi : vp_in (jI (tv_c v)) 60 := jI_in hb hc
  obtain ⟨h1, h2, h3, h4, h5, h6, h7, h8, h9, h10, h11⟩ := hT
  have hT : RT T v := ⟨h1, h2, h3, h4, h5, h6, h7, h8, h9, h10, h11⟩
  unfold wp_T_add
  cases p with
  | none =>
    refine k_T_exists_neg (by decide) ?_
    simp only [jn, i10, i00]
    rw [h1, jI_tn hb]
    refine ⟨hi, hi, hi, hi, hi, hi, h _ ⟨jI_s _, up_n pI h2 rfl, up_n jI h3 rfl, up_n jI h4 rfl, up_n (fun x => x) h5 rfl, up_n jI h6 rfl, ?_, h8, h9, h10, h11⟩⟩
    intro t ht u
    show tb (vp_updL (T_lineage T) (tv_c v) ((1 : Int64) <<< (Int32.toInt64 (jI (tv_c v)) &&& 63)) t) u = updN (tv_lin v) (tv_c v) (fun a => decide (tv_c v = a) || false) t u
    have ht : t < tv_c v + 1 := ht
    by_cases e : t = tv_c v
    · rw [e, updL_same, updN_same, show (1 : Int64) <<< (Int32.toInt64 (jI (tv_c v)) &&& 63) = oneb (tv_c v) from rfl, tb_oneb (by omega), Bool.or_false]
    · rw [updL_ne _ _ e, updN_ne _ _ e, h7 t (by omega)]
  | some q =>
    have hq := hp q rfl
    have hqb : q < 2147483648 := by omega
    have hqi : vp_in (jI q) 60 := jI_in hqb (by omega)
    refine k_T_exists hT hv hqb ?_
    rw [decide_eq_true hq]
    simp only [jn, b2i_t, i10, i00]
    rw [h1, jI_tn hb, show pI (some q) = jI q from rfl, jI_tn hqb, h3 q hq, h4 q hq, jI_s]
    refine ⟨hi, hqi, hi, hqi, hi, hqi, hi, hi, hi, h _ ⟨jI_s _, up_n pI h2 rfl, up_n jI h3 rfl, up_n jI h4 rfl, up_n (fun x => x) h5 rfl, up_n jI h6 rfl, ?_, h8, h9, h10, h11⟩⟩
    intro t ht u
    show tb (vp_updL (T_lineage T) (tv_c v) (T_lineage T q ||| (1 : Int64) <<< (Int32.toInt64 (jI (tv_c v)) &&& 63)) t) u = updN (tv_lin v) (tv_c v) (fun a => decide (tv_c v = a) || tv_lin v q a) t u
    have ht : t < tv_c v + 1 := ht
    by_cases e : t = tv_c v
    · rw [e, updL_same, updN_same, show (1 : Int64) <<< (Int32.toInt64 (jI (tv_c v)) &&& 63) = oneb (tv_c v) from rfl, tb_or, tb_oneb (by omega), h7 q hq, Bool.or_comm]
    · rw [updL_ne _ _ e, updN_ne _ _ e, h7 t (by omega)]
theorem k_T_setRequest {k lo hi : Nat} {x : Int32} {post : S_T → Prop} (hT : RT T v) (ht : t < 60) (h : ∀ T', RT T' (sp_req v t k lo hi x) → post T') : wp_T_setRequest T (jI t) (jI k) (jI lo) (jI hi) x post := by
  have hb : t < 2147483648 := by omega
  have hi' : vp_in (jI t) 60 := jI_in hb ht
  obtain ⟨h1, h2, h3, h4, h5, h6, h7, h8, h9, h10, h11⟩ := hT
  unfold wp_T_setRequest
  rw [jI_tn hb]
  exact ⟨hi', hi', hi', hi', h _ ⟨h1, h2, h3, h4, h5, h6, h7, up_k jI h8 rfl, up_k jI h9 rfl, up_k jI h10 rfl, up_k (fun x => x) h11 rfl⟩⟩
theorem k_T_setState {x : Int32} (hT : RT T v) : RT (T_state' T (upd (T_state T) t x)) (tv_st' v (updN (tv_st v) t x)) := by
  obtain ⟨h1, h2, h3, h4, h5, h6, h7, h8, h9, h10, h11⟩ := hT
  exact ⟨h1, h2, h3, h4, up_k (fun x => x) h5 rfl, h6, h7, h8, h9, h10, h11⟩
theorem k_T_abortUncommitted {post : S_T → Prop} (hT : RT T v) (hv : iT v) (h : ∀ T', RT T' (sp_abU v) → post T') : wp_T_abortUncommitted T post := by
  have hc := hv.1
  unfold wp_T_abortUncommitted
  refine lpi (fun n (s : Int32 × S_T) => wp_T_abortUncommitted_L2 (fun T1 => post T1) n s.1 s.2) (fun k s => s.1 = jI k ∧ RT s.2 (tv_st' v (fun t => if t < k ∧ ¬ tv_st v (tv_top v t) = 3 then 4 else tv_st v t))) (tv_c v) ?_ ?_ 0 (by omega) (0, T) ⟨rfl, ?_⟩
  · intro k hk s n hs hn
    obtain ⟨i, T⟩ := s
    obtain ⟨hi, h1, h2, h3, h4, h5, h6, h7, h8, h9, h10, h11⟩ := hs
    dsimp only at hi ⊢
    subst hi
    have h1 : T_count T = jI (tv_c v) := h1
    have h3 : ∀ t, t < tv_c v → T_top T t = jI (tv_top v t) := h3
    have h5 : ∀ t, t < tv_c v → T_state T t = if t < k ∧ ¬ tv_st v (tv_top v t) = 3 then 4 else tv_st v t := h5
    have hb : k < 2147483648 := by omega
    have htt := hv.top_lt k hk
    have hb2 : tv_top v k < 2147483648 := by omega
    have hii : vp_in (jI k) 60 := jI_in hb (by omega)
    rw [wp_T_abortUncommitted_L2, h1, if_neg (by rw [jI_le (by omega) hb]; omega), jI_tn hb, h3 k hk, jI_tn hb2, h5 _ (by omega : tv_top v k < tv_c v), jI_s]
    refine ⟨hii, jI_in hb2 (by omega), ?_⟩
    have key : (if tv_top v k < k ∧ ¬ tv_st v (tv_top v (tv_top v k)) = 3 then 4 else tv_st v (tv_top v k)) = 3 ↔ tv_st v (tv_top v k) = 3 := by
      rw [hv.top_top k hk]
      by_cases q : tv_top v k < k ∧ ¬ tv_st v (tv_top v k) = 3
      · rw [if_pos q]
        exact ⟨fun z => absurd z (by decide), fun z => absurd z q.2⟩
      · rw [if_neg q]
    by_cases q : tv_st v (tv_top v k) = 3
    · rw [if_pos (key.mpr q)]
      refine hn (_, _) ⟨rfl, h1, h2, h3, h4, fun t ht => ?_, h6, h7, h8, h9, h10, h11⟩
      show T_state T t = if t < k + 1 ∧ ¬ tv_st v (tv_top v t) = 3 then 4 else tv_st v t
      rw [h5 t ht]
      by_cases e : t = k
      · rw [e, if_neg (by omega), if_neg (fun z => z.2 q)]
      · by_cases z : t < k ∧ ¬ tv_st v (tv_top v t) = 3
        · rw [if_pos z, if_pos ⟨by omega, z.2⟩]
        · rw [if_neg z, if_neg (fun z2 => z ⟨by omega, z2.2⟩)]
    · rw [if_neg (fun z => q (key.mp z))]
      refine ⟨hii, hn (_, _) ⟨rfl, h1, h2, h3, h4, fun t ht => ?_, h6, h7, h8, h9, h10, h11⟩⟩
      show upd (T_state T) k 4 t = if t < k + 1 ∧ ¬ tv_st v (tv_top v t) = 3 then 4 else tv_st v t
      by_cases e : t = k
      · rw [e, upd_same, if_pos ⟨by omega, q⟩]
      · rw [upd_ne _ _ e, h5 t ht]
        by_cases z : t < k ∧ ¬ tv_st v (tv_top v t) = 3
        · rw [if_pos z, if_pos ⟨by omega, z.2⟩]
        · rw [if_neg z, if_neg (fun z2 => z ⟨by omega, z2.2⟩)]
  · intro s n hs
    obtain ⟨i, T⟩ := s
    obtain ⟨hi, hs⟩ := hs
    dsimp only at hi hs ⊢
    subst hi
    have h1 : T_count T = jI (tv_c v) := hs.1
    rw [wp_T_abortUncommitted_L2, h1, if_pos (by rw [jI_le (by omega) (by omega)]; omega)]
    exact h T hs
  · have e : (fun t => if t < 0 ∧ ¬ tv_st v (tv_top v t) = 3 then 4 else tv_st v t) = tv_st v := by
      funext t
      rw [if_neg (by omega)]
    dsimp only
    rw [e]
    exact hT
end PT2
section PK
variable {K : S_K} {L : VK} {t i : Nat}
theorem k_K_heldBy {post : Int32 → Prop} (hK : RK K L) (hL : L t i ≤ 2) (ht : t < 60) (hi : i < 33) (h : post (jI (L t i))) : wp_K_heldBy K (jI t) (jI i) post := by
  have hb : i < 2147483648 := by omega
  have hii := jI_in hb hi
  obtain ⟨h1, h2⟩ := hK i hi
  unfold wp_K_heldBy
  rw [jI_tn hb, show (1 : Int64) <<< (Int32.toInt64 (jI t) &&& 63) = oneb t from rfl]
  refine ⟨hii, ?_⟩
  rw [ite_iff' (cmp_bit (by omega : t < 64)), ite_iff' (cmp_bit (by omega : t < 64)), h1 t, h2 t]
  by_cases q2 : L t i = 2
  · rw [if_neg (by simp [q2])]
    rw [q2] at h
    exact h
  · rw [if_pos (by simp [q2])]
    refine ⟨hii, ?_⟩
    by_cases q1 : L t i = 1
    · rw [if_neg (by simp [q1])]
      rw [q1] at h
      exact h
    · rw [if_pos (by simp [q1])]
      have q0 : L t i = 0 := by omega
      rw [q0] at h
      exact h
theorem k_K_blockers {post : Int64 → Prop} {mode : Nat} {ln : Int64} {lin : Nat → Bool} (hK : RK K L) (hL : ∀ u, L u i ≤ 2) (hi : i < 33) (hm : mode < 2147483648) (hl : ∀ u, tb ln u = lin u) (h : ∀ x, (∀ u, u < 64 → tb x u = sp_bl L lin i mode u) → post x) : wp_K_blockers K (jI i) (jI mode) ln post := by
  have hb : i < 2147483648 := by omega
  have hii := jI_in hb hi
  obtain ⟨h1, h2⟩ := hK i hi
  unfold wp_K_blockers
  rw [jI_tn hb, show (2 : Int32) = jI 2 from rfl, ite_iff' (jI_eq hm (by omega))]
  by_cases q : mode = 2
  · rw [if_pos q]
    refine ⟨hii, hii, h _ (fun u hu => ?_)⟩
    rw [tb_and, tb_or, tb_not _ hu, h1 u, h2 u, hl u]
    unfold sp_bl
    have hLu := hL u
    congr 1
    simp only [q, decide_true, Bool.true_or, Bool.and_true]
    by_cases q1 : L u i = 1
    · simp [q1]
    · by_cases q2 : L u i = 2
      · simp [q2]
      · have : L u i = 0 := by omega
        simp [this]
  · rw [if_neg q]
    refine ⟨hii, h _ (fun u hu => ?_)⟩
    rw [tb_and, tb_not _ hu, h2 u, hl u]
    unfold sp_bl
    congr 1
    simp only [q, decide_false, Bool.false_or]
    by_cases q2 : L u i = 2
    · simp [q2]
    · simp [q2]
theorem k_K_grant {post : S_K → Prop} {m : Nat} (hK : RK K L) (hL : L t i ≤ 2) (ht : t < 60) (hi : i < 33) (hm : m ≤ 2) (h : ∀ K', RK K' (sp_gr L t i m) → post K') : wp_K_grant K (jI t) (jI i) (jI m) post := by
  have hb : i < 2147483648 := by omega
  have hii := jI_in hb hi
  obtain ⟨h1, h2⟩ := hK i hi
  unfold wp_K_grant
  refine k_K_heldBy hK hL ht hi ?_
  rw [ite_iff' (jI_lt (by omega) (by omega)), jI_tn hb, show (1 : Int64) <<< (Int32.toInt64 (jI t) &&& 63) = oneb t from rfl, show (2 : Int32) = jI 2 from rfl, ite_iff' (jI_eq (by omega) (by omega))]
  by_cases q : L t i < m
  · rw [if_pos q]
    by_cases q2 : m = 2
    · rw [if_pos q2]
      refine ⟨hii, hii, hii, hii, h _ (fun j hj => ?_)⟩
      obtain ⟨g1, g2⟩ := hK j hj
      by_cases e : j = i
      · rw [e]
        refine ⟨fun u => ?_, fun u => ?_⟩
        · show tb (vp_updL (K_shared K) i (K_shared K i &&& (oneb t ^^^ (-1))) i) u = decide (sp_gr L t i m u i = 1)
          rw [updL_same, tb_and, h1 u]
          unfold sp_gr
          by_cases eu : u = t
          · rw [eu, if_pos ⟨rfl, rfl⟩, if_neg (by omega), tb_not _ (by omega), tb_oneb (by omega)]
            simp [q2]
          · rw [if_neg (fun z => eu z.1)]
            by_cases hu : u < 64
            · rw [tb_not _ hu, tb_oneb (by omega)]
              simp [show ¬ t = u from fun z => eu z.symm]
            · have : tb (K_shared K i) u = false := tb_hi _ (by omega)
              rw [h1 u] at this
              rw [this]
              rfl
        · show tb (vp_updL (K_exclusive K) i (K_exclusive K i ||| oneb t) i) u = decide (sp_gr L t i m u i = 2)
          rw [updL_same, tb_or, h2 u, tb_oneb (by omega)]
          unfold sp_gr
          by_cases eu : u = t
          · rw [eu, if_pos ⟨rfl, rfl⟩, if_neg (by omega)]
            simp [q2]
          · rw [if_neg (fun z => eu z.1)]
            simp [show ¬ t = u from fun z => eu z.symm]
      · refine ⟨fun u => ?_, fun u => ?_⟩
        · show tb (vp_updL (K_shared K) i _ j) u = decide (sp_gr L t i m u j = 1)
          rw [updL_ne _ _ e, g1 u]
          unfold sp_gr
          rw [if_neg (fun z => e z.2)]
        · show tb (vp_updL (K_exclusive K) i _ j) u = decide (sp_gr L t i m u j = 2)
          rw [updL_ne _ _ e, g2 u]
          unfold sp_gr
          rw [if_neg (fun z => e z.2)]
    · rw [if_neg q2]
      have e1 : m = 1 := by omega
      have e0 : L t i = 0 := by omega
      refine ⟨hii, hii, h _ (fun j hj => ?_)⟩
      obtain ⟨g1, g2⟩ := hK j hj
      refine ⟨fun u => ?_, fun u => ?_⟩
      · show tb (vp_updL (K_shared K) i (K_shared K i ||| oneb t) j) u = decide (sp_gr L t i m u j = 1)
        unfold sp_gr
        by_cases e : j = i
        · rw [e, updL_same, tb_or, h1 u, tb_oneb (by omega)]
          by_cases eu : u = t
          · rw [eu, if_pos ⟨rfl, rfl⟩, if_neg (by omega)]
            simp [e1]
          · rw [if_neg (fun z => eu z.1)]
            simp [show ¬ t = u from fun z => eu z.symm]
        · rw [updL_ne _ _ e, g1 u, if_neg (fun z => e z.2)]
      · show tb (K_exclusive K j) u = decide (sp_gr L t i m u j = 2)
        rw [g2 u]
        unfold sp_gr
        by_cases e : u = t ∧ j = i
        · rw [if_pos e, if_neg (by omega), e.1, e.2, e0, e1]
          rfl
        · rw [if_neg e]
  · rw [if_neg q]
    refine h _ (fun j hj => ?_)
    obtain ⟨g1, g2⟩ := hK j hj
    have e : ∀ u, sp_gr L t i m u j = L u j := by
      intro u
      unfold sp_gr
      by_cases e : u = t ∧ j = i
      · rw [if_pos e, if_pos (by omega), e.1, e.2]
      · rw [if_neg e]
    exact ⟨fun u => by rw [e u]; exact g1 u, fun u => by rw [e u]; exact g2 u⟩
end PK
end
section
section PK2
variable {K : S_K} {L : VK} {t i : Nat}
theorem RK.ext {L' : VK} (h : RK K L) (e : ∀ u j, j < 33 → L' u j = L u j) : RK K L' := by
  intro j hj
  exact ⟨fun u => by rw [e u j hj]; exact (h j hj).1 u, fun u => by rw [e u j hj]; exact (h j hj).2 u⟩
theorem k_K_release {post : S_K → Prop} (hK : RK K L) (ht : t < 60) (h : ∀ K', RK K' (sp_rel L t) → post K') : wp_K_release K (jI t) post := by
  unfold wp_K_release
  refine lpi (fun n (s : Int32 × S_K) => wp_K_release_L2 (jI t) (fun K1 => post K1) n s.1 s.2) (fun k s => s.1 = jI k ∧ RK s.2 (fun u j => if j < k ∧ u = t then 0 else L u j)) 33 ?_ ?_ 0 (by omega) (0, K) ⟨rfl, hK.ext (fun u j _ => if_neg (by omega))⟩
  · intro k hk s n hs hn
    obtain ⟨x, K⟩ := s
    obtain ⟨hx, hs⟩ := hs
    dsimp only at hx hs ⊢
    subst hx
    have hb : k < 2147483648 := by omega
    have hii : vp_in (jI k) 33 := jI_in hb hk
    rw [wp_K_release_L2, if_neg (by rw [show (33 : Int32) = jI 33 from rfl, jI_le (by omega) hb]; omega), jI_tn hb, jI_s, show (1 : Int64) <<< (Int32.toInt64 (jI t) &&& 63) = oneb t from rfl]
    refine ⟨hii, hii, hii, hii, hn (_, _) ⟨rfl, fun j hj => ?_⟩⟩
    obtain ⟨g1, g2⟩ := hs j hj
    have bit : ∀ (x : Int64) (m : Nat), m ≠ 0 → (∀ u, tb x u = decide ((if j < k ∧ u = t then 0 else L u j) = m)) → j = k → ∀ u, tb (x &&& (oneb t ^^^ (-1))) u = decide ((if j < k + 1 ∧ u = t then 0 else L u j) = m) := by
      intro x m hm hx e u
      rw [tb_and, hx u, if_neg (by omega)]
      by_cases hu : u < 64
      · rw [tb_not _ hu, tb_oneb (by omega)]
        by_cases eu : u = t
        · rw [if_pos ⟨by omega, eu⟩]
          simp [eu, show ¬ 0 = m from fun z => hm z.symm]
        · rw [if_neg (fun z => eu z.2)]
          simp [show ¬ t = u from fun z => eu z.symm]
      · have z : tb x u = false := tb_hi _ (by omega)
        rw [hx u, if_neg (by omega)] at z
        rw [if_neg (by omega), z]
        rfl
    by_cases e : j = k
    · refine ⟨fun u => ?_, fun u => ?_⟩
      · show tb (vp_updL (K_shared K) k (K_shared K k &&& (oneb t ^^^ (-1))) j) u = decide ((if j < k + 1 ∧ u = t then 0 else L u j) = 1)
        rw [← e, updL_same]
        have := bit (K_shared K j) 1 (by omega) g1 e u
        rw [← e] at this
        exact this
      · show tb (vp_updL (K_exclusive K) k (K_exclusive K k &&& (oneb t ^^^ (-1))) j) u = decide ((if j < k + 1 ∧ u = t then 0 else L u j) = 2)
        rw [← e, updL_same]
        have := bit (K_exclusive K j) 2 (by omega) g2 e u
        rw [← e] at this
        exact this
    · have e2 : ∀ u, (if j < k + 1 ∧ u = t then 0 else L u j) = if j < k ∧ u = t then 0 else L u j := by
        intro u
        by_cases z : j < k ∧ u = t
        · rw [if_pos z, if_pos ⟨by omega, z.2⟩]
        · rw [if_neg z, if_neg (fun z2 => z ⟨by omega, z2.2⟩)]
      refine ⟨fun u => ?_, fun u => ?_⟩
      · show tb (vp_updL (K_shared K) k _ j) u = decide ((if j < k + 1 ∧ u = t then 0 else L u j) = 1)
        rw [updL_ne _ _ e, e2 u]
        exact g1 u
      · show tb (vp_updL (K_exclusive K) k _ j) u = decide ((if j < k + 1 ∧ u = t then 0 else L u j) = 2)
        rw [updL_ne _ _ e, e2 u]
        exact g2 u
  · intro s n hs
    obtain ⟨x, K⟩ := s
    obtain ⟨hx, hs⟩ := hs
    dsimp only at hx hs ⊢
    subst hx
    rw [wp_K_release_L2, if_pos (by decide)]
    refine h K (hs.ext (fun u j hj => ?_))
    unfold sp_rel
    by_cases z : u = t
    · rw [if_pos z, if_pos ⟨hj, z⟩]
    · rw [if_neg z, if_neg (fun z2 => z z2.2)]
theorem k_K_releaseAll {post : S_K → Prop} (hK : RK K L) (h : ∀ K', RK K' (fun _ _ => 0) → post K') : wp_K_releaseAll K post := by
  unfold wp_K_releaseAll
  refine lpi (fun n (s : Int32 × S_K) => wp_K_releaseAll_L2 (fun K1 => post K1) n s.1 s.2) (fun k s => s.1 = jI k ∧ RK s.2 (fun u j => if j < k then 0 else L u j)) 33 ?_ ?_ 0 (by omega) (0, K) ⟨rfl, hK.ext (fun u j _ => if_neg (by omega))⟩
  · intro k hk s n hs hn
    obtain ⟨x, K⟩ := s
    obtain ⟨hx, hs⟩ := hs
    dsimp only at hx hs ⊢
    subst hx
    have hb : k < 2147483648 := by omega
    have hii : vp_in (jI k) 33 := jI_in hb hk
    rw [wp_K_releaseAll_L2, if_neg (by rw [show (33 : Int32) = jI 33 from rfl, jI_le (by omega) hb]; omega), jI_tn hb, jI_s]
    refine ⟨hii, hii, hn (_, _) ⟨rfl, fun j hj => ?_⟩⟩
    obtain ⟨g1, g2⟩ := hs j hj
    by_cases e : j = k
    · refine ⟨fun u => ?_, fun u => ?_⟩
      · show tb (vp_updL (K_shared K) k 0 j) u = decide ((if j < k + 1 then 0 else L u j) = 1)
        rw [e, updL_same, tb_0, if_pos (by omega)]
        rfl
      · show tb (vp_updL (K_exclusive K) k 0 j) u = decide ((if j < k + 1 then 0 else L u j) = 2)
        rw [e, updL_same, tb_0, if_pos (by omega)]
        rfl
    · have e2 : ∀ u, (if j < k + 1 then 0 else L u j) = if j < k then 0 else L u j := by
        intro u
        by_cases z : j < k
        · rw [if_pos z, if_pos (by omega)]
        · rw [if_neg z, if_neg (by omega)]
      refine ⟨fun u => ?_, fun u => ?_⟩
      · show tb (vp_updL (K_shared K) k _ j) u = decide ((if j < k + 1 then 0 else L u j) = 1)
        rw [updL_ne _ _ e, e2 u]
        exact g1 u
      · show tb (vp_updL (K_exclusive K) k _ j) u = decide ((if j < k + 1 then 0 else L u j) = 2)
        rw [updL_ne _ _ e, e2 u]
        exact g2 u
  · intro s n hs
    obtain ⟨x, K⟩ := s
    obtain ⟨hx, hs⟩ := hs
    dsimp only at hx hs ⊢
    subst hx
    rw [wp_K_releaseAll_L2, if_pos (by decide)]
    exact h K (hs.ext (fun u j hj => (if_pos hj).symm))
theorem k_K_passOn {post : S_K → Prop} {p : Nat} (hK : RK K L) (hL : ∀ u j, j < 33 → L u j ≤ 2) (ht : t < 60) (hp : p < 60) (hne : p ≠ t) (h : ∀ K', RK K' (sp_pass L t p) → post K') : wp_K_passOn K (jI t) (jI p) post := by
  unfold wp_K_passOn
  refine lpi (fun n (s : Int32 × S_K) => wp_K_passOn_L2 (jI t) (jI p) (fun K1 => post K1) n s.1 s.2) (fun k s => s.1 = jI k ∧ RK s.2 (fun u j => if j < k then sp_pass L t p u j else L u j)) 33 ?_ ?_ 0 (by omega) (0, K) ⟨rfl, hK.ext (fun u j _ => if_neg (by omega))⟩
  · intro k hk s n hs hn
    obtain ⟨x, K⟩ := s
    obtain ⟨hx, hs⟩ := hs
    dsimp only at hx hs ⊢
    subst hx
    have hb : k < 2147483648 := by omega
    have e1 : ∀ u, (if k < k then sp_pass L t p u k else L u k) = L u k := fun u => if_neg (by omega)
    rw [wp_K_passOn_L2, if_neg (by rw [show (33 : Int32) = jI 33 from rfl, jI_le (by omega) hb]; omega), jI_s]
    refine k_K_heldBy hs (by rw [e1]; exact hL t k hk) ht hk ?_
    rw [e1]
    refine k_K_grant hs (by rw [e1]; exact hL p k hk) hp hk (hL t k hk) (fun K' hK' => hn (_, _) ⟨rfl, hK'.ext (fun u j hj => ?_)⟩)
    unfold sp_gr
    show (if j < k + 1 then sp_pass L t p u j else L u j) = if u = p ∧ j = k then (if L t k ≤ (if k < k then sp_pass L t p p k else L p k) then (if k < k then sp_pass L t p p k else L p k) else L t k) else (if j < k then sp_pass L t p u j else L u j)
    rw [e1]
    by_cases e : j = k
    · rw [e, if_pos (by omega)]
      by_cases eu : u = p
      · rw [if_pos ⟨eu, rfl⟩, eu]
        unfold sp_pass
        rw [if_pos (by rfl)]
      · rw [if_neg (fun z => eu z.1), e1]
        unfold sp_pass
        rw [if_neg eu]
    · rw [if_neg (fun z : u = p ∧ j = k => e z.2)]
      by_cases z : j < k
      · rw [if_pos z, if_pos (by omega)]
      · rw [if_neg z, if_neg (by omega)]
  · intro s n hs
    obtain ⟨x, K⟩ := s
    obtain ⟨hx, hs⟩ := hs
    dsimp only at hx hs ⊢
    subst hx
    rw [wp_K_passOn_L2, if_pos (by decide)]
    exact h K (hs.ext (fun u j hj => (if_pos hj).symm))
end PK2
end
section
section PG
variable {G : S_G} {g : VG}
theorem k_G_last {post : Int32 → Prop} (hG : RG G g) (h : post (jI (gv_b g + gv_n g))) : wp_G_last G post := by
  unfold wp_G_last
  rw [hG.1, hG.2.1, jI_a]
  exact h
theorem k_G_lsnOf {post : Int32 → Prop} {r : Nat} (hG : RG G g) (h : post (jI (gv_b g + r + 1))) : wp_G_lsnOf G (jI r) post := by
  unfold wp_G_lsnOf
  rw [hG.1, jI_s, jI_a, show gv_b g + 1 + r = gv_b g + r + 1 by omega]
  exact h
theorem k_G_rowOf {post : Int32 → Prop} {r : Nat} (hG : RG G g) (h : post (jI r)) : wp_G_rowOf G (jI (gv_b g + r + 1)) post := by
  unfold wp_G_rowOf
  rw [hG.1, jI_sub (by omega), show gv_b g + r + 1 - gv_b g = r + 1 by omega, jI_d]
  exact h
theorem k_G_setBefore {post : S_G → Prop} {r : Nat} {b : Bool} {x : Int32} (hG : RG G g) (hn : gv_n g ≤ 300) (hr : r < gv_n g) (h : ∀ G', RG G' (sp_bef g r b x) → post G') : wp_G_setBefore G (jI r) (b2i b) x post := by
  have hb : r < 2147483648 := by omega
  have hii : vp_in (jI r) 300 := jI_in hb (by omega)
  obtain ⟨h1, h2, h3, h4, h5, h6, h7, h8, h9, h10, h11, h12⟩ := hG
  unfold wp_G_setBefore
  rw [jI_tn hb, nar_b]
  exact ⟨hii, hii, h _ ⟨h1, h2, h3, h4, h5, h6, up_k b2i h7 rfl, up_k (fun x => x) h8 rfl, h9, h10, h11, h12⟩⟩
theorem k_G_setAfter {post : S_G → Prop} {r : Nat} {b : Bool} {x : Int32} (hG : RG G g) (hn : gv_n g ≤ 300) (hr : r < gv_n g) (h : ∀ G', RG G' (sp_aft g r b x) → post G') : wp_G_setAfter G (jI r) (b2i b) x post := by
  have hb : r < 2147483648 := by omega
  have hii : vp_in (jI r) 300 := jI_in hb (by omega)
  obtain ⟨h1, h2, h3, h4, h5, h6, h7, h8, h9, h10, h11, h12⟩ := hG
  unfold wp_G_setAfter
  rw [jI_tn hb, nar_b]
  exact ⟨hii, hii, h _ ⟨h1, h2, h3, h4, h5, h6, h7, h8, up_k b2i h9 rfl, up_k (fun x => x) h10 rfl, h11, h12⟩⟩
theorem sp_ud_app {k : Int32} {t : Nat} {a : Int32} (hou : ∀ x, x < gv_n g → gv_kd g x = 3 → gv_ou g x < x) {r : Nat} (hr : r ≤ gv_n g) : sp_ud (sp_app g k t a) r = if r < gv_n g then sp_ud g r else false := by
  have e : sp_ud (sp_app g k t a) r = sp_ud g r := by
    show bx (gv_n g + 1) (fun x => decide (updN (gv_kd g) (gv_n g) k x = 3) && updN (gv_ou g) (gv_n g) (gv_n g + 1) x == r) = bx (gv_n g) (fun x => decide (gv_kd g x = 3) && gv_ou g x == r)
    rw [bx, updN_same, updN_same, bx_congr (Q := fun x => decide (gv_kd g x = 3) && gv_ou g x == r) (fun x hx => by rw [updN_ne _ _ (by omega), updN_ne _ _ (by omega)])]
    have : (gv_n g + 1 == r) = false := by
      rw [beq_eq_false_iff_ne]
      omega
    rw [this, Bool.and_false, Bool.or_false]
  rw [e]
  by_cases q : r < gv_n g
  · rw [if_pos q]
  · rw [if_neg q]
    cases z : sp_ud g r with
    | false => rfl
    | true =>
      obtain ⟨x, hx, hz⟩ := bx_iff.mp z
      simp at hz
      have := hou x hx hz.1
      omega
theorem k_G_append {post : Int32 → S_G → Prop} {k : Int32} {t : Nat} {a : Int32} (hG : RG G g) (hn : gv_n g < 300) (hou : ∀ x, x < gv_n g → gv_kd g x = 3 → gv_ou g x < x) (h : ∀ G', RG G' (sp_app g k t a) → post (jI (gv_n g)) G') : wp_G_append G k (jI t) a post := by
  have hb : gv_n g < 2147483648 := by omega
  have hii : vp_in (jI (gv_n g)) 300 := jI_in hb hn
  obtain ⟨h1, h2, h3, h4, h5, h6, h7, h8, h9, h10, h11, h12⟩ := hG
  unfold wp_G_append
  simp only [jn]
  rw [h2, if_neg (by rw [show (300 : Int32) = jI 300 from rfl, jI_le (by omega) hb]; omega), jI_s, jI_d, jI_tn hb]
  refine ⟨hii, hii, hii, ?_⟩
  unfold wp_G_setBefore wp_G_setAfter
  rw [jI_tn hb, nar_0]
  refine ⟨hii, hii, hii, hii, hii, hii, h _ ⟨h1, rfl, h3, up_n (fun x => x) h4 rfl, up_n jI h5 rfl, up_n (fun x => x) h6 rfl, up_n b2i h7 rfl, up_n (fun x => x) h8 rfl, up_n b2i h9 rfl, up_n (fun x => x) h10 rfl, up_n (fun x => x) h11 rfl, ?_⟩⟩
  intro r hr
  have hr : r < gv_n g + 1 := hr
  rw [sp_ud_app hou (by omega)]
  show upd (G_undone G) (gv_n g) (b2i false) r = _
  by_cases e : r = gv_n g
  · rw [e, upd_same, if_neg (by omega)]
  · rw [upd_ne _ _ e, if_pos (by omega)]
    exact h12 r (by omega)
theorem k_G_empty {post : S_G → Prop} (hG : RG G g) (h : ∀ G', RG G' (sp_emp g) → post G') : wp_G_empty G post := by
  unfold wp_G_empty
  refine k_G_last hG (h _ ⟨rfl, rfl, rfl, ?_, ?_, ?_, ?_, ?_, ?_, ?_, ?_, ?_⟩) <;> exact fun r hr => absurd hr (Nat.not_lt_zero r)
theorem k_G_loseUnflushed {post : S_G → Prop} {c : Nat} (hG : RG G g) (hI : iG g c) (h : ∀ G', RG G' (gv_n' g (gv_f g - gv_b g)) → post G') : wp_G_loseUnflushed G post := by
  obtain ⟨i1, i2, i3, i4, i5, i6, i7, i8, -⟩ := hI
  unfold wp_G_loseUnflushed
  rw [hG.1, hG.2.2.1, jI_sub i2]
  obtain ⟨q, hq⟩ : ∃ q, q = gv_f g - gv_b g := ⟨_, rfl⟩
  rw [← hq] at h ⊢
  have hqn : q ≤ gv_n g := by omega
  refine lpi (fun n (s : Int32 × S_G) => wp_G_loseUnflushed_L12 (jI q) (fun G2 => post (G_size' G2 (jI q))) n s.1 s.2) (fun d s => s.1 = jI (q + d) ∧ G_base s.2 = jI (gv_b g) ∧ G_size s.2 = jI (gv_n g) ∧ G_flushed s.2 = jI (gv_f g) ∧ (∀ r, r < gv_n g → G_kind s.2 r = gv_kd g r) ∧ (∀ r, r < gv_n g → G_transaction s.2 r = jI (gv_by g r)) ∧ (∀ r, r < gv_n g → G_subject s.2 r = gv_ab g r) ∧ (∀ r, r < gv_n g → G_wasThere s.2 r = b2i (gv_wt g r)) ∧ (∀ r, r < gv_n g → G_oldValue s.2 r = gv_wv g r) ∧ (∀ r, r < gv_n g → G_isThere s.2 r = b2i (gv_it g r)) ∧ (∀ r, r < gv_n g → G_newValue s.2 r = gv_iv g r) ∧ (∀ r, r < gv_n g → G_undoes s.2 r = gv_of g r) ∧ ∀ r, r < gv_n g → G_undone s.2 r = b2i (bx (gv_n g) (fun x => decide (gv_kd g x = 3) && gv_ou g x == r && (decide (x < q) || decide (q + d ≤ x))))) (gv_n g - q) ?_ ?_ 0 (by omega) (jI q, G) ?_
  · intro d hd s n hs hn
    obtain ⟨x, G⟩ := s
    obtain ⟨hx, h1, h2, h3, h4, h5, h6, h7, h8, h9, h10, h11, h12⟩ := hs
    dsimp only at hx h1 h2 h3 h4 h5 h6 h7 h8 h9 h10 h11 h12 ⊢
    subst hx
    have hb : q + d < 2147483648 := by omega
    have hlt : q + d < gv_n g := by omega
    have hii : vp_in (jI (q + d)) 300 := jI_in hb (by omega)
    rw [wp_G_loseUnflushed_L12, h2, if_neg (by rw [jI_le (by omega) hb]; omega), jI_tn hb, h4 _ hlt, h11 _ hlt, jI_s]
    refine ⟨hii, ?_⟩
    by_cases hk : gv_kd g (q + d) = 3
    · obtain ⟨o1, o2, o3⟩ := i7 _ hlt hk
      rw [if_pos hk, o3]
      have hob : gv_ou g (q + d) < 2147483648 := by omega
      refine ⟨hii, ?_⟩
      unfold wp_G_rowOf
      rw [h1, jI_sub (by omega), show gv_b g + gv_ou g (q + d) + 1 - gv_b g = gv_ou g (q + d) + 1 by omega, jI_d]
      dsimp only
      rw [jI_tn hob, nar_0]
      refine ⟨jI_in hob (by omega), hn (_, _) ⟨rfl, h1, h2, h3, h4, h5, h6, h7, h8, h9, h10, h11, fun r hr => ?_⟩⟩
      show upd (G_undone G) (gv_ou g (q + d)) (b2i false) r = b2i (bx (gv_n g) (fun x => decide (gv_kd g x = 3) && gv_ou g x == r && (decide (x < q) || decide (q + (d + 1) ≤ x))))
      by_cases e : r = gv_ou g (q + d)
      · rw [e, upd_same]
        congr 1
        symm
        cases z : bx (gv_n g) (fun x => decide (gv_kd g x = 3) && gv_ou g x == gv_ou g (q + d) && (decide (x < q) || decide (q + (d + 1) ≤ x))) with
        | false => rfl
        | true =>
          obtain ⟨x, hx, hz⟩ := bx_iff.mp z
          simp at hz
          have := i8 x (q + d) hx hlt hz.1.1 hk hz.1.2
          omega
      · rw [upd_ne _ _ e, h12 r hr]
        congr 1
        refine bx_congr (fun x hx => ?_)
        by_cases ex : x = q + d
        · have : (gv_ou g x == r) = false := by
            rw [beq_eq_false_iff_ne, ex]
            exact fun z => e z.symm
          rw [this]
          simp
        · congr 2
          rw [decide_eq_decide]
          omega
    · rw [if_neg hk]
      refine hn (_, _) ⟨rfl, h1, h2, h3, h4, h5, h6, h7, h8, h9, h10, h11, fun r hr => ?_⟩
      dsimp only
      rw [h12 r hr]
      congr 1
      refine bx_congr (fun x hx => ?_)
      by_cases ex : x = q + d
      · rw [ex]
        simp [hk]
      · congr 2
        rw [decide_eq_decide]
        omega
  · intro s n hs
    obtain ⟨x, G⟩ := s
    obtain ⟨hx, h1, h2, h3, h4, h5, h6, h7, h8, h9, h10, h11, h12⟩ := hs
    dsimp only at hx h1 h2 h3 h4 h5 h6 h7 h8 h9 h10 h11 h12 ⊢
    subst hx
    rw [show q + (gv_n g - q) = gv_n g by omega] at h12 ⊢
    rw [wp_G_loseUnflushed_L12, h2, if_pos (by rw [jI_le (by omega) (by omega)]; omega)]
    have lt : ∀ {r : Nat}, r < q → r < gv_n g := fun hr => by omega
    refine h _ ⟨h1, rfl, h3, fun r hr => h4 r (lt hr), fun r hr => h5 r (lt hr), fun r hr => h6 r (lt hr), fun r hr => h7 r (lt hr), fun r hr => h8 r (lt hr), fun r hr => h9 r (lt hr), fun r hr => h10 r (lt hr), fun r hr => h11 r (lt hr), fun r hr => ?_⟩
    have hr : r < q := hr
    show G_undone G r = b2i (bx q (fun x => decide (gv_kd g x = 3) && gv_ou g x == r))
    rw [h12 r (by omega)]
    congr 1
    cases z : bx q (fun x => decide (gv_kd g x = 3) && gv_ou g x == r) with
    | true =>
      obtain ⟨x, hx, hz⟩ := bx_iff.mp z
      refine bx_iff.mpr ⟨x, by omega, ?_⟩
      rw [hz]
      simp [hx]
    | false =>
      cases z2 : bx (gv_n g) (fun x => decide (gv_kd g x = 3) && gv_ou g x == r && (decide (x < q) || decide (gv_n g ≤ x))) with
      | false => rfl
      | true =>
        obtain ⟨x, hx, hz⟩ := bx_iff.mp z2
        simp at hz
        have : bx q (fun x => decide (gv_kd g x = 3) && gv_ou g x == r) = true := bx_iff.mpr ⟨x, by omega, by simp [hz.1.1, hz.1.2]⟩
        rw [z] at this
        cases this
  · obtain ⟨h1, h2, h3, h4, h5, h6, h7, h8, h9, h10, h11, h12⟩ := hG
    refine ⟨rfl, h1, h2, h3, h4, h5, h6, h7, h8, h9, h10, h11, fun r hr => ?_⟩
    dsimp only
    rw [h12 r hr]
    congr 1
    refine bx_congr (fun x hx => ?_)
    have : (decide (x < q) || decide (q + 0 ≤ x)) = true := by
      simp
      omega
    rw [this, Bool.and_true]
end PG
end
section
section PN1
variable {A : S_A} {G : S_G} {T : S_T} {v : VP} {g : VG} {tv : VT}
theorem k_A_loseFrames {post : S_A → Prop} (hA : RA A v) (h : ∀ A', RA A' (sp_lose v) → post A') : wp_A_loseFrames A post := by
  unfold wp_A_loseFrames
  obtain ⟨h1, h2, h3, h4, h5, h6, h7, h8, h9, h10⟩ := hA
  refine lpi (fun n (s : Int32 × S_A) => wp_A_loseFrames_L7 _ n s.1 s.2) (fun k s => s.1 = jI k ∧ RA s.2 (pv_m' (pv_ls' (pv_dy' v (fun p => if p < k then false else pv_dy v p)) (fun p => if p < k then pv_dls v p else pv_ls v p)) 0)) 8 ?_ ?_ 0 (by omega) (0, A_framesInUse' A 0) ⟨rfl, h1, rfl, fun i hi => absurd hi (Nat.not_lt_zero _), fun p hp => ?_, fun p hp => ?_, h6, h7, h8, h9, h10⟩
  · intro k hk s n hs hn
    obtain ⟨x, A⟩ := s
    obtain ⟨hx, q1, q2, q3, q4, q5, q6, q7, q8, q9, q10⟩ := hs
    dsimp only at hx ⊢
    subst hx
    have q4 : ∀ p, p < 8 → A_dirty A p = b2i (if p < k then false else pv_dy v p) := q4
    have q5 : ∀ p, p < 8 → A_lsn A p = jI (if p < k then pv_dls v p else pv_ls v p) := q5
    have q8 : ∀ p, p < 8 → A_diskLsn A p = jI (pv_dls v p) := q8
    have hb : k < 2147483648 := by omega
    have hii : vp_in (jI k) 8 := jI_in hb hk
    rw [wp_A_loseFrames_L7, if_neg (by rw [show (8 : Int32) = jI 8 from rfl, jI_le (by omega) hb]; omega), jI_tn hb, jI_s, nar_0]
    refine ⟨hii, hii, hii, hn (_, _) ⟨rfl, q1, q2, q3, fun p hp => ?_, fun p hp => ?_, q6, q7, q8, q9, q10⟩⟩
    · show upd (A_dirty A) k (b2i false) p = b2i (if p < k + 1 then false else pv_dy v p)
      by_cases e : p = k
      · rw [e, upd_same, if_pos (by omega)]
      · rw [upd_ne _ _ e, q4 p hp]
        by_cases z : p < k
        · rw [if_pos z, if_pos (by omega)]
        · rw [if_neg z, if_neg (by omega)]
    · show upd (A_lsn A) k (A_diskLsn A k) p = jI (if p < k + 1 then pv_dls v p else pv_ls v p)
      by_cases e : p = k
      · rw [e, upd_same, if_pos (by omega), q8 k hk]
      · rw [upd_ne _ _ e, q5 p hp]
        by_cases z : p < k
        · rw [if_pos z, if_pos (by omega)]
        · rw [if_neg z, if_neg (by omega)]
  · intro s n hs
    obtain ⟨x, A⟩ := s
    obtain ⟨hx, q1, q2, q3, q4, q5, q6, q7, q8, q9, q10⟩ := hs
    dsimp only at hx ⊢
    subst hx
    have q4 : ∀ p, p < 8 → A_dirty A p = b2i (if p < 8 then false else pv_dy v p) := q4
    have q5 : ∀ p, p < 8 → A_lsn A p = jI (if p < 8 then pv_dls v p else pv_ls v p) := q5
    rw [wp_A_loseFrames_L7, if_pos (by decide)]
    refine lpi (fun n (s : Int32 × S_A) => wp_A_loseFrames_L40 (fun A2 => post A2) n s.1 s.2) (fun k s => s.1 = jI k ∧ RA s.2 (pv_m' (pv_ls' (pv_dy' (pv_va' (pv_th' v (fun x => if x < k then pv_dth v x else pv_th v x)) (fun x => if x < k then pv_dva v x else pv_va v x)) (fun _ => false)) (pv_dls v)) 0)) 32 ?_ ?_ 0 (by omega) (0, A) ⟨rfl, q1, q2, q3, fun p hp => ?_, fun p hp => ?_, fun x hx => ?_, fun x hx => ?_, q8, q9, q10⟩
    · intro k hk s n hs hn
      obtain ⟨x, A⟩ := s
      obtain ⟨hx, q1, q2, q3, q4, q5, q6, q7, q8, q9, q10⟩ := hs
      dsimp only at hx ⊢
      subst hx
      have q6 : ∀ p, p < 32 → A_there A p = b2i (if p < k then pv_dth v p else pv_th v p) := q6
      have q7 : ∀ p, p < 32 → A_value A p = if p < k then pv_dva v p else pv_va v p := q7
      have q9 : ∀ p, p < 32 → A_diskThere A p = b2i (pv_dth v p) := q9
      have q10 : ∀ p, p < 32 → A_diskValue A p = pv_dva v p := q10
      have hb : k < 2147483648 := by omega
      have hii : vp_in (jI k) 32 := jI_in hb hk
      rw [wp_A_loseFrames_L40, if_neg (by rw [show (32 : Int32) = jI 32 from rfl, jI_le (by omega) hb]; omega), jI_tn hb, jI_s]
      refine ⟨hii, hii, hii, hii, hn (_, _) ⟨rfl, q1, q2, q3, q4, q5, fun p hp => ?_, fun p hp => ?_, q8, q9, q10⟩⟩
      · show upd (A_there A) k (vp_nar .boolean (A_diskThere A k)) p = b2i (if p < k + 1 then pv_dth v p else pv_th v p)
        by_cases e : p = k
        · rw [e, upd_same, if_pos (by omega), q9 k hk, nar_b]
        · rw [upd_ne _ _ e, q6 p hp]
          by_cases z : p < k
          · rw [if_pos z, if_pos (by omega)]
          · rw [if_neg z, if_neg (by omega)]
      · show upd (A_value A) k (A_diskValue A k) p = if p < k + 1 then pv_dva v p else pv_va v p
        by_cases e : p = k
        · rw [e, upd_same, if_pos (by omega), q10 k hk]
        · rw [upd_ne _ _ e, q7 p hp]
          by_cases z : p < k
          · rw [if_pos z, if_pos (by omega)]
          · rw [if_neg z, if_neg (by omega)]
    · intro s n hs
      obtain ⟨x, A⟩ := s
      obtain ⟨hx, q1, q2, q3, q4, q5, q6, q7, q8, q9, q10⟩ := hs
      dsimp only at hx ⊢
      subst hx
      have q6 : ∀ p, p < 32 → A_there A p = b2i (if p < 32 then pv_dth v p else pv_th v p) := q6
      have q7 : ∀ p, p < 32 → A_value A p = if p < 32 then pv_dva v p else pv_va v p := q7
      rw [wp_A_loseFrames_L40, if_pos (by decide)]
      refine h A ⟨q1, q2, q3, q4, q5, fun p hp => ?_, fun p hp => ?_, q8, q9, q10⟩
      · rw [q6 p hp, if_pos hp]
        rfl
      · rw [q7 p hp, if_pos hp]
        rfl
    · show A_dirty A p = b2i false
      rw [q4 p hp, if_pos hp]
    · show A_lsn A p = jI (pv_dls v p)
      rw [q5 p hp, if_pos hp]
    · show A_there A x = b2i (if x < 0 then pv_dth v x else pv_th v x)
      rw [if_neg (by omega)]
      exact q6 x hx
    · show A_value A x = if x < 0 then pv_dva v x else pv_va v x
      rw [if_neg (by omega)]
      exact q7 x hx
  · show A_dirty A p = b2i (if p < 0 then false else pv_dy v p)
    rw [if_neg (by omega)]
    exact h4 p hp
  · show A_lsn A p = jI (if p < 0 then pv_dls v p else pv_ls v p)
    rw [if_neg (by omega)]
    exact h5 p hp
theorem k_N_isOpen {post : Int32 → Prop} {r : Nat} (hG : RG G g) (hT : RT T tv) (hv : iT tv) (hn : gv_n g ≤ 300) (hr : r < gv_n g) (hby : gv_by g r < tv_c tv) (h : post (b2i (sp_opn g tv r))) : wp_N_isOpen G T (jI r) post := by
  have hb : r < 2147483648 := by omega
  have hii : vp_in (jI r) 300 := jI_in hb (by omega)
  obtain ⟨h1, h2, h3, h4, h5, h6, h7, h8, h9, h10, h11, h12⟩ := hG
  unfold wp_N_isOpen
  unfold sp_opn at h
  rw [jI_tn hb, h4 r hr, h5 r hr, h12 r hr]
  refine ⟨hii, ?_⟩
  by_cases hk : gv_kd g r = 2
  · rw [if_pos hk]
    rw [decide_eq_true hk, Bool.true_and] at h
    refine ⟨hii, ?_⟩
    cases hu : sp_ud g r with
    | true =>
      rw [if_neg (by decide)]
      rw [hu] at h
      exact h
    | false =>
      rw [if_pos (by rfl)]
      rw [hu, Bool.not_false, Bool.true_and] at h
      refine ⟨hii, k_T_isTopLive hT hv hby ?_⟩
      cases hl : sp_liv tv (tv_top tv (gv_by g r)) with
      | true =>
        rw [if_neg (by decide)]
        rw [hl] at h
        exact h
      | false =>
        rw [if_pos (by rfl)]
        rw [hl] at h
        exact h
  · rw [if_neg hk]
    rw [decide_eq_false hk] at h
    exact h
theorem k_N_openUpdateCount {post : Int32 → Prop} (hG : RG G g) (hT : RT T tv) (hv : iT tv) (hn : gv_n g ≤ 300) (hby : ∀ r, r < gv_n g → gv_by g r < tv_c tv) (h : post (jI (sp_opens g tv))) : wp_N_openUpdateCount G T post := by
  unfold wp_N_openUpdateCount
  refine lpi (fun n (s : Int32 × Int32) => wp_N_openUpdateCount_L4 G T (fun x2 => post x2) n s.1 s.2) (fun k s => s = (jI (bc k (sp_opn g tv)), jI k)) (gv_n g) ?_ ?_ 0 (by omega) (0, 0) rfl
  · intro k hk s n hs hn
    subst hs
    have hb : k < 2147483648 := by omega
    dsimp only
    rw [wp_N_openUpdateCount_L4, hG.2.1, if_neg (by rw [jI_le (by omega) hb]; omega)]
    refine k_N_isOpen hG hT hv (by omega) hk (hby k hk) ?_
    have hs : bc (k + 1) (sp_opn g tv) = bc k (sp_opn g tv) + (if sp_opn g tv k then 1 else 0) := rfl
    cases q : sp_opn g tv k with
    | true =>
      rw [if_neg (by decide), jI_s, jI_s]
      refine hn (_, _) ?_
      rw [hs, q]
      rfl
    | false =>
      rw [if_pos (by rfl), jI_s]
      refine hn (_, _) ?_
      rw [hs, q]
      rfl
  · intro s n hs
    subst hs
    dsimp only
    rw [wp_N_openUpdateCount_L4, hG.2.1, if_pos (by rw [jI_le (by omega) (by omega)]; omega)]
    exact h
theorem k_N_hasRoomForOne {post : Int32 → Prop} (hG : RG G g) (hT : RT T tv) (hv : iT tv) (hn : gv_n g ≤ 300) (hby : ∀ r, r < gv_n g → gv_by g r < tv_c tv) (h : post (b2i (sp_room g tv))) : wp_N_hasRoomForOne G T post := by
  have hc := hv.1
  unfold wp_N_hasRoomForOne
  refine k_N_openUpdateCount hG hT hv hn hby (k_T_liveCount hT hv ?_)
  have hl : sp_lives tv ≤ tv_c tv := bc_le _ _
  have ho : sp_opens g tv ≤ gv_n g := bc_le _ _
  rw [hG.2.1, jI_a, jI_a, show (2 : Int32) = jI 2 from rfl, jI_a, show (300 : Int32) = jI 300 from rfl, ite_iff' (jI_lt (by omega) (by omega))]
  unfold sp_room at h
  by_cases q : gv_n g + sp_opens g tv + sp_lives tv + 2 ≤ 300
  · rw [if_neg (by omega)]
    rw [decide_eq_true q] at h
    exact h
  · rw [if_pos (by omega)]
    rw [decide_eq_false q] at h
    exact h
theorem k_N_update {post : S_A → S_G → Prop} {t k : Nat} {now : Bool} {x : Int32} (hA : RA A v) (hG : RG G g) (hi : iP v) (hn : gv_n g < 300) (hou : ∀ x, x < gv_n g → gv_kd g x = 3 → gv_ou g x < x) (hk : k < 32) (hls : ∀ q, q < 8 → pv_ls v q < 2147483648) (hf : gv_f g < 2147483648)
    (h : ∀ A' G', RA A' (sp_updP v g k now x) → RG G' (sp_updG v g t k now x) → post A' G') : wp_N_update A G (jI t) (jI k) (b2i now) x post := by
  have hb : k < 2147483648 := by omega
  have hki : vp_in (jI k) 32 := jI_in hb hk
  unfold wp_N_update
  refine k_G_append hG hn hou (fun G1 hG1 => ?_)
  rw [jI_tn hb, hA.2.2.2.2.2.1 k hk, hA.2.2.2.2.2.2.1 k hk, jI_div hb]
  refine ⟨hki, hki, k_G_setBefore hG1 (show gv_n g + 1 ≤ 300 by omega) (show gv_n g < gv_n g + 1 by omega) (fun G2 hG2 => k_G_setAfter hG2 (show gv_n g + 1 ≤ 300 by omega) (show gv_n g < gv_n g + 1 by omega) (fun G3 hG3 => k_A_touch hA hG3 hi (by omega) hls hf (fun A4 G4 hA4 hG4 => k_G_lsnOf hG4 (k_A_change hA4 hk (fun A5 hA5 => h A5 G4 hA5 hG4)))))⟩
theorem k_N_undo {post : S_A → S_G → Prop} {u t : Nat} (hA : RA A v) (hG : RG G g) (hi : iP v) (hn : gv_n g < 300) (hou : ∀ x, x < gv_n g → gv_kd g x = 3 → gv_ou g x < x) (hu : u < gv_n g) (hk : sp_key g u < 32) (hab : gv_ab g u = jI (sp_key g u)) (hls : ∀ q, q < 8 → pv_ls v q < 2147483648) (hf : gv_f g < 2147483648)
    (h : ∀ A' G', RA A' (sp_undP v g u) → RG G' (sp_undG v g u t) → post A' G') : wp_N_undo A G (jI u) (jI t) post := by
  have hb : sp_key g u < 2147483648 := by omega
  have hub : u < 2147483648 := by omega
  have hui : vp_in (jI u) 300 := jI_in hub (by omega)
  have hnb : gv_n g < 2147483648 := by omega
  have hni : vp_in (jI (gv_n g)) 300 := jI_in hnb (by omega)
  have hG0 := hG
  obtain ⟨h1, h2, h3, h4, h5, h6, h7, h8, h9, h10, h11, h12⟩ := hG0
  unfold wp_N_undo
  rw [jI_tn hub, h6 u hu, h7 u hu, h8 u hu]
  refine ⟨hui, hui, hui, k_G_append hG hn hou (fun G1 hG1 => k_G_setAfter hG1 (show gv_n g + 1 ≤ 300 by omega) (show gv_n g < gv_n g + 1 by omega) (fun G2 hG2 => k_G_lsnOf hG2 ⟨hni, hui, ?_⟩))⟩
  rw [jI_tn hnb, nar_1, hab, jI_div hb]
  have hG3 : RG (G_undone' (G_undoes' G2 (upd (G_undoes G2) (gv_n g) (jI (gv_b g + u + 1)))) (upd (G_undone G2) u (b2i true))) (sp_mark (sp_aft (sp_app g 3 t (gv_ab g u)) (gv_n g) (gv_wt g u) (gv_wv g u)) (gv_n g) u) := by
    obtain ⟨q1, q2, q3, q4, q5, q6, q7, q8, q9, q10, q11, q12⟩ := hG2
    refine ⟨q1, q2, q3, q4, q5, q6, q7, q8, q9, q10, up_k (fun x => x) q11 rfl, fun r hr => ?_⟩
    have hr : r < gv_n g + 1 := hr
    have e := sp_ud_und (v := v) (t := t) hou (show r ≤ gv_n g by omega) hu
    show upd (G_undone G2) u (b2i true) r = b2i (sp_ud (sp_undG v g u t) r)
    rw [e]
    by_cases er : r = u
    · rw [er, upd_same, if_pos (by rfl)]
    · have e2 : sp_ud (sp_aft (sp_app g 3 t (gv_ab g u)) (gv_n g) (gv_wt g u) (gv_wv g u)) r = sp_ud (sp_app g 3 t (gv_ab g u)) r := rfl
      rw [upd_ne _ _ er, if_neg er, q12 r hr, e2, sp_ud_app hou (by omega)]
  exact k_A_touch hA hG3 hi (by omega) hls hf (fun A4 G4 hA4 hG4 => k_G_lsnOf hG4 (k_A_change hA4 hk (fun A5 hA5 => h A5 G4 hA5 hG4)))
end PN1
end
section
section PMA
variable {A : S_MA} {D : S_MD} {G : S_MG} {v : VP} {g : VG}
theorem sp_in_iff {p : Nat} : sp_in v p = true ↔ ∃ i, i < pv_m v ∧ pv_bt v i = p := by
  unfold sp_in
  rw [bx_iff]
  simp
theorem sp_in_not {p : Nat} (h : sp_in v p = false) : ∀ i, i < pv_m v → pv_bt v i ≠ p := by
  intro i hi q
  have : sp_in v p = true := sp_in_iff.mpr ⟨i, hi, q⟩
  rw [h] at this
  cases this
theorem iP.out (hi : iP v) {p : Nat} (hp : p < 8) (h : sp_in v p = false) : pv_dy v p = false ∧ pv_ls v p = pv_dls v p ∧ ∀ k, k / 4 = p → pv_th v k = pv_dth v k ∧ pv_va v k = pv_dva v k := hi.2.2.2.2.2.1 p hp (sp_in_not h)
theorem m_isThereNow {post : Int32 → Prop} {k : Nat} (hA : RMA A D v) (hi : iP v) (hk : k < 32) (h : post (b2i (pv_th v k))) : wp_M_isThereNow A D (jI k) post := by
  have hb : k < 2147483648 := by omega
  have hq : k / 4 < 2147483648 := by omega
  obtain ⟨h1, h2, h3, h4, h5, h6, h7, h8, h9, h10, h11⟩ := hA
  unfold wp_M_isThereNow
  rw [jI_div hb, jI_tn hb, jI_tn hq, h2 _ (by omega)]
  refine ⟨jI_in hq (by omega), ?_⟩
  cases q : sp_in v (k / 4) with
  | false =>
    rw [if_pos (by rfl), h9 k hk, ← ((hi.out (by omega) q).2.2 k rfl).1]
    exact ⟨jI_in hb hk, nar_b _, h⟩
  | true =>
    rw [if_neg (by decide), h5 k hk q]
    exact ⟨jI_in hb hk, nar_b _, h⟩
theorem m_valueNow {post : Int32 → Prop} {k : Nat} (hA : RMA A D v) (hi : iP v) (hk : k < 32) (h : post (pv_va v k)) : wp_M_valueNow A D (jI k) post := by
  have hb : k < 2147483648 := by omega
  have hq : k / 4 < 2147483648 := by omega
  obtain ⟨h1, h2, h3, h4, h5, h6, h7, h8, h9, h10, h11⟩ := hA
  unfold wp_M_valueNow
  rw [jI_div hb, jI_tn hb, jI_tn hq, h2 _ (by omega)]
  refine ⟨jI_in hq (by omega), ?_⟩
  cases q : sp_in v (k / 4) with
  | false =>
    rw [if_pos (by rfl), h10 k hk, ← ((hi.out (by omega) q).2.2 k rfl).2]
    exact ⟨jI_in hb hk, h⟩
  | true =>
    rw [if_neg (by decide), h6 k hk q]
    exact ⟨jI_in hb hk, h⟩
theorem m_lsnNow {post : Int32 → Prop} {p : Nat} (hA : RMA A D v) (hi : iP v) (hp : p < 8) (h : post (jI (pv_ls v p))) : wp_M_lsnNow A D (jI p) post := by
  have hb : p < 2147483648 := by omega
  obtain ⟨h1, h2, h3, h4, h5, h6, h7, h8, h9, h10, h11⟩ := hA
  unfold wp_M_lsnNow
  rw [jI_tn hb, h2 _ hp]
  refine ⟨jI_in hb hp, ?_⟩
  cases q : sp_in v p with
  | false =>
    rw [if_pos (by rfl), h11 p hp, ← (hi.out hp q).2.1]
    exact ⟨jI_in hb hp, h⟩
  | true =>
    rw [if_neg (by decide), h4 p hp q]
    exact ⟨jI_in hb hp, h⟩
theorem m_next {post : Int32 → Prop} {k : Nat} (hA : RMA A D v) (hi : iP v) (hk : k < 32) (h : post (jI (sp_nx v k))) : wp_M_next A D (jI k) post := by
  unfold wp_M_next
  rw [jI_s]
  refine lpi (fun n (s : Int32) => wp_M_next_L4 A D (fun x2 => post x2) n s) (fun d s => s = jI (k + 1 + d) ∧ ∀ x, k + 1 ≤ x → x < k + 1 + d → pv_th v x = false) (31 - k) ?_ ?_ 0 (by omega) (jI (k + 1)) ⟨rfl, fun x h1 h2 => by omega⟩
  · intro d hd s n hs hn
    obtain ⟨rfl, hs⟩ := hs
    have hb : k + 1 + d < 2147483648 := by omega
    rw [wp_M_next_L4, if_neg (by rw [show (32 : Int32) = jI 32 from rfl, jI_le (by omega) hb]; omega)]
    refine m_isThereNow hA hi (by omega) ?_
    cases ht : pv_th v (k + 1 + d) with
    | false =>
      rw [if_pos (by rfl)]
      refine hn _ ⟨jI_s _, fun x h1 h2 => ?_⟩
      by_cases hx : x = k + 1 + d
      · rw [hx, ht]
      · exact hs x h1 (by omega)
    | true =>
      rw [if_neg (by decide)]
      rw [← ff_eq (pv_th v) (31 - k) (k + 1) (k + 1 + d) (by omega) (by omega) hs (fun _ => ht)]
      exact h
  · intro s n hs
    obtain ⟨rfl, hs⟩ := hs
    have e : k + 1 + (31 - k) = 32 := by omega
    rw [e] at hs ⊢
    rw [wp_M_next_L4, if_pos (by decide)]
    have := ff_eq (pv_th v) (31 - k) (k + 1) 32 (by omega) (by omega) hs (fun q => by omega)
    unfold sp_nx at h
    rw [this] at h
    exact h
theorem RMG.fl (h : RMG G g) (f : Nat) : RMG (MG_flushed' G (jI f)) (gv_f' g f) := ⟨h.1, h.2.1, rfl, h.2.2.2⟩
theorem m_writes {post : S_MA → S_MD → S_MG → Prop} {p : Nat} (hA : RMA A D v) (hG : RMG G g) (hp : p < 8) (hin : sp_in v p = true) (hb1 : pv_ls v p < 2147483648) (hb2 : gv_f g < 2147483648)
    (h : ∀ A' D' G', RMA A' D' (sp_wrP v p) → RMG G' (gv_f' g (sp_wrF v (gv_f g) p)) → post A' D' G') : wp_M_writes A D G (jI p) post := by
  have hb : p < 2147483648 := by omega
  have hii : vp_in (jI p) 8 := jI_in hb hp
  obtain ⟨h1, h2, h3, h4, h5, h6, h7, h8, h9, h10, h11⟩ := hA
  unfold wp_M_writes
  rw [jI_tn hb, h4 p hp hin, hG.2.2.1]
  refine ⟨hii, jn_in (fun jk => jk (jI (sp_wrF v (gv_f g) p))) ?_ ?_⟩
  · have e4 : (4 : Int32) * jI p = jI (4 * p) := by rw [show (4 : Int32) = jI 4 from rfl, jI_m]
    rw [e4]
    refine lpi (fun n (s : Int32 × S_MD) => wp_M_writes_L34 A (jI p) _ n s.1 s.2) (fun k s => s.1 = jI (4 * p + k) ∧ (∀ x, x < 32 → MD_diskThere s.2 x = b2i (if 4 * p ≤ x ∧ x < 4 * p + k then pv_th v x else pv_dth v x)) ∧ (∀ x, x < 32 → MD_diskValue s.2 x = if 4 * p ≤ x ∧ x < 4 * p + k then pv_va v x else pv_dva v x) ∧ ∀ x, x < 8 → MD_diskLsn s.2 x = jI (pv_dls v x)) 4 ?_ ?_ 0 (by omega) (jI (4 * p), D) ⟨rfl, fun x hx => ?_, fun x hx => ?_, h11⟩
    · intro k hk s n hs hn
      obtain ⟨x, D⟩ := s
      obtain ⟨hx, g9, g10, g11⟩ := hs
      dsimp only at hx g9 g10 g11 ⊢
      subst hx
      have hb : 4 * p + k < 2147483648 := by omega
      have hii : vp_in (jI (4 * p + k)) 32 := jI_in hb (by omega)
      have e : (4 * p + k) / 4 = p := by omega
      rw [wp_M_writes_L34, e4, if_neg (by rw [show (4 : Int32) = jI 4 from rfl, jI_a, jI_le (by omega) hb]; omega), jI_tn hb, h5 _ (by omega) (by rw [e]; exact hin), h6 _ (by omega) (by rw [e]; exact hin), nar_b, jI_s]
      refine ⟨hii, hii, hii, hii, hn (_, _) ⟨rfl, fun x hx => ?_, fun x hx => ?_, g11⟩⟩
      · show upd (MD_diskThere D) (4 * p + k) (b2i (pv_th v (4 * p + k))) x = b2i (if 4 * p ≤ x ∧ x < 4 * p + (k + 1) then pv_th v x else pv_dth v x)
        by_cases hxk : x = 4 * p + k
        · rw [hxk, upd_same, if_pos (by omega)]
        · rw [upd_ne _ _ hxk, g9 x hx]
          by_cases hc : 4 * p ≤ x ∧ x < 4 * p + k
          · rw [if_pos hc, if_pos (by omega)]
          · rw [if_neg hc, if_neg (by omega)]
      · show upd (MD_diskValue D) (4 * p + k) (pv_va v (4 * p + k)) x = if 4 * p ≤ x ∧ x < 4 * p + (k + 1) then pv_va v x else pv_dva v x
        by_cases hxk : x = 4 * p + k
        · rw [hxk, upd_same, if_pos (by omega)]
        · rw [upd_ne _ _ hxk, g10 x hx]
          by_cases hc : 4 * p ≤ x ∧ x < 4 * p + k
          · rw [if_pos hc, if_pos (by omega)]
          · rw [if_neg hc, if_neg (by omega)]
    · intro s n hs
      obtain ⟨x, D⟩ := s
      obtain ⟨hx, g9, g10, g11⟩ := hs
      dsimp only at hx g9 g10 g11 ⊢
      subst hx
      rw [wp_M_writes_L34, e4, if_pos (by rw [show (4 : Int32) = jI 4 from rfl, jI_a, jI_le (by omega) (by omega)]; omega)]
      refine ⟨hii, hii, hii, h _ _ _ ⟨h1, h2, ?_, h4, h5, h6, h7, h8, ?_, ?_, ?_⟩ (hG.fl _)⟩
      · rw [nar_0]
        exact up_k b2i h3 rfl
      · intro x hx
        show MD_diskThere D x = b2i (if x / 4 = p then pv_th v x else pv_dth v x)
        rw [g9 x hx]
        by_cases hc : x / 4 = p
        · rw [if_pos hc, if_pos (by omega)]
        · rw [if_neg hc, if_neg (by omega)]
      · intro x hx
        show MD_diskValue D x = if x / 4 = p then pv_va v x else pv_dva v x
        rw [g10 x hx]
        by_cases hc : x / 4 = p
        · rw [if_pos hc, if_pos (by omega)]
        · rw [if_neg hc, if_neg (by omega)]
      · exact up_k jI g11 rfl
    · rw [if_neg (by omega)]
      exact h9 x hx
    · rw [if_neg (by omega)]
      exact h10 x hx
  · intro jk hjk
    unfold sp_wrF at hjk
    by_cases hle : pv_ls v p ≤ gv_f g
    · rw [if_pos ((jI_le hb1 hb2).mpr hle)]
      rw [if_pos hle] at hjk
      exact hjk
    · rw [if_neg (fun q => hle ((jI_le hb1 hb2).mp q))]
      rw [if_neg hle] at hjk
      exact ⟨hii, hjk⟩
theorem m_become {post : S_MA → Prop} {k lsn : Nat} {now : Bool} {x x' : Int32} (hA : RMA A D v) (hk : k < 32) (hx : now = false → x = 0) (hx' : now = true → x' = x) (h : ∀ A', RMA A' D (sp_ch v k now x lsn) → post A') : wp_M_become A (jI k) (b2i now) x' (jI lsn) post := by
  have hb : k < 2147483648 := by omega
  have hq : k / 4 < 2147483648 := by omega
  have hki : vp_in (jI k) 32 := jI_in hb hk
  have hqi : vp_in (jI (k / 4)) 8 := jI_in hq (by omega)
  obtain ⟨h1, h2, h3, h4, h5, h6, h7, h8, h9, h10, h11⟩ := hA
  unfold wp_M_become
  rw [jI_div hb, jI_tn hb, jI_tn hq, nar_b, nar_1]
  refine ⟨hki, jn_in (fun jk => jk x) ?_ ?_⟩
  · refine ⟨hki, hqi, hqi, h _ ⟨h1, h2, up_k b2i h3 rfl, ?_, ?_, ?_, h7, h8, h9, h10, h11⟩⟩
    · intro p hp hin
      have hin : sp_in v p = true := hin
      show upd (MA_lsn A) (k / 4) (jI lsn) p = jI (updN (pv_ls v) (k / 4) lsn p)
      by_cases e : p = k / 4
      · rw [e, upd_same, updN_same]
      · rw [upd_ne _ _ e, updN_ne _ _ e]
        exact h4 p hp hin
    · intro p hp hin
      have hin : sp_in v (p / 4) = true := hin
      show upd (MA_there A) k (b2i now) p = b2i (updN (pv_th v) k now p)
      by_cases e : p = k
      · rw [e, upd_same, updN_same]
      · rw [upd_ne _ _ e, updN_ne _ _ e]
        exact h5 p hp hin
    · intro p hp hin
      have hin : sp_in v (p / 4) = true := hin
      show upd (MA_value A) k x p = updN (pv_va v) k x p
      by_cases e : p = k
      · rw [e, upd_same, updN_same]
      · rw [upd_ne _ _ e, updN_ne _ _ e]
        exact h6 p hp hin
  · intro jk hjk
    cases now with
    | false =>
      rw [if_pos (by rfl)]
      rw [hx rfl] at hjk
      exact hjk
    | true =>
      rw [if_neg (by decide), hx' rfl]
      exact hjk
end PMA
end
section
section PMA2
variable {A : S_MA} {D : S_MD} {G : S_MG} {v : VP} {g : VG}
theorem bc_inj {bt : Nat → Nat} : ∀ m, (∀ i, i < m → bt i < 8) → (∀ i j, i < m → j < m → bt i = bt j → i = j) → bc 8 (fun p => bx m (fun i => bt i == p)) = m := by
  intro m
  induction m with
  | zero =>
    intro _ _
    exact bc_zero.mpr (fun k _ => rfl)
  | succ m ih =>
    intro h1 h2
    have e := ih (fun i hi => h1 i (by omega)) (fun i j hi hj => h2 i j (by omega) (by omega))
    rw [bc_one (x := bt m) (P := fun p => bx m (fun i => bt i == p)) (h1 m (by omega)) ?_ ?_ ?_, e]
    · cases z : bx m (fun i => bt i == bt m) with
      | false => rfl
      | true =>
        obtain ⟨i, hi, hz⟩ := bx_iff.mp z
        have := h2 i m (by omega) (by omega) (by simpa using hz)
        omega
    · show (bx m (fun i => bt i == bt m) || bt m == bt m) = true
      simp
    · intro k _ hk
      show bx m (fun i => bt i == k) = (bx m (fun i => bt i == k) || bt m == k)
      have : (bt m == k) = false := by
        rw [beq_eq_false_iff_ne]
        exact fun z => hk z.symm
      rw [this, Bool.or_false]
theorem sp_in_fin {w : VP} {q p x : Nat} (hq : q < pv_m w) : sp_in (sp_fin v w q p) x = true ↔ p = x ∨ ∃ i, i < pv_m w ∧ i ≠ q ∧ pv_bt w i = x := by
  rw [sp_in_iff]
  show (∃ i, i < pv_m w ∧ sp_sh (pv_bt w) q p i = x) ↔ _
  constructor
  · rintro ⟨i, hi, e⟩
    unfold sp_sh at e
    by_cases h0 : i = 0
    · rw [if_pos h0] at e
      exact Or.inl e
    · rw [if_neg h0] at e
      by_cases h1 : i ≤ q
      · rw [if_pos h1] at e
        exact Or.inr ⟨i - 1, by omega, by omega, e⟩
      · rw [if_neg h1] at e
        exact Or.inr ⟨i, hi, by omega, e⟩
  · rintro (e | ⟨i, hi, hne, e⟩)
    · refine ⟨0, by omega, ?_⟩
      unfold sp_sh
      rw [if_pos (by rfl)]
      exact e
    · by_cases h1 : i < q
      · refine ⟨i + 1, by omega, ?_⟩
        unfold sp_sh
        rw [if_neg (by omega), if_pos (by omega)]
        exact e
      · refine ⟨i, hi, ?_⟩
        unfold sp_sh
        rw [if_neg (by omega), if_neg (by omega)]
        exact e
theorem m_touch26 {x : Int32} {K : Int32 → Int32 → Prop} (hi : iP v) (h2 : ∀ p, p < 8 → MA_inFrame A p = b2i (sp_in v p)) (h8 : ∀ p, p < 8 → MA_touched A p = jI (pv_tt v p)) (htk : pv_tk v < 2147483648)
    (h : ∀ o : Int32, (0 < pv_m v → o = jI (pv_bt v (pv_m v - 1))) → K (jI (pv_m v)) o) : ∃ e, wp_M_touch_L26 A x K e 0 (-1) 0 := by
  obtain ⟨i1, i2, i3, i4, i5, i6, i7, i8, i9, i10⟩ := hi
  have hb : ∀ p, sp_in v p = true → pv_tt v p < 2147483648 := by
    intro p hp
    obtain ⟨i, h1, e⟩ := sp_in_iff.mp hp
    have := i10 i h1
    rw [e] at this
    omega
  have hlt : ∀ p, sp_in v p = true → p < 8 := by
    intro p hp
    obtain ⟨i, h1, e⟩ := sp_in_iff.mp hp
    rw [← e]
    exact i4 i h1
  refine lpi (fun n (s : Int32 × Int32 × Int32) => wp_M_touch_L26 A x K n s.1 s.2.1 s.2.2) (fun q s => s.1 = jI (bc q (sp_in v)) ∧ s.2.2 = jI q ∧ ((s.2.1 = -1 ∧ ∀ y, y < q → sp_in v y = false) ∨ ∃ o, s.2.1 = jI o ∧ sp_in v o = true ∧ ∀ y, y < q → sp_in v y = true → pv_tt v o ≤ pv_tt v y)) 8 ?_ ?_ 0 (by omega) (0, -1, 0) ⟨rfl, rfl, Or.inl ⟨rfl, fun y hy => by omega⟩⟩
  · intro q hq s n hs hn
    obtain ⟨u, o, z⟩ := s
    obtain ⟨e1, e2, hs⟩ := hs
    dsimp only at e1 e2 hs ⊢
    subst e1
    subst e2
    have hqb : q < 2147483648 := by omega
    have hii : vp_in (jI q) 8 := jI_in hqb hq
    have hbs : bc (q + 1) (sp_in v) = bc q (sp_in v) + (if sp_in v q then 1 else 0) := rfl
    rw [wp_M_touch_L26, if_neg (by rw [show (8 : Int32) = jI 8 from rfl, jI_le (by omega) hqb]; omega), jI_tn hqb, h2 q hq, h8 q hq]
    refine ⟨hii, jn_in (fun jk => jk (b2i (sp_in v q))) ?_ ?_⟩
    · refine ⟨hii, ?_⟩
      cases hin : sp_in v q with
      | false =>
        rw [if_pos (by rfl), jI_s, b2i_f, Int32.add_zero]
        refine hn (_, _, _) ⟨?_, rfl, ?_⟩
        · rw [hbs, hin]
          rfl
        · dsimp only
          rcases hs with ⟨ho, hs⟩ | ⟨o', ho, h1, hs⟩
          · refine Or.inl ⟨ho, fun y hy => ?_⟩
            by_cases e : y = q
            · rw [e, hin]
            · exact hs y (by omega)
          · refine Or.inr ⟨o', ho, h1, fun y hy hy2 => ?_⟩
            by_cases e : y = q
            · rw [e, hin] at hy2
              cases hy2
            · exact hs y (by omega) hy2
      | true =>
        have hu : jI (bc q (sp_in v)) + b2i true = jI (bc (q + 1) (sp_in v)) := by
          rw [hbs, hin, b2i_t, jI_s]
          rfl
        rw [if_neg (by decide), hu, jI_s]
        rcases hs with ⟨ho, hs⟩ | ⟨o', ho, h1, hs⟩
        · subst ho
          rw [if_pos (by decide)]
          refine hn (_, _, _) ⟨rfl, rfl, Or.inr ⟨q, rfl, hin, fun y hy hy2 => ?_⟩⟩
          by_cases e : y = q
          · rw [e]
            exact Nat.le_refl _
          · rw [hs y (by omega)] at hy2
            cases hy2
        · subst ho
          have ho8 := hlt o' h1
          have hob : o' < 2147483648 := by omega
          rw [if_neg (jI_nn hob), jI_tn hob, h8 o' ho8, ite_iff' (jI_le (hb _ h1) (hb _ hin))]
          refine ⟨hii, jI_in hob ho8, ?_⟩
          by_cases hle : pv_tt v o' ≤ pv_tt v q
          · rw [if_pos hle]
            refine hn (_, _, _) ⟨rfl, rfl, Or.inr ⟨o', rfl, h1, fun y hy hy2 => ?_⟩⟩
            by_cases e : y = q
            · rw [e]
              exact hle
            · exact hs y (by omega) hy2
          · rw [if_neg hle]
            refine hn (_, _, _) ⟨rfl, rfl, Or.inr ⟨q, rfl, hin, fun y hy hy2 => ?_⟩⟩
            by_cases e : y = q
            · rw [e]
              exact Nat.le_refl _
            · have := hs y (by omega) hy2
              omega
    · intro jk hjk
      cases hin : sp_in v q with
      | false =>
        rw [if_pos (by rfl)]
        rw [hin] at hjk
        exact hjk
      | true =>
        rw [if_neg (by decide)]
        rw [hin] at hjk
        exact hjk
  · intro s n hs
    obtain ⟨u, o, z⟩ := s
    obtain ⟨e1, e2, hs⟩ := hs
    dsimp only at e1 e2 hs ⊢
    subst e1
    subst e2
    have hm : bc 8 (sp_in v) = pv_m v := bc_inj (pv_m v) i4 i5
    rw [wp_M_touch_L26, if_pos (by decide), hm]
    refine h o (fun hpos => ?_)
    have hlast : sp_in v (pv_bt v (pv_m v - 1)) = true := sp_in_iff.mpr ⟨_, by omega, rfl⟩
    rcases hs with ⟨-, hs⟩ | ⟨o', ho, h1, hs⟩
    · rw [hs _ (hlt _ hlast)] at hlast
      cases hlast
    · rw [ho]
      obtain ⟨i, hi, e⟩ := sp_in_iff.mp h1
      by_cases hil : i = pv_m v - 1
      · rw [← e, hil]
      · have h9 := i9 i (pv_m v - 1) (by omega) (by omega)
        have h10 := hs _ (hlt _ hlast) hlast
        rw [e] at h9
        omega
theorem m_touch128 {K : S_MA → Prop} {p : Nat} (hp : p < 8) (h9 : ∀ k, k < 32 → MD_diskThere D k = b2i (pv_dth v k)) (h10 : ∀ k, k < 32 → MD_diskValue D k = pv_dva v k)
    (h : ∀ th va : Nat → Int32, (∀ x, x < 32 → th x = if x / 4 = p then b2i (pv_dth v x) else MA_there A x) → (∀ x, x < 32 → va x = if x / 4 = p then pv_dva v x else MA_value A x) → K (MA_value' (MA_there' A th) va)) : ∃ e, wp_M_touch_L128 D (jI p) K e (4 * jI p) A := by
  have e4 : (4 : Int32) * jI p = jI (4 * p) := by rw [show (4 : Int32) = jI 4 from rfl, jI_m]
  rw [e4]
  refine lpi (fun n (s : Int32 × S_MA) => wp_M_touch_L128 D (jI p) K n s.1 s.2) (fun k s => s.1 = jI (4 * p + k) ∧ ∃ th va : Nat → Int32, s.2 = MA_value' (MA_there' A th) va ∧ (∀ x, x < 32 → th x = if 4 * p ≤ x ∧ x < 4 * p + k then b2i (pv_dth v x) else MA_there A x) ∧ ∀ x, x < 32 → va x = if 4 * p ≤ x ∧ x < 4 * p + k then pv_dva v x else MA_value A x) 4 ?_ ?_ 0 (by omega) (jI (4 * p), A) ⟨rfl, MA_there A, MA_value A, rfl, fun x hx => ?_, fun x hx => ?_⟩
  · intro k hk s n hs hn
    obtain ⟨x, A'⟩ := s
    obtain ⟨hx, th, va, ha, g1, g2⟩ := hs
    dsimp only at hx ha ⊢
    subst hx
    subst ha
    have hb : 4 * p + k < 2147483648 := by omega
    have hii : vp_in (jI (4 * p + k)) 32 := jI_in hb (by omega)
    rw [wp_M_touch_L128, e4, if_neg (by rw [show (4 : Int32) = jI 4 from rfl, jI_a, jI_le (by omega) hb]; omega), jI_tn hb, h9 _ (by omega), h10 _ (by omega), nar_b, jI_s]
    refine ⟨hii, hii, hii, hii, hn (_, _) ⟨rfl, upd th (4 * p + k) (b2i (pv_dth v (4 * p + k))), upd va (4 * p + k) (pv_dva v (4 * p + k)), rfl, fun x hx => ?_, fun x hx => ?_⟩⟩
    · by_cases hxk : x = 4 * p + k
      · rw [hxk, upd_same, if_pos (by omega)]
      · rw [upd_ne _ _ hxk, g1 x hx]
        by_cases hc : 4 * p ≤ x ∧ x < 4 * p + k
        · rw [if_pos hc, if_pos (by omega)]
        · rw [if_neg hc, if_neg (by omega)]
    · by_cases hxk : x = 4 * p + k
      · rw [hxk, upd_same, if_pos (by omega)]
      · rw [upd_ne _ _ hxk, g2 x hx]
        by_cases hc : 4 * p ≤ x ∧ x < 4 * p + k
        · rw [if_pos hc, if_pos (by omega)]
        · rw [if_neg hc, if_neg (by omega)]
  · intro s n hs
    obtain ⟨x, A'⟩ := s
    obtain ⟨hx, th, va, ha, g1, g2⟩ := hs
    dsimp only at hx ha ⊢
    subst hx
    subst ha
    rw [wp_M_touch_L128, e4, if_pos (by rw [show (4 : Int32) = jI 4 from rfl, jI_a, jI_le (by omega) (by omega)]; omega)]
    refine h th va (fun x hx => ?_) (fun x hx => ?_)
    · rw [g1 x hx]
      by_cases hc : x / 4 = p
      · rw [if_pos hc, if_pos (by omega)]
      · rw [if_neg hc, if_neg (by omega)]
    · rw [g2 x hx]
      by_cases hc : x / 4 = p
      · rw [if_pos hc, if_pos (by omega)]
      · rw [if_neg hc, if_neg (by omega)]
  · rw [if_neg (by omega)]
  · rw [if_neg (by omega)]
theorem m_touch {post : S_MA → S_MD → S_MG → Prop} {p : Nat} (hA : RMA A D v) (hG : RMG G g) (hi : iP v) (hp : p < 8) (hls : ∀ q, q < 8 → pv_ls v q < 2147483648) (hf : gv_f g < 2147483648) (htk : pv_tk v + 1 < 2147483648)
    (h : ∀ A' D' G', RMA A' D' (sp_tP v p) → RMG G' (gv_f' g (sp_tF v (gv_f g) p)) → post A' D' G') : wp_M_touch A D G (jI p) post := by
  have hb : p < 2147483648 := by omega
  have hii : vp_in (jI p) 8 := jI_in hb hp
  have hi0 := hi
  obtain ⟨i1, i2, i3, i4, i5, i6, i7, i8, i9, i10⟩ := hi0
  have hA0 := hA
  obtain ⟨h1, h2, h3, h4, h5, h6, h7, h8, h9, h10, h11⟩ := hA0
  unfold wp_M_touch
  rw [jI_tn hb, h2 p hp, h7, jI_s]
  refine ⟨hii, ?_⟩
  cases hin : sp_in v p with
  | true =>
    rw [if_neg (by decide)]
    obtain ⟨i0, hi0, e0⟩ := sp_in_iff.mp hin
    have hpl : sp_pl v p = i0 := ff_eq _ _ _ _ (by omega) (by omega) (fun x _ hx => by
      rw [beq_eq_false_iff_ne]
      intro z
      have := i5 x i0 (by omega) hi0 (by rw [z, e0])
      omega) (fun _ => by simpa using e0)
    have hsp : sp_tP v p = sp_fin v v i0 p := by
      unfold sp_tP
      rw [hpl, if_neg (by omega), if_neg (by omega)]
    have hsf : sp_tF v (gv_f g) p = gv_f g := by
      unfold sp_tF
      rw [if_neg (fun z => by omega)]
    have hinn : ∀ x, sp_in (sp_fin v v i0 p) x = sp_in v x := by
      intro x
      rw [Bool.eq_iff_iff, sp_in_fin hi0, sp_in_iff]
      constructor
      · rintro (e | ⟨i, hi, _, e⟩)
        · exact ⟨i0, hi0, by rw [e0, e]⟩
        · exact ⟨i, hi, e⟩
      · rintro ⟨i, hi, e⟩
        by_cases z : i = i0
        · rw [z, e0] at e
          exact Or.inl e
        · exact Or.inr ⟨i, hi, z, e⟩
    refine ⟨hii, h _ _ _ ?_ ?_⟩
    · rw [hsp]
      refine ⟨h1, fun x hx => ?_, h3, fun x hx hx2 => h4 x hx ?_, fun x hx hx2 => h5 x hx ?_, fun x hx hx2 => h6 x hx ?_, rfl, up_k jI h8 rfl, h9, h10, h11⟩
      · rw [hinn x]
        exact h2 x hx
      · rw [hinn x] at hx2
        exact hx2
      · rw [hinn] at hx2
        exact hx2
      · rw [hinn] at hx2
        exact hx2
    · rw [hsf]
      exact hG
  | false =>
    rw [if_pos (by rfl)]
    have hout := hi.out hp hin
    have hpl : sp_pl v p = pv_m v := ff_eq _ _ _ _ (by omega) (by omega) (fun x _ hx => by
      rw [beq_eq_false_iff_ne]
      exact sp_in_not hin x hx) (fun z => by omega)
    refine m_touch26 hi h2 h8 (by omega) (fun o ho => ?_)
    refine jn_in (fun jk => ∀ (A' : S_MA) (D' : S_MD) (G' : S_MG) (w : VP) (q : Nat) (S : Nat → Bool), sp_tP v p = sp_fin v w q p → (∀ x, sp_in (sp_fin v w q p) x = (decide (x = p) || S x)) → S p = false → (∀ k, k / 4 = p → pv_th w k = pv_dth w k ∧ pv_va w k = pv_dva w k) → pv_dy w p = false → pv_ls w p = pv_dls w p →
      MA_frames A' = jI (pv_F w) → (∀ x, x < 8 → MA_inFrame A' x = b2i (S x)) → (∀ x, x < 8 → MA_dirty A' x = b2i (pv_dy w x)) → (∀ x, x < 8 → S x = true → MA_lsn A' x = jI (pv_ls w x)) → (∀ k, k < 32 → S (k / 4) = true → MA_there A' k = b2i (pv_th w k)) → (∀ k, k < 32 → S (k / 4) = true → MA_value A' k = pv_va w k) → MA_clock A' = jI (pv_tk v + 1) → (∀ x, x < 8 → MA_touched A' x = jI (pv_tt v x)) → (∀ k, k < 32 → MD_diskThere D' k = b2i (pv_dth w k)) → (∀ k, k < 32 → MD_diskValue D' k = pv_dva w k) → (∀ x, x < 8 → MD_diskLsn D' x = jI (pv_dls w x)) → RMG G' (gv_f' g (sp_tF v (gv_f g) p)) → jk A' D' G') ?_ ?_
    · intro A' D' G' w q S es hS hSp hth hdy hlsn g1 g2 g3 g4 g5 g6 g7 g8 g9 g10 g11 hG'
      refine m_touch128 (v := w) hp g9 g10 (fun th va hth' hva' => ⟨hii, hii, hii, hii, hii, h _ _ _ ?_ hG'⟩)
      rw [es]
      refine ⟨g1, fun x hx => ?_, fun x hx => ?_, fun x hx hx2 => ?_, fun x hx hx2 => ?_, fun x hx hx2 => ?_, g7, ?_, g9, g10, g11⟩
      · rw [hS x, nar_1]
        show upd (MA_inFrame A') p (b2i true) x = _
        by_cases e : x = p
        · rw [e, upd_same]
          simp
        · rw [upd_ne _ _ e, g2 x hx]
          simp [e]
      · rw [nar_0]
        show upd (MA_dirty A') p (b2i false) x = b2i (pv_dy w x)
        by_cases e : x = p
        · rw [e, upd_same, hdy]
        · rw [upd_ne _ _ e, g3 x hx]
      · rw [hS x] at hx2
        show upd (MA_lsn A') p (MD_diskLsn D' p) x = jI (pv_ls w x)
        by_cases e : x = p
        · rw [e, upd_same, g11 p hp, hlsn]
        · rw [upd_ne _ _ e]
          exact g4 x hx (by simpa [e] using hx2)
      · rw [hS] at hx2
        show th x = b2i (pv_th w x)
        rw [hth' x hx]
        by_cases e : x / 4 = p
        · rw [if_pos e, (hth x e).1]
        · rw [if_neg e]
          exact g5 x hx (by simpa [e] using hx2)
      · rw [hS] at hx2
        show va x = pv_va w x
        rw [hva' x hx]
        by_cases e : x / 4 = p
        · rw [if_pos e, (hth x e).2]
        · rw [if_neg e]
          exact g6 x hx (by simpa [e] using hx2)
      · show ∀ x, x < 8 → upd (MA_touched A') p (MA_clock A') x = jI (updN (pv_tt v) p (pv_tk v + 1) x)
        rw [g7]
        exact up_k jI g8 rfl
    · intro jk hjk
      rw [h1, ite_iff' (jI_eq (by omega) (by omega))]
      by_cases hF : pv_m v = pv_F v
      · rw [if_pos hF]
        obtain ⟨o', hob, hoe⟩ : ∃ o', o' < 8 ∧ o' = pv_bt v (pv_m v - 1) := ⟨_, i4 _ (by omega), rfl⟩
        have hoi : sp_in v o' = true := sp_in_iff.mpr ⟨_, by omega, hoe.symm⟩
        have hop : o' ≠ p := by
          intro z
          rw [z, hin] at hoi
          cases hoi
        rw [ho (by omega), ← hoe]
        have hobb : o' < 2147483648 := by omega
        have hoii : vp_in (jI o') 8 := jI_in hobb hob
        have hoe2 : pv_bt v (pv_F v - 1) = o' := by rw [← hF, hoe]
        rw [jI_tn hobb, h3 o' hob, nar_0]
        refine ⟨hoii, ?_⟩
        have hset : ∀ w : VP, pv_m w = pv_m v → pv_bt w = pv_bt v → ∀ x, sp_in (sp_fin v w (pv_F v - 1) p) x = (decide (x = p) || (sp_in v x && !decide (x = o'))) := by
          intro w hm hbt x
          rw [Bool.eq_iff_iff, sp_in_fin (by omega), hm, hbt]
          simp only [Bool.or_eq_true, decide_eq_true_eq, Bool.and_eq_true, Bool.not_eq_true', decide_eq_false_iff_not, sp_in_iff]
          constructor
          · rintro (e | ⟨i, hi, hne, e⟩)
            · exact Or.inl e.symm
            · refine Or.inr ⟨⟨i, hi, e⟩, fun z => hne ?_⟩
              exact i5 i (pv_F v - 1) hi (by omega) (by rw [e, z, hoe2])
          · rintro (e | ⟨⟨i, hi, e⟩, hne⟩)
            · exact Or.inl e.symm
            · refine Or.inr ⟨i, hi, fun z => hne ?_, e⟩
              rw [← e, z, hoe2]
        have hSp : (sp_in v p && !decide (p = o')) = false := by rw [hin]; rfl
        have hS1 : ∀ x, (sp_in v x && !decide (x = o')) = true → sp_in v x = true := fun x hx => by simp at hx; exact hx.1
        have hfr : ∀ x, x < 8 → upd (MA_inFrame A) o' (b2i false) x = b2i (sp_in v x && !decide (x = o')) := by
          intro x hx
          by_cases e : x = o'
          · rw [e, upd_same]
            simp
          · rw [upd_ne _ _ e, h2 x hx]
            simp [e]
        cases hd : pv_dy v o' with
        | false =>
          rw [if_pos (by rfl)]
          have es : sp_tP v p = sp_fin v v (pv_F v - 1) p := by
            unfold sp_tP
            rw [hpl, if_pos hF, hoe2, hd, if_neg (by decide)]
          have ef : sp_tF v (gv_f g) p = gv_f g := by
            unfold sp_tF
            rw [hoe2, hd, if_neg (fun z => by cases z.2)]
          refine ⟨hoii, hjk _ _ _ v (pv_F v - 1) _ es (hset v rfl rfl) hSp hout.2.2 hout.1 hout.2.1 h1 hfr h3 (fun x hx hx2 => h4 x hx (hS1 x hx2)) (fun x hx hx2 => h5 x hx (hS1 _ hx2)) (fun x hx hx2 => h6 x hx (hS1 _ hx2)) rfl h8 h9 h10 h11 ?_⟩
          rw [ef]
          exact hG
        | true =>
          rw [if_neg (by decide)]
          have hA1 : RMA (MA_clock' A (jI (pv_tk v + 1))) D (pv_tk' v (pv_tk v + 1)) := ⟨h1, h2, h3, h4, h5, h6, rfl, h8, h9, h10, h11⟩
          refine m_writes hA1 hG hob hoi (hls o' hob) hf (fun A2 D2 G2 hA2 hG2 => ?_)
          obtain ⟨k1, k2, k3, k4, k5, k6, k7, k8, k9, k10, k11⟩ := hA2
          have es : sp_tP v p = sp_fin v (sp_wrP v o') (pv_F v - 1) p := by
            unfold sp_tP
            rw [hpl, if_pos hF, hoe2, hd, if_pos (by rfl)]
          have ef : sp_tF v (gv_f g) p = sp_wrF v (gv_f g) o' := by
            unfold sp_tF
            rw [hoe2, hpl, if_pos ⟨hF, hd⟩]
          refine ⟨hoii, hjk _ _ _ (sp_wrP v o') (pv_F v - 1) _ es (hset _ rfl rfl) hSp (fun k hk => ?_) ?_ ?_ k1 (fun x hx => ?_) k3 (fun x hx hx2 => k4 x hx (hS1 x hx2)) (fun x hx hx2 => k5 x hx (hS1 _ hx2)) (fun x hx hx2 => k6 x hx (hS1 _ hx2)) k7 k8 k9 k10 k11 ?_⟩
          · show pv_th v k = (if k / 4 = o' then pv_th v k else pv_dth v k) ∧ pv_va v k = (if k / 4 = o' then pv_va v k else pv_dva v k)
            rw [if_neg (by omega), if_neg (by omega)]
            exact hout.2.2 k hk
          · show updN (pv_dy v) o' false p = false
            rw [updN_ne _ _ (fun z => hop z.symm)]
            exact hout.1
          · show pv_ls v p = updN (pv_dls v) o' (pv_ls v o') p
            rw [updN_ne _ _ (fun z => hop z.symm)]
            exact hout.2.1
          · show upd (MA_inFrame A2) o' (b2i false) x = b2i (sp_in v x && !decide (x = o'))
            by_cases e : x = o'
            · rw [e, upd_same]
              simp
            · rw [upd_ne _ _ e, k2 x hx]
              show b2i (sp_in v x) = _
              simp [e]
          · rw [ef]
            exact hG2
      · rw [if_neg hF]
        have es : sp_tP v p = sp_fin v (pv_m' v (pv_m v + 1)) (pv_m v) p := by
          unfold sp_tP
          rw [hpl, if_neg hF, if_pos (by rfl)]
        have ef : sp_tF v (gv_f g) p = gv_f g := by
          unfold sp_tF
          rw [hpl, if_neg (fun z => hF z.1)]
        refine hjk _ _ _ (pv_m' v (pv_m v + 1)) (pv_m v) (sp_in v) es (fun x => ?_) hin hout.2.2 hout.1 hout.2.1 h1 h2 h3 h4 h5 h6 rfl h8 h9 h10 h11 ?_
        · rw [Bool.eq_iff_iff, sp_in_fin (show pv_m v < pv_m v + 1 by omega)]
          simp only [Bool.or_eq_true, decide_eq_true_eq, sp_in_iff]
          show (p = x ∨ ∃ i, i < pv_m v + 1 ∧ i ≠ pv_m v ∧ pv_bt v i = x) ↔ _
          constructor
          · rintro (e | ⟨i, hi, hne, e⟩)
            · exact Or.inl e.symm
            · exact Or.inr ⟨i, by omega, e⟩
          · rintro (e | ⟨i, hi, e⟩)
            · exact Or.inl e.symm
            · exact Or.inr ⟨i, by omega, by omega, e⟩
        · rw [ef]
          exact hG
end PMA2
end
section
section PMT
variable {T : S_MT} {tv : VT} {G : S_MG} {g : VG} {t : Nat}
theorem pI_neg {o : Option Nat} {c : Nat} (hc : c < 2147483648) (h : ∀ x, o = some x → x < c) : pI o < 0 ↔ o = none := by
  cases o with
  | none => exact ⟨fun _ => rfl, fun _ => by decide⟩
  | some x => exact ⟨fun q => absurd q (jI_nn (Nat.lt_trans (h x rfl) hc)), fun q => by cases q⟩
theorem m_is {post : Int32 → Prop} (hT : RMT T tv) (hv : iT tv) (ht : t < 2147483648) (h : post (b2i (decide (t < tv_c tv)))) : wp_M_is T (jI t) post := by
  have hc := hv.1
  unfold wp_M_is
  rw [if_neg (jI_nn ht), hT.1, ite_iff' (jI_le (by omega) ht)]
  by_cases q : t < tv_c tv
  · rw [if_neg (by omega)]
    rw [decide_eq_true q] at h
    exact h
  · rw [if_pos (by omega)]
    rw [decide_eq_false q] at h
    exact h
theorem m_is_neg {post : Int32 → Prop} {a : Int32} (ha : a < 0) (h : post 0) : wp_M_is T a post := by
  unfold wp_M_is
  rw [if_pos ha]
  exact h
theorem m_active {post : Int32 → Prop} (hT : RMT T tv) (hv : iT tv) (ht : t < 2147483648) (h : post (b2i (sp_act tv t))) : wp_M_active T (jI t) post := by
  have hc := hv.1
  unfold wp_M_active
  refine m_is hT hv ht ?_
  unfold sp_act at h
  by_cases q : t < tv_c tv
  · rw [decide_eq_true q] at h ⊢
    rw [if_neg (by decide), jI_tn ht, hT.2.1 t q]
    refine ⟨jI_in ht (by omega), ?_⟩
    by_cases e : tv_st tv t = 1
    · rw [if_pos e]
      rw [decide_eq_true e] at h
      exact h
    · rw [if_neg e]
      rw [decide_eq_false e] at h
      exact h
  · rw [decide_eq_false q] at h ⊢
    rw [if_pos (by rfl)]
    exact h
theorem m_live {post : Int32 → Prop} (hT : RMT T tv) (hv : iT tv) (ht : t < tv_c tv) (h : post (b2i (sp_liv tv t))) : wp_M_live T (jI t) post := by
  have hc := hv.1
  have hb : t < 2147483648 := by omega
  have hii : vp_in (jI t) 60 := jI_in hb (by omega)
  unfold wp_M_live
  unfold sp_liv at h
  rw [decide_eq_true ht] at h
  rw [jI_tn hb, hT.2.1 t ht]
  refine ⟨hii, ?_⟩
  by_cases e : tv_st tv t = 1
  · rw [if_pos e]
    rw [decide_eq_true e] at h
    exact h
  · rw [if_neg e]
    rw [decide_eq_false e] at h
    refine ⟨hii, ?_⟩
    by_cases e2 : tv_st tv t = 2
    · rw [if_pos e2]
      rw [decide_eq_true e2] at h
      exact h
    · rw [if_neg e2]
      rw [decide_eq_false e2] at h
      exact h
theorem m_lives {post : Int32 → Prop} (hT : RMT T tv) (hv : iT tv) (h : post (jI (sp_lives tv))) : wp_M_lives T post := by
  have hc := hv.1
  unfold wp_M_lives
  refine lpi (fun n (s : Int32 × Int32) => wp_M_lives_L4 T (fun x2 => post x2) n s.1 s.2) (fun k s => s = (jI (bc k (sp_liv tv)), jI k)) (tv_c tv) ?_ ?_ 0 (by omega) (0, 0) rfl
  · intro k hk s n hs hn
    subst hs
    have hb : k < 2147483648 := by omega
    dsimp only
    rw [wp_M_lives_L4, hT.1, if_neg (by rw [jI_le (by omega) hb]; omega)]
    refine m_live hT hv hk ?_
    have hs : bc (k + 1) (sp_liv tv) = bc k (sp_liv tv) + (if sp_liv tv k then 1 else 0) := rfl
    cases q : sp_liv tv k with
    | true =>
      rw [if_neg (by decide), jI_s, jI_s]
      refine hn (_, _) ?_
      rw [hs, q]
      rfl
    | false =>
      rw [if_pos (by rfl), jI_s, Int32.add_zero]
      refine hn (_, _) ?_
      rw [hs, q]
      rfl
  · intro s n hs
    subst hs
    dsimp only
    rw [wp_M_lives_L4, hT.1, if_pos (by rw [jI_le (by omega) (by omega)]; omega)]
    exact h
theorem m_busy {post : Int32 → Prop} (hT : RMT T tv) (hv : iT tv) (ht : t < tv_c tv) (h : post (b2i (sp_busy tv t))) : wp_M_busy T (jI t) post := by
  have hc := hv.1
  unfold wp_M_busy
  refine lpi (fun n (s : Int32 × Int32) => wp_M_busy_L4 T (jI t) (fun x2 => vp_nar .boolean x2 = x2 ∧ post x2) n s.1 s.2) (fun k s => s = (b2i (bx k (sp_chl tv t)), jI k)) (tv_c tv) ?_ ?_ 0 (by omega) (0, 0) rfl
  · intro k hk s n hs hn
    subst hs
    have hb : k < 2147483648 := by omega
    dsimp only
    rw [wp_M_busy_L4, hT.1, if_neg (by rw [jI_le (by omega) hb]; omega), jI_s]
    have hs : bx (k + 1) (sp_chl tv t) = (bx k (sp_chl tv t) || sp_chl tv t k) := rfl
    cases q : bx k (sp_chl tv t) with
    | true =>
      rw [if_neg (by decide)]
      refine hn (_, _) ?_
      rw [hs, q]
      rfl
    | false =>
      rw [if_pos (by rfl)]
      refine m_live hT hv hk ?_
      cases ql : sp_liv tv k with
      | false =>
        rw [if_pos (by rfl)]
        refine hn (_, _) ?_
        rw [hs, q]
        unfold sp_chl
        rw [ql]
        rfl
      | true =>
        rw [if_neg (by decide), jI_tn hb, hT.2.2.1 k hk]
        refine ⟨jI_in hb (by omega), ?_⟩
        have hpp : pI (tv_par tv k) = jI t ↔ tv_par tv k = some t := by
          cases hp : tv_par tv k with
          | none =>
            constructor
            · intro z
              exact absurd z.symm (jI_m1 (by omega))
            · intro z
              cases z
          | some p =>
            have := (hv.2.1 _ hk).2.2.2.2.2 p hp
            constructor
            · intro z
              rw [(jI_eq (by omega) (by omega)).mp z]
            · intro z
              cases z
              rfl
        by_cases hp : tv_par tv k = some t
        · rw [if_pos (hpp.mpr hp)]
          refine hn (_, _) ?_
          rw [hs, q]
          unfold sp_chl
          rw [ql, decide_eq_true hp]
          rfl
        · rw [if_neg (fun z => hp (hpp.mp z))]
          refine hn (_, _) ?_
          rw [hs, q]
          unfold sp_chl
          rw [ql, decide_eq_false hp]
          rfl
  · intro s n hs
    subst hs
    dsimp only
    rw [wp_M_busy_L4, hT.1, if_pos (by rw [jI_le (by omega) (by omega)]; omega)]
    exact ⟨nar_b _, h⟩
theorem m_top {post : Int32 → Prop} (hT : RMT T tv) (hv : iT tv) (ht : t < tv_c tv) (h : post (jI (tv_top tv t))) : wp_M_top T (jI t) post := by
  have hc := hv.1
  unfold wp_M_top
  refine lpi (fun n (s : Int32 × Int32) => wp_M_top_L4 T (fun x1 => post x1) n s.1 s.2) (fun k s => s.2 = jI k ∧ ∃ x, s.1 = jI x ∧ x < tv_c tv ∧ tv_top tv x = tv_top tv t ∧ tv_dep tv x + k ≤ 4) 4 ?_ ?_ 0 (by omega) (jI t, 0) ⟨rfl, t, rfl, ht, rfl, (hv.2.1 t ht).2.2.1⟩
  · intro k hk s n hs hn
    obtain ⟨a, b⟩ := s
    obtain ⟨e1, x, e2, hx, htop, hd⟩ := hs
    dsimp only at e1 e2 ⊢
    subst e1
    subst e2
    have hb : x < 2147483648 := by omega
    have hii : vp_in (jI x) 60 := jI_in hb (by omega)
    obtain ⟨-, d1, d2, -, p1, p2⟩ := hv.2.1 x hx
    rw [wp_M_top_L4, if_neg (by rw [show (4 : Int32) = jI 4 from rfl, jI_le (by omega) (by omega)]; omega), jI_tn hb, hT.2.2.1 x hx, jI_s]
    refine ⟨hii, ?_⟩
    cases hp : tv_par tv x with
    | none =>
      rw [if_pos (by decide)]
      rw [← htop, (p1 hp).1] at h
      exact h
    | some p =>
      obtain ⟨q1, q2, q3, -⟩ := p2 p hp
      rw [show pI (some p) = jI p from rfl, if_neg (jI_nn (by omega))]
      exact ⟨hii, hn (_, _) ⟨rfl, p, rfl, by omega, by rw [← htop, q2], by omega⟩⟩
  · intro s n hs
    obtain ⟨a, b⟩ := s
    obtain ⟨e1, x, e2, hx, htop, hd⟩ := hs
    have := (hv.2.1 x hx).2.1
    omega
theorem m_above {post : Int32 → Prop} {a : Nat} (hT : RMT T tv) (hv : iT tv) (ht : t < tv_c tv) (ha : a < 2147483648) (h : post (b2i (sp_abv tv a t))) : wp_M_above T (jI a) (jI t) post := by
  have hc := hv.1
  have hb : t < 2147483648 := by omega
  unfold wp_M_above
  rw [jI_tn hb, hT.2.2.1 t ht]
  refine ⟨jI_in hb (by omega), ?_⟩
  refine lpi (fun n (s : Int32 × Int32 × Int32) => wp_M_above_L13 T (jI a) (fun x2 => vp_nar .boolean x2 = x2 ∧ post x2) n s.1 s.2.1 s.2.2) (fun k s => s.2.2 = jI k ∧ ∃ (y : Bool) (o : Option Nat), s.1 = b2i y ∧ s.2.1 = pI o ∧ (y || sp_linO tv o a) = sp_abv tv a t ∧ ∀ x, o = some x → x < tv_c tv ∧ tv_dep tv x + k + 1 ≤ 4) 4 ?_ ?_ 0 (by omega) (0, pI (tv_par tv t), 0) ⟨rfl, false, tv_par tv t, rfl, rfl, rfl, fun x hx => ?_⟩
  · intro k hk s n hs hn
    obtain ⟨s1, s2, s3⟩ := s
    obtain ⟨e1, y, o, e2, e3, he, ho⟩ := hs
    dsimp only at e1 e2 e3 ⊢
    subst e1
    subst e2
    subst e3
    rw [wp_M_above_L13, if_neg (by rw [show (4 : Int32) = jI 4 from rfl, jI_le (by omega) (by omega)]; omega)]
    cases o with
    | none =>
      rw [if_pos (by decide)]
      rw [← he] at h
      simp only [sp_linO, Bool.or_false] at h
      exact ⟨nar_b _, h⟩
    | some x =>
      obtain ⟨hx, hd⟩ := ho x rfl
      have hxb : x < 2147483648 := by omega
      obtain ⟨-, d1, d2, -, p1, p2⟩ := hv.2.1 x hx
      rw [show pI (some x) = jI x from rfl, if_neg (jI_nn hxb)]
      refine jn_in (fun jk => jk (b2i (y || decide (x = a)))) ?_ ?_
      · rw [jI_tn hxb, hT.2.2.1 x hx]
        refine ⟨jI_in hxb (by omega), hn (_, _, _) ⟨jI_s k, y || decide (x = a), tv_par tv x, rfl, rfl, ?_, fun z hz => ?_⟩⟩
        · rw [← he, Bool.or_assoc]
          congr 1
          exact (hv.lin_abv hx a).symm
        · obtain ⟨q1, q2, q3, -⟩ := p2 z hz
          omega
      · intro jk hjk
        cases y with
        | true =>
          rw [if_neg (by decide)]
          exact hjk
        | false =>
          rw [if_pos (by rfl), ite_iff' (jI_eq hxb ha)]
          by_cases z : x = a
          · rw [if_pos z]
            rw [decide_eq_true z] at hjk
            exact hjk
          · rw [if_neg z]
            rw [decide_eq_false z] at hjk
            exact hjk
  · intro s n hs
    obtain ⟨s1, s2, s3⟩ := s
    obtain ⟨e1, y, o, e2, e3, he, ho⟩ := hs
    dsimp only at e1 e2 e3 ⊢
    subst e1
    subst e2
    subst e3
    rw [wp_M_above_L13, if_pos (by decide)]
    cases o with
    | none =>
      rw [← he] at h
      simp only [sp_linO, Bool.or_false] at h
      exact ⟨nar_b _, h⟩
    | some x =>
      have := ho x rfl
      omega
  · obtain ⟨-, d1, d2, -, p1, p2⟩ := hv.2.1 t ht
    obtain ⟨q1, q2, q3, -⟩ := p2 x hx
    omega
theorem m_depth {post : Int32 → Prop} (hT : RMT T tv) (hv : iT tv) (ht : t < tv_c tv) (h : post (jI (tv_dep tv t))) : wp_M_depth T (jI t) post := by
  have hc := hv.1
  have hb : t < 2147483648 := by omega
  unfold wp_M_depth
  rw [jI_tn hb, hT.2.2.1 t ht]
  refine ⟨jI_in hb (by omega), ?_⟩
  obtain ⟨-, d1, d2, -, p1, p2⟩ := hv.2.1 t ht
  refine lpi (fun n (s : Int32 × Int32 × Int32) => wp_M_depth_L12 T (fun x1 => post x1) n s.1 s.2.1 s.2.2) (fun k s => s.2.2 = jI k ∧ s.1 = jI (k + 1) ∧ ∃ o : Option Nat, s.2.1 = pI o ∧ (o = none → tv_dep tv t = k + 1) ∧ ∀ x, o = some x → x < tv_c tv ∧ tv_dep tv x + k + 1 = tv_dep tv t) 4 ?_ ?_ 0 (by omega) (1, pI (tv_par tv t), 0) ⟨rfl, rfl, tv_par tv t, rfl, fun z => (p1 z).2.1, fun x hx => ?_⟩
  · intro k hk s n hs hn
    obtain ⟨s1, s2, s3⟩ := s
    obtain ⟨e1, e2, o, e3, ho1, ho2⟩ := hs
    dsimp only at e1 e2 e3 ⊢
    subst e1
    subst e2
    subst e3
    rw [wp_M_depth_L12, if_neg (by rw [show (4 : Int32) = jI 4 from rfl, jI_le (by omega) (by omega)]; omega)]
    cases o with
    | none =>
      rw [if_pos (by decide)]
      rw [ho1 rfl] at h
      exact h
    | some x =>
      obtain ⟨hx, hd⟩ := ho2 x rfl
      have hxb : x < 2147483648 := by omega
      obtain ⟨-, -, -, -, q1, q2⟩ := hv.2.1 x hx
      rw [show pI (some x) = jI x from rfl, if_neg (jI_nn hxb), jI_tn hxb, hT.2.2.1 x hx, jI_s, jI_s]
      refine ⟨jI_in hxb (by omega), hn (_, _, _) ⟨rfl, rfl, tv_par tv x, rfl, fun z => ?_, fun z hz => ?_⟩⟩
      · have := (q1 z).2.1
        omega
      · have := q2 z hz
        omega
  · intro s n hs
    obtain ⟨s1, s2, s3⟩ := s
    obtain ⟨e1, e2, o, e3, ho1, ho2⟩ := hs
    cases o with
    | none =>
      have := ho1 rfl
      omega
    | some x =>
      have := ho2 x rfl
      omega
  · have := p2 x hx
    omega
theorem m_undone {post : Int32 → Prop} {u c : Nat} (hG : RMG G g) (hI : iG g c) (hu : u < gv_n g) (h : post (b2i (sp_ud g u))) : wp_M_undone G (jI u) post := by
  obtain ⟨i1, i2, i3, i4, i5, i6, i7, i8, -⟩ := hI
  unfold wp_M_undone
  rw [jI_s]
  have start : bx (u + 1) (fun x => decide (gv_kd g x = 3) && gv_ou g x == u) = false := by
    cases z : bx (u + 1) (fun x => decide (gv_kd g x = 3) && gv_ou g x == u) with
    | false => rfl
    | true =>
      obtain ⟨x, hx, hz⟩ := bx_iff.mp z
      simp at hz
      have := (i7 x (by omega) hz.1).1
      omega
  refine lpi (fun n (s : Int32 × Int32) => wp_M_undone_L6 G (jI u) (fun x1 => vp_nar .boolean x1 = x1 ∧ post x1) n s.1 s.2) (fun d s => s = (b2i (bx (u + 1 + d) (fun x => decide (gv_kd g x = 3) && gv_ou g x == u)), jI (u + 1 + d))) (gv_n g - (u + 1)) ?_ ?_ 0 (by omega) (0, jI (u + 1)) (by show _ = (b2i (bx (u + 1) _), _); rw [start]; rfl)
  · intro d hd s n hs hn
    subst hs
    have hb : u + 1 + d < 2147483648 := by omega
    have hlt : u + 1 + d < gv_n g := by omega
    have hii : vp_in (jI (u + 1 + d)) 301 := jI_in hb (by omega)
    have hs : bx (u + 1 + (d + 1)) (fun x => decide (gv_kd g x = 3) && gv_ou g x == u) = (bx (u + 1 + d) (fun x => decide (gv_kd g x = 3) && gv_ou g x == u) || (decide (gv_kd g (u + 1 + d) = 3) && gv_ou g (u + 1 + d) == u)) := rfl
    dsimp only
    rw [wp_M_undone_L6, hG.2.1, if_neg (by rw [jI_le (by omega) hb]; omega), jI_tn hb, hG.2.2.2.1 _ hlt, hG.2.2.2.2.2.2.1 _ hlt, hG.1, jI_a, jI_s, jI_s]
    cases q : bx (u + 1 + d) (fun x => decide (gv_kd g x = 3) && gv_ou g x == u) with
    | true =>
      rw [if_neg (by decide)]
      refine hn (_, _) ?_
      rw [hs, q]
      rfl
    | false =>
      rw [if_pos (by rfl)]
      refine ⟨hii, ?_⟩
      by_cases hk : gv_kd g (u + 1 + d) = 3
      · obtain ⟨o1, o2, o3⟩ := i7 _ hlt hk
        rw [if_pos hk, o3, ite_iff' (jI_eq (by omega) (by omega))]
        refine ⟨hii, ?_⟩
        by_cases he : gv_ou g (u + 1 + d) = u
        · rw [if_pos (by omega)]
          refine hn (_, _) ?_
          have hbq : (gv_ou g (u + 1 + d) == u) = true := by simpa using he
          rw [hs, q, decide_eq_true hk, hbq]
          rfl
        · rw [if_neg (by omega)]
          refine hn (_, _) ?_
          have : (gv_ou g (u + 1 + d) == u) = false := by
            rw [beq_eq_false_iff_ne]
            exact he
          rw [hs, q, this, Bool.and_false]
          rfl
      · rw [if_neg hk]
        refine hn (_, _) ?_
        rw [hs, q, decide_eq_false hk]
        rfl
  · intro s n hs
    subst hs
    dsimp only
    rw [show u + 1 + (gv_n g - (u + 1)) = gv_n g by omega, wp_M_undone_L6, hG.2.1, if_pos (by rw [jI_le (by omega) (by omega)]; omega)]
    exact ⟨nar_b _, h⟩
theorem m_open {post : Int32 → Prop} {r : Nat} (hG : RMG G g) (hT : RMT T tv) (hv : iT tv) (hI : iG g (tv_c tv)) (hr : r < gv_n g) (h : post (b2i (sp_opn g tv r))) : wp_M_open G T (jI r) post := by
  have hc := hv.1
  have hn := hI.1
  have hby := hI.2.2.2.2.1 r hr
  have hb : r < 2147483648 := by omega
  have hii : vp_in (jI r) 301 := jI_in hb (by omega)
  have htl := hv.top_lt _ hby
  have htb : tv_top tv (gv_by g r) < 2147483648 := by omega
  have htc : tv_top tv (gv_by g r) < tv_c tv := by omega
  have hti : vp_in (jI (tv_top tv (gv_by g r))) 60 := jI_in htb (by omega)
  unfold wp_M_open
  unfold sp_opn at h
  rw [jI_tn hb, hG.2.2.2.1 r hr, hG.2.2.2.2.1 r hr]
  refine ⟨hii, ?_⟩
  by_cases hk : gv_kd g r = 2
  · rw [if_pos hk]
    rw [decide_eq_true hk, Bool.true_and] at h
    refine ⟨hii, m_top hT hv hby ⟨hti, ?_⟩⟩
    rw [jI_tn htb, hT.2.1 _ htc]
    unfold sp_liv at h
    rw [decide_eq_true htc, Bool.true_and] at h
    by_cases s3 : tv_st tv (tv_top tv (gv_by g r)) = 3
    · rw [if_pos s3]
      rw [s3] at h
      simp at h
      exact h
    · rw [if_neg s3]
      refine ⟨hii, m_top hT hv hby ⟨hti, ?_⟩⟩
      rw [jI_tn htb, hT.2.1 _ htc]
      by_cases s4 : tv_st tv (tv_top tv (gv_by g r)) = 4
      · rw [if_pos s4]
        rw [s4] at h
        simp at h
        exact h
      · rw [if_neg s4]
        have hl : (decide (tv_st tv (tv_top tv (gv_by g r)) = 1) || decide (tv_st tv (tv_top tv (gv_by g r)) = 2)) = true := by
          have := (hv.2.1 _ htc).1
          simp
          rcases this with z | z | z | z
          · exact Or.inl z
          · exact Or.inr z
          · exact absurd z s3
          · exact absurd z s4
        rw [hl, Bool.and_true] at h
        refine m_undone hG hI hr ?_
        cases hu : sp_ud g r with
        | true =>
          rw [if_neg (by decide)]
          rw [hu] at h
          exact h
        | false =>
          rw [if_pos (by rfl)]
          rw [hu] at h
          exact h
  · rw [if_neg hk]
    rw [decide_eq_false hk] at h
    exact h
theorem m_opens {post : Int32 → Prop} (hG : RMG G g) (hT : RMT T tv) (hv : iT tv) (hI : iG g (tv_c tv)) (h : post (jI (sp_opens g tv))) : wp_M_opens G T post := by
  have hn0 := hI.1
  unfold wp_M_opens
  refine lpi (fun n (s : Int32 × Int32) => wp_M_opens_L4 G T (fun x2 => post x2) n s.1 s.2) (fun k s => s = (jI (bc k (sp_opn g tv)), jI k)) (gv_n g) ?_ ?_ 0 (by omega) (0, 0) rfl
  · intro k hk s n hs hn
    subst hs
    have hb : k < 2147483648 := by omega
    dsimp only
    rw [wp_M_opens_L4, hG.2.1, if_neg (by rw [jI_le (by omega) hb]; omega)]
    refine m_open hG hT hv hI hk ?_
    have hs : bc (k + 1) (sp_opn g tv) = bc k (sp_opn g tv) + (if sp_opn g tv k then 1 else 0) := rfl
    cases q : sp_opn g tv k with
    | true =>
      rw [if_neg (by decide), jI_s, jI_s]
      refine hn (_, _) ?_
      rw [hs, q]
      rfl
    | false =>
      rw [if_pos (by rfl), jI_s, Int32.add_zero]
      refine hn (_, _) ?_
      rw [hs, q]
      rfl
  · intro s n hs
    subst hs
    dsimp only
    rw [wp_M_opens_L4, hG.2.1, if_pos (by rw [jI_le (by omega) (by omega)]; omega)]
    exact h
theorem m_full {post : Int32 → Prop} (hG : RMG G g) (hT : RMT T tv) (hv : iT tv) (hI : iG g (tv_c tv)) (h : post (b2i (!sp_room g tv))) : wp_M_full G T post := by
  have hc := hv.1
  have hn0 := hI.1
  unfold wp_M_full
  refine m_opens hG hT hv hI (m_lives hT hv ?_)
  have hl : sp_lives tv ≤ tv_c tv := bc_le _ _
  have ho : sp_opens g tv ≤ gv_n g := bc_le _ _
  rw [hG.2.1, jI_a, jI_a, show (2 : Int32) = jI 2 from rfl, jI_a, show (300 : Int32) = jI 300 from rfl, ite_iff' (jI_le (by omega) (by omega))]
  unfold sp_room at h
  by_cases q : gv_n g + sp_opens g tv + sp_lives tv + 2 ≤ 300
  · rw [if_pos q]
    rw [decide_eq_true q] at h
    exact h
  · rw [if_neg q]
    rw [decide_eq_false q] at h
    exact h
end PMT
end
section
section PMG
variable {A : S_MA} {D : S_MD} {G : S_MG} {T : S_MT} {K : S_ML} {v : VP} {g : VG} {tv : VT} {L : VK}
theorem tP_th (p : Nat) : pv_th (sp_tP v p) = pv_th v := by
  unfold sp_tP
  split
  · split <;> rfl
  · split <;> rfl
theorem tP_va (p : Nat) : pv_va (sp_tP v p) = pv_va v := by
  unfold sp_tP
  split
  · split <;> rfl
  · split <;> rfl
theorem tP_ls (p : Nat) : pv_ls (sp_tP v p) = pv_ls v := by
  unfold sp_tP
  split
  · split <;> rfl
  · split <;> rfl
theorem tP_tk (p : Nat) : pv_tk (sp_tP v p) = pv_tk v + 1 := by
  unfold sp_tP
  split
  · rfl
  · split <;> rfl
theorem tP_F (p : Nat) : pv_F (sp_tP v p) = pv_F v := by
  unfold sp_tP
  split
  · split <;> rfl
  · split <;> rfl
/-- the touched page is in a frame -/
theorem tP_in {p : Nat} (hi : iP v) : sp_in (sp_tP v p) p = true := by
  obtain ⟨i1, i2, i3, -⟩ := hi
  have hle : sp_pl v p ≤ pv_m v := by
    have := (ff_spec (fun i => pv_bt v i == p) (pv_m v) 0).2.1
    show ff (fun i => pv_bt v i == p) (pv_m v) 0 ≤ pv_m v
    omega
  unfold sp_tP
  by_cases h1 : sp_pl v p = pv_F v
  · rw [if_pos h1]
    refine (sp_in_fin ?_).mpr (Or.inl rfl)
    split
    · show pv_F v - 1 < pv_m v
      omega
    · omega
  · rw [if_neg h1]
    by_cases h2 : sp_pl v p = pv_m v
    · rw [if_pos h2]
      exact (sp_in_fin (show pv_m v < pv_m v + 1 by omega)).mpr (Or.inl rfl)
    · rw [if_neg h2]
      exact (sp_in_fin (by omega)).mpr (Or.inl rfl)
theorem m_last {post : Int32 → Prop} (hG : RMG G g) (h : post (jI (gv_b g + gv_n g))) : wp_M_last G post := by
  unfold wp_M_last
  rw [hG.1, hG.2.1, jI_a]
  exact h
theorem m_append {post : Int32 → S_MG → Prop} {k : Int32} {t : Nat} {a : Int32} (hG : RMG G g) (hn : gv_n g ≤ 300) (h : ∀ G', RMG G' (sp_app g k t a) → post (jI (gv_n g)) G') : wp_M_append G k (jI t) a post := by
  have hb : gv_n g < 2147483648 := by omega
  have hii : vp_in (jI (gv_n g)) 301 := jI_in hb (by omega)
  obtain ⟨h1, h2, h3, h4, h5, h6, h7, h8, h9, h10, h11⟩ := hG
  unfold wp_M_append
  rw [h2, jI_tn hb, nar_0, jI_s]
  exact ⟨hii, hii, hii, hii, hii, hii, hii, hii, h _ ⟨h1, rfl, h3, up_n (fun x => x) h4 rfl, up_n jI h5 rfl, up_n (fun x => x) h6 rfl, up_n (fun x => x) h7 rfl, up_n b2i h8 rfl, up_n (fun x => x) h9 rfl, up_n b2i h10 rfl, up_n (fun x => x) h11 rfl⟩⟩
theorem m_update {post : S_MA → S_MD → S_MG → Prop} {t k : Nat} {now : Bool} {x : Int32} (hA : RMA A D v) (hG : RMG G g) (hi : iP v) (hn : gv_n g < 300) (hk : k < 32) (hx : now = false → x = 0) (hls : ∀ q, q < 8 → pv_ls v q < 2147483648) (hf : gv_f g < 2147483648) (htk : pv_tk v + 1 < 2147483648) (x' : Int32) (hx' : now = true → x' = x)
    (h : ∀ A' D' G', RMA A' D' (sp_updP v g k now x) → RMG G' (sp_updG v g t k now x) → post A' D' G') : wp_M_update A D G (jI t) (jI k) (b2i now) x' post := by
  have hb : k < 2147483648 := by omega
  have hki : vp_in (jI k) 32 := jI_in hb hk
  have hnb : gv_n g < 2147483648 := by omega
  have hni : vp_in (jI (gv_n g)) 301 := jI_in hnb (by omega)
  unfold wp_M_update
  refine m_append hG (by omega) (fun G1 hG1 => ?_)
  rw [jI_div hb]
  refine m_touch hA hG1 hi (by omega) hls hf htk (fun A2 D2 G2 hA2 hG2 => ?_)
  have hin := tP_in (p := k / 4) hi
  rw [jI_tn hb, jI_tn hnb, hA2.2.2.2.2.1 k hk hin, hA2.2.2.2.2.2.1 k hk hin, tP_th, tP_va, nar_b, nar_b]
  refine ⟨hki, hni, hki, hni, hni, jn_in (fun jk => jk x) ?_ ?_⟩
  · have hG3 : RMG (MG_isValue' (MG_isThere' (MG_wasValue' (MG_wasThere' G2 (upd (MG_wasThere G2) (gv_n g) (b2i (pv_th v k)))) (upd (MG_wasValue G2) (gv_n g) (pv_va v k))) (upd (MG_isThere G2) (gv_n g) (b2i now))) (upd (MG_isValue G2) (gv_n g) x)) (sp_updG v g t k now x) := by
      obtain ⟨q1, q2, q3, q4, q5, q6, q7, q8, q9, q10, q11⟩ := hG2
      exact ⟨q1, q2, q3, q4, q5, q6, q7, up_k b2i q8 rfl, up_k (fun x => x) q9 rfl, up_k b2i q10 rfl, up_k (fun x => x) q11 rfl⟩
    refine ⟨hni, m_last hG3 ?_⟩
    exact m_become hA2 hk hx hx' (fun A' hA' => h _ _ _ hA' hG3)
  · intro jk hjk
    cases now with
    | false =>
      rw [if_pos (by rfl)]
      rw [hx rfl] at hjk
      exact hjk
    | true =>
      rw [if_neg (by decide), hx' rfl]
      exact hjk
theorem m_undo {post : S_MA → S_MD → S_MG → Prop} {u t : Nat} (hA : RMA A D v) (hG : RMG G g) (hi : iP v) (hn : gv_n g < 300) (hu : u < gv_n g) (hk : sp_key g u < 32) (hab : gv_ab g u = jI (sp_key g u)) (hw : gv_wt g u = false → gv_wv g u = 0) (hls : ∀ q, q < 8 → pv_ls v q < 2147483648) (hf : gv_f g < 2147483648) (htk : pv_tk v + 1 < 2147483648)
    (h : ∀ A' D' G', RMA A' D' (sp_undP v g u) → RMG G' (sp_undG v g u t) → post A' D' G') : wp_M_undo A D G (jI t) (jI u) post := by
  have hb : sp_key g u < 2147483648 := by omega
  have hub : u < 2147483648 := by omega
  have hui : vp_in (jI u) 301 := jI_in hub (by omega)
  have hnb : gv_n g < 2147483648 := by omega
  have hni : vp_in (jI (gv_n g)) 301 := jI_in hnb (by omega)
  unfold wp_M_undo
  rw [jI_tn hub, hG.2.2.2.2.2.1 u hu]
  refine ⟨hui, m_append hG (by omega) (fun G1 hG1 => ?_)⟩
  have hG1' := hG1
  obtain ⟨q1, q2, q3, q4, q5, q6, q7, q8, q9, q10, q11⟩ := hG1'
  have hlt : u < gv_n g + 1 := by omega
  have eab : MG_about G1 u = gv_ab g u := by
    rw [q6 u hlt]
    exact updN_ne _ _ (by omega)
  have ewt : MG_wasThere G1 u = b2i (gv_wt g u) := by
    rw [q8 u hlt]
    exact congrArg b2i (updN_ne _ _ (by omega))
  have ewv : MG_wasValue G1 u = gv_wv g u := by
    rw [q9 u hlt]
    exact updN_ne _ _ (by omega)
  have eb : MG_base G1 = jI (gv_b g) := q1
  rw [jI_tn hnb, ewt, ewv, eab, nar_b, eb, jI_a, jI_s, hab, jI_div hb]
  have hG3 : RMG (MG_isValue' (MG_isThere' (MG_of' G1 (upd (MG_of G1) (gv_n g) (jI (gv_b g + u + 1)))) (upd (MG_isThere G1) (gv_n g) (b2i (gv_wt g u)))) (upd (MG_isValue G1) (gv_n g) (gv_wv g u))) (sp_mark (sp_aft (sp_app g 3 t (gv_ab g u)) (gv_n g) (gv_wt g u) (gv_wv g u)) (gv_n g) u) := ⟨q1, q2, q3, q4, q5, q6, up_k (fun x => x) q7 rfl, q8, q9, up_k b2i q10 rfl, up_k (fun x => x) q11 rfl⟩
  refine ⟨hni, hui, hni, hui, hni, hui, m_touch hA hG3 hi (by omega) hls hf htk (fun A4 D4 G4 hA4 hG4 => ⟨hui, hni, hni, m_last hG4 ?_⟩)⟩
  have hG4' := hG4
  obtain ⟨r1, r2, r3, r4, r5, r6, r7, r8, r9, r10, r11⟩ := hG4'
  have e1 : MG_about G4 u = jI (sp_key g u) := by
    rw [r6 u hlt, ← hab]
    exact updN_ne _ _ (by omega)
  have e2 : MG_isThere G4 (gv_n g) = b2i (gv_wt g u) := by
    rw [r10 _ (show gv_n g < gv_n g + 1 by omega)]
    exact congrArg b2i (updN_same _ _ _)
  have e3 : MG_isValue G4 (gv_n g) = gv_wv g u := by
    rw [r11 _ (show gv_n g < gv_n g + 1 by omega)]
    exact updN_same _ _ _
  rw [e1, e2, e3]
  exact m_become hA4 hk hw (fun _ => rfl) (fun A' hA' => h _ _ _ hA' hG4)
theorem ix33 {t i : Nat} (ht : t < 60) (hi : i < 33) : (33 : Int32) * jI t + jI i = jI (33 * t + i) ∧ 33 * t + i < 1980 ∧ 33 * t + i < 2147483648 := by
  refine ⟨?_, by omega, by omega⟩
  rw [show (33 : Int32) = jI 33 from rfl, jI_m, jI_a]
theorem m_unlock {post : S_ML → Prop} {t : Nat} (hK : RML K L) (ht : t < 60) (h : ∀ K', RML K' (sp_rel L t) → post K') : wp_M_unlock K (jI t) post := by
  unfold wp_M_unlock
  refine lpi (fun n (s : Int32 × S_ML) => wp_M_unlock_L2 (jI t) (fun x => post x) n s.1 s.2) (fun k s => s.1 = jI k ∧ RML s.2 (fun u j => if j < k ∧ u = t then 0 else L u j)) 33 ?_ ?_ 0 (by omega) (0, K) ⟨rfl, fun u j hu hj => ?_⟩
  · intro k hk s n hs hn
    obtain ⟨x, K⟩ := s
    obtain ⟨hx, hs⟩ := hs
    dsimp only at hx hs ⊢
    subst hx
    obtain ⟨e1, e2, e3⟩ := ix33 ht hk
    rw [wp_M_unlock_L2, if_neg (by rw [show (33 : Int32) = jI 33 from rfl, jI_le (by omega) (by omega)]; omega), e1, jI_tn e3, jI_s]
    refine ⟨jI_in e3 e2, hn (_, _) ⟨rfl, fun u j hu hj => ?_⟩⟩
    have hs : ∀ u j, u < 60 → j < 33 → ML_locks K (33 * u + j) = jI (if j < k ∧ u = t then 0 else L u j) := hs
    show upd (ML_locks K) (33 * t + k) 0 (33 * u + j) = jI (if j < k + 1 ∧ u = t then 0 else L u j)
    by_cases e : 33 * u + j = 33 * t + k
    · have hut : u = t := by omega
      have hjk : j = k := by omega
      rw [e, upd_same, if_pos ⟨by omega, hut⟩]
      rfl
    · rw [upd_ne _ _ e, hs u j hu hj]
      by_cases z : j < k ∧ u = t
      · rw [if_pos z, if_pos ⟨by omega, z.2⟩]
      · rw [if_neg z, if_neg (fun z2 => by
          have : j = k := by omega
          rw [this, z2.2] at e
          exact e rfl)]
  · intro s n hs
    obtain ⟨x, K⟩ := s
    obtain ⟨hx, hs⟩ := hs
    dsimp only at hx hs ⊢
    subst hx
    rw [wp_M_unlock_L2, if_pos (by decide)]
    refine h K (fun u j hu hj => ?_)
    have hs : ∀ u j, u < 60 → j < 33 → ML_locks K (33 * u + j) = jI (if j < 33 ∧ u = t then 0 else L u j) := hs
    rw [hs u j hu hj]
    unfold sp_rel
    by_cases z : u = t
    · rw [if_pos z, if_pos ⟨hj, z⟩]
    · rw [if_neg z, if_neg (fun z2 => z z2.2)]
  · dsimp only
    rw [if_neg (by omega)]
    exact hK u j hu hj
theorem m_bars {post : Int32 → Prop} {u t i m : Nat} (hK : RML K L) (hT : RMT T tv) (hv : iT tv) (hu : u < tv_c tv) (ht : t < tv_c tv) (hi : i < 33) (hm : m < 2147483648) (hL : L u i ≤ 2) (h : post (b2i (sp_bl L (tv_lin tv t) i m u))) : wp_M_bars K T (jI u) (jI t) (jI i) (jI m) post := by
  have hc := hv.1
  obtain ⟨e1, e2, e3⟩ := ix33 (show u < 60 by omega) hi
  have hlin := hv.lin_abv ht u
  unfold wp_M_bars
  unfold sp_bl at h
  rw [e1, jI_tn e3, hK u i (by omega) hi, ite_iff' (jI_eq (by omega) (by omega)), show (0 : Int32) = jI 0 from rfl, ite_iff' (jI_le (by omega) (by omega)), show (2 : Int32) = jI 2 from rfl, ite_iff' (jI_eq hm (by omega)), ite_iff' (jI_eq (by omega) (by omega))]
  refine ⟨jI_in e3 e2, ?_⟩
  by_cases hut : u = t
  · rw [if_pos hut]
    rw [hlin, decide_eq_true hut.symm] at h
    simp at h
    exact h
  · rw [if_neg hut]
    have htu : ¬ t = u := fun z => hut z.symm
    rw [hlin, decide_eq_false htu, Bool.false_or] at h
    by_cases h0 : L u i ≤ 0
    · rw [if_pos h0]
      rw [decide_eq_false (by omega : ¬ 0 < L u i)] at h
      exact h
    · rw [if_neg h0]
      rw [decide_eq_true (by omega : 0 < L u i), Bool.true_and] at h
      have fin : ∀ post' : Int32 → Prop, post' (b2i (!sp_abv tv u t)) → wp_M_above T (jI u) (jI t) (fun r1 => if r1 = 0 then post' 1 else post' 0) := by
        intro post' hp
        refine m_above hT hv ht (by omega) ?_
        cases z : sp_abv tv u t with
        | true =>
          rw [if_neg (by decide)]
          rw [z] at hp
          exact hp
        | false =>
          rw [if_pos (by rfl)]
          rw [z] at hp
          exact hp
      by_cases h2 : m = 2
      · rw [if_pos h2]
        rw [decide_eq_true h2, Bool.true_or, Bool.true_and] at h
        exact fin post h
      · rw [if_neg h2]
        rw [decide_eq_false h2, Bool.false_or] at h
        by_cases h3 : L u i = 2
        · rw [if_pos h3]
          rw [decide_eq_true h3, Bool.true_and] at h
          exact fin post h
        · rw [if_neg h3]
          rw [decide_eq_false h3, Bool.false_and] at h
          exact h
theorem m_may {post : Int32 → Prop} {t i m : Nat} (hK : RML K L) (hT : RMT T tv) (hv : iT tv) (ht : t < tv_c tv) (hi : i < 33) (hm : m < 2147483648) (hL : ∀ u, L u i ≤ 2) (h : post (b2i (!sp_bar L tv t i m))) : wp_M_may K T (jI t) (jI i) (jI m) post := by
  have hc := hv.1
  unfold wp_M_may
  refine lpi (fun n (s : Int32 × Int32) => wp_M_may_L6 K T (jI t) (jI i) (jI m) (fun x2 => vp_nar .boolean x2 = x2 ∧ post x2) n s.1 s.2) (fun k s => s = (b2i (!bx k (sp_bl L (tv_lin tv t) i m)), jI k)) (tv_c tv) ?_ ?_ 0 (by omega) (1, 0) rfl
  · intro k hk s n hs hn
    subst hs
    have hb : k < 2147483648 := by omega
    have hs : bx (k + 1) (sp_bl L (tv_lin tv t) i m) = (bx k (sp_bl L (tv_lin tv t) i m) || sp_bl L (tv_lin tv t) i m k) := rfl
    dsimp only
    rw [wp_M_may_L6, hT.1, if_neg (by rw [jI_le (by omega) hb]; omega), jI_s]
    cases q : bx k (sp_bl L (tv_lin tv t) i m) with
    | true =>
      rw [if_pos (by rfl)]
      refine hn (_, _) ?_
      rw [hs, q]
      rfl
    | false =>
      rw [if_neg (by decide)]
      refine m_bars hK hT hv hk ht hi hm (hL k) ?_
      cases z : sp_bl L (tv_lin tv t) i m k with
      | true =>
        rw [if_neg (by decide)]
        refine hn (_, _) ?_
        rw [hs, q, z]
        rfl
      | false =>
        rw [if_pos (by rfl)]
        refine hn (_, _) ?_
        rw [hs, q, z]
        rfl
  · intro s n hs
    subst hs
    dsimp only
    rw [wp_M_may_L6, hT.1, if_pos (by rw [jI_le (by omega) (by omega)]; omega)]
    exact ⟨nar_b _, h⟩
end PMG
end
section
section PN2
variable {A : S_A} {T : S_T} {P : S_P} {v : VP} {tv : VT} {t : Nat}
theorem k_P_add {post : S_P → Prop} {its : List Nat} {m x : Nat} (hP : RPl P its m) (hl : its.length < 33) (h : ∀ P', RPl P' (its ++ [x]) m → post P') : wp_P_add P (jI x) post := by
  have hb : its.length < 2147483648 := by omega
  unfold wp_P_add
  rw [hP.2.1, if_neg (by rw [show (33 : Int32) = jI 33 from rfl, jI_le (by omega) hb]; omega), jI_tn hb, jI_s]
  refine ⟨jI_in hb hl, h _ ⟨hP.1, ?_, fun i y hi => ?_⟩⟩
  · rw [List.length_append]
    rfl
  · show upd (P_items P) its.length (jI x) i = jI y
    by_cases e : i = its.length
    · rw [e, upd_same]
      rw [e, List.getElem?_append_right (Nat.le_refl _)] at hi
      simp at hi
      rw [hi]
    · rw [upd_ne _ _ e]
      have hlt : i < its.length := by
        have := (List.getElem?_eq_some_iff.mp hi).1
        simp at this
        omega
      rw [List.getElem?_append_left hlt] at hi
      exact hP.2.2 i y hi
theorem RPl.nil (P : S_P) (m : Nat) : RPl (P_size' (P_mode' P (jI m)) 0) [] m := ⟨rfl, rfl, fun i x h => by cases h⟩
theorem k_N_planLocks {post : S_P → Prop} (hA : RA A v) (hT : RT T tv) (hv : iT tv) (ht : t < tv_c tv) (h : ∀ P', RPl P' (sp_its v tv t) (sp_pm v tv t) → post P') : wp_N_planLocks A P T (jI t) post := by
  have hc := hv.1
  have hb : t < 2147483648 := by omega
  have hti : vp_in (jI t) 60 := jI_in hb (by omega)
  obtain ⟨r1, r2, r3⟩ := hv.2.2 t (by omega)
  have hlo : tv_lo tv t < 32 := by omega
  have hlob : tv_lo tv t < 2147483648 := by omega
  have hloi : vp_in (jI (tv_lo tv t)) 32 := jI_in hlob hlo
  have e4 : ∀ m : Nat, (P_size' (P_mode' P (jI m)) 0) = (P_size' (P_mode' P (jI m)) 0) := fun _ => rfl
  unfold wp_N_planLocks
  rw [jI_tn hb, hT.2.2.2.2.2.2.2.1 t (by omega), hT.2.2.2.2.2.2.2.2.1 t (by omega), hT.2.2.2.2.2.2.2.2.2.1 t (by omega), jI_tn hlob, hA.2.2.2.2.2.1 _ hlo]
  refine ⟨hti, hti, hloi, hti, ?_⟩
  unfold sp_its sp_pm at h
  rw [show (0 : Int32) = jI 0 from rfl, show (1 : Int32) = jI 1 from rfl, show (2 : Int32) = jI 2 from rfl, ite_iff' (jI_eq (by omega) (by omega)), ite_iff' (jI_eq (by omega) (by omega)), ite_iff' (jI_eq (by omega) (by omega))]
  by_cases k0 : tv_rk tv t = 0
  · rw [if_pos k0]
    rw [if_pos k0, if_neg (show ¬ tv_rk tv t = 1 by omega), if_neg (show ¬ tv_rk tv t = 2 by omega)] at h
    unfold wp_P_start
    cases hth : pv_th v (tv_lo tv t) with
    | false =>
      rw [if_pos (by rfl)]
      rw [hth] at h
      exact k_A_nextItem hA hlo (k_P_add (RPl.nil P 1) (by decide) (fun P' hP' => h P' hP'))
    | true =>
      rw [if_neg (by decide)]
      rw [hth] at h
      exact k_P_add (RPl.nil P 1) (by decide) (fun P' hP' => h P' hP')
  · rw [if_neg k0]
    rw [if_neg k0] at h
    by_cases k1 : tv_rk tv t = 1
    · rw [if_pos k1]
      rw [if_pos k1, if_pos k1] at h
      unfold wp_P_start
      cases hth : pv_th v (tv_lo tv t) with
      | false =>
        rw [if_pos (by rfl)]
        rw [hth] at h
        exact k_A_nextItem hA hlo (k_P_add (RPl.nil P 2) (by decide) (fun P' hP' => k_P_add hP' (by simp) (fun P2 hP2 => h P2 hP2)))
      | true =>
        rw [if_neg (by decide)]
        rw [hth] at h
        exact k_P_add (RPl.nil P 2) (by decide) (fun P' hP' => h P' hP')
    · rw [if_neg k1]
      rw [if_neg k1, if_neg k1] at h
      by_cases k2 : tv_rk tv t = 2
      · rw [if_pos k2]
        rw [if_pos k2, if_pos k2] at h
        cases hth : pv_th v (tv_lo tv t) with
        | false =>
          rw [hth] at h
          refine jn_intro ?_
          rw [if_pos (by rfl)]
          unfold wp_P_start
          refine k_A_nextItem hA hlo (k_P_add (RPl.nil P 1) (by decide) (fun P' hP' => ?_))
          rw [if_pos (by rfl)]
          exact h P' hP'
        | true =>
          rw [hth] at h
          refine jn_intro ?_
          rw [if_neg (by decide)]
          unfold wp_P_start
          refine k_A_nextItem hA hlo (k_P_add (RPl.nil P 2) (by decide) (fun P' hP' => ?_))
          rw [if_neg (by decide)]
          exact k_P_add hP' (by simp) (fun P2 hP2 => h P2 hP2)
      · rw [if_neg k2]
        rw [if_neg k2, if_neg k2] at h
        unfold wp_P_start
        refine lpi (fun n (s : Int32 × S_P) => wp_N_planLocks_L201 A (jI (tv_hi tv t)) _ n s.1 s.2) (fun k s => s.1 = jI (tv_lo tv t + k) ∧ RPl s.2 (sp_ks v (tv_lo tv t) k) 1) (tv_hi tv t + 1 - tv_lo tv t) ?_ ?_ 0 (by omega) (jI (tv_lo tv t), P_size' (P_mode' P (jI 1)) 0) ⟨rfl, RPl.nil P 1⟩
        · intro k hk s n hs hn
          obtain ⟨x, P⟩ := s
          obtain ⟨hx, hs⟩ := hs
          dsimp only at hx hs ⊢
          subst hx
          have hkb : tv_lo tv t + k < 2147483648 := by omega
          have hl := sp_ks_len v (tv_lo tv t) k
          rw [wp_N_planLocks_L201, if_neg (by rw [jI_lt (by omega) hkb]; omega), jI_tn hkb, hA.2.2.2.2.2.1 _ (by omega), jI_s]
          refine ⟨jI_in hkb (by omega), ?_⟩
          cases hth : pv_th v (tv_lo tv t + k) with
          | false =>
            rw [if_pos (by rfl)]
            refine hn (_, _) ⟨rfl, ?_⟩
            unfold sp_ks
            rw [hth, if_neg (by decide), List.append_nil]
            exact hs
          | true =>
            rw [if_neg (by decide)]
            refine k_P_add hs (by omega) (fun P' hP' => hn (_, _) ⟨rfl, ?_⟩)
            unfold sp_ks
            rw [hth, if_pos (by rfl)]
            exact hP'
        · intro s n hs
          obtain ⟨x, P⟩ := s
          obtain ⟨hx, hs⟩ := hs
          dsimp only at hx hs ⊢
          subst hx
          have hl := sp_ks_len v (tv_lo tv t) (tv_hi tv t + 1 - tv_lo tv t)
          rw [wp_N_planLocks_L201, if_pos (by rw [jI_lt (by omega) (by omega)]; omega)]
          exact k_A_nextItem hA r3 (k_P_add hs (by omega) (fun P' hP' => h P' hP'))
end PN2
end
section
section PN3
variable {A : S_A} {T : S_T} {K : S_K} {P : S_P} {v : VP} {tv : VT} {L : VK} {t : Nat}
theorem k_N_freeLocks {post : Int32 → Prop} {its : List Nat} {m : Nat} (hK : RK K L) (hT : RT T tv) (hv : iT tv) (hL : iK tv L) (hP : RPl P its m) (hm : m ≤ 2) (hl : its.length ≤ 33) (hit : ∀ x, x ∈ its → x < 33) (ht : t < tv_c tv) (h : post (jI (sp_fr L tv t m its))) : wp_N_freeLocks K P T (jI t) post := by
  have hc := hv.1
  have htb : t < 2147483648 := by omega
  unfold wp_N_freeLocks
  refine lpi (fun n (s : Int32) => wp_N_freeLocks_L2 K P T (jI t) post (post (P_size P)) n s) (fun d s => s = jI d ∧ ∀ x, x < d → sp_lk L tv t m (its.getD x 0) = false) its.length ?_ ?_ 0 (by omega) 0 ⟨rfl, fun x hx => by omega⟩
  · intro d hd s n hs hn
    obtain ⟨rfl, hs⟩ := hs
    have hb : d < 2147483648 := by omega
    have hi : its.getD d 0 < 33 := hit _ (getD_mem hd)
    have next : sp_lk L tv t m (its.getD d 0) = false → wp_N_freeLocks_L2 K P T (jI t) post (post (jI its.length)) n (jI (d + 1)) := by
      intro q
      rw [← hP.2.1]
      refine hn _ ⟨rfl, fun x hx => ?_⟩
      by_cases e : x = d
      · rw [e, q]
      · exact hs x (by omega)
    rw [wp_N_freeLocks_L2, hP.2.1, if_neg (by rw [jI_le (by omega) hb]; omega), jI_tn hb, hP.2.2 d _ (getD_of hd), hP.1, jI_s, jI_tn htb]
    refine ⟨jI_in hb (by omega), k_K_heldBy hK (hL t _ hi).1 (by omega) hi ?_⟩
    refine jn_in (fun jk => jk (b2i (!decide (L t (its.getD d 0) < m)))) ?_ ?_
    · by_cases q : L t (its.getD d 0) < m
      · rw [decide_eq_true q, if_pos (by rfl)]
        refine ⟨jI_in htb (by omega), k_K_blockers hK (fun u => (hL u _ hi).1) hi (by omega) (hT.2.2.2.2.2.2.1 t ht) (fun x hx => ?_)⟩
        have hbar : lg_cmp x 0 = 0 ↔ sp_bar L tv t (its.getD d 0) m = false := by
          rw [cmp_z]
          constructor
          · intro z
            cases z2 : sp_bar L tv t (its.getD d 0) m with
            | false => rfl
            | true =>
              obtain ⟨u, hu, hz⟩ := bx_iff.mp z2
              rw [← hx u (by omega), z u (by omega)] at hz
              cases hz
          · intro z u hu
            rw [hx u hu]
            cases z2 : sp_bl L (tv_lin tv t) (its.getD d 0) m u with
            | false => rfl
            | true =>
              by_cases huc : u < tv_c tv
              · have : sp_bar L tv t (its.getD d 0) m = true := bx_iff.mpr ⟨u, huc, z2⟩
                rw [z] at this
                cases this
              · rw [hL.bl_out hi (by omega)] at z2
                cases z2
        by_cases z : sp_bar L tv t (its.getD d 0) m = false
        · rw [if_pos (hbar.mpr z)]
          refine next ?_
          unfold sp_lk
          rw [z, Bool.and_false]
        · rw [if_neg (fun y => z (hbar.mp y))]
          have z : sp_bar L tv t (its.getD d 0) m = true := by simpa using z
          have : sp_fr L tv t m its = d := ff_eq _ _ _ _ (by omega) (by omega) (fun x _ hx => hs x hx) (fun _ => by
            show sp_lk L tv t m (its.getD d 0) = true
            unfold sp_lk
            rw [z, decide_eq_true q]
            rfl)
          rw [this] at h
          exact h
      · rw [decide_eq_false q, if_neg (by decide)]
        refine next ?_
        unfold sp_lk
        rw [decide_eq_false q]
        rfl
    · intro jk hjk
      rw [ite_iff' (jI_lt (by have := (hL t _ hi).1; omega) (by omega))]
      by_cases q : L t (its.getD d 0) < m
      · rw [if_pos q]
        rw [decide_eq_true q] at hjk
        exact hjk
      · rw [if_neg q]
        rw [decide_eq_false q] at hjk
        exact hjk
  · intro s n hs
    obtain ⟨rfl, hs⟩ := hs
    rw [wp_N_freeLocks_L2, hP.2.1, if_pos (by rw [jI_le (by omega) (by omega)]; omega)]
    have : sp_fr L tv t m its = its.length := ff_eq _ _ _ _ (by omega) (by omega) (fun x _ hx => hs x hx) (fun z => by omega)
    rw [this] at h
    exact h
theorem sp_fr_le {m : Nat} {its : List Nat} : sp_fr L tv t m its ≤ its.length := by
  have := (ff_spec (fun i => sp_lk L tv t m (its.getD i 0)) its.length 0).2.1
  show ff _ _ _ ≤ _
  omega
theorem k_N_takeLocks {post : Int32 → S_K → S_P → Prop} (hA : RA A v) (hK : RK K L) (hT : RT T tv) (hv : iT tv) (hL : iK tv L) (ht : t < tv_c tv)
    (h : ∀ K' P', RK K' (sp_grs L t (sp_pm v tv t) (sp_its v tv t) (sp_fr L tv t (sp_pm v tv t) (sp_its v tv t))) → RPl P' (sp_its v tv t) (sp_pm v tv t) → post (b2i (decide (sp_fr L tv t (sp_pm v tv t) (sp_its v tv t) = (sp_its v tv t).length))) K' P') : wp_N_takeLocks A K P T (jI t) post := by
  have hc := hv.1
  have hl := sp_its_len (v := v) hv ht
  have hit := sp_its_lt (v := v) hv ht
  have hm := (sp_pm_le v tv t).1
  unfold wp_N_takeLocks
  refine k_N_planLocks hA hT hv ht (fun P1 hP1 => k_N_freeLocks hK hT hv hL hP1 hm hl hit ht ?_)
  obtain ⟨its, hits⟩ : ∃ its, its = sp_its v tv t := ⟨_, rfl⟩
  obtain ⟨m, hmm⟩ : ∃ m, m = sp_pm v tv t := ⟨_, rfl⟩
  rw [← hits] at hl hit hP1 h ⊢
  rw [← hmm] at hm hP1 h ⊢
  have hfr := sp_fr_le (L := L) (tv := tv) (t := t) (m := m) (its := its)
  refine lpi (fun n (s : Int32 × S_K) => wp_N_takeLocks_L13 P1 (jI t) (jI (sp_fr L tv t m its)) _ n s.1 s.2) (fun d s => s.1 = jI d ∧ RK s.2 (sp_grs L t m its d)) (sp_fr L tv t m its) ?_ ?_ 0 (by omega) (0, K) ⟨rfl, hK⟩
  · intro d hd s n hs hn
    obtain ⟨x, K⟩ := s
    obtain ⟨hx, hs⟩ := hs
    dsimp only at hx hs ⊢
    subst hx
    have hb : d < 2147483648 := by omega
    have hdl : d < its.length := by omega
    have hi : its.getD d 0 < 33 := hit _ (getD_mem hdl)
    rw [wp_N_takeLocks_L13, if_neg (by rw [jI_le (by omega) hb]; omega), jI_tn hb, hP1.2.2 d _ (getD_of hdl), hP1.1, jI_s]
    exact ⟨jI_in hb (by omega), k_K_grant hs (sp_grs_le hm (fun u j hj => (hL u j hj).1) d t _ hi) (by omega) hi hm (fun K' hK' => hn (_, _) ⟨rfl, hK'⟩)⟩
  · intro s n hs
    obtain ⟨x, K⟩ := s
    obtain ⟨hx, hs⟩ := hs
    dsimp only at hx hs ⊢
    subst hx
    rw [wp_N_takeLocks_L13, if_pos (by rw [jI_le (by omega) (by omega)]; omega), hP1.2.1, ite_iff' (jI_eq (by omega) (by omega))]
    have hh := h K P1 hs hP1
    by_cases q : sp_fr L tv t m its = its.length
    · rw [if_pos q]
      rw [decide_eq_true q] at hh
      exact hh
    · rw [if_neg q]
      rw [decide_eq_false q] at hh
      exact hh
theorem k_N_blockersOf {post : Int64 → S_P → Prop} (hA : RA A v) (hK : RK K L) (hT : RT T tv) (hv : iT tv) (hL : iK tv L) (ht : t < tv_c tv)
    (h : ∀ x P', (∀ u, u < 64 → tb x u = sp_wf v L tv t u) → post x P') : wp_N_blockersOf A K P T (jI t) post := by
  have hc := hv.1
  have htb : t < 2147483648 := by omega
  have hl := sp_its_len (v := v) hv ht
  have hit := sp_its_lt (v := v) hv ht
  have hm := (sp_pm_le v tv t).1
  unfold wp_N_blockersOf
  refine k_N_planLocks hA hT hv ht (fun P1 hP1 => k_N_freeLocks hK hT hv hL hP1 hm hl hit ht ?_)
  have hfr := sp_fr_le (L := L) (tv := tv) (t := t) (m := sp_pm v tv t) (its := sp_its v tv t)
  have hfb : sp_fr L tv t (sp_pm v tv t) (sp_its v tv t) < 2147483648 := by omega
  rw [hP1.2.1, ite_iff' (jI_eq hfb (by omega))]
  by_cases q : sp_fr L tv t (sp_pm v tv t) (sp_its v tv t) = (sp_its v tv t).length
  · rw [if_pos q]
    refine h _ _ (fun u hu => ?_)
    unfold sp_wf
    rw [tb_0, decide_eq_false (by omega)]
    rfl
  · rw [if_neg q]
    have hlt : sp_fr L tv t (sp_pm v tv t) (sp_its v tv t) < (sp_its v tv t).length := by omega
    have hi := hit _ (getD_mem hlt)
    rw [jI_tn hfb, jI_tn htb, hP1.2.2 _ _ (getD_of hlt), hP1.1]
    refine ⟨jI_in hfb (by omega), jI_in htb (by omega), k_K_blockers hK (fun u => (hL u _ hi).1) hi (by omega) (hT.2.2.2.2.2.2.1 t ht) (fun x hx => h x _ (fun u hu => ?_))⟩
    rw [hx u hu]
    unfold sp_wf
    rw [decide_eq_true hlt]
    rfl
theorem k_N_leadsOf {post : Int64 → S_P → Prop} (hA : RA A v) (hK : RK K L) (hT : RT T tv) (hv : iT tv) (hL : iK tv L) (ht : t < tv_c tv)
    (h : ∀ x P', (∀ u, u < 64 → tb x u = sp_ld v L tv t u) → post x P') : wp_N_leadsOf A K P T (jI t) post := by
  have hc := hv.1
  have htb : t < 2147483648 := by omega
  unfold wp_N_leadsOf
  refine k_T_isLive hT hv htb ?_
  cases hl : sp_liv tv t with
  | false =>
    rw [if_pos (by rfl)]
    refine h _ _ (fun u hu => ?_)
    unfold sp_ld
    rw [tb_0, hl]
    rfl
  | true =>
    rw [if_neg (by decide)]
    refine k_T_liveChildren hT hv ht (fun x hx => k_T_isWaiting hT hv htb ?_)
    cases hw : sp_wai tv t with
    | false =>
      rw [if_pos (by rfl)]
      refine h _ _ (fun u hu => ?_)
      unfold sp_ld
      rw [hx u, hl, hw]
      simp
    | true =>
      rw [if_neg (by decide)]
      refine k_N_blockersOf hA hK hT hv hL ht (fun y P' hy => h _ _ (fun u hu => ?_))
      unfold sp_ld
      rw [tb_or, hx u, hy u hu, hl, hw]
      simp
end PN3
end
section
section PN4
variable {D : S_D} {ld : Nat → Nat → Bool} {c t : Nat}
theorem k_D_sweep {K : Int64 → Prop} {R0 : Int64} {x5 : Int32} {x6 : Int64} (hc : c ≤ 60) (hD : ∀ u, u < c → ∀ x, x < 64 → tb (D_from D u) x = ld u x) (hld : ∀ u x, ld u x = true → u < c ∧ x < c) (hs0 : ∀ u, tb R0 u = true → tg ld t u)
    (h : ∀ R1, (∀ u, tb R0 u = true → tb R1 u = true) → (∀ u, tb R1 u = true → tg ld t u) → (∀ u, u < c → tb R0 u = true → ∀ x, ld u x = true → tb R1 x = true) → K R1) : ∃ e, wp_D_reachedFrom_L22 D (jI c) x5 x6 K e R0 0 := by
  refine lpi (fun n (s : Int64 × Int32) => wp_D_reachedFrom_L22 D (jI c) x5 x6 K n s.1 s.2) (fun k s => s.2 = jI k ∧ (∀ u, tb R0 u = true → tb s.1 u = true) ∧ (∀ u, tb s.1 u = true → tg ld t u) ∧ ∀ u, u < k → tb R0 u = true → ∀ x, ld u x = true → tb s.1 x = true) c ?_ ?_ 0 (by omega) (R0, 0) ⟨rfl, fun u hu => hu, hs0, fun u hu => by omega⟩
  · intro k hk s n hs hn
    obtain ⟨R, i⟩ := s
    obtain ⟨hi, h1, h2, h3⟩ := hs
    dsimp only at hi h1 h2 h3 ⊢
    subst hi
    have hb : k < 2147483648 := by omega
    rw [wp_D_reachedFrom_L22, if_neg (by rw [jI_le (by omega) hb]; omega), show (1 : Int64) <<< (Int32.toInt64 (jI k) &&& 63) = oneb k from rfl, jI_s]
    by_cases q : tb R k = true
    · rw [if_neg (fun z => by rw [cmp_bit (by omega), q] at z; cases z), jI_tn hb]
      have hor : ∀ x, tb (R ||| D_from D k) x = true ↔ tb R x = true ∨ ld k x = true := by
        intro x
        rw [tb_or, Bool.or_eq_true]
        by_cases hx : x < 64
        · rw [hD k hk x hx]
        · constructor
          · rintro (z | z)
            · exact Or.inl z
            · rw [tb_hi _ (by omega)] at z
              cases z
          · rintro (z | z)
            · exact Or.inl z
            · have := hld k x z
              omega
      refine ⟨jI_in hb (by omega), hn (_, _) ⟨rfl, fun u hu => (hor u).mpr (Or.inl (h1 u hu)), fun u hu => ?_, fun u hu hu2 x hx => ?_⟩⟩
      · rcases (hor u).mp hu with z | z
        · exact h2 u z
        · exact Relation.TransGen.tail (h2 k q) z
      · dsimp only
        rw [hor x]
        by_cases e : u = k
        · rw [e] at hx
          exact Or.inr hx
        · exact Or.inl (h3 u (by omega) hu2 x hx)
    · have q : tb R k = false := by simpa using q
      rw [if_pos ((cmp_bit (by omega)).mpr q)]
      refine hn (_, _) ⟨rfl, h1, h2, fun u hu hu2 x hx => ?_⟩
      by_cases e : u = k
      · rw [e] at hu2
        rw [h1 k hu2] at q
        cases q
      · exact h3 u (by omega) hu2 x hx
  · intro s n hs
    obtain ⟨R, i⟩ := s
    obtain ⟨hi, h1, h2, h3⟩ := hs
    dsimp only at hi h1 h2 h3 ⊢
    subst hi
    rw [wp_D_reachedFrom_L22, if_pos (by rw [jI_le (by omega) (by omega)]; omega)]
    exact h R h1 h2 h3
theorem tg_in (hld : ∀ u x, ld u x = true → u < c ∧ x < c) {a b : Nat} (h : tg ld a b) : a < c ∧ b < c := by
  induction h with
  | single h => exact hld _ _ h
  | tail _ h ih => exact ⟨ih.1, (hld _ _ h).2⟩
theorem k_D_reachedFrom {post : Int64 → Prop} (hc : c ≤ 60) (ht : t < c) (hD : ∀ u, u < c → ∀ x, x < 64 → tb (D_from D u) x = ld u x) (hld : ∀ u x, ld u x = true → u < c ∧ x < c)
    (h : ∀ R, (∀ u, tb R u = true ↔ tg ld t u) → post R) : wp_D_reachedFrom D (jI t) (jI c) post := by
  have htb : t < 2147483648 := by omega
  unfold wp_D_reachedFrom
  rw [jI_tn htb]
  refine ⟨jI_in htb (by omega), ?_⟩
  have hbit : ∀ u, u < c → ∀ x, tb (D_from D u) x = true ↔ ld u x = true := by
    intro u hu x
    by_cases hx : x < 64
    · rw [hD u hu x hx]
    · constructor
      · intro z
        rw [tb_hi _ (by omega)] at z
        cases z
      · intro z
        have := hld u x z
        omega
  have fin : ∀ R, (∀ x, ld t x = true → tb R x = true) → (∀ u, tb R u = true → tg ld t u) → (∀ u, u < c → tb R u = true → ∀ x, ld u x = true → tb R x = true) → ∀ u, tb R u = true ↔ tg ld t u := by
    intro R h1 h2 h3 u
    refine ⟨h2 u, tg_closed (S := fun u => tb R u = true) h1 (fun a b ha hab => h3 a (hld a b hab).1 ha b hab) u⟩
  refine lpi (fun n (s : Int64 × Int32) => wp_D_reachedFrom_L10 D (jI c) (fun x2 => post x2) n s.1 s.2) (fun k s => s.2 = jI k ∧ (∀ x, ld t x = true → tb s.1 x = true) ∧ (∀ u, tb s.1 u = true → tg ld t u) ∧ k ≤ bc c (tb s.1)) c ?_ ?_ 0 (by omega) (D_from D t, 0) ⟨rfl, fun x hx => (hbit t ht x).mpr hx, fun u hu => Relation.TransGen.single ((hbit t ht u).mp hu), Nat.zero_le _⟩
  · intro k hk s n hs hn
    obtain ⟨R, i⟩ := s
    obtain ⟨hi, h1, h2, h3⟩ := hs
    dsimp only at hi h1 h2 h3 ⊢
    subst hi
    rw [wp_D_reachedFrom_L10, if_neg (by rw [jI_le (by omega) (by omega)]; omega), jI_s]
    refine k_D_sweep hc hD hld h2 (fun R1 g1 g2 g3 => ?_)
    by_cases e : R1 = R
    · rw [if_pos (cmp_0.mpr e)]
      subst e
      exact h R1 (fin R1 h1 h2 g3)
    · rw [if_neg (fun z => e (cmp_0.mp z))]
      refine hn (_, _) ⟨rfl, fun x hx => g1 x (h1 x hx), g2, ?_⟩
      obtain ⟨u, hu1, hu2⟩ : ∃ u, tb R u = false ∧ tb R1 u = true := by
        refine Classical.byContradiction (fun z => e (tb_ext (fun u _ => ?_)))
        cases z1 : tb R u with
        | true => exact g1 u z1
        | false =>
          cases z2 : tb R1 u with
          | false => rfl
          | true => exact absurd ⟨u, z1, z2⟩ z
      have := bc_lt (n := c) (P := tb R) (Q := tb R1) (fun k _ => g1 k) (tg_in hld (g2 u hu2)).2 hu1 hu2
      dsimp only
      omega
  · intro s n hs
    obtain ⟨R, i⟩ := s
    obtain ⟨hi, h1, h2, h3⟩ := hs
    dsimp only at hi h1 h2 h3 ⊢
    subst hi
    rw [wp_D_reachedFrom_L10, if_pos (by rw [jI_le (by omega) (by omega)]; omega)]
    have hall := bc_full h3
    exact h R (fin R h1 h2 (fun u _ _ x hx => hall x (hld u x hx).2))
theorem k_D_sweepB {K : Int64 → Prop} {R0 : Int64} {x5 : Int32} {x6 : Int64} (hc : c ≤ 60) (hD : ∀ u, u < c → ∀ x, x < 64 → tb (D_from D u) x = ld u x) (hld : ∀ u x, ld u x = true → u < c ∧ x < c) (hs0 : ∀ u, tb R0 u = true → u = t ∨ tg ld u t)
    (h : ∀ R1, (∀ u, tb R0 u = true → tb R1 u = true) → (∀ u, tb R1 u = true → u = t ∨ tg ld u t) → (∀ u x, tb R0 x = true → ld u x = true → tb R1 u = true) → K R1) : ∃ e, wp_D_leadingTo_L19 D (jI c) x5 x6 K e R0 0 := by
  refine lpi (fun n (s : Int64 × Int32) => wp_D_leadingTo_L19 D (jI c) x5 x6 K n s.1 s.2) (fun k s => s.2 = jI k ∧ (∀ u, tb R0 u = true → tb s.1 u = true) ∧ (∀ u, tb s.1 u = true → u = t ∨ tg ld u t) ∧ ∀ u, u < k → ∀ x, tb R0 x = true → ld u x = true → tb s.1 u = true) c ?_ ?_ 0 (by omega) (R0, 0) ⟨rfl, fun u hu => hu, hs0, fun u hu => by omega⟩
  · intro k hk s n hs hn
    obtain ⟨R, i⟩ := s
    obtain ⟨hi, h1, h2, h3⟩ := hs
    dsimp only at hi h1 h2 h3 ⊢
    subst hi
    have hb : k < 2147483648 := by omega
    rw [wp_D_leadingTo_L19, if_neg (by rw [jI_le (by omega) hb]; omega), show (1 : Int64) <<< (Int32.toInt64 (jI k) &&& 63) = oneb k from rfl, jI_s, jI_tn hb]
    refine ⟨jI_in hb (by omega), ?_⟩
    by_cases q : lg_cmp (R &&& D_from D k) 0 = 0
    · rw [if_pos q]
      rw [cmp_z] at q
      refine hn (_, _) ⟨rfl, h1, h2, fun u hu x hx hux => ?_⟩
      by_cases e : u = k
      · rw [e] at hux
        have hx64 : x < 64 := by
          have := hld k x hux
          omega
        have := q x hx64
        rw [tb_and, h1 x hx, hD k hk x hx64, hux] at this
        cases this
      · exact h3 u (by omega) x hx hux
    · rw [if_neg q]
      have hor : ∀ x, tb (R ||| oneb k) x = true ↔ tb R x = true ∨ k = x := by
        intro x
        rw [tb_or, Bool.or_eq_true, tb_oneb (by omega), decide_eq_true_eq]
      obtain ⟨x, hx64, hx1, hx2⟩ : ∃ x, x < 64 ∧ tb R x = true ∧ ld k x = true := by
        refine Classical.byContradiction (fun z => q (cmp_z.mpr (fun u hu => ?_)))
        rw [tb_and, hD k hk u hu]
        cases z1 : tb R u with
        | false => rfl
        | true =>
          cases z2 : ld k u with
          | false => rfl
          | true => exact absurd ⟨u, hu, z1, z2⟩ z
      refine hn (_, _) ⟨rfl, fun u hu => (hor u).mpr (Or.inl (h1 u hu)), fun u hu => ?_, fun u hu y hy huy => (hor u).mpr ?_⟩
      · rcases (hor u).mp hu with z | z
        · exact h2 u z
        · subst z
          rcases h2 x hx1 with w | w
          · subst w
            exact Or.inr (Relation.TransGen.single hx2)
          · exact Or.inr (tg_head hx2 w)
      · by_cases e : u = k
        · exact Or.inr e.symm
        · exact Or.inl (h3 u (by omega) y hy huy)
  · intro s n hs
    obtain ⟨R, i⟩ := s
    obtain ⟨hi, h1, h2, h3⟩ := hs
    dsimp only at hi h1 h2 h3 ⊢
    subst hi
    rw [wp_D_leadingTo_L19, if_pos (by rw [jI_le (by omega) (by omega)]; omega)]
    exact h R h1 h2 (fun u x hx hux => h3 u (hld u x hux).1 x hx hux)
theorem k_D_leadingTo {post : Int64 → Prop} (hc : c ≤ 60) (ht : t < c) (hD : ∀ u, u < c → ∀ x, x < 64 → tb (D_from D u) x = ld u x) (hld : ∀ u x, ld u x = true → u < c ∧ x < c)
    (h : ∀ R, (∀ u, tb R u = true ↔ u = t ∨ tg ld u t) → post R) : wp_D_leadingTo D (jI t) (jI c) post := by
  unfold wp_D_leadingTo
  rw [show (1 : Int64) <<< (Int32.toInt64 (jI t) &&& 63) = oneb t from rfl]
  have fin : ∀ R, tb R t = true → (∀ u, tb R u = true → u = t ∨ tg ld u t) → (∀ u x, tb R x = true → ld u x = true → tb R u = true) → ∀ u, tb R u = true ↔ u = t ∨ tg ld u t := by
    intro R h1 h2 h3 u
    refine ⟨h2 u, fun q => ?_⟩
    rcases q with q | q
    · rw [q]
      exact h1
    · exact tg_back (S := fun u => tb R u = true) (fun a ha => h3 a t h1 ha) (fun a b hb hab => h3 a b hb hab) u q
  have h1t : ∀ u, tb (oneb t) u = true ↔ t = u := by
    intro u
    rw [tb_oneb (by omega), decide_eq_true_eq]
  refine lpi (fun n (s : Int64 × Int32) => wp_D_leadingTo_L7 D (jI c) (fun x2 => post x2) n s.1 s.2) (fun k s => s.2 = jI k ∧ tb s.1 t = true ∧ (∀ u, tb s.1 u = true → u = t ∨ tg ld u t) ∧ k ≤ bc c (tb s.1)) c ?_ ?_ 0 (by omega) (oneb t, 0) ⟨rfl, (h1t t).mpr rfl, fun u hu => Or.inl ((h1t u).mp hu).symm, Nat.zero_le _⟩
  · intro k hk s n hs hn
    obtain ⟨R, i⟩ := s
    obtain ⟨hi, h1, h2, h3⟩ := hs
    dsimp only at hi h1 h2 h3 ⊢
    subst hi
    rw [wp_D_leadingTo_L7, if_neg (by rw [jI_le (by omega) (by omega)]; omega), jI_s]
    refine k_D_sweepB hc hD hld h2 (fun R1 g1 g2 g3 => ?_)
    by_cases e : R1 = R
    · rw [if_pos (cmp_0.mpr e)]
      subst e
      exact h R1 (fin R1 h1 h2 g3)
    · rw [if_neg (fun z => e (cmp_0.mp z))]
      refine hn (_, _) ⟨rfl, g1 t h1, g2, ?_⟩
      obtain ⟨u, hu1, hu2⟩ : ∃ u, tb R u = false ∧ tb R1 u = true := by
        refine Classical.byContradiction (fun z => e (tb_ext (fun u _ => ?_)))
        cases z1 : tb R u with
        | true => exact g1 u z1
        | false =>
          cases z2 : tb R1 u with
          | false => rfl
          | true => exact absurd ⟨u, z1, z2⟩ z
      have huc : u < c := by
        rcases g2 u hu2 with w | w
        · omega
        · exact (tg_in hld w).1
      have := bc_lt (n := c) (P := tb R) (Q := tb R1) (fun k _ => g1 k) huc hu1 hu2
      dsimp only
      omega
  · intro s n hs
    obtain ⟨R, i⟩ := s
    obtain ⟨hi, h1, h2, h3⟩ := hs
    dsimp only at hi h1 h2 h3 ⊢
    subst hi
    rw [wp_D_leadingTo_L7, if_pos (by rw [jI_le (by omega) (by omega)]; omega)]
    have hall := bc_full h3
    exact h R (fin R h1 h2 (fun u x _ hx => hall u (hld u x hx).1))
theorem k_D_greatest {post : Int32 → Prop} (hc : c ≤ 60) (ht : t < c) (hD : ∀ u, u < c → ∀ x, x < 64 → tb (D_from D u) x = ld u x) (hld : ∀ u x, ld u x = true → u < c ∧ x < c)
    (h : post (pI (sp_vic ld c t))) : wp_D_greatestInCircle D (jI t) (jI c) post := by
  unfold wp_D_greatestInCircle
  unfold sp_vic at h
  refine k_D_reachedFrom hc ht hD hld (fun R hR => ?_)
  rw [show (1 : Int64) <<< (Int32.toInt64 (jI t) &&& 63) = oneb t from rfl]
  by_cases q : tg ld t t
  · rw [if_neg (fun z => by rw [cmp_bit (by omega), (hR t).mpr q] at z; cases z)]
    rw [dP_iff.mpr q, if_pos (by rfl)] at h
    refine k_D_leadingTo hc ht hD hld (fun B hB => ?_)
    rw [jI_dm]
    refine lpd (fun n m (_ : Unit) => wp_D_greatestInCircle_L34 (jI t) (R &&& B) post (post (jI t)) n (jI m + (-1))) (fun m _ => t < m ∧ m ≤ c ∧ ∀ y, m ≤ y → y < c → dP (tg ld t y ∧ tg ld y t) = false) ?_ ?_ c () ⟨ht, Nat.le_refl _, fun y h1 h2 => by omega⟩
    · intro m _ n hs hn
      obtain ⟨h1, h2, h3⟩ := hs
      rw [wp_D_greatestInCircle_L34, jI_p, ite_iff' (jI_le (by omega) (by omega)), show (1 : Int64) <<< (Int32.toInt64 (jI m) &&& 63) = oneb m from rfl]
      by_cases e : m ≤ t
      · rw [if_pos e]
        have : t = m := by omega
        subst this
        rw [gl_eq (x := t) ht (dP_iff.mpr ⟨q, q⟩) (fun y hy1 hy2 => h3 y (by omega) hy2)] at h
        exact h
      · rw [if_neg e]
        by_cases z : tg ld t m ∧ tg ld m t
        · rw [if_neg (fun w => by
            rw [cmp_bit (by omega), tb_and, (hR m).mpr z.1, (hB m).mpr (Or.inr z.2)] at w
            cases w)]
          rw [gl_eq (x := m) (by omega) (dP_iff.mpr z) (fun y hy1 hy2 => h3 y (by omega) hy2)] at h
          exact h
        · rw [if_pos ((cmp_bit (by omega)).mpr (by
            rw [tb_and]
            cases z1 : tb R m with
            | false => rfl
            | true =>
              cases z2 : tb B m with
              | false => rfl
              | true =>
                rcases (hB m).mp z2 with w | w
                · omega
                · exact absurd ⟨(hR m).mp z1, w⟩ z))]
          refine hn () ⟨by omega, by omega, fun y hy1 hy2 => ?_⟩
          by_cases ey : y = m
          · rw [ey]
            exact dP_not z
          · exact h3 y (by omega) hy2
    · intro _ n hs
      omega
  · rw [if_pos ((cmp_bit (by omega)).mpr (by
      cases z1 : tb R t with
      | false => rfl
      | true => exact absurd ((hR t).mp z1) q))]
    rw [dP_not q, if_neg (by decide)] at h
    exact h
variable {A : S_A} {T : S_T} {K : S_K} {P : S_P} {v : VP} {tv : VT} {L : VK}
theorem k_N_victimOfCircle {post : Int32 → S_D → S_P → Prop} (hA : RA A v) (hK : RK K L) (hT : RT T tv) (hv : iT tv) (hL : iK tv L) (ht : t < tv_c tv)
    (h : ∀ D' P', post (pI (sp_vict v L tv t)) D' P') : wp_N_victimOfCircle A D K P T (jI t) post := by
  have hc := hv.1
  have htb : t < 2147483648 := by omega
  unfold wp_N_victimOfCircle
  refine k_T_isLive hT hv htb ?_
  unfold sp_vict at h
  cases hl : sp_liv tv t with
  | false =>
    rw [if_pos (by rfl)]
    rw [hl] at h
    exact h _ _
  | true =>
    rw [if_neg (by decide)]
    rw [hl] at h
    rw [hT.1]
    refine lpi (fun n (s : Int32 × S_D × S_P) => wp_N_victimOfCircle_L15 A K T (jI t) _ n s.1 s.2.1 s.2.2) (fun k s => s.1 = jI k ∧ ∀ u, u < k → ∀ x, x < 64 → tb (D_from s.2.1 u) x = sp_ld v L tv u x) (tv_c tv) ?_ ?_ 0 (by omega) (0, D, P) ⟨rfl, fun u hu => by omega⟩
    · intro k hk s n hs hn
      obtain ⟨i, D, P⟩ := s
      obtain ⟨hi, hs⟩ := hs
      dsimp only at hi hs ⊢
      subst hi
      have hb : k < 2147483648 := by omega
      rw [wp_N_victimOfCircle_L15, hT.1, if_neg (by rw [jI_le (by omega) hb]; omega), jI_s, jI_tn hb]
      refine k_N_leadsOf hA hK hT hv hL hk (fun x P' hx => ⟨jI_in hb (by omega), hn (_, _, _) ⟨rfl, fun u hu y hy => ?_⟩⟩)
      show tb (vp_updL (D_from D) k x u) y = sp_ld v L tv u y
      by_cases e : u = k
      · rw [e, updL_same]
        exact hx y hy
      · rw [updL_ne _ _ e]
        exact hs u (by omega) y hy
    · intro s n hs
      obtain ⟨i, D, P⟩ := s
      obtain ⟨hi, hs⟩ := hs
      dsimp only at hi hs ⊢
      subst hi
      rw [wp_N_victimOfCircle_L15, hT.1, if_pos (by rw [jI_le (by omega) (by omega)]; omega)]
      exact k_D_greatest hc ht hs (fun u x hux => sp_ld_in hv hL hux) (h _ _)
end PN4
end
section
section PMN2
variable {A : S_MA} {D : S_MD} {T : S_MT} {K : S_ML} {P : S_MP} {V : S_MV} {v : VP} {tv : VT} {L : VK} {t : Nat}
theorem m_want {post : S_MP → Prop} {its : List Nat} {m x : Nat} (hP : RMP P its m) (hl : its.length < 33) (h : ∀ P', RMP P' (its ++ [x]) m → post P') : wp_M_want P (jI x) post := by
  have hb : its.length < 2147483648 := by omega
  unfold wp_M_want
  rw [hP.2.1, jI_tn hb, jI_s]
  refine ⟨jI_in hb hl, h _ ⟨hP.1, ?_, fun i y hi => ?_⟩⟩
  · rw [List.length_append]
    rfl
  · show upd (MP_item P) its.length (jI x) i = jI y
    by_cases e : i = its.length
    · rw [e, upd_same]
      rw [e, List.getElem?_append_right (Nat.le_refl _)] at hi
      simp at hi
      rw [hi]
    · rw [upd_ne _ _ e]
      have hlt : i < its.length := by
        have := (List.getElem?_eq_some_iff.mp hi).1
        simp at this
        omega
      rw [List.getElem?_append_left hlt] at hi
      exact hP.2.2 i y hi
theorem RMP.nil (P : S_MP) (m : Nat) : RMP (MP_mode' (MP_wanted' P 0) (jI m)) [] m := ⟨rfl, rfl, fun i x h => by cases h⟩
theorem m_needs {post : S_MP → Prop} (hA : RMA A D v) (hi : iP v) (hv : iT tv) (ht : t < tv_c tv) (h : ∀ P', RMP P' (sp_its v tv t) (sp_pm v tv t) → post P') : wp_M_needs A D P (jI (tv_rk tv t + 1)) (jI (tv_lo tv t)) (sp_sec tv t) post := by
  have hc := hv.1
  obtain ⟨r1, r2, r3⟩ := hv.2.2 t (by omega)
  have hlo : tv_lo tv t < 32 := by omega
  unfold wp_M_needs
  refine m_isThereNow hA hi hlo ?_
  unfold sp_its sp_pm at h
  by_cases k0 : tv_rk tv t = 0
  · rw [show jI (tv_rk tv t + 1) = 1 by rw [k0]; rfl]
    rw [if_pos k0, if_neg (show ¬ tv_rk tv t = 1 by omega), if_neg (show ¬ tv_rk tv t = 2 by omega)] at h
    refine jn_intro ?_
    rw [if_neg (by decide), if_neg (by decide)]
    dsimp only
    rw [if_neg (by decide), if_pos (by rfl)]
    cases hth : pv_th v (tv_lo tv t) with
    | false =>
      rw [if_pos (by rfl)]
      rw [hth] at h
      exact m_next hA hi hlo (m_want (RMP.nil P 1) (by decide) (fun P' hP' => h P' hP'))
    | true =>
      rw [if_neg (by decide)]
      rw [hth] at h
      exact m_want (RMP.nil P 1) (by decide) (fun P' hP' => h P' hP')
  · rw [if_neg k0] at h
    by_cases k1 : tv_rk tv t = 1
    · rw [show jI (tv_rk tv t + 1) = 2 by rw [k1]; rfl]
      rw [if_pos k1, if_pos k1] at h
      refine jn_intro ?_
      rw [if_pos (by rfl)]
      dsimp only
      rw [if_neg (by decide), if_neg (by decide), if_neg (by decide)]
      cases hth : pv_th v (tv_lo tv t) with
      | false =>
        rw [if_neg (by decide), if_pos (by rfl)]
        rw [hth] at h
        exact m_next hA hi hlo (m_want (RMP.nil P 2) (by decide) (fun P' hP' => m_want hP' (by simp) (fun P2 hP2 => h P2 hP2)))
      | true =>
        rw [if_neg (by decide), if_neg (by decide)]
        rw [hth] at h
        exact m_want (RMP.nil P 2) (by decide) (fun P' hP' => h P' hP')
    · rw [if_neg k1, if_neg k1] at h
      by_cases k2 : tv_rk tv t = 2
      · rw [show jI (tv_rk tv t + 1) = 3 by rw [k2]; rfl]
        rw [if_pos k2, if_pos k2] at h
        refine jn_intro ?_
        cases hth : pv_th v (tv_lo tv t) with
        | false =>
          rw [hth] at h
          rw [if_neg (by decide), if_pos (by rfl), if_pos (by rfl)]
          dsimp only
          rw [if_neg (by decide), if_neg (by decide), if_pos (by rfl), if_pos (by rfl), if_pos (by rfl)]
          exact m_next hA hi hlo (m_want (RMP.nil P 1) (by decide) (fun P' hP' => h P' hP'))
        | true =>
          rw [hth] at h
          rw [if_neg (by decide), if_pos (by rfl), if_neg (by decide)]
          dsimp only
          rw [if_neg (by decide), if_neg (by decide), if_pos (by rfl), if_neg (by decide), if_pos (by rfl)]
          exact m_next hA hi hlo (m_want (RMP.nil P 2) (by decide) (fun P' hP' => m_want hP' (by simp) (fun P2 hP2 => h P2 hP2)))
      · have k3 : tv_rk tv t = 3 := by omega
        rw [show jI (tv_rk tv t + 1) = 4 by rw [k3]; rfl]
        rw [if_neg k2, if_neg k2] at h
        have hsec : sp_sec tv t = jI (tv_hi tv t) := by
          unfold sp_sec
          rw [if_pos k3]
        rw [hsec]
        refine jn_intro ?_
        rw [if_neg (by decide), if_neg (by decide)]
        dsimp only
        rw [if_pos (by rfl)]
        refine lpi (fun n (s : Int32 × S_MP) => wp_M_needs_L44 A D (jI (tv_hi tv t)) _ n s.1 s.2) (fun k s => s.1 = jI (tv_lo tv t + k) ∧ RMP s.2 (sp_ks v (tv_lo tv t) k) 1) (tv_hi tv t + 1 - tv_lo tv t) ?_ ?_ 0 (by omega) (jI (tv_lo tv t), MP_mode' (MP_wanted' P 0) (jI 1)) ⟨rfl, RMP.nil P 1⟩
        · intro k hk s n hs hn
          obtain ⟨x, P⟩ := s
          obtain ⟨hx, hs⟩ := hs
          dsimp only at hx hs ⊢
          subst hx
          have hkb : tv_lo tv t + k < 2147483648 := by omega
          have hl := sp_ks_len v (tv_lo tv t) k
          rw [wp_M_needs_L44, if_neg (by rw [jI_lt (by omega) hkb]; omega), jI_s]
          refine m_isThereNow hA hi (by omega) ?_
          cases hth : pv_th v (tv_lo tv t + k) with
          | false =>
            rw [if_pos (by rfl)]
            refine hn (_, _) ⟨rfl, ?_⟩
            unfold sp_ks
            rw [hth, if_neg (by decide), List.append_nil]
            exact hs
          | true =>
            rw [if_neg (by decide)]
            refine m_want hs (by omega) (fun P' hP' => hn (_, _) ⟨rfl, ?_⟩)
            unfold sp_ks
            rw [hth, if_pos (by rfl)]
            exact hP'
        · intro s n hs
          obtain ⟨x, P⟩ := s
          obtain ⟨hx, hs⟩ := hs
          dsimp only at hx hs ⊢
          subst hx
          have hl := sp_ks_len v (tv_lo tv t) (tv_hi tv t + 1 - tv_lo tv t)
          rw [wp_M_needs_L44, if_pos (by rw [jI_lt (by omega) (by omega)]; omega)]
          exact m_next hA hi r3 (m_want hs (by omega) (fun P' hP' => h P' hP'))
theorem ff_step {Q : Nat → Bool} {l m : Nat} (h : m < l) : ff Q (l - m) m = if Q m then m else ff Q (l - (m + 1)) (m + 1) := by
  rw [show l - m = (l - (m + 1)) + 1 by omega]
  rfl
theorem m_look56 {Kx : S_MV → Prop} {its : List Nat} {m : Nat} (hK : RML K L) (hT : RMT T tv) (hv : iT tv) (hL : iK tv L) (hP : RMP P its m) (hm : m ≤ 2) (hl : its.length ≤ 33) (hit : ∀ x, x ∈ its → x < 33) (ht : t < tv_c tv) (h0 : MV_lacks V t = -1)
    (h : ∀ V', (∀ u, ¬ u = t → MV_lacks V' u = MV_lacks V u) → MV_lackMode V' = MV_lackMode V → MV_lacks V' t = pI (if sp_fr L tv t m its < its.length then some (its.getD (sp_fr L tv t m its) 0) else none) → Kx V') : ∃ e, wp_M_look_L56 K P T (jI t) Kx e (jI its.length + (-1)) V := by
  have hc := hv.1
  have htb : t < 2147483648 := by omega
  have hti : vp_in (jI t) 60 := jI_in htb (by omega)
  refine lpd (fun n k (s : S_MV) => wp_M_look_L56 K P T (jI t) Kx n (jI k + (-1)) s) (fun k s => k ≤ its.length ∧ (∀ u, ¬ u = t → MV_lacks s u = MV_lacks V u) ∧ MV_lackMode s = MV_lackMode V ∧ MV_lacks s t = pI (if ff (fun i => sp_lk L tv t m (its.getD i 0)) (its.length - k) k < its.length then some (its.getD (ff (fun i => sp_lk L tv t m (its.getD i 0)) (its.length - k) k) 0) else none)) ?_ ?_ its.length V ⟨Nat.le_refl _, fun u _ => rfl, rfl, ?_⟩
  · intro k s n hs hn
    have hk := hs.1
    have h1 := hs.2.1
    have h2 := hs.2.2.1
    have h3 := hs.2.2.2
    have hb : k < 2147483648 := by omega
    have hkl : k < its.length := by omega
    have hi : its.getD k 0 < 33 := hit _ (getD_mem hkl)
    have hki : vp_in (jI k) 33 := jI_in hb (by omega)
    have e1 := (ix33 (show t < 60 by omega) hi).1
    have e2 := (ix33 (show t < 60 by omega) hi).2.1
    have e3 := (ix33 (show t < 60 by omega) hi).2.2
    show wp_M_look_L56 K P T (jI t) Kx (n + 1) (jI (k + 1) + (-1)) s
    rw [wp_M_look_L56, jI_p, if_neg (jI_nn hb), jI_tn hb, hP.2.2 k _ (getD_of hkl), e1, jI_tn e3, hK t _ (by omega) hi, hP.1]
    refine ⟨hki, jI_in e3 e2, jn_in (fun jk => jk (b2i (sp_lk L tv t m (its.getD k 0)))) ?_ ?_⟩
    · rw [jI_tn htb]
      cases q : sp_lk L tv t m (its.getD k 0) with
      | false =>
        rw [if_pos (by rfl)]
        refine ⟨hti, hti, hn _ ⟨by omega, fun u hu => ?_, h2, ?_⟩⟩
        · show upd (MV_lacks s) t (MV_lacks s t) u = _
          rw [upd_ne _ _ hu]
          exact h1 u hu
        · show upd (MV_lacks s) t (MV_lacks s t) t = _
          rw [upd_same, h3, ff_step hkl, q]
          rfl
      | true =>
        rw [if_neg (by decide)]
        refine ⟨hki, hti, hn _ ⟨by omega, fun u hu => ?_, h2, ?_⟩⟩
        · show upd (MV_lacks s) t _ u = _
          rw [upd_ne _ _ hu]
          exact h1 u hu
        · show upd (MV_lacks s) t _ t = _
          rw [upd_same, ff_step hkl, q, if_pos (rfl : true = true), if_pos hkl]
          rfl
    · intro jk hjk
      unfold sp_lk at hjk
      rw [ite_iff' (jI_le (by omega) (by have := (hL t _ hi).1; omega))]
      by_cases q : m ≤ L t (its.getD k 0)
      · rw [if_pos q]
        rw [decide_eq_false (by omega : ¬ L t (its.getD k 0) < m)] at hjk
        exact hjk
      · rw [if_neg q]
        rw [decide_eq_true (by omega : L t (its.getD k 0) < m), Bool.true_and] at hjk
        refine ⟨hki, m_may hK hT hv ht hi (by omega) (fun u => (hL u _ hi).1) ?_⟩
        cases z : sp_bar L tv t (its.getD k 0) m with
        | true =>
          rw [if_pos (by rfl)]
          rw [z] at hjk
          exact hjk
        | false =>
          rw [if_neg (by decide)]
          rw [z] at hjk
          exact hjk
  · intro s n hs
    show wp_M_look_L56 K P T (jI t) Kx (n + 1) (jI 0 + (-1)) s
    rw [wp_M_look_L56, if_pos (by decide)]
    exact h s hs.2.1 hs.2.2.1 hs.2.2.2
  · rw [h0, Nat.sub_self]
    show (-1 : Int32) = pI (if its.length < its.length then _ else none)
    rw [if_neg (by omega)]
    rfl
theorem m_look {post : S_MP → S_MV → Prop} (hA : RMA A D v) (hi : iP v) (hK : RML K L) (hT : RMT T tv) (hv : iT tv) (hL : iK tv L) (h : ∀ P' V', RMV V' v L tv (tv_c tv) → post P' V') : wp_M_look A D K P T V post := by
  have hc := hv.1
  unfold wp_M_look
  refine lpi (fun n (s : Int32 × S_MP × S_MV) => wp_M_look_L2 A D K T (fun MP5 MV6 => post MP5 MV6) n s.1 s.2.1 s.2.2) (fun k s => s.1 = jI k ∧ RMV s.2.2 v L tv k) (tv_c tv) ?_ ?_ 0 (by omega) (0, P, V) ⟨rfl, fun t ht => absurd ht (Nat.not_lt_zero _)⟩
  · intro k hk s n hs hn
    obtain ⟨x, P, V⟩ := s
    obtain ⟨hx, hs⟩ := hs
    dsimp only at hx hs ⊢
    subst hx
    have hb : k < 2147483648 := by omega
    have hki : vp_in (jI k) 60 := jI_in hb (by omega)
    rw [wp_M_look_L2, hT.1, if_neg (by rw [jI_le (by omega) hb]; omega), jI_tn hb, hT.2.1 k hk, jI_s]
    refine ⟨hki, hki, ?_⟩
    by_cases q : tv_st tv k = 2
    · rw [if_pos q]
      obtain ⟨a1, a2, a3⟩ := hT.2.2.2.2 k hk q
      rw [a1, a2, a3]
      refine ⟨hki, hki, hki, m_needs hA hi hv hk (fun P1 hP1 => ?_)⟩
      rw [hP1.2.1, jI_dm]
      refine m_look56 hK hT hv hL hP1 (sp_pm_le v tv k).1 (sp_its_len hv hk) (sp_its_lt hv hk) hk (upd_same _ _ _) (fun V' h1 h2 h3 => ⟨hki, hn (_, _, _) ⟨rfl, fun t ht => ?_⟩⟩)
      by_cases e : t = k
      · subst e
        refine ⟨fun _ => ⟨?_, ?_⟩, fun z => absurd q z⟩
        · show MV_lacks V' t = pI (sp_lack v L tv t)
          rw [h3]
          rfl
        · show upd (MV_lackMode V') t (MP_mode P1) t = _
          rw [upd_same, hP1.1]
      · have e1 : MV_lacks V' t = MV_lacks V t := by
          rw [h1 t e]
          exact upd_ne _ _ e
        have e2 : upd (MV_lackMode V') k (MP_mode P1) t = MV_lackMode V t := by
          rw [upd_ne _ _ e, h2]
        have hst := hs t (by omega)
        refine ⟨fun z => ⟨?_, ?_⟩, fun z => ?_⟩
        · show MV_lacks V' t = _
          rw [e1]
          exact (hst.1 z).1
        · show upd (MV_lackMode V') k (MP_mode P1) t = _
          rw [e2]
          exact (hst.1 z).2
        · show MV_lacks V' t = _
          rw [e1]
          exact hst.2 z
    · rw [if_neg q]
      refine hn (_, _, _) ⟨rfl, fun t ht => ?_⟩
      by_cases e : t = k
      · subst e
        exact ⟨fun z => absurd z q, fun _ => upd_same _ _ _⟩
      · have e1 : upd (MV_lacks V) k (-1) t = MV_lacks V t := upd_ne _ _ e
        have hst := hs t (by omega)
        refine ⟨fun z => ⟨?_, (hst.1 z).2⟩, fun z => ?_⟩
        · show upd (MV_lacks V) k (-1) t = _
          rw [e1]
          exact (hst.1 z).1
        · show upd (MV_lacks V) k (-1) t = _
          rw [e1]
          exact hst.2 z
  · intro s n hs
    obtain ⟨x, P, V⟩ := s
    obtain ⟨hx, hs⟩ := hs
    dsimp only at hx hs ⊢
    subst hx
    rw [wp_M_look_L2, hT.1, if_pos (by rw [jI_le (by omega) (by omega)]; omega)]
    exact h P V hs
theorem sp_lack_lt (hv : iT tv) (ht : t < tv_c tv) {i : Nat} (h : sp_lack v L tv t = some i) : i < 33 := by
  unfold sp_lack at h
  split at h
  · rename_i q
    cases h
    exact sp_its_lt hv ht _ (getD_mem q)
  · cases h
theorem m_leads {post : Int32 → Prop} {u : Nat} (hK : RML K L) (hT : RMT T tv) (hv : iT tv) (hL : iK tv L) (hV : RMV V v L tv (tv_c tv)) (ht : t < tv_c tv) (hu : u < tv_c tv) (h : post (b2i (sp_ld v L tv t u))) : wp_M_leads K T V (jI t) (jI u) post := by
  have hc := hv.1
  have htb : t < 2147483648 := by omega
  have hub : u < 2147483648 := by omega
  have hti : vp_in (jI t) 60 := jI_in htb (by omega)
  have hui : vp_in (jI u) 60 := jI_in hub (by omega)
  obtain ⟨v1, v2⟩ := hV t ht
  have tail : post (b2i (sp_wai tv t && sp_wf v L tv t u)) → (vp_in (jI t) 60 ∧ (if tv_st tv t = 2 then vp_in (jI t) 60 ∧ (if MV_lacks V t < 0 then post 0 else vp_in (jI t) 60 ∧ vp_in (jI t) 60 ∧ wp_M_bars K T (jI u) (jI t) (MV_lacks V t) (MV_lackMode V t) (fun r2 => if r2 = 0 then post 0 else post 1)) else post 0)) := by
    intro hp
    refine ⟨hti, ?_⟩
    unfold sp_wai at hp
    rw [decide_eq_true ht, Bool.true_and] at hp
    by_cases q : tv_st tv t = 2
    · rw [if_pos q]
      rw [decide_eq_true q, Bool.true_and, sp_wf_lack] at hp
      refine ⟨hti, ?_⟩
      obtain ⟨l1, l2⟩ := v1 q
      rw [l1, l2]
      cases z : sp_lack v L tv t with
      | none =>
        rw [if_pos (by decide)]
        rw [z] at hp
        exact hp
      | some i =>
        have hi := sp_lack_lt hv ht z
        rw [show pI (some i) = jI i from rfl, if_neg (jI_nn (by omega))]
        rw [z] at hp
        dsimp only at hp
        refine ⟨hti, hti, m_bars hK hT hv hu ht hi (by have := (sp_pm_le v tv t).1; omega) (hL u i hi).1 ?_⟩
        cases w : sp_bl L (tv_lin tv t) i (sp_pm v tv t) u with
        | false =>
          rw [if_pos (by rfl)]
          rw [w] at hp
          exact hp
        | true =>
          rw [if_neg (by decide)]
          rw [w] at hp
          exact hp
    · rw [if_neg q]
      rw [decide_eq_false q, Bool.false_and] at hp
      exact hp
  unfold wp_M_leads
  refine m_live hT hv ht ?_
  unfold sp_ld at h
  rw [jI_tn htb, jI_tn hub, hT.2.1 t ht, hT.2.2.1 u hu]
  cases hl : sp_liv tv t with
  | false =>
    rw [if_pos (by rfl)]
    rw [hl, Bool.false_and] at h
    refine tail ?_
    have : sp_wai tv t = false := by
      unfold sp_liv at hl
      unfold sp_wai
      rw [decide_eq_true ht, Bool.true_and] at hl ⊢
      rw [Bool.or_eq_false_iff] at hl
      exact hl.2
    rw [this, Bool.false_and]
    exact h
  | true =>
    rw [if_neg (by decide)]
    rw [hl, Bool.true_and] at h
    unfold sp_chl at h
    refine m_live hT hv hu ?_
    cases hl2 : sp_liv tv u with
    | false =>
      rw [if_pos (by rfl)]
      rw [hl2, Bool.false_and, Bool.false_or] at h
      exact tail h
    | true =>
      rw [if_neg (by decide)]
      rw [hl2, Bool.true_and] at h
      refine ⟨hui, ?_⟩
      have hpp : pI (tv_par tv u) = jI t ↔ tv_par tv u = some t := by
        cases hp : tv_par tv u with
        | none =>
          constructor
          · intro z
            exact absurd z.symm (jI_m1 htb)
          · intro z
            cases z
        | some p =>
          have := (hv.2.1 _ hu).2.2.2.2.2 p hp
          constructor
          · intro z
            rw [(jI_eq (by omega) (by omega)).mp z]
          · intro z
            cases z
            rfl
      by_cases hp : tv_par tv u = some t
      · rw [if_pos (hpp.mpr hp)]
        rw [decide_eq_true hp, Bool.true_or] at h
        exact h
      · rw [if_neg (fun z => hp (hpp.mp z))]
        rw [decide_eq_false hp, Bool.false_or] at h
        exact tail h
end PMN2
end
