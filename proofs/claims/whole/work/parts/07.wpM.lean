def wp_M_isKey (a0 : Int32) (post : Int32 → Prop) : Prop :=
  (if a0 < 0 then post 0
  else (if 31 < a0 then post 0
    else post 1))

def wp_M_isPage (a0 : Int32) (post : Int32 → Prop) : Prop :=
  (if a0 < 0 then post 0
  else (if 7 < a0 then post 0
    else post 1))

def wp_M_isThereNow (MA : S_MA) (MD : S_MD) (a1 : Int32) (post : Int32 → Prop) : Prop :=
  vp_in (a1 / 4) 8 ∧
  (if ((MA_inFrame MA) (Int32.toNatClampNeg (a1 / 4))) = 0 then vp_in a1 32 ∧
    vp_nar .boolean ((MD_diskThere MD) (Int32.toNatClampNeg a1)) = ((MD_diskThere MD) (Int32.toNatClampNeg a1)) ∧
    post ((MD_diskThere MD) (Int32.toNatClampNeg a1))
  else vp_in a1 32 ∧
    vp_nar .boolean ((MA_there MA) (Int32.toNatClampNeg a1)) = ((MA_there MA) (Int32.toNatClampNeg a1)) ∧
    post ((MA_there MA) (Int32.toNatClampNeg a1)))

def wp_M_valueNow (MA : S_MA) (MD : S_MD) (a1 : Int32) (post : Int32 → Prop) : Prop :=
  vp_in (a1 / 4) 8 ∧
  (if ((MA_inFrame MA) (Int32.toNatClampNeg (a1 / 4))) = 0 then vp_in a1 32 ∧
    post ((MD_diskValue MD) (Int32.toNatClampNeg a1))
  else vp_in a1 32 ∧
    post ((MA_value MA) (Int32.toNatClampNeg a1)))

def wp_M_lsnNow (MA : S_MA) (MD : S_MD) (a1 : Int32) (post : Int32 → Prop) : Prop :=
  vp_in a1 8 ∧
  (if ((MA_inFrame MA) (Int32.toNatClampNeg a1)) = 0 then vp_in a1 8 ∧
    post ((MD_diskLsn MD) (Int32.toNatClampNeg a1))
  else vp_in a1 8 ∧
    post ((MA_lsn MA) (Int32.toNatClampNeg a1)))

def wp_M_writes_L34 (MA : S_MA) (v1 : Int32) (Kx : S_MD → Prop) : Nat → Int32 → S_MD → Prop
  | 0, _, _ => False
  | n34 + 1, v2, MD => (if ((4 * v1) + 4) ≤ v2 then Kx MD
      else vp_in v2 32 ∧
        vp_in v2 32 ∧
        vp_in v2 32 ∧
        vp_in v2 32 ∧
        wp_M_writes_L34 MA v1 Kx n34 (v2 + 1) (MD_diskValue' (MD_diskThere' MD (upd (MD_diskThere MD) (Int32.toNatClampNeg v2) (vp_nar .boolean ((MA_there MA) (Int32.toNatClampNeg v2))))) (upd (MD_diskValue MD) (Int32.toNatClampNeg v2) ((MA_value MA) (Int32.toNatClampNeg v2)))))
def wp_M_writes (MA : S_MA) (MD : S_MD) (MG : S_MG) (a1 : Int32) (post : S_MA → S_MD → S_MG → Prop) : Prop :=
  vp_in a1 8 ∧
  (jn (fun (jk27 : Int32 → Prop) =>
  (if ((MA_lsn MA) (Int32.toNatClampNeg a1)) ≤ (MG_flushed MG) then jk27 (MG_flushed MG)
    else vp_in a1 8 ∧
      jk27 ((MA_lsn MA) (Int32.toNatClampNeg a1)))) (fun b1 =>
  (∃ e34, wp_M_writes_L34 MA a1 (fun MD2 =>
    vp_in a1 8 ∧
      vp_in a1 8 ∧
      vp_in a1 8 ∧
      post (MA_dirty' MA (upd (MA_dirty MA) (Int32.toNatClampNeg a1) (vp_nar .boolean 0))) (MD_diskLsn' MD2 (upd (MD_diskLsn MD2) (Int32.toNatClampNeg a1) ((MA_lsn MA) (Int32.toNatClampNeg a1)))) (MG_flushed' MG b1)) e34 (4 * a1) MD)))

def wp_M_touch_L26 (MA : S_MA) (v1 : Int32) (Kx : Int32 → Int32 → Prop) : Nat → Int32 → Int32 → Int32 → Prop
  | 0, _, _, _ => False
  | n26 + 1, v2, v3, v4 => (if 8 ≤ v4 then Kx v2 v3
      else vp_in v4 8 ∧
        (jn (fun (jk49 : Int32 → Prop) =>
        (if ((MA_inFrame MA) (Int32.toNatClampNeg v4)) = 0 then jk49 0
          else jk49 1)) (fun b1 =>
        vp_in v4 8 ∧
          (if ((MA_inFrame MA) (Int32.toNatClampNeg v4)) = 0 then wp_M_touch_L26 MA v1 Kx n26 (v2 + b1) v3 (v4 + 1)
          else (if v3 < 0 then wp_M_touch_L26 MA v1 Kx n26 (v2 + b1) v4 (v4 + 1)
            else vp_in v4 8 ∧
              vp_in v3 8 ∧
              (if ((MA_touched MA) (Int32.toNatClampNeg v3)) ≤ ((MA_touched MA) (Int32.toNatClampNeg v4)) then wp_M_touch_L26 MA v1 Kx n26 (v2 + b1) v3 (v4 + 1)
              else wp_M_touch_L26 MA v1 Kx n26 (v2 + b1) v4 (v4 + 1)))))))
def wp_M_touch_L128 (MD : S_MD) (v1 : Int32) (Kx : S_MA → Prop) : Nat → Int32 → S_MA → Prop
  | 0, _, _ => False
  | n128 + 1, v4, MA => (if ((4 * v1) + 4) ≤ v4 then Kx MA
      else vp_in v4 32 ∧
        vp_in v4 32 ∧
        vp_in v4 32 ∧
        vp_in v4 32 ∧
        wp_M_touch_L128 MD v1 Kx n128 (v4 + 1) (MA_value' (MA_there' MA (upd (MA_there MA) (Int32.toNatClampNeg v4) (vp_nar .boolean ((MD_diskThere MD) (Int32.toNatClampNeg v4))))) (upd (MA_value MA) (Int32.toNatClampNeg v4) ((MD_diskValue MD) (Int32.toNatClampNeg v4)))))
def wp_M_touch (MA : S_MA) (MD : S_MD) (MG : S_MG) (a1 : Int32) (post : S_MA → S_MD → S_MG → Prop) : Prop :=
  vp_in a1 8 ∧
  (if ((MA_inFrame MA) (Int32.toNatClampNeg a1)) = 0 then (∃ e26, wp_M_touch_L26 (MA_clock' MA ((MA_clock MA) + 1)) a1 (fun x2 x3 =>
    (jn (fun (jk123 : S_MA → S_MD → S_MG → Prop) =>
      (if x2 = (MA_frames MA) then vp_in x3 8 ∧
          (if ((MA_dirty MA) (Int32.toNatClampNeg x3)) = 0 then vp_in x3 8 ∧
            jk123 (MA_inFrame' (MA_clock' MA ((MA_clock MA) + 1)) (upd (MA_inFrame MA) (Int32.toNatClampNeg x3) (vp_nar .boolean 0))) MD MG
          else wp_M_writes (MA_clock' MA ((MA_clock MA) + 1)) MD MG x3 (fun MA4 MD5 MG6 =>
            vp_in x3 8 ∧
            jk123 (MA_inFrame' MA4 (upd (MA_inFrame MA4) (Int32.toNatClampNeg x3) (vp_nar .boolean 0))) MD5 MG6))
        else jk123 (MA_clock' MA ((MA_clock MA) + 1)) MD MG)) (fun MA7 MD8 MG9 =>
      (∃ e128, wp_M_touch_L128 MD8 a1 (fun MA10 =>
        vp_in a1 8 ∧
          vp_in a1 8 ∧
          vp_in a1 8 ∧
          vp_in a1 8 ∧
          vp_in a1 8 ∧
          post (MA_touched' (MA_inFrame' (MA_dirty' (MA_lsn' MA10 (upd (MA_lsn MA10) (Int32.toNatClampNeg a1) ((MD_diskLsn MD8) (Int32.toNatClampNeg a1)))) (upd (MA_dirty MA10) (Int32.toNatClampNeg a1) (vp_nar .boolean 0))) (upd (MA_inFrame MA10) (Int32.toNatClampNeg a1) (vp_nar .boolean 1))) (upd (MA_touched MA10) (Int32.toNatClampNeg a1) (MA_clock MA10))) MD8 MG9) e128 (4 * a1) MA7)))) e26 0 (-1) 0)
  else vp_in a1 8 ∧
    post (MA_touched' (MA_clock' MA ((MA_clock MA) + 1)) (upd (MA_touched MA) (Int32.toNatClampNeg a1) ((MA_clock MA) + 1))) MD MG)

def wp_M_become (MA : S_MA) (a1 : Int32) (a2 : Int32) (a3 : Int32) (a4 : Int32) (post : S_MA → Prop) : Prop :=
  vp_in a1 32 ∧
  (jn (fun (jk21 : Int32 → Prop) =>
  (if a2 = 0 then jk21 0
    else jk21 a3)) (fun b1 =>
  vp_in a1 32 ∧
    vp_in (a1 / 4) 8 ∧
    vp_in (a1 / 4) 8 ∧
    post (MA_dirty' (MA_lsn' (MA_value' (MA_there' MA (upd (MA_there MA) (Int32.toNatClampNeg a1) (vp_nar .boolean a2))) (upd (MA_value MA) (Int32.toNatClampNeg a1) b1)) (upd (MA_lsn MA) (Int32.toNatClampNeg (a1 / 4)) a4)) (upd (MA_dirty MA) (Int32.toNatClampNeg (a1 / 4)) (vp_nar .boolean 1)))))

def wp_M_last (MG : S_MG) (post : Int32 → Prop) : Prop :=
  post ((MG_base MG) + (MG_records MG))

def wp_M_append (MG : S_MG) (a1 : Int32) (a2 : Int32) (a3 : Int32) (post : Int32 → S_MG → Prop) : Prop :=
  vp_in (MG_records MG) 301 ∧
  vp_in (MG_records MG) 301 ∧
  vp_in (MG_records MG) 301 ∧
  vp_in (MG_records MG) 301 ∧
  vp_in (MG_records MG) 301 ∧
  vp_in (MG_records MG) 301 ∧
  vp_in (MG_records MG) 301 ∧
  vp_in (MG_records MG) 301 ∧
  post (MG_records MG) (MG_records' (MG_isValue' (MG_isThere' (MG_wasValue' (MG_wasThere' (MG_of' (MG_about' (MG_by' (MG_kind' MG (upd (MG_kind MG) (Int32.toNatClampNeg (MG_records MG)) a1)) (upd (MG_by MG) (Int32.toNatClampNeg (MG_records MG)) a2)) (upd (MG_about MG) (Int32.toNatClampNeg (MG_records MG)) a3)) (upd (MG_of MG) (Int32.toNatClampNeg (MG_records MG)) 0)) (upd (MG_wasThere MG) (Int32.toNatClampNeg (MG_records MG)) (vp_nar .boolean 0))) (upd (MG_wasValue MG) (Int32.toNatClampNeg (MG_records MG)) 0)) (upd (MG_isThere MG) (Int32.toNatClampNeg (MG_records MG)) (vp_nar .boolean 0))) (upd (MG_isValue MG) (Int32.toNatClampNeg (MG_records MG)) 0)) ((MG_records MG) + 1))

def wp_M_update (MA : S_MA) (MD : S_MD) (MG : S_MG) (a1 : Int32) (a2 : Int32) (a3 : Int32) (a4 : Int32) (post : S_MA → S_MD → S_MG → Prop) : Prop :=
  wp_M_append MG 2 a1 a2 (fun r1 MG2 =>
  wp_M_touch MA MD MG2 (a2 / 4) (fun MA3 MD4 MG5 =>
  vp_in a2 32 ∧
  vp_in r1 301 ∧
  vp_in a2 32 ∧
  vp_in r1 301 ∧
  vp_in r1 301 ∧
  (jn (fun (jk66 : Int32 → Prop) =>
  (if a3 = 0 then jk66 0
    else jk66 a4)) (fun b6 =>
  vp_in r1 301 ∧
    wp_M_last (MG_isValue' (MG_isThere' (MG_wasValue' (MG_wasThere' MG5 (upd (MG_wasThere MG5) (Int32.toNatClampNeg r1) (vp_nar .boolean ((MA_there MA3) (Int32.toNatClampNeg a2))))) (upd (MG_wasValue MG5) (Int32.toNatClampNeg r1) ((MA_value MA3) (Int32.toNatClampNeg a2)))) (upd (MG_isThere MG5) (Int32.toNatClampNeg r1) (vp_nar .boolean a3))) (upd (MG_isValue MG5) (Int32.toNatClampNeg r1) b6)) (fun r7 =>
    wp_M_become MA3 a2 a3 a4 r7 (fun MA8 =>
    post MA8 MD4 (MG_isValue' (MG_isThere' (MG_wasValue' (MG_wasThere' MG5 (upd (MG_wasThere MG5) (Int32.toNatClampNeg r1) (vp_nar .boolean ((MA_there MA3) (Int32.toNatClampNeg a2))))) (upd (MG_wasValue MG5) (Int32.toNatClampNeg r1) ((MA_value MA3) (Int32.toNatClampNeg a2)))) (upd (MG_isThere MG5) (Int32.toNatClampNeg r1) (vp_nar .boolean a3))) (upd (MG_isValue MG5) (Int32.toNatClampNeg r1) b6))))))))

def wp_M_undo (MA : S_MA) (MD : S_MD) (MG : S_MG) (a1 : Int32) (a2 : Int32) (post : S_MA → S_MD → S_MG → Prop) : Prop :=
  vp_in a2 301 ∧
  wp_M_append MG 3 a1 ((MG_about MG) (Int32.toNatClampNeg a2)) (fun r1 MG2 =>
  vp_in r1 301 ∧
  vp_in a2 301 ∧
  vp_in r1 301 ∧
  vp_in a2 301 ∧
  vp_in r1 301 ∧
  vp_in a2 301 ∧
  wp_M_touch MA MD (MG_isValue' (MG_isThere' (MG_of' MG2 (upd (MG_of MG2) (Int32.toNatClampNeg r1) (((MG_base MG2) + a2) + 1))) (upd (MG_isThere MG2) (Int32.toNatClampNeg r1) (vp_nar .boolean ((MG_wasThere MG2) (Int32.toNatClampNeg a2))))) (upd (MG_isValue MG2) (Int32.toNatClampNeg r1) ((MG_wasValue MG2) (Int32.toNatClampNeg a2)))) (((MG_about MG2) (Int32.toNatClampNeg a2)) / 4) (fun MA3 MD4 MG5 =>
  vp_in a2 301 ∧
  vp_in r1 301 ∧
  vp_in r1 301 ∧
  wp_M_last MG5 (fun r6 =>
  wp_M_become MA3 ((MG_about MG5) (Int32.toNatClampNeg a2)) ((MG_isThere MG5) (Int32.toNatClampNeg r1)) ((MG_isValue MG5) (Int32.toNatClampNeg r1)) r6 (fun MA7 =>
  post MA7 MD4 MG5))))

def wp_M_undone_L6 (MG : S_MG) (v1 : Int32) (Kx : Int32 → Prop) : Nat → Int32 → Int32 → Prop
  | 0, _, _ => False
  | n6 + 1, v2, v3 => (if (MG_records MG) ≤ v3 then Kx v2
      else (if v2 = 0 then vp_in v3 301 ∧
          (if ((MG_kind MG) (Int32.toNatClampNeg v3)) = 3 then vp_in v3 301 ∧
            (if ((MG_of MG) (Int32.toNatClampNeg v3)) = (((MG_base MG) + v1) + 1) then wp_M_undone_L6 MG v1 Kx n6 1 (v3 + 1)
            else wp_M_undone_L6 MG v1 Kx n6 0 (v3 + 1))
          else wp_M_undone_L6 MG v1 Kx n6 0 (v3 + 1))
        else wp_M_undone_L6 MG v1 Kx n6 1 (v3 + 1)))
def wp_M_undone (MG : S_MG) (a1 : Int32) (post : Int32 → Prop) : Prop :=
  (∃ e6, wp_M_undone_L6 MG a1 (fun x1 =>
  vp_nar .boolean x1 = x1 ∧
    post x1) e6 0 (a1 + 1))

def wp_M_top_L4 (MT : S_MT) (Kx : Int32 → Prop) : Nat → Int32 → Int32 → Prop
  | 0, _, _ => False
  | n4 + 1, v2, v3 => (if 4 ≤ v3 then Kx v2
      else vp_in v2 60 ∧
        (if ((MT_parent MT) (Int32.toNatClampNeg v2)) < 0 then Kx v2
        else vp_in v2 60 ∧
          wp_M_top_L4 MT Kx n4 ((MT_parent MT) (Int32.toNatClampNeg v2)) (v3 + 1)))
def wp_M_top (MT : S_MT) (a1 : Int32) (post : Int32 → Prop) : Prop :=
  (∃ e4, wp_M_top_L4 MT (fun x1 =>
  post x1) e4 a1 0)

def wp_M_open (MG : S_MG) (MT : S_MT) (a1 : Int32) (post : Int32 → Prop) : Prop :=
  vp_in a1 301 ∧
  (if ((MG_kind MG) (Int32.toNatClampNeg a1)) = 2 then vp_in a1 301 ∧
    wp_M_top MT ((MG_by MG) (Int32.toNatClampNeg a1)) (fun r1 =>
    vp_in r1 60 ∧
    (if ((MT_state MT) (Int32.toNatClampNeg r1)) = 3 then post 0
    else vp_in a1 301 ∧
      wp_M_top MT ((MG_by MG) (Int32.toNatClampNeg a1)) (fun r2 =>
      vp_in r2 60 ∧
      (if ((MT_state MT) (Int32.toNatClampNeg r2)) = 4 then post 0
      else wp_M_undone MG a1 (fun r3 =>
        (if r3 = 0 then post 1
        else post 0))))))
  else post 0)

def wp_M_opens_L4 (MG : S_MG) (MT : S_MT) (Kx : Int32 → Prop) : Nat → Int32 → Int32 → Prop
  | 0, _, _ => False
  | n4 + 1, v1, v2 => (if (MG_records MG) ≤ v2 then Kx v1
      else wp_M_open MG MT v2 (fun r1 =>
        (if r1 = 0 then wp_M_opens_L4 MG MT Kx n4 (v1 + 0) (v2 + 1)
        else wp_M_opens_L4 MG MT Kx n4 (v1 + 1) (v2 + 1))))
def wp_M_opens (MG : S_MG) (MT : S_MT) (post : Int32 → Prop) : Prop :=
  (∃ e4, wp_M_opens_L4 MG MT (fun x2 =>
  post x2) e4 0 0)

def wp_M_live (MT : S_MT) (a1 : Int32) (post : Int32 → Prop) : Prop :=
  vp_in a1 60 ∧
  (if ((MT_state MT) (Int32.toNatClampNeg a1)) = 1 then post 1
  else vp_in a1 60 ∧
    (if ((MT_state MT) (Int32.toNatClampNeg a1)) = 2 then post 1
    else post 0))

def wp_M_lives_L4 (MT : S_MT) (Kx : Int32 → Prop) : Nat → Int32 → Int32 → Prop
  | 0, _, _ => False
  | n4 + 1, v1, v2 => (if (MT_many MT) ≤ v2 then Kx v1
      else wp_M_live MT v2 (fun r1 =>
        (if r1 = 0 then wp_M_lives_L4 MT Kx n4 (v1 + 0) (v2 + 1)
        else wp_M_lives_L4 MT Kx n4 (v1 + 1) (v2 + 1))))
def wp_M_lives (MT : S_MT) (post : Int32 → Prop) : Prop :=
  (∃ e4, wp_M_lives_L4 MT (fun x2 =>
  post x2) e4 0 0)

def wp_M_full (MG : S_MG) (MT : S_MT) (post : Int32 → Prop) : Prop :=
  wp_M_opens MG MT (fun r1 =>
  wp_M_lives MT (fun r2 =>
  (if ((((MG_records MG) + r1) + r2) + 2) ≤ 300 then post 0
  else post 1)))

def wp_M_is (MT : S_MT) (a1 : Int32) (post : Int32 → Prop) : Prop :=
  (if a1 < 0 then post 0
  else (if (MT_many MT) ≤ a1 then post 0
    else post 1))

def wp_M_active (MT : S_MT) (a1 : Int32) (post : Int32 → Prop) : Prop :=
  wp_M_is MT a1 (fun r1 =>
  (if r1 = 0 then post 0
  else vp_in a1 60 ∧
    (if ((MT_state MT) (Int32.toNatClampNeg a1)) = 1 then post 1
    else post 0)))

def wp_M_above_L13 (MT : S_MT) (v1 : Int32) (Kx : Int32 → Prop) : Nat → Int32 → Int32 → Int32 → Prop
  | 0, _, _, _ => False
  | n13 + 1, v3, v4, v5 => (if 4 ≤ v5 then Kx v3
      else (if v4 < 0 then Kx v3
        else (jn (fun (jk39 : Int32 → Prop) =>
          (if v3 = 0 then (if v4 = v1 then jk39 1
              else jk39 0)
            else jk39 1)) (fun b1 =>
          vp_in v4 60 ∧
            wp_M_above_L13 MT v1 Kx n13 b1 ((MT_parent MT) (Int32.toNatClampNeg v4)) (v5 + 1)))))
def wp_M_above (MT : S_MT) (a1 : Int32) (a2 : Int32) (post : Int32 → Prop) : Prop :=
  vp_in a2 60 ∧
  (∃ e13, wp_M_above_L13 MT a1 (fun x2 =>
  vp_nar .boolean x2 = x2 ∧
    post x2) e13 0 ((MT_parent MT) (Int32.toNatClampNeg a2)) 0)

def wp_M_busy_L4 (MT : S_MT) (v1 : Int32) (Kx : Int32 → Prop) : Nat → Int32 → Int32 → Prop
  | 0, _, _ => False
  | n4 + 1, v2, v3 => (if (MT_many MT) ≤ v3 then Kx v2
      else (if v2 = 0 then wp_M_live MT v3 (fun r1 =>
          (if r1 = 0 then wp_M_busy_L4 MT v1 Kx n4 0 (v3 + 1)
          else vp_in v3 60 ∧
            (if ((MT_parent MT) (Int32.toNatClampNeg v3)) = v1 then wp_M_busy_L4 MT v1 Kx n4 1 (v3 + 1)
            else wp_M_busy_L4 MT v1 Kx n4 0 (v3 + 1))))
        else wp_M_busy_L4 MT v1 Kx n4 1 (v3 + 1)))
def wp_M_busy (MT : S_MT) (a1 : Int32) (post : Int32 → Prop) : Prop :=
  (∃ e4, wp_M_busy_L4 MT a1 (fun x2 =>
  vp_nar .boolean x2 = x2 ∧
    post x2) e4 0 0)

def wp_M_depth_L12 (MT : S_MT) (Kx : Int32 → Prop) : Nat → Int32 → Int32 → Int32 → Prop
  | 0, _, _, _ => False
  | n12 + 1, v2, v3, v4 => (if 4 ≤ v4 then Kx v2
      else (if v3 < 0 then Kx v2
        else vp_in v3 60 ∧
          wp_M_depth_L12 MT Kx n12 (v2 + 1) ((MT_parent MT) (Int32.toNatClampNeg v3)) (v4 + 1)))
def wp_M_depth (MT : S_MT) (a1 : Int32) (post : Int32 → Prop) : Prop :=
  vp_in a1 60 ∧
  (∃ e12, wp_M_depth_L12 MT (fun x1 =>
  post x1) e12 1 ((MT_parent MT) (Int32.toNatClampNeg a1)) 0)

def wp_M_begin (MG : S_MG) (MT : S_MT) (a1 : Int32) (post : Int32 → S_MG → S_MT → Prop) : Prop :=
  (if a1 = (-1) then (if (MT_many MT) = 60 then post (-1) MG MT
    else (if a1 = (-1) then wp_M_full MG MT (fun r1 =>
        (if r1 = 0 then vp_in (MT_many MT) 60 ∧
          vp_in (MT_many MT) 60 ∧
          wp_M_append MG 1 (MT_many MT) a1 (fun r2 MG3 =>
          wp_M_last MG3 (fun r4 =>
          vp_in (MT_many MT) 60 ∧
          vp_in r2 301 ∧
          post ((MG_by MG3) (Int32.toNatClampNeg r2)) MG3 (MT_many' (MT_began' (MT_parent' (MT_state' MT (upd (MT_state MT) (Int32.toNatClampNeg (MT_many MT)) 1)) (upd (MT_parent MT) (Int32.toNatClampNeg (MT_many MT)) a1)) (upd (MT_began MT) (Int32.toNatClampNeg (MT_many MT)) r4)) ((MT_many MT) + 1))))
        else post (-5) MG MT))
      else wp_M_depth MT a1 (fun r5 =>
        (if r5 < 4 then wp_M_full MG MT (fun r6 =>
          (if r6 = 0 then vp_in (MT_many MT) 60 ∧
            vp_in (MT_many MT) 60 ∧
            wp_M_append MG 1 (MT_many MT) a1 (fun r7 MG8 =>
            wp_M_last MG8 (fun r9 =>
            vp_in (MT_many MT) 60 ∧
            vp_in r7 301 ∧
            post ((MG_by MG8) (Int32.toNatClampNeg r7)) MG8 (MT_many' (MT_began' (MT_parent' (MT_state' MT (upd (MT_state MT) (Int32.toNatClampNeg (MT_many MT)) 1)) (upd (MT_parent MT) (Int32.toNatClampNeg (MT_many MT)) a1)) (upd (MT_began MT) (Int32.toNatClampNeg (MT_many MT)) r9)) ((MT_many MT) + 1))))
          else post (-5) MG MT))
        else post (-1) MG MT))))
  else wp_M_active MT a1 (fun r10 =>
    (if r10 = 0 then post (-1) MG MT
    else (if (MT_many MT) = 60 then post (-1) MG MT
      else (if a1 = (-1) then wp_M_full MG MT (fun r11 =>
          (if r11 = 0 then vp_in (MT_many MT) 60 ∧
            vp_in (MT_many MT) 60 ∧
            wp_M_append MG 1 (MT_many MT) a1 (fun r12 MG13 =>
            wp_M_last MG13 (fun r14 =>
            vp_in (MT_many MT) 60 ∧
            vp_in r12 301 ∧
            post ((MG_by MG13) (Int32.toNatClampNeg r12)) MG13 (MT_many' (MT_began' (MT_parent' (MT_state' MT (upd (MT_state MT) (Int32.toNatClampNeg (MT_many MT)) 1)) (upd (MT_parent MT) (Int32.toNatClampNeg (MT_many MT)) a1)) (upd (MT_began MT) (Int32.toNatClampNeg (MT_many MT)) r14)) ((MT_many MT) + 1))))
          else post (-5) MG MT))
        else wp_M_depth MT a1 (fun r15 =>
          (if r15 < 4 then wp_M_full MG MT (fun r16 =>
            (if r16 = 0 then vp_in (MT_many MT) 60 ∧
              vp_in (MT_many MT) 60 ∧
              wp_M_append MG 1 (MT_many MT) a1 (fun r17 MG18 =>
              wp_M_last MG18 (fun r19 =>
              vp_in (MT_many MT) 60 ∧
              vp_in r17 301 ∧
              post ((MG_by MG18) (Int32.toNatClampNeg r17)) MG18 (MT_many' (MT_began' (MT_parent' (MT_state' MT (upd (MT_state MT) (Int32.toNatClampNeg (MT_many MT)) 1)) (upd (MT_parent MT) (Int32.toNatClampNeg (MT_many MT)) a1)) (upd (MT_began MT) (Int32.toNatClampNeg (MT_many MT)) r19)) ((MT_many MT) + 1))))
            else post (-5) MG MT))
          else post (-1) MG MT)))))))

def wp_M_next_L4 (MA : S_MA) (MD : S_MD) (Kx : Int32 → Prop) : Nat → Int32 → Prop
  | 0, _ => False
  | n4 + 1, v2 => (if 32 ≤ v2 then Kx v2
      else wp_M_isThereNow MA MD v2 (fun r1 =>
        (if r1 = 0 then wp_M_next_L4 MA MD Kx n4 (v2 + 1)
        else Kx v2)))
def wp_M_next (MA : S_MA) (MD : S_MD) (a1 : Int32) (post : Int32 → Prop) : Prop :=
  (∃ e4, wp_M_next_L4 MA MD (fun x2 =>
  post x2) e4 (a1 + 1))

def wp_M_want (MP : S_MP) (a1 : Int32) (post : S_MP → Prop) : Prop :=
  vp_in (MP_wanted MP) 33 ∧
  post (MP_wanted' (MP_item' MP (upd (MP_item MP) (Int32.toNatClampNeg (MP_wanted MP)) a1)) ((MP_wanted MP) + 1))

def wp_M_needs_L44 (MA : S_MA) (MD : S_MD) (v3 : Int32) (Kx : S_MP → Prop) : Nat → Int32 → S_MP → Prop
  | 0, _, _ => False
  | n44 + 1, v5, MP => (if v3 < v5 then Kx MP
      else wp_M_isThereNow MA MD v5 (fun r23 =>
        (if r23 = 0 then wp_M_needs_L44 MA MD v3 Kx n44 (v5 + 1) MP
        else wp_M_want MP v5 (fun MP24 =>
          wp_M_needs_L44 MA MD v3 Kx n44 (v5 + 1) MP24))))
def wp_M_needs (MA : S_MA) (MD : S_MD) (MP : S_MP) (a1 : Int32) (a2 : Int32) (a3 : Int32) (post : S_MP → Prop) : Prop :=
  wp_M_isThereNow MA MD a2 (fun r1 =>
  (jn (fun (jk33 : Int32 → Prop) =>
  (if a1 = 2 then jk33 2
    else (if a1 = 3 then (if r1 = 0 then jk33 1
        else jk33 2)
      else jk33 1))) (fun b2 =>
  (if a1 = 4 then (∃ e44, wp_M_needs_L44 MA MD a3 (fun MP25 =>
      wp_M_next MA MD a3 (fun r26 =>
        wp_M_want MP25 r26 (fun MP27 =>
        post MP27))) e44 a2 (MP_mode' (MP_wanted' MP 0) b2))
    else (if a1 = 1 then (if r1 = 0 then wp_M_next MA MD a2 (fun r3 =>
          wp_M_want (MP_mode' (MP_wanted' MP 0) b2) r3 (fun MP4 =>
          post MP4))
        else wp_M_want (MP_mode' (MP_wanted' MP 0) b2) a2 (fun MP5 =>
          post MP5))
      else (if a1 = 3 then (if r1 = 0 then (if r1 = 0 then wp_M_next MA MD a2 (fun r20 =>
              wp_M_want (MP_mode' (MP_wanted' MP 0) b2) r20 (fun MP21 =>
              post MP21))
            else wp_M_want (MP_mode' (MP_wanted' MP 0) b2) a2 (fun MP22 =>
              post MP22))
          else (if a1 = 3 then wp_M_next MA MD a2 (fun r13 =>
              wp_M_want (MP_mode' (MP_wanted' MP 0) b2) r13 (fun MP14 =>
              wp_M_want MP14 a2 (fun MP15 =>
              post MP15)))
            else (if r1 = 0 then wp_M_next MA MD a2 (fun r17 =>
                wp_M_want (MP_mode' (MP_wanted' MP 0) b2) r17 (fun MP18 =>
                wp_M_want MP18 a2 (fun MP19 =>
                post MP19)))
              else wp_M_want (MP_mode' (MP_wanted' MP 0) b2) a2 (fun MP16 =>
                post MP16))))
        else (if a1 = 3 then wp_M_next MA MD a2 (fun r6 =>
            wp_M_want (MP_mode' (MP_wanted' MP 0) b2) r6 (fun MP7 =>
            wp_M_want MP7 a2 (fun MP8 =>
            post MP8)))
          else (if r1 = 0 then wp_M_next MA MD a2 (fun r10 =>
              wp_M_want (MP_mode' (MP_wanted' MP 0) b2) r10 (fun MP11 =>
              wp_M_want MP11 a2 (fun MP12 =>
              post MP12)))
            else wp_M_want (MP_mode' (MP_wanted' MP 0) b2) a2 (fun MP9 =>
              post MP9)))))))))

def wp_M_bars (ML : S_ML) (MT : S_MT) (a1 : Int32) (a2 : Int32) (a3 : Int32) (a4 : Int32) (post : Int32 → Prop) : Prop :=
  vp_in ((33 * a1) + a3) 1980 ∧
  (if a1 = a2 then post 0
  else (if ((ML_locks ML) (Int32.toNatClampNeg ((33 * a1) + a3))) ≤ 0 then post 0
    else (if a4 = 2 then wp_M_above MT a1 a2 (fun r1 =>
        (if r1 = 0 then post 1
        else post 0))
      else (if ((ML_locks ML) (Int32.toNatClampNeg ((33 * a1) + a3))) = 2 then wp_M_above MT a1 a2 (fun r2 =>
          (if r2 = 0 then post 1
          else post 0))
        else post 0))))

def wp_M_may_L6 (ML : S_ML) (MT : S_MT) (v1 : Int32) (v2 : Int32) (v3 : Int32) (Kx : Int32 → Prop) : Nat → Int32 → Int32 → Prop
  | 0, _, _ => False
  | n6 + 1, v4, v5 => (if (MT_many MT) ≤ v5 then Kx v4
      else (if v4 = 0 then wp_M_may_L6 ML MT v1 v2 v3 Kx n6 0 (v5 + 1)
        else wp_M_bars ML MT v5 v1 v2 v3 (fun r1 =>
          (if r1 = 0 then wp_M_may_L6 ML MT v1 v2 v3 Kx n6 1 (v5 + 1)
          else wp_M_may_L6 ML MT v1 v2 v3 Kx n6 0 (v5 + 1)))))
def wp_M_may (ML : S_ML) (MT : S_MT) (a1 : Int32) (a2 : Int32) (a3 : Int32) (post : Int32 → Prop) : Prop :=
  (∃ e6, wp_M_may_L6 ML MT a1 a2 a3 (fun x2 =>
  vp_nar .boolean x2 = x2 ∧
    post x2) e6 1 0)

def wp_M_look_L56 (ML : S_ML) (MP : S_MP) (MT : S_MT) (v1 : Int32) (Kx : S_MV → Prop) : Nat → Int32 → S_MV → Prop
  | 0, _, _ => False
  | n56 + 1, v2, MV => (if v2 < 0 then Kx MV
      else vp_in v2 33 ∧
        vp_in ((33 * v1) + ((MP_item MP) (Int32.toNatClampNeg v2))) 1980 ∧
        (jn (fun (jk106 : Int32 → Prop) =>
        (if (MP_mode MP) ≤ ((ML_locks ML) (Int32.toNatClampNeg ((33 * v1) + ((MP_item MP) (Int32.toNatClampNeg v2))))) then jk106 0
          else vp_in v2 33 ∧
            wp_M_may ML MT v1 ((MP_item MP) (Int32.toNatClampNeg v2)) (MP_mode MP) (fun r2 =>
            (if r2 = 0 then jk106 1
            else jk106 0)))) (fun b3 =>
        (if b3 = 0 then vp_in v1 60 ∧
            vp_in v1 60 ∧
            wp_M_look_L56 ML MP MT v1 Kx n56 (v2 + (-1)) (MV_lacks' MV (upd (MV_lacks MV) (Int32.toNatClampNeg v1) ((MV_lacks MV) (Int32.toNatClampNeg v1))))
          else vp_in v2 33 ∧
            vp_in v1 60 ∧
            wp_M_look_L56 ML MP MT v1 Kx n56 (v2 + (-1)) (MV_lacks' MV (upd (MV_lacks MV) (Int32.toNatClampNeg v1) ((MP_item MP) (Int32.toNatClampNeg v2))))))))
def wp_M_look_L2 (MA : S_MA) (MD : S_MD) (ML : S_ML) (MT : S_MT) (Kx : S_MP → S_MV → Prop) : Nat → Int32 → S_MP → S_MV → Prop
  | 0, _, _, _ => False
  | n2 + 1, v1, MP, MV => (if (MT_many MT) ≤ v1 then Kx MP MV
      else vp_in v1 60 ∧
        vp_in v1 60 ∧
        (if ((MT_state MT) (Int32.toNatClampNeg v1)) = 2 then vp_in v1 60 ∧
          vp_in v1 60 ∧
          vp_in v1 60 ∧
          wp_M_needs MA MD MP ((MT_asks MT) (Int32.toNatClampNeg v1)) ((MT_first MT) (Int32.toNatClampNeg v1)) ((MT_second MT) (Int32.toNatClampNeg v1)) (fun MP1 =>
          (∃ e56, wp_M_look_L56 ML MP1 MT v1 (fun MV4 =>
          vp_in v1 60 ∧
            wp_M_look_L2 MA MD ML MT Kx n2 (v1 + 1) MP1 (MV_lackMode' MV4 (upd (MV_lackMode MV4) (Int32.toNatClampNeg v1) (MP_mode MP1)))) e56 ((MP_wanted MP1) - 1) (MV_lacks' MV (upd (MV_lacks MV) (Int32.toNatClampNeg v1) (-1)))))
        else wp_M_look_L2 MA MD ML MT Kx n2 (v1 + 1) MP (MV_lacks' MV (upd (MV_lacks MV) (Int32.toNatClampNeg v1) (-1)))))
def wp_M_look (MA : S_MA) (MD : S_MD) (ML : S_ML) (MP : S_MP) (MT : S_MT) (MV : S_MV) (post : S_MP → S_MV → Prop) : Prop :=
  (∃ e2, wp_M_look_L2 MA MD ML MT (fun MP5 MV6 =>
  post MP5 MV6) e2 0 MP MV)

def wp_M_leads (ML : S_ML) (MT : S_MT) (MV : S_MV) (a1 : Int32) (a2 : Int32) (post : Int32 → Prop) : Prop :=
  wp_M_live MT a1 (fun r1 =>
  (if r1 = 0 then vp_in a1 60 ∧
    (if ((MT_state MT) (Int32.toNatClampNeg a1)) = 2 then vp_in a1 60 ∧
      (if ((MV_lacks MV) (Int32.toNatClampNeg a1)) < 0 then post 0
      else vp_in a1 60 ∧
        vp_in a1 60 ∧
        wp_M_bars ML MT a2 a1 ((MV_lacks MV) (Int32.toNatClampNeg a1)) ((MV_lackMode MV) (Int32.toNatClampNeg a1)) (fun r2 =>
        (if r2 = 0 then post 0
        else post 1)))
    else post 0)
  else wp_M_live MT a2 (fun r3 =>
    (if r3 = 0 then vp_in a1 60 ∧
      (if ((MT_state MT) (Int32.toNatClampNeg a1)) = 2 then vp_in a1 60 ∧
        (if ((MV_lacks MV) (Int32.toNatClampNeg a1)) < 0 then post 0
        else vp_in a1 60 ∧
          vp_in a1 60 ∧
          wp_M_bars ML MT a2 a1 ((MV_lacks MV) (Int32.toNatClampNeg a1)) ((MV_lackMode MV) (Int32.toNatClampNeg a1)) (fun r4 =>
          (if r4 = 0 then post 0
          else post 1)))
      else post 0)
    else vp_in a2 60 ∧
      (if ((MT_parent MT) (Int32.toNatClampNeg a2)) = a1 then post 1
      else vp_in a1 60 ∧
        (if ((MT_state MT) (Int32.toNatClampNeg a1)) = 2 then vp_in a1 60 ∧
          (if ((MV_lacks MV) (Int32.toNatClampNeg a1)) < 0 then post 0
          else vp_in a1 60 ∧
            vp_in a1 60 ∧
            wp_M_bars ML MT a2 a1 ((MV_lacks MV) (Int32.toNatClampNeg a1)) ((MV_lackMode MV) (Int32.toNatClampNeg a1)) (fun r5 =>
            (if r5 = 0 then post 0
            else post 1)))
        else post 0))))))

def wp_M_victim_L6 (MT : S_MT) (v1 : Int32) (Kx : S_MV → Prop) : Nat → Int32 → S_MV → Prop
  | 0, _, _ => False
  | n6 + 1, v2, MV => (if (MT_many MT) ≤ v2 then Kx MV
      else vp_in v2 60 ∧
        vp_in v2 60 ∧
        wp_M_victim_L6 MT v1 Kx n6 (v2 + 1) (MV_back' (MV_ahead' MV (upd (MV_ahead MV) (Int32.toNatClampNeg v2) (vp_nar .boolean 0))) (upd (MV_back MV) (Int32.toNatClampNeg v2) (vp_nar .boolean 0))))
def wp_M_victim_L65 (ML : S_ML) (MT : S_MT) (v1 : Int32) (v3 : Int32) (v4 : Int32) (Kx : Int32 → S_MV → Prop) : Nat → Int32 → Int32 → S_MV → Prop
  | 0, _, _, _ => False
  | n65 + 1, v2, v5, MV => (if (MT_many MT) ≤ v5 then Kx v2 MV
      else (jn (fun (jk116 : Int32 → Prop) =>
        (if v4 = v1 then vp_in v5 60 ∧
            (if ((MV_ahead MV) (Int32.toNatClampNeg v5)) = 0 then wp_M_leads ML MT MV v4 v5 (fun r4 =>
              (if r4 = 0 then jk116 0
              else jk116 1))
            else jk116 0)
          else vp_in v4 60 ∧
            (if ((MV_ahead MV) (Int32.toNatClampNeg v4)) = 0 then jk116 0
            else vp_in v5 60 ∧
              (if ((MV_ahead MV) (Int32.toNatClampNeg v5)) = 0 then wp_M_leads ML MT MV v4 v5 (fun r5 =>
                (if r5 = 0 then jk116 0
                else jk116 1))
              else jk116 0)))) (fun b6 =>
        (jn (fun (jk160 : Int32 → Prop) =>
          (if v5 = v1 then vp_in v4 60 ∧
              (if ((MV_back MV) (Int32.toNatClampNeg v4)) = 0 then wp_M_leads ML MT MV v4 v5 (fun r7 =>
                (if r7 = 0 then jk160 0
                else jk160 1))
              else jk160 0)
            else vp_in v5 60 ∧
              (if ((MV_back MV) (Int32.toNatClampNeg v5)) = 0 then jk160 0
              else vp_in v4 60 ∧
                (if ((MV_back MV) (Int32.toNatClampNeg v4)) = 0 then wp_M_leads ML MT MV v4 v5 (fun r8 =>
                  (if r8 = 0 then jk160 0
                  else jk160 1))
                else jk160 0)))) (fun b9 =>
          vp_in v5 60 ∧
            (jn (fun (jk188 : Int32 → Prop) =>
            (if ((MV_ahead MV) (Int32.toNatClampNeg v5)) = 0 then (if b6 = 0 then jk188 0
                else jk188 1)
              else jk188 1)) (fun b10 =>
            vp_in v5 60 ∧
              vp_in v4 60 ∧
              (jn (fun (jk215 : Int32 → Prop) =>
              (if ((MV_back MV) (Int32.toNatClampNeg v4)) = 0 then (if b9 = 0 then jk215 0
                  else jk215 1)
                else jk215 1)) (fun b11 =>
              vp_in v4 60 ∧
                (if v2 = 0 then (if b6 = 0 then (if b9 = 0 then wp_M_victim_L65 ML MT v1 v3 v4 Kx n65 0 (v5 + 1) (MV_back' (MV_ahead' MV (upd (MV_ahead MV) (Int32.toNatClampNeg v5) (vp_nar .boolean b10))) (upd (MV_back MV) (Int32.toNatClampNeg v4) (vp_nar .boolean b11)))
                    else wp_M_victim_L65 ML MT v1 v3 v4 Kx n65 1 (v5 + 1) (MV_back' (MV_ahead' MV (upd (MV_ahead MV) (Int32.toNatClampNeg v5) (vp_nar .boolean b10))) (upd (MV_back MV) (Int32.toNatClampNeg v4) (vp_nar .boolean b11))))
                  else wp_M_victim_L65 ML MT v1 v3 v4 Kx n65 1 (v5 + 1) (MV_back' (MV_ahead' MV (upd (MV_ahead MV) (Int32.toNatClampNeg v5) (vp_nar .boolean b10))) (upd (MV_back MV) (Int32.toNatClampNeg v4) (vp_nar .boolean b11))))
                else wp_M_victim_L65 ML MT v1 v3 v4 Kx n65 1 (v5 + 1) (MV_back' (MV_ahead' MV (upd (MV_ahead MV) (Int32.toNatClampNeg v5) (vp_nar .boolean b10))) (upd (MV_back MV) (Int32.toNatClampNeg v4) (vp_nar .boolean b11)))))))))))))
def wp_M_victim_L53 (ML : S_ML) (MT : S_MT) (v1 : Int32) (v3 : Int32) (Kx : Int32 → S_MV → Prop) : Nat → Int32 → Int32 → S_MV → Prop
  | 0, _, _, _ => False
  | n53 + 1, v2, v4, MV => (if (MT_many MT) ≤ v4 then Kx v2 MV
      else (∃ e65, wp_M_victim_L65 ML MT v1 v3 v4 (fun x12 MV13 =>
        wp_M_victim_L53 ML MT v1 v3 Kx n53 x12 (v4 + 1) MV13) e65 v2 0 MV))
def wp_M_victim_L38 (ML : S_ML) (MT : S_MT) (v1 : Int32) (Kx : S_MV → Prop) : Nat → Int32 → Int32 → S_MV → Prop
  | 0, _, _, _ => False
  | n38 + 1, v2, v3, MV => (if 61 ≤ v3 then Kx MV
      else (if v2 = 0 then Kx MV
        else (∃ e53, wp_M_victim_L53 ML MT v1 v3 (fun x14 MV15 =>
          wp_M_victim_L38 ML MT v1 Kx n38 x14 (v3 + 1) MV15) e53 0 0 MV)))
def wp_M_victim_L259 (MT : S_MT) (MV : S_MV) (v1 : Int32) (Kx : Int32 → Prop) : Nat → Int32 → Int32 → Prop
  | 0, _, _ => False
  | n259 + 1, v3, v4 => (if (MT_many MT) ≤ v4 then Kx v3
      else vp_in v1 60 ∧
        (if ((MV_ahead MV) (Int32.toNatClampNeg v1)) = 0 then Kx v3
        else vp_in v4 60 ∧
          (if ((MV_ahead MV) (Int32.toNatClampNeg v4)) = 0 then wp_M_victim_L259 MT MV v1 Kx n259 v3 (v4 + 1)
          else vp_in v4 60 ∧
            (if ((MV_back MV) (Int32.toNatClampNeg v4)) = 0 then wp_M_victim_L259 MT MV v1 Kx n259 v3 (v4 + 1)
            else wp_M_victim_L259 MT MV v1 Kx n259 v4 (v4 + 1)))))
def wp_M_victim (MA : S_MA) (MD : S_MD) (ML : S_ML) (MP : S_MP) (MT : S_MT) (MV : S_MV) (a1 : Int32) (post : Int32 → S_MP → S_MV → Prop) : Prop :=
  wp_M_look MA MD ML MP MT MV (fun MP1 MV2 =>
  (∃ e6, wp_M_victim_L6 MT a1 (fun MV3 =>
  (∃ e38, wp_M_victim_L38 ML MT a1 (fun MV16 =>
    (∃ e259, wp_M_victim_L259 MT MV16 a1 (fun x17 =>
      post x17 MP1 MV16) e259 (-1) 0)) e38 1 0 MV3)) e6 0 MV2))

def wp_M_undoes_L10 (MT : S_MT) (v1 : Int32) (v2 : Int32) (Kx : Int32 → S_MA → S_MD → S_MG → Prop) : Nat → Int32 → Int32 → S_MA → S_MD → S_MG → Prop
  | 0, _, _, _, _, _ => False
  | n10 + 1, v3, v4, MA, MD, MG => (if v4 < 0 then Kx v3 MA MD MG
      else (if (((MG_base MG) + v4) + 1) ≤ v2 then wp_M_undoes_L10 MT v1 v2 Kx n10 v3 (v4 + (-1)) MA MD MG
        else wp_M_open MG MT v4 (fun r1 =>
          (if r1 = 0 then wp_M_undoes_L10 MT v1 v2 Kx n10 v3 (v4 + (-1)) MA MD MG
          else vp_in v4 301 ∧
            (if ((MG_by MG) (Int32.toNatClampNeg v4)) = v1 then wp_M_undo MA MD MG v1 v4 (fun MA2 MD3 MG4 =>
              wp_M_undoes_L10 MT v1 v2 Kx n10 (v3 + 1) (v4 + (-1)) MA2 MD3 MG4)
            else vp_in v4 301 ∧
              wp_M_above MT v1 ((MG_by MG) (Int32.toNatClampNeg v4)) (fun r5 =>
              (if r5 = 0 then wp_M_undoes_L10 MT v1 v2 Kx n10 v3 (v4 + (-1)) MA MD MG
              else wp_M_undo MA MD MG v1 v4 (fun MA6 MD7 MG8 =>
                wp_M_undoes_L10 MT v1 v2 Kx n10 (v3 + 1) (v4 + (-1)) MA6 MD7 MG8))))))))
def wp_M_undoes (MA : S_MA) (MD : S_MD) (MG : S_MG) (MT : S_MT) (a1 : Int32) (a2 : Int32) (post : Int32 → S_MA → S_MD → S_MG → Prop) : Prop :=
  (∃ e10, wp_M_undoes_L10 MT a1 a2 (fun x9 MA10 MD11 MG12 =>
  post x9 MA10 MD11 MG12) e10 0 ((MG_records MG) - 1) MA MD MG)

def wp_M_unlock_L2 (v1 : Int32) (Kx : S_ML → Prop) : Nat → Int32 → S_ML → Prop
  | 0, _, _ => False
  | n2 + 1, v2, ML => (if 33 ≤ v2 then Kx ML
      else vp_in ((33 * v1) + v2) 1980 ∧
        wp_M_unlock_L2 v1 Kx n2 (v2 + 1) (ML_locks' ML (upd (ML_locks ML) (Int32.toNatClampNeg ((33 * v1) + v2)) 0)))
def wp_M_unlock (ML : S_ML) (a1 : Int32) (post : S_ML → Prop) : Prop :=
  (∃ e2, wp_M_unlock_L2 a1 (fun ML1 =>
  post ML1) e2 0 ML)

def wp_M_aborts_L2 (MT : S_MT) (v1 : Int32) (Kx : S_MF → Prop) : Nat → Int32 → S_MF → Prop
  | 0, _, _ => False
  | n2 + 1, v2, MF => (if (MT_many MT) ≤ v2 then Kx MF
      else wp_M_live MT v2 (fun r1 =>
        (if r1 = 0 then vp_in v2 60 ∧
          wp_M_aborts_L2 MT v1 Kx n2 (v2 + 1) (MF_falls' MF (upd (MF_falls MF) (Int32.toNatClampNeg v2) (vp_nar .boolean 0)))
        else (if v2 = v1 then vp_in v2 60 ∧
            wp_M_aborts_L2 MT v1 Kx n2 (v2 + 1) (MF_falls' MF (upd (MF_falls MF) (Int32.toNatClampNeg v2) (vp_nar .boolean 1)))
          else wp_M_above MT v1 v2 (fun r2 =>
            (if r2 = 0 then vp_in v2 60 ∧
              wp_M_aborts_L2 MT v1 Kx n2 (v2 + 1) (MF_falls' MF (upd (MF_falls MF) (Int32.toNatClampNeg v2) (vp_nar .boolean 0)))
            else vp_in v2 60 ∧
              wp_M_aborts_L2 MT v1 Kx n2 (v2 + 1) (MF_falls' MF (upd (MF_falls MF) (Int32.toNatClampNeg v2) (vp_nar .boolean 1)))))))))
def wp_M_aborts_L63 (MF : S_MF) (v2 : Int32) (Kx : S_MG → S_ML → S_MT → Prop) : Nat → Int32 → S_MG → S_ML → S_MT → Prop
  | 0, _, _, _, _ => False
  | n63 + 1, v3, MG, ML, MT => (if v3 < 0 then Kx MG ML MT
      else vp_in v3 60 ∧
        (if ((MF_falls MF) (Int32.toNatClampNeg v3)) = 0 then wp_M_aborts_L63 MF v2 Kx n63 (v3 + (-1)) MG ML MT
        else wp_M_append MG 5 v3 0 (fun r8 MG9 =>
          vp_in r8 301 ∧
          vp_in ((MG_by MG9) (Int32.toNatClampNeg r8)) 60 ∧
          wp_M_unlock ML v3 (fun ML10 =>
          wp_M_aborts_L63 MF v2 Kx n63 (v3 + (-1)) MG9 ML10 (MT_state' MT (upd (MT_state MT) (Int32.toNatClampNeg ((MG_by MG9) (Int32.toNatClampNeg r8))) 4))))))
def wp_M_aborts (MA : S_MA) (MD : S_MD) (MF : S_MF) (MG : S_MG) (ML : S_ML) (MT : S_MT) (a1 : Int32) (post : Int32 → S_MA → S_MD → S_MF → S_MG → S_ML → S_MT → Prop) : Prop :=
  (∃ e2, wp_M_aborts_L2 MT a1 (fun MF3 =>
  wp_M_undoes MA MD MG MT a1 0 (fun r4 MA5 MD6 MG7 =>
    (∃ e63, wp_M_aborts_L63 MF3 r4 (fun MG11 ML12 MT13 =>
    post r4 MA5 MD6 MF3 MG11 ML12 MT13) e63 ((MT_many MT) - 1) MG7 ML MT))) e2 0 MF)

def wp_M_stays_L32 (v1 : Int32) (post : Int32 → S_MA → S_MD → S_MF → S_MG → S_ML → S_MP → S_MT → S_MV → Prop) (Kx : S_MA → S_MD → S_MF → S_MG → S_ML → S_MP → S_MT → S_MV → Prop) : Nat → Int32 → S_MA → S_MD → S_MF → S_MG → S_ML → S_MP → S_MT → S_MV → Prop
  | 0, _, _, _, _, _, _, _, _, _ => False
  | n32 + 1, v5, MA, MD, MF, MG, ML, MP, MT, MV => (if 60 ≤ v5 then Kx MA MD MF MG ML MP MT MV
      else wp_M_live MT v1 (fun r1 =>
        (if r1 = 0 then Kx MA MD MF MG ML MP MT MV
        else wp_M_victim MA MD ML MP MT MV v1 (fun r2 MP3 MV4 =>
          (if 0 ≤ r2 then wp_M_aborts MA MD MF MG ML MT r2 (fun r5 MA6 MD7 MF8 MG9 ML10 MT11 =>
            wp_M_stays_L32 v1 post Kx n32 (v5 + 1) MA6 MD7 MF8 MG9 ML10 MP3 MT11 MV4)
          else post (-2) MA MD MF MG ML MP3 MT MV4)))))
def wp_M_stays (MA : S_MA) (MD : S_MD) (MF : S_MF) (MG : S_MG) (ML : S_ML) (MP : S_MP) (MT : S_MT) (MV : S_MV) (a1 : Int32) (a2 : Int32) (a3 : Int32) (a4 : Int32) (post : Int32 → S_MA → S_MD → S_MF → S_MG → S_ML → S_MP → S_MT → S_MV → Prop) : Prop :=
  vp_in a1 60 ∧
  vp_in a1 60 ∧
  vp_in a1 60 ∧
  vp_in a1 60 ∧
  (∃ e32, wp_M_stays_L32 a1 post (fun MA12 MD13 MF14 MG15 ML16 MP17 MT18 MV19 =>
  wp_M_live MT18 a1 (fun r20 =>
    (if r20 = 0 then post (-3) MA12 MD13 MF14 MG15 ML16 MP17 MT18 MV19
    else post (-2) MA12 MD13 MF14 MG15 ML16 MP17 MT18 MV19))) e32 0 MA MD MF MG ML MP (MT_second' (MT_first' (MT_asks' (MT_state' MT (upd (MT_state MT) (Int32.toNatClampNeg a1) 2)) (upd (MT_asks MT) (Int32.toNatClampNeg a1) a2)) (upd (MT_first MT) (Int32.toNatClampNeg a1) a3)) (upd (MT_second MT) (Int32.toNatClampNeg a1) a4)) MV)

def wp_M_scanned_L4 (v1 : Int32) (v2 : Int32) (Kx : S_MA → S_MD → S_MG → Prop) : Nat → Int32 → S_MA → S_MD → S_MG → Prop
  | 0, _, _, _, _ => False
  | n4 + 1, v3, MA, MD, MG => (if (v2 / 4) < v3 then Kx MA MD MG
      else wp_M_touch MA MD MG v3 (fun MA1 MD2 MG3 =>
        wp_M_scanned_L4 v1 v2 Kx n4 (v3 + 1) MA1 MD2 MG3))
def wp_M_scanned_L32 (MA : S_MA) (MD : S_MD) (v2 : Int32) (Kx : Int32 → S_MN → Prop) : Nat → Int32 → Int32 → S_MN → Prop
  | 0, _, _, _ => False
  | n32 + 1, v3, v4, MN => (if v2 < v4 then Kx v3 MN
      else wp_M_isThereNow MA MD v4 (fun r7 =>
        (jn (fun (jk53 : Int32 → Prop) =>
        (if r7 = 0 then jk53 0
          else jk53 1)) (fun b8 =>
        wp_M_valueNow MA MD v4 (fun r9 =>
          wp_M_scanned_L32 MA MD v2 Kx n32 (v3 + b8) (v4 + 1) (MN_latest' MN ((MN_latest MN) + r9)))))))
def wp_M_scanned (MA : S_MA) (MD : S_MD) (MG : S_MG) (MN : S_MN) (a1 : Int32) (a2 : Int32) (post : Int32 → S_MA → S_MD → S_MG → S_MN → Prop) : Prop :=
  (∃ e4, wp_M_scanned_L4 a1 a2 (fun MA4 MD5 MG6 =>
  (∃ e32, wp_M_scanned_L32 MA4 MD5 a2 (fun x10 MN11 =>
    post x10 MA4 MD5 MG6 MN11) e32 0 a1 (MN_latest' MN 0))) e4 (a1 / 4) MA MD MG)

def wp_M_request_L18 (MN : S_MN) (v1 : Int32) (v2 : Int32) (v3 : Int32) (v4 : Int32) (post : Int32 → S_MA → S_MD → S_MF → S_MG → S_ML → S_MN → S_MP → S_MT → S_MV → Prop) (Kx : S_MA → S_MD → S_MF → S_MG → S_ML → S_MP → S_MT → S_MV → Prop) : Nat → Int32 → S_MA → S_MD → S_MF → S_MG → S_ML → S_MP → S_MT → S_MV → Prop
  | 0, _, _, _, _, _, _, _, _, _ => False
  | n18 + 1, v5, MA, MD, MF, MG, ML, MP, MT, MV => (if (MP_wanted MP) ≤ v5 then Kx MA MD MF MG ML MP MT MV
      else vp_in v5 33 ∧
        vp_in ((33 * v1) + ((MP_item MP) (Int32.toNatClampNeg v5))) 1980 ∧
        (if (MP_mode MP) ≤ ((ML_locks ML) (Int32.toNatClampNeg ((33 * v1) + ((MP_item MP) (Int32.toNatClampNeg v5))))) then wp_M_request_L18 MN v1 v2 v3 v4 post Kx n18 (v5 + 1) MA MD MF MG ML MP MT MV
        else vp_in v5 33 ∧
          wp_M_may ML MT v1 ((MP_item MP) (Int32.toNatClampNeg v5)) (MP_mode MP) (fun r2 =>
          (if r2 = 0 then wp_M_stays MA MD MF MG ML MP MT MV v1 v2 v3 v4 (fun r3 MA4 MD5 MF6 MG7 ML8 MP9 MT10 MV11 =>
            post r3 MA4 MD5 MF6 MG7 ML8 MN MP9 MT10 MV11)
          else vp_in ((33 * v1) + ((MP_item MP) (Int32.toNatClampNeg v5))) 1980 ∧
            wp_M_request_L18 MN v1 v2 v3 v4 post Kx n18 (v5 + 1) MA MD MF MG (ML_locks' ML (upd (ML_locks ML) (Int32.toNatClampNeg ((33 * v1) + ((MP_item MP) (Int32.toNatClampNeg v5)))) (MP_mode MP))) MP MT MV))))
def wp_M_request (MA : S_MA) (MD : S_MD) (MF : S_MF) (MG : S_MG) (ML : S_ML) (MN : S_MN) (MP : S_MP) (MT : S_MT) (MV : S_MV) (a1 : Int32) (a2 : Int32) (a3 : Int32) (a4 : Int32) (post : Int32 → S_MA → S_MD → S_MF → S_MG → S_ML → S_MN → S_MP → S_MT → S_MV → Prop) : Prop :=
  vp_in a1 60 ∧
  wp_M_needs MA MD MP a2 a3 a4 (fun MP1 =>
  (∃ e18, wp_M_request_L18 MN a1 a2 a3 a4 post (fun MA12 MD13 MF14 MG15 ML16 MP17 MT18 MV19 =>
  (if a2 = 1 then wp_M_touch MA12 MD13 MG15 (a3 / 4) (fun MA36 MD37 MG38 =>
      wp_M_valueNow MA36 MD37 a3 (fun r39 =>
      wp_M_isThereNow MA36 MD37 a3 (fun r40 =>
      (if r40 = 0 then post 0 MA36 MD37 MF14 MG38 ML16 (MN_latest' MN r39) MP17 MT18 MV19
      else post 1 MA36 MD37 MF14 MG38 ML16 (MN_latest' MN r39) MP17 MT18 MV19))))
    else (if a2 = 4 then wp_M_scanned MA12 MD13 MG15 MN a3 a4 (fun r31 MA32 MD33 MG34 MN35 =>
        post r31 MA32 MD33 MF14 MG34 ML16 MN35 MP17 MT18 MV19)
      else wp_M_isThereNow MA12 MD13 a3 (fun r20 =>
        (if a2 = 3 then (if r20 = 0 then post 0 MA12 MD13 MF14 MG15 ML16 MN MP17 MT18 MV19
          else wp_M_full MG15 MT18 (fun r26 =>
            (if r26 = 0 then (jn (fun (jk191 : Int32 → Prop) =>
              (if a2 = 2 then jk191 1
                else jk191 0)) (fun b27 =>
              wp_M_update MA12 MD13 MG15 a1 a3 b27 a4 (fun MA28 MD29 MG30 =>
                (if a2 = 2 then post 0 MA28 MD29 MF14 MG30 ML16 MN MP17 MT18 MV19
                else post 1 MA28 MD29 MF14 MG30 ML16 MN MP17 MT18 MV19))))
            else post (-5) MA12 MD13 MF14 MG15 ML16 MN MP17 MT18 MV19)))
        else wp_M_full MG15 MT18 (fun r21 =>
          (if r21 = 0 then (jn (fun (jk191 : Int32 → Prop) =>
            (if a2 = 2 then jk191 1
              else jk191 0)) (fun b22 =>
            wp_M_update MA12 MD13 MG15 a1 a3 b22 a4 (fun MA23 MD24 MG25 =>
              (if a2 = 2 then post 0 MA23 MD24 MF14 MG25 ML16 MN MP17 MT18 MV19
              else post 1 MA23 MD24 MF14 MG25 ML16 MN MP17 MT18 MV19))))
          else post (-5) MA12 MD13 MF14 MG15 ML16 MN MP17 MT18 MV19))))))) e18 0 MA MD MF MG ML MP1 (MT_state' MT (upd (MT_state MT) (Int32.toNatClampNeg a1) 1)) MV))

def wp_M_ask (MA : S_MA) (MD : S_MD) (MF : S_MF) (MG : S_MG) (ML : S_ML) (MN : S_MN) (MP : S_MP) (MT : S_MT) (MV : S_MV) (a1 : Int32) (a2 : Int32) (a3 : Int32) (a4 : Int32) (post : Int32 → S_MA → S_MD → S_MF → S_MG → S_ML → S_MN → S_MP → S_MT → S_MV → Prop) : Prop :=
  wp_M_busy MT a1 (fun r1 =>
  (if r1 = 0 then wp_M_request MA MD MF MG ML MN MP MT MV a1 a2 a3 a4 (fun r2 MA3 MD4 MF5 MG6 ML7 MN8 MP9 MT10 MV11 =>
    post r2 MA3 MD4 MF5 MG6 ML7 MN8 MP9 MT10 MV11)
  else post (-4) MA MD MF MG ML MN MP MT MV))

def wp_M_get (MA : S_MA) (MD : S_MD) (MF : S_MF) (MG : S_MG) (ML : S_ML) (MN : S_MN) (MP : S_MP) (MT : S_MT) (MV : S_MV) (a1 : Int32) (a2 : Int32) (post : Int32 → S_MA → S_MD → S_MF → S_MG → S_ML → S_MN → S_MP → S_MT → S_MV → Prop) : Prop :=
  wp_M_active MT a1 (fun r1 =>
  (if r1 = 0 then post (-1) MA MD MF MG ML MN MP MT MV
  else wp_M_isKey a2 (fun r2 =>
    (if r2 = 0 then post (-1) MA MD MF MG ML MN MP MT MV
    else wp_M_ask MA MD MF MG ML MN MP MT MV a1 1 a2 0 (fun r3 MA4 MD5 MF6 MG7 ML8 MN9 MP10 MT11 MV12 =>
      post r3 MA4 MD5 MF6 MG7 ML8 MN9 MP10 MT11 MV12)))))

def wp_M_put (MA : S_MA) (MD : S_MD) (MF : S_MF) (MG : S_MG) (ML : S_ML) (MN : S_MN) (MP : S_MP) (MT : S_MT) (MV : S_MV) (a1 : Int32) (a2 : Int32) (a3 : Int32) (post : Int32 → S_MA → S_MD → S_MF → S_MG → S_ML → S_MN → S_MP → S_MT → S_MV → Prop) : Prop :=
  wp_M_active MT a1 (fun r1 =>
  (if r1 = 0 then post (-1) MA MD MF MG ML MN MP MT MV
  else wp_M_isKey a2 (fun r2 =>
    (if r2 = 0 then post (-1) MA MD MF MG ML MN MP MT MV
    else wp_M_ask MA MD MF MG ML MN MP MT MV a1 2 a2 a3 (fun r3 MA4 MD5 MF6 MG7 ML8 MN9 MP10 MT11 MV12 =>
      post r3 MA4 MD5 MF6 MG7 ML8 MN9 MP10 MT11 MV12)))))

def wp_M_delete (MA : S_MA) (MD : S_MD) (MF : S_MF) (MG : S_MG) (ML : S_ML) (MN : S_MN) (MP : S_MP) (MT : S_MT) (MV : S_MV) (a1 : Int32) (a2 : Int32) (post : Int32 → S_MA → S_MD → S_MF → S_MG → S_ML → S_MN → S_MP → S_MT → S_MV → Prop) : Prop :=
  wp_M_active MT a1 (fun r1 =>
  (if r1 = 0 then post (-1) MA MD MF MG ML MN MP MT MV
  else wp_M_isKey a2 (fun r2 =>
    (if r2 = 0 then post (-1) MA MD MF MG ML MN MP MT MV
    else wp_M_ask MA MD MF MG ML MN MP MT MV a1 3 a2 0 (fun r3 MA4 MD5 MF6 MG7 ML8 MN9 MP10 MT11 MV12 =>
      post r3 MA4 MD5 MF6 MG7 ML8 MN9 MP10 MT11 MV12)))))

def wp_M_scan (MA : S_MA) (MD : S_MD) (MF : S_MF) (MG : S_MG) (ML : S_ML) (MN : S_MN) (MP : S_MP) (MT : S_MT) (MV : S_MV) (a1 : Int32) (a2 : Int32) (a3 : Int32) (post : Int32 → S_MA → S_MD → S_MF → S_MG → S_ML → S_MN → S_MP → S_MT → S_MV → Prop) : Prop :=
  wp_M_active MT a1 (fun r1 =>
  (if r1 = 0 then post (-1) MA MD MF MG ML MN MP MT MV
  else wp_M_isKey a2 (fun r2 =>
    (if r2 = 0 then post (-1) MA MD MF MG ML MN MP MT MV
    else wp_M_isKey a3 (fun r3 =>
      (if r3 = 0 then post (-1) MA MD MF MG ML MN MP MT MV
      else (if a2 ≤ a3 then wp_M_ask MA MD MF MG ML MN MP MT MV a1 4 a2 a3 (fun r4 MA5 MD6 MF7 MG8 ML9 MN10 MP11 MT12 MV13 =>
          post r4 MA5 MD6 MF7 MG8 ML9 MN10 MP11 MT12 MV13)
        else post (-1) MA MD MF MG ML MN MP MT MV)))))))

def wp_M_resume (MA : S_MA) (MD : S_MD) (MF : S_MF) (MG : S_MG) (ML : S_ML) (MN : S_MN) (MP : S_MP) (MT : S_MT) (MV : S_MV) (a1 : Int32) (post : Int32 → S_MA → S_MD → S_MF → S_MG → S_ML → S_MN → S_MP → S_MT → S_MV → Prop) : Prop :=
  wp_M_is MT a1 (fun r1 =>
  (if r1 = 0 then post (-1) MA MD MF MG ML MN MP MT MV
  else vp_in a1 60 ∧
    (if ((MT_state MT) (Int32.toNatClampNeg a1)) = 2 then vp_in a1 60 ∧
      vp_in a1 60 ∧
      vp_in a1 60 ∧
      wp_M_request MA MD MF MG ML MN MP MT MV a1 ((MT_asks MT) (Int32.toNatClampNeg a1)) ((MT_first MT) (Int32.toNatClampNeg a1)) ((MT_second MT) (Int32.toNatClampNeg a1)) (fun r2 MA3 MD4 MF5 MG6 ML7 MN8 MP9 MT10 MV11 =>
      post r2 MA3 MD4 MF5 MG6 ML7 MN8 MP9 MT10 MV11)
    else post (-1) MA MD MF MG ML MN MP MT MV)))

def wp_M_value (MN : S_MN) (post : Int32 → Prop) : Prop :=
  post (MN_latest MN)

def wp_M_commit_L51 (v1 : Int32) (v3 : Int32) (Kx : S_ML → Prop) : Nat → Int32 → S_ML → Prop
  | 0, _, _ => False
  | n51 + 1, v4, ML => (if 33 ≤ v4 then Kx ML
      else (if v3 < 0 then Kx ML
        else vp_in ((33 * v1) + v4) 1980 ∧
          vp_in ((33 * v3) + v4) 1980 ∧
          (if ((ML_locks ML) (Int32.toNatClampNeg ((33 * v1) + v4))) ≤ ((ML_locks ML) (Int32.toNatClampNeg ((33 * v3) + v4))) then vp_in ((33 * v3) + v4) 1980 ∧
            vp_in ((33 * v3) + v4) 1980 ∧
            wp_M_commit_L51 v1 v3 Kx n51 (v4 + 1) (ML_locks' ML (upd (ML_locks ML) (Int32.toNatClampNeg ((33 * v3) + v4)) ((ML_locks ML) (Int32.toNatClampNeg ((33 * v3) + v4)))))
          else vp_in ((33 * v3) + v4) 1980 ∧
            wp_M_commit_L51 v1 v3 Kx n51 (v4 + 1) (ML_locks' ML (upd (ML_locks ML) (Int32.toNatClampNeg ((33 * v3) + v4)) ((ML_locks ML) (Int32.toNatClampNeg ((33 * v1) + v4))))))))
def wp_M_commit (MG : S_MG) (ML : S_ML) (MT : S_MT) (a1 : Int32) (post : Int32 → S_MG → S_ML → S_MT → Prop) : Prop :=
  wp_M_active MT a1 (fun r1 =>
  (if r1 = 0 then post (-1) MG ML MT
  else wp_M_busy MT a1 (fun r2 =>
    (if r2 = 0 then wp_M_append MG 4 a1 0 (fun r3 MG4 =>
      vp_in r3 301 ∧
      vp_in ((MG_by MG4) (Int32.toNatClampNeg r3)) 60 ∧
      vp_in a1 60 ∧
      (∃ e51, wp_M_commit_L51 a1 ((MT_parent MT) (Int32.toNatClampNeg a1)) (fun ML5 =>
      (if 0 ≤ ((MT_parent MT) (Int32.toNatClampNeg a1)) then wp_M_unlock ML5 a1 (fun ML6 =>
          post 0 (MG_flushed' MG4 (MG_flushed MG4)) ML6 (MT_state' MT (upd (MT_state MT) (Int32.toNatClampNeg ((MG_by MG4) (Int32.toNatClampNeg r3))) 3)))
        else wp_M_last MG4 (fun r7 =>
          wp_M_unlock ML5 a1 (fun ML8 =>
          post 0 (MG_flushed' MG4 r7) ML8 (MT_state' MT (upd (MT_state MT) (Int32.toNatClampNeg ((MG_by MG4) (Int32.toNatClampNeg r3))) 3)))))) e51 0 ML))
    else post (-4) MG ML MT))))

def wp_M_abort (MA : S_MA) (MD : S_MD) (MF : S_MF) (MG : S_MG) (ML : S_ML) (MT : S_MT) (a1 : Int32) (post : Int32 → S_MA → S_MD → S_MF → S_MG → S_ML → S_MT → Prop) : Prop :=
  wp_M_is MT a1 (fun r1 =>
  (if r1 = 0 then post (-1) MA MD MF MG ML MT
  else wp_M_live MT a1 (fun r2 =>
    (if r2 = 0 then post (-1) MA MD MF MG ML MT
    else wp_M_aborts MA MD MF MG ML MT a1 (fun r3 MA4 MD5 MF6 MG7 ML8 MT9 =>
      post r3 MA4 MD5 MF6 MG7 ML8 MT9)))))

def wp_M_save (MG : S_MG) (MT : S_MT) (a1 : Int32) (post : Int32 → Prop) : Prop :=
  wp_M_active MT a1 (fun r1 =>
  (if r1 = 0 then post (-1)
  else wp_M_busy MT a1 (fun r2 =>
    (if r2 = 0 then wp_M_last MG (fun r3 =>
      post r3)
    else post (-4)))))

def wp_M_rollback (MA : S_MA) (MD : S_MD) (MG : S_MG) (MT : S_MT) (a1 : Int32) (a2 : Int32) (post : Int32 → S_MA → S_MD → S_MG → Prop) : Prop :=
  wp_M_active MT a1 (fun r1 =>
  (if r1 = 0 then post (-1) MA MD MG
  else vp_in a1 60 ∧
    (if a2 < ((MT_began MT) (Int32.toNatClampNeg a1)) then post (-1) MA MD MG
    else wp_M_last MG (fun r2 =>
      (if a2 ≤ r2 then wp_M_busy MT a1 (fun r3 =>
        (if r3 = 0 then wp_M_undoes MA MD MG MT a1 a2 (fun r4 MA5 MD6 MG7 =>
          post r4 MA5 MD6 MG7)
        else post (-4) MA MD MG))
      else post (-1) MA MD MG)))))

def wp_M_write (MA : S_MA) (MD : S_MD) (MG : S_MG) (a1 : Int32) (post : Int32 → S_MA → S_MD → S_MG → Prop) : Prop :=
  wp_M_isPage a1 (fun r1 =>
  (if r1 = 0 then post 0 MA MD MG
  else vp_in a1 8 ∧
    (if ((MA_inFrame MA) (Int32.toNatClampNeg a1)) = 0 then post 0 MA MD MG
    else vp_in a1 8 ∧
      (if ((MA_dirty MA) (Int32.toNatClampNeg a1)) = 0 then post 0 MA MD MG
      else wp_M_writes MA MD MG a1 (fun MA2 MD3 MG4 =>
        post 1 MA2 MD3 MG4)))))

def wp_M_archive_L13 (Kx : Int32 → S_MA → S_MD → S_MG → Prop) : Nat → Int32 → Int32 → S_MA → S_MD → S_MG → Prop
  | 0, _, _, _, _, _ => False
  | n13 + 1, v1, v2, MA, MD, MG => (if 8 ≤ v2 then Kx v1 MA MD MG
      else wp_M_write MA MD MG v2 (fun r2 MA3 MD4 MG5 =>
        (if r2 = 0 then wp_M_archive_L13 Kx n13 (v1 + 0) (v2 + 1) MA3 MD4 MG5
        else wp_M_archive_L13 Kx n13 (v1 + 1) (v2 + 1) MA3 MD4 MG5)))
def wp_M_archive (MA : S_MA) (MD : S_MD) (MG : S_MG) (MT : S_MT) (post : Int32 → S_MA → S_MD → S_MG → Prop) : Prop :=
  wp_M_lives MT (fun r1 =>
  (if r1 ≤ 0 then (∃ e13, wp_M_archive_L13 (fun x6 MA7 MD8 MG9 =>
    wp_M_last MG9 (fun r10 =>
      post x6 MA7 MD8 (MG_flushed' (MG_records' (MG_base' MG9 r10) 0) r10))) e13 0 0 MA MD MG)
  else post (-1) MA MD MG))

def wp_M_committed_L4 (MG : S_MG) (v1 : Int32) (Kx : Int32 → Prop) : Nat → Int32 → Int32 → Prop
  | 0, _, _ => False
  | n4 + 1, v2, v3 => (if (MG_records MG) ≤ v3 then Kx v2
      else (if v2 = 0 then vp_in v3 301 ∧
          (if ((MG_kind MG) (Int32.toNatClampNeg v3)) = 4 then vp_in v3 301 ∧
            (if ((MG_by MG) (Int32.toNatClampNeg v3)) = v1 then wp_M_committed_L4 MG v1 Kx n4 1 (v3 + 1)
            else wp_M_committed_L4 MG v1 Kx n4 0 (v3 + 1))
          else wp_M_committed_L4 MG v1 Kx n4 0 (v3 + 1))
        else wp_M_committed_L4 MG v1 Kx n4 1 (v3 + 1)))
def wp_M_committed (MG : S_MG) (a1 : Int32) (post : Int32 → Prop) : Prop :=
  (∃ e4, wp_M_committed_L4 MG a1 (fun x1 =>
  vp_nar .boolean x1 = x1 ∧
    post x1) e4 0 0)

def wp_M_crash_L44 (Kx : S_MA → Prop) : Nat → Int32 → S_MA → Prop
  | 0, _, _ => False
  | n44 + 1, v2, MA => (if 8 ≤ v2 then Kx MA
      else vp_in v2 8 ∧
        vp_in v2 8 ∧
        wp_M_crash_L44 Kx n44 (v2 + 1) (MA_dirty' (MA_inFrame' MA (upd (MA_inFrame MA) (Int32.toNatClampNeg v2) (vp_nar .boolean 0))) (upd (MA_dirty MA) (Int32.toNatClampNeg v2) (vp_nar .boolean 0))))
def wp_M_crash_L72 (Kx : S_ML → S_MT → Prop) : Nat → Int32 → S_ML → S_MT → Prop
  | 0, _, _, _ => False
  | n72 + 1, v2, ML, MT => (if (MT_many MT) ≤ v2 then Kx ML MT
      else wp_M_unlock ML v2 (fun ML3 =>
        wp_M_top MT v2 (fun r4 =>
        vp_in r4 60 ∧
        (if ((MT_state MT) (Int32.toNatClampNeg r4)) = 3 then vp_in v2 60 ∧
          vp_in v2 60 ∧
          wp_M_crash_L72 Kx n72 (v2 + 1) ML3 (MT_state' MT (upd (MT_state MT) (Int32.toNatClampNeg v2) ((MT_state MT) (Int32.toNatClampNeg v2))))
        else vp_in v2 60 ∧
          wp_M_crash_L72 Kx n72 (v2 + 1) ML3 (MT_state' MT (upd (MT_state MT) (Int32.toNatClampNeg v2) 4))))))
def wp_M_crash_L128 (v2 : Int32) (Kx : S_MA → S_MD → S_MG → Prop) : Nat → Int32 → S_MA → S_MD → S_MG → Prop
  | 0, _, _, _, _ => False
  | n128 + 1, v3, MA, MD, MG => (if v2 ≤ v3 then Kx MA MD MG
      else vp_in v3 301 ∧
        (if ((MG_kind MG) (Int32.toNatClampNeg v3)) = 2 then vp_in v3 301 ∧
          wp_M_touch MA MD MG (((MG_about MG) (Int32.toNatClampNeg v3)) / 4) (fun MA7 MD8 MG9 =>
          vp_in v3 301 ∧
          vp_in (((MG_about MG9) (Int32.toNatClampNeg v3)) / 4) 8 ∧
          (if (((MG_base MG9) + v3) + 1) ≤ ((MA_lsn MA7) (Int32.toNatClampNeg (((MG_about MG9) (Int32.toNatClampNeg v3)) / 4))) then wp_M_crash_L128 v2 Kx n128 (v3 + 1) MA7 MD8 MG9
          else vp_in v3 301 ∧
            vp_in v3 301 ∧
            vp_in v3 301 ∧
            wp_M_become MA7 ((MG_about MG9) (Int32.toNatClampNeg v3)) ((MG_isThere MG9) (Int32.toNatClampNeg v3)) ((MG_isValue MG9) (Int32.toNatClampNeg v3)) (((MG_base MG9) + v3) + 1) (fun MA10 =>
            wp_M_crash_L128 v2 Kx n128 (v3 + 1) MA10 MD8 MG9)))
        else vp_in v3 301 ∧
          (if ((MG_kind MG) (Int32.toNatClampNeg v3)) = 3 then vp_in v3 301 ∧
            wp_M_touch MA MD MG (((MG_about MG) (Int32.toNatClampNeg v3)) / 4) (fun MA11 MD12 MG13 =>
            vp_in v3 301 ∧
            vp_in (((MG_about MG13) (Int32.toNatClampNeg v3)) / 4) 8 ∧
            (if (((MG_base MG13) + v3) + 1) ≤ ((MA_lsn MA11) (Int32.toNatClampNeg (((MG_about MG13) (Int32.toNatClampNeg v3)) / 4))) then wp_M_crash_L128 v2 Kx n128 (v3 + 1) MA11 MD12 MG13
            else vp_in v3 301 ∧
              vp_in v3 301 ∧
              vp_in v3 301 ∧
              wp_M_become MA11 ((MG_about MG13) (Int32.toNatClampNeg v3)) ((MG_isThere MG13) (Int32.toNatClampNeg v3)) ((MG_isValue MG13) (Int32.toNatClampNeg v3)) (((MG_base MG13) + v3) + 1) (fun MA14 =>
              wp_M_crash_L128 v2 Kx n128 (v3 + 1) MA14 MD12 MG13)))
          else wp_M_crash_L128 v2 Kx n128 (v3 + 1) MA MD MG)))
def wp_M_crash_L232 (MT : S_MT) (Kx : Int32 → S_MA → S_MD → S_MG → Prop) : Nat → Int32 → Int32 → S_MA → S_MD → S_MG → Prop
  | 0, _, _, _, _, _ => False
  | n232 + 1, v3, v4, MA, MD, MG => (if v4 < 0 then Kx v3 MA MD MG
      else vp_in v4 301 ∧
        (if ((MG_kind MG) (Int32.toNatClampNeg v4)) = 2 then wp_M_undone MG v4 (fun r18 =>
          (if r18 = 0 then vp_in v4 301 ∧
            wp_M_top MT ((MG_by MG) (Int32.toNatClampNeg v4)) (fun r19 =>
            wp_M_committed MG r19 (fun r20 =>
            (if r20 = 0 then vp_in v4 301 ∧
              wp_M_top MT ((MG_by MG) (Int32.toNatClampNeg v4)) (fun r21 =>
              wp_M_undo MA MD MG r21 v4 (fun MA22 MD23 MG24 =>
              wp_M_crash_L232 MT Kx n232 (v3 + 1) (v4 + (-1)) MA22 MD23 MG24))
            else wp_M_crash_L232 MT Kx n232 v3 (v4 + (-1)) MA MD MG)))
          else wp_M_crash_L232 MT Kx n232 v3 (v4 + (-1)) MA MD MG))
        else wp_M_crash_L232 MT Kx n232 v3 (v4 + (-1)) MA MD MG))
def wp_M_crash (MA : S_MA) (MD : S_MD) (MG : S_MG) (ML : S_ML) (MT : S_MT) (a1 : Int32) (post : Int32 → S_MA → S_MD → S_MG → S_ML → S_MT → Prop) : Prop :=
  (if a1 < 0 then post (-1) MA MD MG ML MT
  else wp_M_last MG (fun r1 =>
    (if a1 ≤ (r1 - (MG_flushed MG)) then (∃ e44, wp_M_crash_L44 (fun MA2 =>
      (∃ e72, wp_M_crash_L72 (fun ML5 MT6 =>
        (∃ e128, wp_M_crash_L128 (((MG_flushed MG) + a1) - (MG_base MG)) (fun MA15 MD16 MG17 =>
          (∃ e232, wp_M_crash_L232 MT6 (fun x25 MA26 MD27 MG28 =>
            wp_M_last MG28 (fun r29 =>
              post x25 MA26 MD27 (MG_flushed' MG28 r29) ML5 MT6)) e232 0 ((((MG_flushed MG) + a1) - (MG_base MG)) - 1) MA15 MD16 MG17)) e128 0 MA2 MD (MG_records' (MG_flushed' MG ((MG_flushed MG) + a1)) (((MG_flushed MG) + a1) - (MG_base MG))))) e72 0 ML MT)) e44 0 MA)
    else post (-1) MA MD MG ML MT)))

def wp_M_state (MT : S_MT) (a1 : Int32) (post : Int32 → Prop) : Prop :=
  wp_M_is MT a1 (fun r1 =>
  (if r1 = 0 then post (-1)
  else vp_in a1 60 ∧
    post ((MT_state MT) (Int32.toNatClampNeg a1))))

def wp_M_parent (MT : S_MT) (a1 : Int32) (post : Int32 → Prop) : Prop :=
  wp_M_is MT a1 (fun r1 =>
  (if r1 = 0 then post (-1)
  else vp_in a1 60 ∧
    post ((MT_parent MT) (Int32.toNatClampNeg a1))))

def wp_M_lock (ML : S_ML) (MT : S_MT) (a1 : Int32) (a2 : Int32) (post : Int32 → Prop) : Prop :=
  wp_M_is MT a1 (fun r1 =>
  (if r1 = 0 then post (-1)
  else (if a2 < 0 then post (-1)
    else (if a2 ≤ 32 then vp_in ((33 * a1) + a2) 1980 ∧
        post ((ML_locks ML) (Int32.toNatClampNeg ((33 * a1) + a2)))
      else post (-1)))))

def wp_M_waits (MA : S_MA) (MD : S_MD) (ML : S_ML) (MP : S_MP) (MT : S_MT) (MV : S_MV) (a1 : Int32) (a2 : Int32) (post : Int32 → S_MP → S_MV → Prop) : Prop :=
  wp_M_is MT a1 (fun r1 =>
  (if r1 = 0 then post 0 MP MV
  else wp_M_is MT a2 (fun r2 =>
    (if r2 = 0 then post 0 MP MV
    else vp_in a1 60 ∧
      (if ((MT_state MT) (Int32.toNatClampNeg a1)) = 2 then wp_M_look MA MD ML MP MT MV (fun MP3 MV4 =>
        vp_in a1 60 ∧
        (if ((MV_lacks MV4) (Int32.toNatClampNeg a1)) < 0 then post 0 MP3 MV4
        else vp_in a1 60 ∧
          vp_in a1 60 ∧
          wp_M_bars ML MT a2 a1 ((MV_lacks MV4) (Int32.toNatClampNeg a1)) ((MV_lackMode MV4) (Int32.toNatClampNeg a1)) (fun r5 =>
          (if r5 = 0 then post 0 MP3 MV4
          else post 1 MP3 MV4))))
      else post 0 MP MV)))))

def wp_M_entry (MG : S_MG) (a1 : Int32) (a2 : Int32) (post : Int32 → Prop) : Prop :=
  (if a1 ≤ (MG_base MG) then post (-1)
  else wp_M_last MG (fun r1 =>
    (if r1 < a1 then post (-1)
    else (if a2 < 0 then post (-1)
      else (if a2 ≤ 5 then (if a2 = 0 then vp_in ((a1 - (MG_base MG)) - 1) 301 ∧
            post ((MG_kind MG) (Int32.toNatClampNeg ((a1 - (MG_base MG)) - 1)))
          else if a2 = 1 then vp_in ((a1 - (MG_base MG)) - 1) 301 ∧
            post ((MG_by MG) (Int32.toNatClampNeg ((a1 - (MG_base MG)) - 1)))
          else if a2 = 2 then vp_in ((a1 - (MG_base MG)) - 1) 301 ∧
            post ((MG_about MG) (Int32.toNatClampNeg ((a1 - (MG_base MG)) - 1)))
          else if a2 = 3 then vp_in ((a1 - (MG_base MG)) - 1) 301 ∧
            (if ((MG_kind MG) (Int32.toNatClampNeg ((a1 - (MG_base MG)) - 1))) = 3 then vp_in ((a1 - (MG_base MG)) - 1) 301 ∧
              post ((MG_of MG) (Int32.toNatClampNeg ((a1 - (MG_base MG)) - 1)))
            else vp_in ((a1 - (MG_base MG)) - 1) 301 ∧
              (if ((MG_wasThere MG) (Int32.toNatClampNeg ((a1 - (MG_base MG)) - 1))) = 0 then post 0
              else post 1))
          else if a2 = 4 then vp_in ((a1 - (MG_base MG)) - 1) 301 ∧
            (if ((MG_isThere MG) (Int32.toNatClampNeg ((a1 - (MG_base MG)) - 1))) = 0 then post 0
            else post 1)
          else vp_in ((a1 - (MG_base MG)) - 1) 301 ∧
            post ((MG_isValue MG) (Int32.toNatClampNeg ((a1 - (MG_base MG)) - 1))))
        else post (-1))))))

def wp_M_log (MG : S_MG) (MT : S_MT) (a1 : Int32) (post : Int32 → Prop) : Prop :=
  (if a1 = 0 then wp_M_last MG (fun r1 =>
    post r1)
  else if a1 = 1 then post (MG_flushed MG)
  else if a1 = 2 then post (MG_records MG)
  else if a1 = 3 then wp_M_opens MG MT (fun r2 =>
    post r2)
  else if a1 = 4 then wp_M_lives MT (fun r3 =>
    post r3)
  else post (-1))

def wp_M_key (MA : S_MA) (MD : S_MD) (a1 : Int32) (a2 : Int32) (post : Int32 → Prop) : Prop :=
  wp_M_isKey a1 (fun r1 =>
  (if r1 = 0 then post (-1)
  else (if a2 < 0 then post (-1)
    else (if a2 ≤ 3 then (if 2 ≤ a2 then (if a2 = 2 then vp_in a1 32 ∧
            (if ((MD_diskThere MD) (Int32.toNatClampNeg a1)) = 0 then post 0
            else post 1)
          else vp_in a1 32 ∧
            post ((MD_diskValue MD) (Int32.toNatClampNeg a1)))
        else (if a2 = 0 then wp_M_isThereNow MA MD a1 (fun r3 =>
            (if r3 = 0 then post 0
            else post 1))
          else wp_M_valueNow MA MD a1 (fun r2 =>
            post r2)))
      else post (-1)))))

def wp_M_frame_L17 (MA : S_MA) (v1 : Int32) (v2 : Int32) (Kx : Int32 → Prop) : Nat → Int32 → Int32 → Prop
  | 0, _, _ => False
  | n17 + 1, v3, v4 => (if 8 ≤ v4 then Kx v3
      else vp_in v4 8 ∧
        (if ((MA_inFrame MA) (Int32.toNatClampNeg v4)) = 0 then wp_M_frame_L17 MA v1 v2 Kx n17 (v3 + 0) (v4 + 1)
        else vp_in v4 8 ∧
          vp_in v2 8 ∧
          (if ((MA_touched MA) (Int32.toNatClampNeg v4)) ≤ ((MA_touched MA) (Int32.toNatClampNeg v2)) then wp_M_frame_L17 MA v1 v2 Kx n17 (v3 + 0) (v4 + 1)
          else wp_M_frame_L17 MA v1 v2 Kx n17 (v3 + 1) (v4 + 1))))
def wp_M_frame_L2 (MA : S_MA) (v1 : Int32) (post : Int32 → Prop) (Kx : Prop) : Nat → Int32 → Prop
  | 0, _ => False
  | n2 + 1, v2 => (if 8 ≤ v2 then Kx
      else (if v1 < 0 then Kx
        else (∃ e17, wp_M_frame_L17 MA v1 v2 (fun x1 =>
          vp_in v2 8 ∧
            (if ((MA_inFrame MA) (Int32.toNatClampNeg v2)) = 0 then wp_M_frame_L2 MA v1 post Kx n2 (v2 + 1)
            else (if x1 = v1 then vp_in v2 8 ∧
                (if ((MA_dirty MA) (Int32.toNatClampNeg v2)) = 0 then post ((2 * v2) + 0)
                else post ((2 * v2) + 1))
              else wp_M_frame_L2 MA v1 post Kx n2 (v2 + 1)))) e17 0 0)))
def wp_M_frame (MA : S_MA) (a1 : Int32) (post : Int32 → Prop) : Prop :=
  (∃ e2, wp_M_frame_L2 MA a1 post (post (-1)) e2 0)

def wp_M_page (MA : S_MA) (MD : S_MD) (a1 : Int32) (post : Int32 → Prop) : Prop :=
  wp_M_isPage a1 (fun r1 =>
  (if r1 = 0 then post (-1)
  else wp_M_lsnNow MA MD a1 (fun r2 =>
    post r2)))
