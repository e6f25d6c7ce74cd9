def wp_T_exists (T : S_T) (a1 : Int32) (post : Int32 → Prop) : Prop :=
  (if a1 < 0 then post 0
  else (if (T_count T) ≤ a1 then post 0
    else post 1))

def wp_T_isActive (T : S_T) (a1 : Int32) (post : Int32 → Prop) : Prop :=
  wp_T_exists T a1 (fun r1 =>
  (if r1 = 0 then post 0
  else vp_in a1 60 ∧
    (if ((T_state T) (Int32.toNatClampNeg a1)) = 1 then post 1
    else post 0)))

def wp_T_isTopLive (T : S_T) (a1 : Int32) (post : Int32 → Prop) : Prop :=
  vp_in a1 60 ∧
  vp_in ((T_top T) (Int32.toNatClampNeg a1)) 60 ∧
  (if ((T_state T) (Int32.toNatClampNeg ((T_top T) (Int32.toNatClampNeg a1)))) = 1 then post 1
  else (if ((T_state T) (Int32.toNatClampNeg ((T_top T) (Int32.toNatClampNeg a1)))) = 2 then post 1
    else post 0))

def wp_N_isOpen (G : S_G) (T : S_T) (a1 : Int32) (post : Int32 → Prop) : Prop :=
  vp_in a1 300 ∧
  (if ((G_kind G) (Int32.toNatClampNeg a1)) = 2 then vp_in a1 300 ∧
    (if ((G_undone G) (Int32.toNatClampNeg a1)) = 0 then vp_in a1 300 ∧
      wp_T_isTopLive T ((G_transaction G) (Int32.toNatClampNeg a1)) (fun r1 =>
      (if r1 = 0 then post 0
      else post 1))
    else post 0)
  else post 0)

def wp_N_openUpdateCount_L4 (G : S_G) (T : S_T) (Kx : Int32 → Prop) : Nat → Int32 → Int32 → Prop
  | 0, _, _ => False
  | n4 + 1, v1, v2 => (if (G_size G) ≤ v2 then Kx v1
      else wp_N_isOpen G T v2 (fun r1 =>
        (if r1 = 0 then wp_N_openUpdateCount_L4 G T Kx n4 v1 (v2 + 1)
        else wp_N_openUpdateCount_L4 G T Kx n4 (v1 + 1) (v2 + 1))))
def wp_N_openUpdateCount (G : S_G) (T : S_T) (post : Int32 → Prop) : Prop :=
  (∃ e4, wp_N_openUpdateCount_L4 G T (fun x2 =>
  post x2) e4 0 0)

def wp_T_isLive (T : S_T) (a1 : Int32) (post : Int32 → Prop) : Prop :=
  wp_T_exists T a1 (fun r1 =>
  (if r1 = 0 then post 0
  else vp_in a1 60 ∧
    (if ((T_state T) (Int32.toNatClampNeg a1)) = 1 then post 1
    else vp_in a1 60 ∧
      (if ((T_state T) (Int32.toNatClampNeg a1)) = 2 then post 1
      else post 0))))

def wp_T_liveCount_L4 (T : S_T) (Kx : Int32 → Prop) : Nat → Int32 → Int32 → Prop
  | 0, _, _ => False
  | n4 + 1, v1, v2 => (if (T_count T) ≤ v2 then Kx v1
      else wp_T_isLive T v2 (fun r1 =>
        (if r1 = 0 then wp_T_liveCount_L4 T Kx n4 v1 (v2 + 1)
        else wp_T_liveCount_L4 T Kx n4 (v1 + 1) (v2 + 1))))
def wp_T_liveCount (T : S_T) (post : Int32 → Prop) : Prop :=
  (∃ e4, wp_T_liveCount_L4 T (fun x2 =>
  post x2) e4 0 0)

def wp_N_hasRoomForOne (G : S_G) (T : S_T) (post : Int32 → Prop) : Prop :=
  wp_N_openUpdateCount G T (fun r1 =>
  wp_T_liveCount T (fun r2 =>
  (if 300 < ((((G_size G) + r1) + r2) + 2) then post 0
  else post 1)))

def wp_G_last (G : S_G) (post : Int32 → Prop) : Prop :=
  post ((G_base G) + (G_size G))

def wp_T_add (T : S_T) (a1 : Int32) (a2 : Int32) (post : Int32 → S_T → Prop) : Prop :=
  wp_T_exists T a1 (fun r1 =>
  (jn (fun (jk18 : Int32 → Prop) =>
  (if r1 = 0 then jk18 1
    else jk18 0)) (fun b2 =>
  vp_in (T_count T) 60 ∧
    (jn (fun (jk47 : Int32 → Prop) =>
    (if b2 = 0 then vp_in a1 60 ∧
        jk47 ((T_top T) (Int32.toNatClampNeg a1))
      else jk47 (T_count T))) (fun b3 =>
    vp_in (T_count T) 60 ∧
      (jn (fun (jk70 : Int32 → Prop) =>
      (if b2 = 0 then vp_in a1 60 ∧
          jk70 (((T_depth T) (Int32.toNatClampNeg a1)) + 1)
        else jk70 1)) (fun b4 =>
      vp_in (T_count T) 60 ∧
        (jn (fun (jk97 : Int64 → Prop) =>
        (if b2 = 0 then vp_in a1 60 ∧
            jk97 (((T_lineage T) (Int32.toNatClampNeg a1)) ||| ((1 : Int64) <<< (Int32.toInt64 (T_count T) &&& 63)))
          else jk97 ((1 : Int64) <<< (Int32.toInt64 (T_count T) &&& 63)))) (fun b5 =>
        vp_in (T_count T) 60 ∧
          vp_in (T_count T) 60 ∧
          vp_in (T_count T) 60 ∧
          post (T_count T) (T_count' (T_begun' (T_state' (T_lineage' (T_depth' (T_top' (T_parent' T (upd (T_parent T) (Int32.toNatClampNeg (T_count T)) a1)) (upd (T_top T) (Int32.toNatClampNeg (T_count T)) b3)) (upd (T_depth T) (Int32.toNatClampNeg (T_count T)) b4)) (vp_updL (T_lineage T) (Int32.toNatClampNeg (T_count T)) b5)) (upd (T_state T) (Int32.toNatClampNeg (T_count T)) 1)) (upd (T_begun T) (Int32.toNatClampNeg (T_count T)) a2)) ((T_count T) + 1)))))))))))

def wp_G_setBefore (G : S_G) (a1 : Int32) (a2 : Int32) (a3 : Int32) (post : S_G → Prop) : Prop :=
  vp_in a1 300 ∧
  vp_in a1 300 ∧
  post (G_oldValue' (G_wasThere' G (upd (G_wasThere G) (Int32.toNatClampNeg a1) (vp_nar .boolean a2))) (upd (G_oldValue G) (Int32.toNatClampNeg a1) a3))

def wp_G_setAfter (G : S_G) (a1 : Int32) (a2 : Int32) (a3 : Int32) (post : S_G → Prop) : Prop :=
  vp_in a1 300 ∧
  vp_in a1 300 ∧
  post (G_newValue' (G_isThere' G (upd (G_isThere G) (Int32.toNatClampNeg a1) (vp_nar .boolean a2))) (upd (G_newValue G) (Int32.toNatClampNeg a1) a3))

def wp_G_append (G : S_G) (a1 : Int32) (a2 : Int32) (a3 : Int32) (post : Int32 → S_G → Prop) : Prop :=
  (jn (fun (jk20 : S_G → Prop) =>
  (if 300 ≤ (G_size G) then jk20 G
    else jk20 (G_size' G ((G_size G) + 1)))) (fun G1 =>
  vp_in ((G_size G1) - 1) 300 ∧
    vp_in ((G_size G1) - 1) 300 ∧
    vp_in ((G_size G1) - 1) 300 ∧
    wp_G_setBefore (G_subject' (G_transaction' (G_kind' G1 (upd (G_kind G1) (Int32.toNatClampNeg ((G_size G1) - 1)) a1)) (upd (G_transaction G1) (Int32.toNatClampNeg ((G_size G1) - 1)) a2)) (upd (G_subject G1) (Int32.toNatClampNeg ((G_size G1) - 1)) a3)) ((G_size G1) - 1) 0 0 (fun G2 =>
    wp_G_setAfter G2 ((G_size G1) - 1) 0 0 (fun G3 =>
    vp_in ((G_size G1) - 1) 300 ∧
    vp_in ((G_size G1) - 1) 300 ∧
    post ((G_size G1) - 1) (G_undone' (G_undoes' G3 (upd (G_undoes G3) (Int32.toNatClampNeg ((G_size G1) - 1)) 0)) (upd (G_undone G3) (Int32.toNatClampNeg ((G_size G1) - 1)) (vp_nar .boolean 0)))))))

def wp_N_begin (G : S_G) (T : S_T) (a1 : Int32) (post : Int32 → S_G → S_T → Prop) : Prop :=
  (jn (fun (jk34 : Int32 → Prop) =>
  (if a1 = (-1) then jk34 1
    else wp_T_isActive T a1 (fun r1 =>
      (if r1 = 0 then jk34 0
      else vp_in a1 60 ∧
        (if 4 ≤ ((T_depth T) (Int32.toNatClampNeg a1)) then jk34 0
        else jk34 1))))) (fun b2 =>
  (if b2 = 0 then post (-1) G T
    else (if (T_count T) < 60 then wp_N_hasRoomForOne G T (fun r3 =>
        (if r3 = 0 then post (-5) G T
        else wp_G_last G (fun r4 =>
          wp_T_add T a1 (r4 + 1) (fun r5 T6 =>
          wp_G_append G 1 r5 a1 (fun r7 G8 =>
          post r5 G8 T6)))))
      else post (-1) G T))))

def wp_N_isKey (a0 : Int32) (post : Int32 → Prop) : Prop :=
  (if a0 < 0 then post 0
  else (if 32 ≤ a0 then post 0
    else post 1))

def wp_T_liveChildren_L7 (T : S_T) (v1 : Int32) (Kx : Int64 → Prop) : Nat → Int64 → Int32 → Prop
  | 0, _, _ => False
  | n7 + 1, v2, v4 => (if (T_count T) ≤ v4 then Kx v2
      else vp_in v4 60 ∧
        (if ((T_parent T) (Int32.toNatClampNeg v4)) = v1 then wp_T_isLive T v4 (fun r1 =>
          (if r1 = 0 then wp_T_liveChildren_L7 T v1 Kx n7 v2 (v4 + 1)
          else wp_T_liveChildren_L7 T v1 Kx n7 (v2 ||| ((1 : Int64) <<< (Int32.toInt64 v4 &&& 63))) (v4 + 1)))
        else wp_T_liveChildren_L7 T v1 Kx n7 v2 (v4 + 1)))
def wp_T_liveChildren (T : S_T) (a1 : Int32) (post : Int64 → Prop) : Prop :=
  (∃ e7, wp_T_liveChildren_L7 T a1 (fun x2 =>
  post x2) e7 (0 : Int64) (a1 + 1))

def wp_T_isBusy (T : S_T) (a1 : Int32) (post : Int32 → Prop) : Prop :=
  wp_T_liveChildren T a1 (fun r1 =>
  (if (lg_cmp r1 (0 : Int64)) = 0 then post 0
  else post 1))

def wp_N_refusalOf (T : S_T) (a1 : Int32) (post : Int32 → Prop) : Prop :=
  wp_T_isActive T a1 (fun r1 =>
  (if r1 = 0 then post (-1)
  else wp_T_isBusy T a1 (fun r2 =>
    (if r2 = 0 then post 0
    else post (-4)))))

def wp_T_setRequest (T : S_T) (a1 : Int32) (a2 : Int32) (a3 : Int32) (a4 : Int32) (a5 : Int32) (post : S_T → Prop) : Prop :=
  vp_in a1 60 ∧
  vp_in a1 60 ∧
  vp_in a1 60 ∧
  vp_in a1 60 ∧
  post (T_newValue' (T_high' (T_low' (T_kind' T (upd (T_kind T) (Int32.toNatClampNeg a1) a2)) (upd (T_low T) (Int32.toNatClampNeg a1) a3)) (upd (T_high T) (Int32.toNatClampNeg a1) a4)) (upd (T_newValue T) (Int32.toNatClampNeg a1) a5))

def wp_N_prepare (T : S_T) (a1 : Int32) (a2 : Int32) (a3 : Int32) (a4 : Int32) (a5 : Int32) (post : Int32 → S_T → Prop) : Prop :=
  wp_N_isKey a3 (fun r1 =>
  (if r1 = 0 then post (-1) T
  else wp_N_isKey a4 (fun r2 =>
    (if r2 = 0 then post (-1) T
    else (if a3 ≤ a4 then wp_N_refusalOf T a1 (fun r3 =>
        (if r3 = 0 then wp_T_setRequest T a1 a2 a3 a4 a5 (fun T4 =>
          post r3 T4)
        else post r3 T))
      else post (-1) T)))))

def wp_P_start (P : S_P) (a1 : Int32) (post : S_P → Prop) : Prop :=
  post (P_size' (P_mode' P a1) 0)

def wp_A_nextItem_L4 (A : S_A) (post : Int32 → Prop) (Kx : Prop) : Nat → Int32 → Prop
  | 0, _ => False
  | n4 + 1, v2 => (if 32 ≤ v2 then Kx
      else vp_in v2 32 ∧
        (if ((A_there A) (Int32.toNatClampNeg v2)) = 0 then wp_A_nextItem_L4 A post Kx n4 (v2 + 1)
        else post v2))
def wp_A_nextItem (A : S_A) (a1 : Int32) (post : Int32 → Prop) : Prop :=
  (∃ e4, wp_A_nextItem_L4 A post (post 32) e4 (a1 + 1))

def wp_P_add (P : S_P) (a1 : Int32) (post : S_P → Prop) : Prop :=
  (if 33 ≤ (P_size P) then post P
  else vp_in (P_size P) 33 ∧
    post (P_size' (P_items' P (upd (P_items P) (Int32.toNatClampNeg (P_size P)) a1)) ((P_size P) + 1)))

def wp_N_planLocks_L201 (A : S_A) (v3 : Int32) (Kx : S_P → Prop) : Nat → Int32 → S_P → Prop
  | 0, _, _ => False
  | n201 + 1, v5, P => (if v3 < v5 then Kx P
      else vp_in v5 32 ∧
        (if ((A_there A) (Int32.toNatClampNeg v5)) = 0 then wp_N_planLocks_L201 A v3 Kx n201 (v5 + 1) P
        else wp_P_add P v5 (fun P16 =>
          wp_N_planLocks_L201 A v3 Kx n201 (v5 + 1) P16)))
def wp_N_planLocks (A : S_A) (P : S_P) (T : S_T) (a1 : Int32) (post : S_P → Prop) : Prop :=
  vp_in a1 60 ∧
  vp_in a1 60 ∧
  vp_in ((T_low T) (Int32.toNatClampNeg a1)) 32 ∧
  vp_in a1 60 ∧
  (if ((T_kind T) (Int32.toNatClampNeg a1)) = 0 then wp_P_start P 1 (fun P1 =>
    (if ((A_there A) (Int32.toNatClampNeg ((T_low T) (Int32.toNatClampNeg a1)))) = 0 then wp_A_nextItem A ((T_low T) (Int32.toNatClampNeg a1)) (fun r2 =>
      wp_P_add P1 r2 (fun P3 =>
      post P3))
    else wp_P_add P1 ((T_low T) (Int32.toNatClampNeg a1)) (fun P4 =>
      post P4)))
  else if ((T_kind T) (Int32.toNatClampNeg a1)) = 1 then wp_P_start P 2 (fun P5 =>
    (if ((A_there A) (Int32.toNatClampNeg ((T_low T) (Int32.toNatClampNeg a1)))) = 0 then wp_A_nextItem A ((T_low T) (Int32.toNatClampNeg a1)) (fun r7 =>
      wp_P_add P5 r7 (fun P8 =>
      wp_P_add P8 ((T_low T) (Int32.toNatClampNeg a1)) (fun P9 =>
      post P9)))
    else wp_P_add P5 ((T_low T) (Int32.toNatClampNeg a1)) (fun P6 =>
      post P6)))
  else if ((T_kind T) (Int32.toNatClampNeg a1)) = 2 then (jn (fun (jk156 : Int32 → Prop) =>
    (if ((A_there A) (Int32.toNatClampNeg ((T_low T) (Int32.toNatClampNeg a1)))) = 0 then jk156 1
      else jk156 2)) (fun b10 =>
    wp_P_start P b10 (fun P11 =>
      wp_A_nextItem A ((T_low T) (Int32.toNatClampNeg a1)) (fun r12 =>
      wp_P_add P11 r12 (fun P13 =>
      (if ((A_there A) (Int32.toNatClampNeg ((T_low T) (Int32.toNatClampNeg a1)))) = 0 then post P13
      else wp_P_add P13 ((T_low T) (Int32.toNatClampNeg a1)) (fun P14 =>
        post P14)))))))
  else wp_P_start P 1 (fun P15 =>
    (∃ e201, wp_N_planLocks_L201 A ((T_high T) (Int32.toNatClampNeg a1)) (fun P17 =>
    wp_A_nextItem A ((T_high T) (Int32.toNatClampNeg a1)) (fun r18 =>
      wp_P_add P17 r18 (fun P19 =>
      post P19))) e201 ((T_low T) (Int32.toNatClampNeg a1)) P15)))

def wp_K_heldBy (K : S_K) (a1 : Int32) (a2 : Int32) (post : Int32 → Prop) : Prop :=
  vp_in a2 33 ∧
  (if (lg_cmp (((K_exclusive K) (Int32.toNatClampNeg a2)) &&& ((1 : Int64) <<< (Int32.toInt64 a1 &&& 63))) (0 : Int64)) = 0 then vp_in a2 33 ∧
    (if (lg_cmp (((K_shared K) (Int32.toNatClampNeg a2)) &&& ((1 : Int64) <<< (Int32.toInt64 a1 &&& 63))) (0 : Int64)) = 0 then post 0
    else post 1)
  else post 2)

def wp_K_blockers (K : S_K) (a1 : Int32) (a2 : Int32) (a3 : Int64) (post : Int64 → Prop) : Prop :=
  (if a2 = 2 then vp_in a1 33 ∧
    vp_in a1 33 ∧
    post ((((K_shared K) (Int32.toNatClampNeg a1)) ||| ((K_exclusive K) (Int32.toNatClampNeg a1))) &&& (a3 ^^^ (-1)))
  else vp_in a1 33 ∧
    post (((K_exclusive K) (Int32.toNatClampNeg a1)) &&& (a3 ^^^ (-1))))

def wp_N_freeLocks_L2 (K : S_K) (P : S_P) (T : S_T) (v1 : Int32) (post : Int32 → Prop) (Kx : Prop) : Nat → Int32 → Prop
  | 0, _ => False
  | n2 + 1, v2 => (if (P_size P) ≤ v2 then Kx
      else vp_in v2 33 ∧
        wp_K_heldBy K v1 ((P_items P) (Int32.toNatClampNeg v2)) (fun r1 =>
        (jn (fun (jk47 : Int32 → Prop) =>
        (if r1 < (P_mode P) then jk47 0
          else jk47 1)) (fun b2 =>
        (if b2 = 0 then vp_in v1 60 ∧
            wp_K_blockers K ((P_items P) (Int32.toNatClampNeg v2)) (P_mode P) ((T_lineage T) (Int32.toNatClampNeg v1)) (fun r3 =>
            (if (lg_cmp r3 (0 : Int64)) = 0 then wp_N_freeLocks_L2 K P T v1 post Kx n2 (v2 + 1)
            else post v2))
          else wp_N_freeLocks_L2 K P T v1 post Kx n2 (v2 + 1))))))
def wp_N_freeLocks (K : S_K) (P : S_P) (T : S_T) (a1 : Int32) (post : Int32 → Prop) : Prop :=
  (∃ e2, wp_N_freeLocks_L2 K P T a1 post (post (P_size P)) e2 0)

def wp_K_grant (K : S_K) (a1 : Int32) (a2 : Int32) (a3 : Int32) (post : S_K → Prop) : Prop :=
  wp_K_heldBy K a1 a2 (fun r1 =>
  (if r1 < a3 then (if a3 = 2 then vp_in a2 33 ∧
      vp_in a2 33 ∧
      vp_in a2 33 ∧
      vp_in a2 33 ∧
      post (K_exclusive' (K_shared' K (vp_updL (K_shared K) (Int32.toNatClampNeg a2) (((K_shared K) (Int32.toNatClampNeg a2)) &&& (((1 : Int64) <<< (Int32.toInt64 a1 &&& 63)) ^^^ (-1))))) (vp_updL (K_exclusive K) (Int32.toNatClampNeg a2) (((K_exclusive K) (Int32.toNatClampNeg a2)) ||| ((1 : Int64) <<< (Int32.toInt64 a1 &&& 63)))))
    else vp_in a2 33 ∧
      vp_in a2 33 ∧
      post (K_shared' K (vp_updL (K_shared K) (Int32.toNatClampNeg a2) (((K_shared K) (Int32.toNatClampNeg a2)) ||| ((1 : Int64) <<< (Int32.toInt64 a1 &&& 63))))))
  else post K))

def wp_N_takeLocks_L13 (P : S_P) (v1 : Int32) (v2 : Int32) (Kx : S_K → Prop) : Nat → Int32 → S_K → Prop
  | 0, _, _ => False
  | n13 + 1, v3, K => (if v2 ≤ v3 then Kx K
      else vp_in v3 33 ∧
        wp_K_grant K v1 ((P_items P) (Int32.toNatClampNeg v3)) (P_mode P) (fun K3 =>
        wp_N_takeLocks_L13 P v1 v2 Kx n13 (v3 + 1) K3))
def wp_N_takeLocks (A : S_A) (K : S_K) (P : S_P) (T : S_T) (a1 : Int32) (post : Int32 → S_K → S_P → Prop) : Prop :=
  wp_N_planLocks A P T a1 (fun P1 =>
  wp_N_freeLocks K P1 T a1 (fun r2 =>
  (∃ e13, wp_N_takeLocks_L13 P1 a1 r2 (fun K4 =>
  (if r2 = (P_size P1) then post 1 K4 P1
    else post 0 K4 P1)) e13 0 K)))

def wp_A_putOnDisk_L42 (v1 : Int32) (v3 : Int32) (Kx : S_A → Prop) : Nat → Int32 → S_A → Prop
  | 0, _, _ => False
  | n42 + 1, v4, A => (if (v3 + 4) ≤ v4 then Kx A
      else vp_in v4 32 ∧
        vp_in v4 32 ∧
        vp_in v4 32 ∧
        vp_in v4 32 ∧
        wp_A_putOnDisk_L42 v1 v3 Kx n42 (v4 + 1) (A_diskValue' (A_diskThere' A (upd (A_diskThere A) (Int32.toNatClampNeg v4) (vp_nar .boolean ((A_there A) (Int32.toNatClampNeg v4))))) (upd (A_diskValue A) (Int32.toNatClampNeg v4) ((A_value A) (Int32.toNatClampNeg v4)))))
def wp_A_putOnDisk (A : S_A) (G : S_G) (a1 : Int32) (post : S_A → S_G → Prop) : Prop :=
  vp_in a1 8 ∧
  (jn (fun (jk23 : S_G → Prop) =>
  (if ((A_lsn A) (Int32.toNatClampNeg a1)) ≤ (G_flushed G) then jk23 G
    else vp_in a1 8 ∧
      jk23 (G_flushed' G ((A_lsn A) (Int32.toNatClampNeg a1))))) (fun G1 =>
  vp_in a1 8 ∧
    vp_in a1 8 ∧
    (∃ e42, wp_A_putOnDisk_L42 a1 (a1 * 4) (fun A2 =>
    vp_in a1 8 ∧
      post (A_dirty' A2 (upd (A_dirty A2) (Int32.toNatClampNeg a1) (vp_nar .boolean 0))) G1) e42 (a1 * 4) (A_diskLsn' A (upd (A_diskLsn A) (Int32.toNatClampNeg a1) ((A_lsn A) (Int32.toNatClampNeg a1)))))))

def wp_A_touch_L2 (A : S_A) (v1 : Int32) (Kx : Int32 → Prop) : Nat → Int32 → Prop
  | 0, _ => False
  | n2 + 1, v3 => (if (A_framesInUse A) ≤ v3 then Kx v3
      else vp_in v3 8 ∧
        (if ((A_byTouch A) (Int32.toNatClampNeg v3)) = v1 then Kx v3
        else wp_A_touch_L2 A v1 Kx n2 (v3 + 1)))
def wp_A_touch_L86 (v1 : Int32) (Kx : S_A → Prop) : Nat → Int32 → S_A → Prop
  | 0, _, _ => False
  | n86 + 1, v4, A => (if v4 ≤ 0 then Kx A
      else vp_in (v4 - 1) 8 ∧
        vp_in v4 8 ∧
        wp_A_touch_L86 v1 Kx n86 (v4 + (-1)) (A_byTouch' A (upd (A_byTouch A) (Int32.toNatClampNeg v4) ((A_byTouch A) (Int32.toNatClampNeg (v4 - 1))))))
def wp_A_touch (A : S_A) (G : S_G) (a1 : Int32) (post : S_A → S_G → Prop) : Prop :=
  (∃ e2, wp_A_touch_L2 A a1 (fun x1 =>
  (jn (fun (jk83 : Int32 → S_A → S_G → Prop) =>
    (if x1 = (A_frames A) then vp_in (x1 + (-1)) 8 ∧
        vp_in ((A_byTouch A) (Int32.toNatClampNeg (x1 + (-1)))) 8 ∧
        (if ((A_dirty A) (Int32.toNatClampNeg ((A_byTouch A) (Int32.toNatClampNeg (x1 + (-1)))))) = 0 then jk83 (x1 + (-1)) A G
        else vp_in (x1 + (-1)) 8 ∧
          wp_A_putOnDisk A G ((A_byTouch A) (Int32.toNatClampNeg (x1 + (-1)))) (fun A2 G3 =>
          jk83 (x1 + (-1)) A2 G3))
      else (if x1 = (A_framesInUse A) then jk83 x1 (A_framesInUse' A ((A_framesInUse A) + 1)) G
        else jk83 x1 A G))) (fun x4 A5 G6 =>
    (∃ e86, wp_A_touch_L86 a1 (fun A7 =>
      vp_in 0 8 ∧
        post (A_byTouch' A7 (upd (A_byTouch A7) (Int32.toNatClampNeg 0) a1)) G6) e86 x4 A5)))) e2 0)

def wp_N_asNumber (a0 : Int32) (post : Int32 → Prop) : Prop :=
  (if a0 = 0 then post 0
  else post 1)

def wp_G_lsnOf (G : S_G) (a1 : Int32) (post : Int32 → Prop) : Prop :=
  post (((G_base G) + 1) + a1)

def wp_A_change (A : S_A) (a1 : Int32) (a2 : Int32) (a3 : Int32) (a4 : Int32) (post : S_A → Prop) : Prop :=
  vp_in a1 32 ∧
  vp_in a1 32 ∧
  vp_in (a1 / 4) 8 ∧
  vp_in (a1 / 4) 8 ∧
  post (A_dirty' (A_lsn' (A_value' (A_there' A (upd (A_there A) (Int32.toNatClampNeg a1) (vp_nar .boolean a2))) (upd (A_value A) (Int32.toNatClampNeg a1) a3)) (upd (A_lsn A) (Int32.toNatClampNeg (a1 / 4)) a4)) (upd (A_dirty A) (Int32.toNatClampNeg (a1 / 4)) (vp_nar .boolean 1)))

def wp_N_update (A : S_A) (G : S_G) (a1 : Int32) (a2 : Int32) (a3 : Int32) (a4 : Int32) (post : S_A → S_G → Prop) : Prop :=
  wp_G_append G 2 a1 a2 (fun r1 G2 =>
  vp_in a2 32 ∧
  vp_in a2 32 ∧
  wp_G_setBefore G2 r1 ((A_there A) (Int32.toNatClampNeg a2)) ((A_value A) (Int32.toNatClampNeg a2)) (fun G3 =>
  wp_G_setAfter G3 r1 a3 a4 (fun G4 =>
  wp_A_touch A G4 (a2 / 4) (fun A5 G6 =>
  wp_G_lsnOf G6 r1 (fun r7 =>
  wp_A_change A5 a2 a3 a4 r7 (fun A8 =>
  post A8 G6))))))

def wp_N_countAndSum_L4 (v1 : Int32) (v2 : Int32) (Kx : S_A → S_G → Prop) : Nat → Int32 → S_A → S_G → Prop
  | 0, _, _, _ => False
  | n4 + 1, v3, A, G => (if (v2 / 4) < v3 then Kx A G
      else wp_A_touch A G v3 (fun A1 G2 =>
        wp_N_countAndSum_L4 v1 v2 Kx n4 (v3 + 1) A1 G2))
def wp_N_countAndSum_L37 (A : S_A) (v2 : Int32) (Kx : Int32 → Int32 → Prop) : Nat → Int32 → Int32 → Int32 → Prop
  | 0, _, _, _ => False
  | n37 + 1, v3, v4, v5 => (if v2 < v5 then Kx v3 v4
      else vp_in v5 32 ∧
        (if ((A_there A) (Int32.toNatClampNeg v5)) = 0 then wp_N_countAndSum_L37 A v2 Kx n37 v3 v4 (v5 + 1)
        else vp_in v5 32 ∧
          wp_N_countAndSum_L37 A v2 Kx n37 (v3 + 1) (v4 + ((A_value A) (Int32.toNatClampNeg v5))) (v5 + 1)))
def wp_N_countAndSum (A : S_A) (G : S_G) (N : S_N) (a1 : Int32) (a2 : Int32) (post : Int32 → S_A → S_G → S_N → Prop) : Prop :=
  (∃ e4, wp_N_countAndSum_L4 a1 a2 (fun A3 G4 =>
  (∃ e37, wp_N_countAndSum_L37 A3 a2 (fun x5 x6 =>
    post x5 A3 G4 (N_latestValue' N x6)) e37 0 0 a1)) e4 (a1 / 4) A G)

def wp_N_carryOut (A : S_A) (G : S_G) (N : S_N) (T : S_T) (a1 : Int32) (post : Int32 → S_A → S_G → S_N → Prop) : Prop :=
  vp_in a1 60 ∧
  vp_in a1 60 ∧
  (if ((T_kind T) (Int32.toNatClampNeg a1)) = 0 then wp_A_touch A G (((T_low T) (Int32.toNatClampNeg a1)) / 4) (fun A1 G2 =>
    vp_in ((T_low T) (Int32.toNatClampNeg a1)) 32 ∧
    vp_in ((T_low T) (Int32.toNatClampNeg a1)) 32 ∧
    wp_N_asNumber ((A_there A1) (Int32.toNatClampNeg ((T_low T) (Int32.toNatClampNeg a1)))) (fun r3 =>
    post r3 A1 G2 (N_latestValue' N ((A_value A1) (Int32.toNatClampNeg ((T_low T) (Int32.toNatClampNeg a1)))))))
  else if ((T_kind T) (Int32.toNatClampNeg a1)) = 1 then wp_N_hasRoomForOne G T (fun r4 =>
    (if r4 = 0 then post (-5) A G N
    else vp_in a1 60 ∧
      wp_N_update A G a1 ((T_low T) (Int32.toNatClampNeg a1)) 1 ((T_newValue T) (Int32.toNatClampNeg a1)) (fun A5 G6 =>
      post 0 A5 G6 N)))
  else if ((T_kind T) (Int32.toNatClampNeg a1)) = 2 then vp_in ((T_low T) (Int32.toNatClampNeg a1)) 32 ∧
    (if ((A_there A) (Int32.toNatClampNeg ((T_low T) (Int32.toNatClampNeg a1)))) = 0 then post 0 A G N
    else wp_N_hasRoomForOne G T (fun r7 =>
      (if r7 = 0 then post (-5) A G N
      else wp_N_update A G a1 ((T_low T) (Int32.toNatClampNeg a1)) 0 0 (fun A8 G9 =>
        post 1 A8 G9 N))))
  else vp_in a1 60 ∧
    wp_N_countAndSum A G N ((T_low T) (Int32.toNatClampNeg a1)) ((T_high T) (Int32.toNatClampNeg a1)) (fun r10 A11 G12 N13 =>
    post r10 A11 G12 N13))

def wp_T_isWaiting (T : S_T) (a1 : Int32) (post : Int32 → Prop) : Prop :=
  wp_T_exists T a1 (fun r1 =>
  (if r1 = 0 then post 0
  else vp_in a1 60 ∧
    (if ((T_state T) (Int32.toNatClampNeg a1)) = 2 then post 1
    else post 0)))

def wp_N_blockersOf (A : S_A) (K : S_K) (P : S_P) (T : S_T) (a1 : Int32) (post : Int64 → S_P → Prop) : Prop :=
  wp_N_planLocks A P T a1 (fun P1 =>
  wp_N_freeLocks K P1 T a1 (fun r2 =>
  (if r2 = (P_size P1) then post (0 : Int64) P1
  else vp_in r2 33 ∧
    vp_in a1 60 ∧
    wp_K_blockers K ((P_items P1) (Int32.toNatClampNeg r2)) (P_mode P1) ((T_lineage T) (Int32.toNatClampNeg a1)) (fun r3 =>
    post r3 P1))))

def wp_N_leadsOf (A : S_A) (K : S_K) (P : S_P) (T : S_T) (a1 : Int32) (post : Int64 → S_P → Prop) : Prop :=
  wp_T_isLive T a1 (fun r1 =>
  (if r1 = 0 then post (0 : Int64) P
  else wp_T_liveChildren T a1 (fun r2 =>
    wp_T_isWaiting T a1 (fun r3 =>
    (if r3 = 0 then post r2 P
    else wp_N_blockersOf A K P T a1 (fun r4 P5 =>
      post (r2 ||| r4) P5))))))

def wp_D_reachedFrom_L22 (D : S_D) (v2 : Int32) (v5 : Int32) (v6 : Int64) (Kx : Int64 → Prop) : Nat → Int64 → Int32 → Prop
  | 0, _, _ => False
  | n22 + 1, v3, v8 => (if v2 ≤ v8 then Kx v3
      else (if (lg_cmp (v3 &&& ((1 : Int64) <<< (Int32.toInt64 v8 &&& 63))) (0 : Int64)) = 0 then wp_D_reachedFrom_L22 D v2 v5 v6 Kx n22 v3 (v8 + 1)
        else vp_in v8 60 ∧
          wp_D_reachedFrom_L22 D v2 v5 v6 Kx n22 (v3 ||| ((D_from D) (Int32.toNatClampNeg v8))) (v8 + 1)))
def wp_D_reachedFrom_L10 (D : S_D) (v2 : Int32) (Kx : Int64 → Prop) : Nat → Int64 → Int32 → Prop
  | 0, _, _ => False
  | n10 + 1, v3, v5 => (if v2 ≤ v5 then Kx v3
      else (∃ e22, wp_D_reachedFrom_L22 D v2 v5 v3 (fun x1 =>
        (if (lg_cmp x1 v3) = 0 then Kx x1
          else wp_D_reachedFrom_L10 D v2 Kx n10 x1 (v5 + 1))) e22 v3 0))
def wp_D_reachedFrom (D : S_D) (a1 : Int32) (a2 : Int32) (post : Int64 → Prop) : Prop :=
  vp_in a1 60 ∧
  (∃ e10, wp_D_reachedFrom_L10 D a2 (fun x2 =>
  post x2) e10 ((D_from D) (Int32.toNatClampNeg a1)) 0)

def wp_D_leadingTo_L19 (D : S_D) (v2 : Int32) (v5 : Int32) (v6 : Int64) (Kx : Int64 → Prop) : Nat → Int64 → Int32 → Prop
  | 0, _, _ => False
  | n19 + 1, v3, v8 => (if v2 ≤ v8 then Kx v3
      else vp_in v8 60 ∧
        (if (lg_cmp (v3 &&& ((D_from D) (Int32.toNatClampNeg v8))) (0 : Int64)) = 0 then wp_D_leadingTo_L19 D v2 v5 v6 Kx n19 v3 (v8 + 1)
        else wp_D_leadingTo_L19 D v2 v5 v6 Kx n19 (v3 ||| ((1 : Int64) <<< (Int32.toInt64 v8 &&& 63))) (v8 + 1)))
def wp_D_leadingTo_L7 (D : S_D) (v2 : Int32) (Kx : Int64 → Prop) : Nat → Int64 → Int32 → Prop
  | 0, _, _ => False
  | n7 + 1, v3, v5 => (if v2 ≤ v5 then Kx v3
      else (∃ e19, wp_D_leadingTo_L19 D v2 v5 v3 (fun x1 =>
        (if (lg_cmp x1 v3) = 0 then Kx x1
          else wp_D_leadingTo_L7 D v2 Kx n7 x1 (v5 + 1))) e19 v3 0))
def wp_D_leadingTo (D : S_D) (a1 : Int32) (a2 : Int32) (post : Int64 → Prop) : Prop :=
  (∃ e7, wp_D_leadingTo_L7 D a2 (fun x2 =>
  post x2) e7 ((1 : Int64) <<< (Int32.toInt64 a1 &&& 63)) 0)

def wp_D_greatestInCircle_L34 (v1 : Int32) (v5 : Int64) (post : Int32 → Prop) (Kx : Prop) : Nat → Int32 → Prop
  | 0, _ => False
  | n34 + 1, v7 => (if v7 ≤ v1 then Kx
      else (if (lg_cmp (v5 &&& ((1 : Int64) <<< (Int32.toInt64 v7 &&& 63))) (0 : Int64)) = 0 then wp_D_greatestInCircle_L34 v1 v5 post Kx n34 (v7 + (-1))
        else post v7))
def wp_D_greatestInCircle (D : S_D) (a1 : Int32) (a2 : Int32) (post : Int32 → Prop) : Prop :=
  wp_D_reachedFrom D a1 a2 (fun r1 =>
  (if (lg_cmp (r1 &&& ((1 : Int64) <<< (Int32.toInt64 a1 &&& 63))) (0 : Int64)) = 0 then post (-1)
  else wp_D_leadingTo D a1 a2 (fun r2 =>
    (∃ e34, wp_D_greatestInCircle_L34 a1 (r1 &&& r2) post (post a1) e34 (a2 - 1)))))

def wp_N_victimOfCircle_L15 (A : S_A) (K : S_K) (T : S_T) (v1 : Int32) (Kx : S_D → S_P → Prop) : Nat → Int32 → S_D → S_P → Prop
  | 0, _, _, _ => False
  | n15 + 1, v2, D, P => (if (T_count T) ≤ v2 then Kx D P
      else wp_N_leadsOf A K P T v2 (fun r2 P3 =>
        vp_in v2 60 ∧
        wp_N_victimOfCircle_L15 A K T v1 Kx n15 (v2 + 1) (D_from' D (vp_updL (D_from D) (Int32.toNatClampNeg v2) r2)) P3))
def wp_N_victimOfCircle (A : S_A) (D : S_D) (K : S_K) (P : S_P) (T : S_T) (a1 : Int32) (post : Int32 → S_D → S_P → Prop) : Prop :=
  wp_T_isLive T a1 (fun r1 =>
  (if r1 = 0 then post (-1) D P
  else (∃ e15, wp_N_victimOfCircle_L15 A K T a1 (fun D4 P5 =>
    wp_D_greatestInCircle D4 a1 (T_count T) (fun r6 =>
      post r6 D4 P5)) e15 0 D P)))

def wp_T_isWithin (T : S_T) (a1 : Int32) (a2 : Int32) (post : Int32 → Prop) : Prop :=
  vp_in a1 60 ∧
  (if (lg_cmp (((T_lineage T) (Int32.toNatClampNeg a1)) &&& ((1 : Int64) <<< (Int32.toInt64 a2 &&& 63))) (0 : Int64)) = 0 then post 0
  else post 1)

def wp_N_undo (A : S_A) (G : S_G) (a1 : Int32) (a2 : Int32) (post : S_A → S_G → Prop) : Prop :=
  vp_in a1 300 ∧
  vp_in a1 300 ∧
  vp_in a1 300 ∧
  wp_G_append G 3 a2 ((G_subject G) (Int32.toNatClampNeg a1)) (fun r1 G2 =>
  wp_G_setAfter G2 r1 ((G_wasThere G) (Int32.toNatClampNeg a1)) ((G_oldValue G) (Int32.toNatClampNeg a1)) (fun G3 =>
  wp_G_lsnOf G3 a1 (fun r4 =>
  vp_in r1 300 ∧
  vp_in a1 300 ∧
  wp_A_touch A (G_undone' (G_undoes' G3 (upd (G_undoes G3) (Int32.toNatClampNeg r1) r4)) (upd (G_undone G3) (Int32.toNatClampNeg a1) (vp_nar .boolean 1))) (((G_subject G) (Int32.toNatClampNeg a1)) / 4) (fun A5 G6 =>
  wp_G_lsnOf G6 r1 (fun r7 =>
  wp_A_change A5 ((G_subject G) (Int32.toNatClampNeg a1)) ((G_wasThere G) (Int32.toNatClampNeg a1)) ((G_oldValue G) (Int32.toNatClampNeg a1)) r7 (fun A8 =>
  post A8 G6))))))

def wp_N_undoOpenUpdates_L13 (T : S_T) (v1 : Int32) (v2 : Int32) (Kx : Int32 → S_A → S_G → Prop) : Nat → Int32 → Int32 → S_A → S_G → Prop
  | 0, _, _, _, _ => False
  | n13 + 1, v3, v4, A, G => (if v4 < 0 then Kx v3 A G
      else wp_G_lsnOf G v4 (fun r1 =>
        (if r1 ≤ v2 then Kx v3 A G
        else wp_N_isOpen G T v4 (fun r2 =>
          (if r2 = 0 then wp_N_undoOpenUpdates_L13 T v1 v2 Kx n13 v3 (v4 + (-1)) A G
          else vp_in v4 300 ∧
            wp_T_isWithin T ((G_transaction G) (Int32.toNatClampNeg v4)) v1 (fun r3 =>
            (if r3 = 0 then wp_N_undoOpenUpdates_L13 T v1 v2 Kx n13 v3 (v4 + (-1)) A G
            else wp_N_undo A G v4 v1 (fun A4 G5 =>
              wp_N_undoOpenUpdates_L13 T v1 v2 Kx n13 (v3 + 1) (v4 + (-1)) A4 G5))))))))
def wp_N_undoOpenUpdates (A : S_A) (G : S_G) (T : S_T) (a1 : Int32) (a2 : Int32) (post : Int32 → S_A → S_G → Prop) : Prop :=
  (∃ e13, wp_N_undoOpenUpdates_L13 T a1 a2 (fun x6 A7 G8 =>
  post x6 A7 G8) e13 0 ((G_size G) - 1) A G)

def wp_K_release_L2 (v1 : Int32) (Kx : S_K → Prop) : Nat → Int32 → S_K → Prop
  | 0, _, _ => False
  | n2 + 1, v2, K => (if 33 ≤ v2 then Kx K
      else vp_in v2 33 ∧
        vp_in v2 33 ∧
        vp_in v2 33 ∧
        vp_in v2 33 ∧
        wp_K_release_L2 v1 Kx n2 (v2 + 1) (K_exclusive' (K_shared' K (vp_updL (K_shared K) (Int32.toNatClampNeg v2) (((K_shared K) (Int32.toNatClampNeg v2)) &&& (((1 : Int64) <<< (Int32.toInt64 v1 &&& 63)) ^^^ (-1))))) (vp_updL (K_exclusive K) (Int32.toNatClampNeg v2) (((K_exclusive K) (Int32.toNatClampNeg v2)) &&& (((1 : Int64) <<< (Int32.toInt64 v1 &&& 63)) ^^^ (-1))))))
def wp_K_release (K : S_K) (a1 : Int32) (post : S_K → Prop) : Prop :=
  (∃ e2, wp_K_release_L2 a1 (fun K1 =>
  post K1) e2 0 K)

def wp_N_abortWithDescendants_L25 (v1 : Int32) (v2 : Int32) (Kx : S_G → S_K → S_T → Prop) : Nat → Int32 → S_G → S_K → S_T → Prop
  | 0, _, _, _, _ => False
  | n25 + 1, v3, G, K, T => (if v3 < v1 then Kx G K T
      else wp_T_isLive T v3 (fun r4 =>
        (if r4 = 0 then wp_N_abortWithDescendants_L25 v1 v2 Kx n25 (v3 + (-1)) G K T
        else wp_T_isWithin T v3 v1 (fun r5 =>
          (if r5 = 0 then wp_N_abortWithDescendants_L25 v1 v2 Kx n25 (v3 + (-1)) G K T
          else vp_in v3 60 ∧
            wp_G_append G 5 v3 0 (fun r6 G7 =>
            wp_K_release K v3 (fun K8 =>
            wp_N_abortWithDescendants_L25 v1 v2 Kx n25 (v3 + (-1)) G7 K8 (T_state' T (upd (T_state T) (Int32.toNatClampNeg v3) 4)))))))))
def wp_N_abortWithDescendants (A : S_A) (G : S_G) (K : S_K) (T : S_T) (a1 : Int32) (post : Int32 → S_A → S_G → S_K → S_T → Prop) : Prop :=
  vp_in a1 60 ∧
  wp_N_undoOpenUpdates A G T a1 ((T_begun T) (Int32.toNatClampNeg a1)) (fun r1 A2 G3 =>
  (∃ e25, wp_N_abortWithDescendants_L25 a1 r1 (fun G9 K10 T11 =>
  post r1 A2 G9 K10 T11) e25 ((T_count T) - 1) G3 K T))

def wp_N_request_L42 (v1 : Int32) (Kx : S_A → S_D → S_G → S_K → S_P → S_T → Prop) : Nat → Int32 → Int32 → S_A → S_D → S_G → S_K → S_P → S_T → Prop
  | 0, _, _, _, _, _, _, _, _ => False
  | n42 + 1, v2, v3, A, D, G, K, P, T => (if 60 ≤ v3 then Kx A D G K P T
      else (if v2 = (-1) then Kx A D G K P T
        else wp_N_abortWithDescendants A G K T v2 (fun r7 A8 G9 K10 T11 =>
          wp_N_victimOfCircle A8 D K10 P T11 v1 (fun r12 D13 P14 =>
          wp_N_request_L42 v1 Kx n42 r12 (v3 + 1) A8 D13 G9 K10 P14 T11))))
def wp_N_request (A : S_A) (D : S_D) (G : S_G) (K : S_K) (N : S_N) (P : S_P) (T : S_T) (a1 : Int32) (post : Int32 → S_A → S_D → S_G → S_K → S_N → S_P → S_T → Prop) : Prop :=
  wp_N_takeLocks A K P T a1 (fun r1 K2 P3 =>
  (if r1 = 0 then vp_in a1 60 ∧
    wp_N_victimOfCircle A D K2 P3 (T_state' T (upd (T_state T) (Int32.toNatClampNeg a1) 2)) a1 (fun r4 D5 P6 =>
    (∃ e42, wp_N_request_L42 a1 (fun A15 D16 G17 K18 P19 T20 =>
    wp_T_isLive T20 a1 (fun r21 =>
      (if r21 = 0 then post (-3) A15 D16 G17 K18 N P19 T20
      else post (-2) A15 D16 G17 K18 N P19 T20))) e42 r4 0 A D5 G K2 P6 (T_state' T (upd (T_state T) (Int32.toNatClampNeg a1) 2))))
  else vp_in a1 60 ∧
    wp_N_carryOut A G N (T_state' T (upd (T_state T) (Int32.toNatClampNeg a1) 1)) a1 (fun r22 A23 G24 N25 =>
    post r22 A23 D G24 K2 N25 P3 (T_state' T (upd (T_state T) (Int32.toNatClampNeg a1) 1)))))

def wp_N_get (A : S_A) (D : S_D) (G : S_G) (K : S_K) (N : S_N) (P : S_P) (T : S_T) (a1 : Int32) (a2 : Int32) (post : Int32 → S_A → S_D → S_G → S_K → S_N → S_P → S_T → Prop) : Prop :=
  wp_N_prepare T a1 0 a2 a2 0 (fun r1 T2 =>
  (if r1 = 0 then wp_N_request A D G K N P T2 a1 (fun r3 A4 D5 G6 K7 N8 P9 T10 =>
    post r3 A4 D5 G6 K7 N8 P9 T10)
  else post r1 A D G K N P T2))

def wp_N_put (A : S_A) (D : S_D) (G : S_G) (K : S_K) (N : S_N) (P : S_P) (T : S_T) (a1 : Int32) (a2 : Int32) (a3 : Int32) (post : Int32 → S_A → S_D → S_G → S_K → S_N → S_P → S_T → Prop) : Prop :=
  wp_N_prepare T a1 1 a2 a2 a3 (fun r1 T2 =>
  (if r1 = 0 then wp_N_request A D G K N P T2 a1 (fun r3 A4 D5 G6 K7 N8 P9 T10 =>
    post r3 A4 D5 G6 K7 N8 P9 T10)
  else post r1 A D G K N P T2))

def wp_N_delete (A : S_A) (D : S_D) (G : S_G) (K : S_K) (N : S_N) (P : S_P) (T : S_T) (a1 : Int32) (a2 : Int32) (post : Int32 → S_A → S_D → S_G → S_K → S_N → S_P → S_T → Prop) : Prop :=
  wp_N_prepare T a1 2 a2 a2 0 (fun r1 T2 =>
  (if r1 = 0 then wp_N_request A D G K N P T2 a1 (fun r3 A4 D5 G6 K7 N8 P9 T10 =>
    post r3 A4 D5 G6 K7 N8 P9 T10)
  else post r1 A D G K N P T2))

def wp_N_scan (A : S_A) (D : S_D) (G : S_G) (K : S_K) (N : S_N) (P : S_P) (T : S_T) (a1 : Int32) (a2 : Int32) (a3 : Int32) (post : Int32 → S_A → S_D → S_G → S_K → S_N → S_P → S_T → Prop) : Prop :=
  wp_N_prepare T a1 3 a2 a3 0 (fun r1 T2 =>
  (if r1 = 0 then wp_N_request A D G K N P T2 a1 (fun r3 A4 D5 G6 K7 N8 P9 T10 =>
    post r3 A4 D5 G6 K7 N8 P9 T10)
  else post r1 A D G K N P T2))

def wp_N_resume (A : S_A) (D : S_D) (G : S_G) (K : S_K) (N : S_N) (P : S_P) (T : S_T) (a1 : Int32) (post : Int32 → S_A → S_D → S_G → S_K → S_N → S_P → S_T → Prop) : Prop :=
  wp_T_isWaiting T a1 (fun r1 =>
  (if r1 = 0 then post (-1) A D G K N P T
  else wp_N_request A D G K N P T a1 (fun r2 A3 D4 G5 K6 N7 P8 T9 =>
    post r2 A3 D4 G5 K6 N7 P8 T9)))

def wp_N_value (N : S_N) (post : Int32 → Prop) : Prop :=
  post (N_latestValue N)

def wp_K_passOn_L2 (v1 : Int32) (v2 : Int32) (Kx : S_K → Prop) : Nat → Int32 → S_K → Prop
  | 0, _, _ => False
  | n2 + 1, v3, K => (if 33 ≤ v3 then Kx K
      else wp_K_heldBy K v1 v3 (fun r1 =>
        wp_K_grant K v2 v3 r1 (fun K2 =>
        wp_K_passOn_L2 v1 v2 Kx n2 (v3 + 1) K2)))
def wp_K_passOn (K : S_K) (a1 : Int32) (a2 : Int32) (post : S_K → Prop) : Prop :=
  (∃ e2, wp_K_passOn_L2 a1 a2 (fun K3 =>
  post K3) e2 0 K)

def wp_N_commit (G : S_G) (K : S_K) (T : S_T) (a1 : Int32) (post : Int32 → S_G → S_K → S_T → Prop) : Prop :=
  wp_N_refusalOf T a1 (fun r1 =>
  (if r1 = 0 then wp_G_append G 4 a1 0 (fun r2 G3 =>
    vp_in a1 60 ∧
    vp_in a1 60 ∧
    (if ((T_parent T) (Int32.toNatClampNeg a1)) = (-1) then wp_G_last G3 (fun r6 =>
      wp_K_release K a1 (fun K7 =>
      post 0 (G_flushed' G3 r6) K7 (T_state' T (upd (T_state T) (Int32.toNatClampNeg a1) 3))))
    else wp_K_passOn K a1 ((T_parent T) (Int32.toNatClampNeg a1)) (fun K4 =>
      wp_K_release K4 a1 (fun K5 =>
      post 0 G3 K5 (T_state' T (upd (T_state T) (Int32.toNatClampNeg a1) 3))))))
  else post r1 G K T))

def wp_N_abort (A : S_A) (G : S_G) (K : S_K) (T : S_T) (a1 : Int32) (post : Int32 → S_A → S_G → S_K → S_T → Prop) : Prop :=
  wp_T_isLive T a1 (fun r1 =>
  (if r1 = 0 then post (-1) A G K T
  else wp_N_abortWithDescendants A G K T a1 (fun r2 A3 G4 K5 T6 =>
    post r2 A3 G4 K5 T6)))

def wp_N_save (G : S_G) (T : S_T) (a1 : Int32) (post : Int32 → Prop) : Prop :=
  wp_N_refusalOf T a1 (fun r1 =>
  (if r1 = 0 then wp_G_last G (fun r2 =>
    post r2)
  else post r1))

def wp_N_rollback (A : S_A) (G : S_G) (T : S_T) (a1 : Int32) (a2 : Int32) (post : Int32 → S_A → S_G → Prop) : Prop :=
  wp_T_isActive T a1 (fun r1 =>
  (if r1 = 0 then post (-1) A G
  else vp_in a1 60 ∧
    (if a2 < ((T_begun T) (Int32.toNatClampNeg a1)) then post (-1) A G
    else wp_G_last G (fun r2 =>
      (if a2 ≤ r2 then wp_T_isBusy T a1 (fun r3 =>
        (if r3 = 0 then wp_N_undoOpenUpdates A G T a1 a2 (fun r4 A5 G6 =>
          post r4 A5 G6)
        else post (-4) A G))
      else post (-1) A G)))))

def wp_N_isPage (a0 : Int32) (post : Int32 → Prop) : Prop :=
  (if a0 < 0 then post 0
  else (if 8 ≤ a0 then post 0
    else post 1))

def wp_N_write (A : S_A) (G : S_G) (a1 : Int32) (post : Int32 → S_A → S_G → Prop) : Prop :=
  wp_N_isPage a1 (fun r1 =>
  (if r1 = 0 then post 0 A G
  else vp_in a1 8 ∧
    (if ((A_dirty A) (Int32.toNatClampNeg a1)) = 0 then post 0 A G
    else wp_A_putOnDisk A G a1 (fun A2 G3 =>
      post 1 A2 G3))))

def wp_G_empty (G : S_G) (post : S_G → Prop) : Prop :=
  wp_G_last G (fun r1 =>
  post (G_flushed' (G_size' (G_base' G r1) 0) r1))

def wp_N_archive_L16 (Kx : Int32 → S_A → S_G → Prop) : Nat → Int32 → Int32 → S_A → S_G → Prop
  | 0, _, _, _, _ => False
  | n16 + 1, v1, v2, A, G => (if 8 ≤ v2 then Kx v1 A G
      else vp_in v2 8 ∧
        (if ((A_dirty A) (Int32.toNatClampNeg v2)) = 0 then wp_N_archive_L16 Kx n16 v1 (v2 + 1) A G
        else wp_A_putOnDisk A G v2 (fun A2 G3 =>
          wp_N_archive_L16 Kx n16 (v1 + 1) (v2 + 1) A2 G3)))
def wp_N_archive (A : S_A) (G : S_G) (T : S_T) (post : Int32 → S_A → S_G → Prop) : Prop :=
  wp_T_liveCount T (fun r1 =>
  (if r1 ≤ 0 then (∃ e16, wp_N_archive_L16 (fun x4 A5 G6 =>
    wp_G_empty G6 (fun G7 =>
      post x4 A5 G7)) e16 0 0 A G)
  else post (-1) A G))

def wp_G_rowOf (G : S_G) (a1 : Int32) (post : Int32 → Prop) : Prop :=
  post ((a1 - (G_base G)) - 1)

def wp_G_loseUnflushed_L12 (v1 : Int32) (Kx : S_G → Prop) : Nat → Int32 → S_G → Prop
  | 0, _, _ => False
  | n12 + 1, v2, G => (if (G_size G) ≤ v2 then Kx G
      else vp_in v2 300 ∧
        (if ((G_kind G) (Int32.toNatClampNeg v2)) = 3 then vp_in v2 300 ∧
          wp_G_rowOf G ((G_undoes G) (Int32.toNatClampNeg v2)) (fun r1 =>
          vp_in r1 300 ∧
          wp_G_loseUnflushed_L12 v1 Kx n12 (v2 + 1) (G_undone' G (upd (G_undone G) (Int32.toNatClampNeg r1) (vp_nar .boolean 0))))
        else wp_G_loseUnflushed_L12 v1 Kx n12 (v2 + 1) G))
def wp_G_loseUnflushed (G : S_G) (post : S_G → Prop) : Prop :=
  (∃ e12, wp_G_loseUnflushed_L12 ((G_flushed G) - (G_base G)) (fun G2 =>
  post (G_size' G2 ((G_flushed G) - (G_base G)))) e12 ((G_flushed G) - (G_base G)) G)

def wp_A_loseFrames_L7 (Kx : S_A → Prop) : Nat → Int32 → S_A → Prop
  | 0, _, _ => False
  | n7 + 1, v1, A => (if 8 ≤ v1 then Kx A
      else vp_in v1 8 ∧
        vp_in v1 8 ∧
        vp_in v1 8 ∧
        wp_A_loseFrames_L7 Kx n7 (v1 + 1) (A_lsn' (A_dirty' A (upd (A_dirty A) (Int32.toNatClampNeg v1) (vp_nar .boolean 0))) (upd (A_lsn A) (Int32.toNatClampNeg v1) ((A_diskLsn A) (Int32.toNatClampNeg v1)))))
def wp_A_loseFrames_L40 (Kx : S_A → Prop) : Nat → Int32 → S_A → Prop
  | 0, _, _ => False
  | n40 + 1, v1, A => (if 32 ≤ v1 then Kx A
      else vp_in v1 32 ∧
        vp_in v1 32 ∧
        vp_in v1 32 ∧
        vp_in v1 32 ∧
        wp_A_loseFrames_L40 Kx n40 (v1 + 1) (A_value' (A_there' A (upd (A_there A) (Int32.toNatClampNeg v1) (vp_nar .boolean ((A_diskThere A) (Int32.toNatClampNeg v1))))) (upd (A_value A) (Int32.toNatClampNeg v1) ((A_diskValue A) (Int32.toNatClampNeg v1)))))
def wp_A_loseFrames (A : S_A) (post : S_A → Prop) : Prop :=
  (∃ e7, wp_A_loseFrames_L7 (fun A1 =>
  (∃ e40, wp_A_loseFrames_L40 (fun A2 =>
    post A2) e40 0 A1)) e7 0 (A_framesInUse' A 0))

def wp_K_releaseAll_L2 (Kx : S_K → Prop) : Nat → Int32 → S_K → Prop
  | 0, _, _ => False
  | n2 + 1, v1, K => (if 33 ≤ v1 then Kx K
      else vp_in v1 33 ∧
        vp_in v1 33 ∧
        wp_K_releaseAll_L2 Kx n2 (v1 + 1) (K_exclusive' (K_shared' K (vp_updL (K_shared K) (Int32.toNatClampNeg v1) (0 : Int64))) (vp_updL (K_exclusive K) (Int32.toNatClampNeg v1) (0 : Int64))))
def wp_K_releaseAll (K : S_K) (post : S_K → Prop) : Prop :=
  (∃ e2, wp_K_releaseAll_L2 (fun K1 =>
  post K1) e2 0 K)

def wp_T_abortUncommitted_L2 (Kx : S_T → Prop) : Nat → Int32 → S_T → Prop
  | 0, _, _ => False
  | n2 + 1, v1, T => (if (T_count T) ≤ v1 then Kx T
      else vp_in v1 60 ∧
        vp_in ((T_top T) (Int32.toNatClampNeg v1)) 60 ∧
        (if ((T_state T) (Int32.toNatClampNeg ((T_top T) (Int32.toNatClampNeg v1)))) = 3 then wp_T_abortUncommitted_L2 Kx n2 (v1 + 1) T
        else vp_in v1 60 ∧
          wp_T_abortUncommitted_L2 Kx n2 (v1 + 1) (T_state' T (upd (T_state T) (Int32.toNatClampNeg v1) 4))))
def wp_T_abortUncommitted (T : S_T) (post : S_T → Prop) : Prop :=
  (∃ e2, wp_T_abortUncommitted_L2 (fun T1 =>
  post T1) e2 0 T)

def wp_N_redo (A : S_A) (G : S_G) (a1 : Int32) (post : S_A → S_G → Prop) : Prop :=
  vp_in a1 300 ∧
  wp_A_touch A G (((G_subject G) (Int32.toNatClampNeg a1)) / 4) (fun A1 G2 =>
  vp_in (((G_subject G) (Int32.toNatClampNeg a1)) / 4) 8 ∧
  wp_G_lsnOf G2 a1 (fun r3 =>
  (if r3 ≤ ((A_lsn A1) (Int32.toNatClampNeg (((G_subject G) (Int32.toNatClampNeg a1)) / 4))) then post A1 G2
  else vp_in a1 300 ∧
    vp_in a1 300 ∧
    wp_G_lsnOf G2 a1 (fun r4 =>
    wp_A_change A1 ((G_subject G) (Int32.toNatClampNeg a1)) ((G_isThere G2) (Int32.toNatClampNeg a1)) ((G_newValue G2) (Int32.toNatClampNeg a1)) r4 (fun A5 =>
    post A5 G2)))))

def wp_N_redoLog_L2 (Kx : S_A → S_G → Prop) : Nat → Int32 → S_A → S_G → Prop
  | 0, _, _, _ => False
  | n2 + 1, v1, A, G => (if (G_size G) ≤ v1 then Kx A G
      else vp_in v1 300 ∧
        (if ((G_kind G) (Int32.toNatClampNeg v1)) = 2 then wp_N_redo A G v1 (fun A1 G2 =>
          wp_N_redoLog_L2 Kx n2 (v1 + 1) A1 G2)
        else vp_in v1 300 ∧
          (if ((G_kind G) (Int32.toNatClampNeg v1)) = 3 then wp_N_redo A G v1 (fun A3 G4 =>
            wp_N_redoLog_L2 Kx n2 (v1 + 1) A3 G4)
          else wp_N_redoLog_L2 Kx n2 (v1 + 1) A G)))
def wp_N_redoLog (A : S_A) (G : S_G) (post : S_A → S_G → Prop) : Prop :=
  (∃ e2, wp_N_redoLog_L2 (fun A5 G6 =>
  post A5 G6) e2 0 A G)

def wp_N_undoUncommitted_L12 (T : S_T) (Kx : Int32 → S_A → S_G → Prop) : Nat → Int32 → Int32 → S_A → S_G → Prop
  | 0, _, _, _, _ => False
  | n12 + 1, v1, v2, A, G => (if v2 < 0 then Kx v1 A G
      else vp_in v2 300 ∧
        vp_in ((G_transaction G) (Int32.toNatClampNeg v2)) 60 ∧
        vp_in v2 300 ∧
        (if ((G_kind G) (Int32.toNatClampNeg v2)) = 2 then vp_in v2 300 ∧
          (if ((G_undone G) (Int32.toNatClampNeg v2)) = 0 then vp_in ((T_top T) (Int32.toNatClampNeg ((G_transaction G) (Int32.toNatClampNeg v2)))) 60 ∧
            (if ((T_state T) (Int32.toNatClampNeg ((T_top T) (Int32.toNatClampNeg ((G_transaction G) (Int32.toNatClampNeg v2)))))) = 3 then wp_N_undoUncommitted_L12 T Kx n12 v1 (v2 + (-1)) A G
            else wp_N_undo A G v2 ((T_top T) (Int32.toNatClampNeg ((G_transaction G) (Int32.toNatClampNeg v2)))) (fun A1 G2 =>
              wp_N_undoUncommitted_L12 T Kx n12 (v1 + 1) (v2 + (-1)) A1 G2))
          else wp_N_undoUncommitted_L12 T Kx n12 v1 (v2 + (-1)) A G)
        else wp_N_undoUncommitted_L12 T Kx n12 v1 (v2 + (-1)) A G))
def wp_N_undoUncommitted (A : S_A) (G : S_G) (T : S_T) (post : Int32 → S_A → S_G → Prop) : Prop :=
  (∃ e12, wp_N_undoUncommitted_L12 T (fun x3 A4 G5 =>
  post x3 A4 G5) e12 0 ((G_size G) - 1) A G)

def wp_N_crash (A : S_A) (G : S_G) (K : S_K) (T : S_T) (a1 : Int32) (post : Int32 → S_A → S_G → S_K → S_T → Prop) : Prop :=
  (if a1 < 0 then post (-1) A G K T
  else wp_G_last G (fun r1 =>
    (if a1 ≤ (r1 - (G_flushed G)) then wp_G_loseUnflushed (G_flushed' G ((G_flushed G) + a1)) (fun G2 =>
      wp_A_loseFrames A (fun A3 =>
      wp_K_releaseAll K (fun K4 =>
      wp_T_abortUncommitted T (fun T5 =>
      wp_N_redoLog A3 G2 (fun A6 G7 =>
      wp_N_undoUncommitted A6 G7 T5 (fun r8 A9 G10 =>
      wp_G_last G10 (fun r11 =>
      post r8 A9 (G_flushed' G10 r11) K4 T5)))))))
    else post (-1) A G K T)))

def wp_N_state (T : S_T) (a1 : Int32) (post : Int32 → Prop) : Prop :=
  wp_T_exists T a1 (fun r1 =>
  (if r1 = 0 then post (-1)
  else vp_in a1 60 ∧
    post ((T_state T) (Int32.toNatClampNeg a1))))

def wp_N_parent (T : S_T) (a1 : Int32) (post : Int32 → Prop) : Prop :=
  wp_T_exists T a1 (fun r1 =>
  (if r1 = 0 then post (-1)
  else vp_in a1 60 ∧
    post ((T_parent T) (Int32.toNatClampNeg a1))))

def wp_N_lock (K : S_K) (T : S_T) (a1 : Int32) (a2 : Int32) (post : Int32 → Prop) : Prop :=
  wp_T_exists T a1 (fun r1 =>
  (if r1 = 0 then post (-1)
  else (if a2 < 0 then post (-1)
    else (if a2 < 33 then wp_K_heldBy K a1 a2 (fun r2 =>
        post r2)
      else post (-1)))))

def wp_N_waits (A : S_A) (K : S_K) (P : S_P) (T : S_T) (a1 : Int32) (a2 : Int32) (post : Int32 → S_P → Prop) : Prop :=
  wp_T_isWaiting T a1 (fun r1 =>
  (if r1 = 0 then post 0 P
  else wp_T_exists T a2 (fun r2 =>
    (if r2 = 0 then post 0 P
    else wp_N_blockersOf A K P T a1 (fun r3 P4 =>
      (if (lg_cmp (r3 &&& ((1 : Int64) <<< (Int32.toInt64 a2 &&& 63))) (0 : Int64)) = 0 then post 0 P4
      else post 1 P4))))))

def wp_N_entry (G : S_G) (a1 : Int32) (a2 : Int32) (post : Int32 → Prop) : Prop :=
  (if a1 ≤ (G_base G) then post (-1)
  else wp_G_last G (fun r1 =>
    (if a1 ≤ r1 then wp_G_rowOf G a1 (fun r2 =>
      (if a2 = 0 then vp_in r2 300 ∧
        post ((G_kind G) (Int32.toNatClampNeg r2))
      else if a2 = 1 then vp_in r2 300 ∧
        post ((G_transaction G) (Int32.toNatClampNeg r2))
      else if a2 = 2 then vp_in r2 300 ∧
        post ((G_subject G) (Int32.toNatClampNeg r2))
      else if a2 = 3 then vp_in r2 300 ∧
        (if ((G_kind G) (Int32.toNatClampNeg r2)) = 3 then vp_in r2 300 ∧
          post ((G_undoes G) (Int32.toNatClampNeg r2))
        else vp_in r2 300 ∧
          wp_N_asNumber ((G_wasThere G) (Int32.toNatClampNeg r2)) (fun r3 =>
          post r3))
      else if a2 = 4 then vp_in r2 300 ∧
        wp_N_asNumber ((G_isThere G) (Int32.toNatClampNeg r2)) (fun r4 =>
        post r4)
      else if a2 = 5 then vp_in r2 300 ∧
        post ((G_newValue G) (Int32.toNatClampNeg r2))
      else post (-1)))
    else post (-1))))

def wp_N_log (G : S_G) (T : S_T) (a1 : Int32) (post : Int32 → Prop) : Prop :=
  (if a1 = 0 then wp_G_last G (fun r1 =>
    post r1)
  else if a1 = 1 then post (G_flushed G)
  else if a1 = 2 then post (G_size G)
  else if a1 = 3 then wp_N_openUpdateCount G T (fun r2 =>
    post r2)
  else if a1 = 4 then wp_T_liveCount T (fun r3 =>
    post r3)
  else post (-1))

def wp_N_key (A : S_A) (a1 : Int32) (a2 : Int32) (post : Int32 → Prop) : Prop :=
  wp_N_isKey a1 (fun r1 =>
  (if r1 = 0 then post (-1)
  else (if a2 = 0 then vp_in a1 32 ∧
      wp_N_asNumber ((A_there A) (Int32.toNatClampNeg a1)) (fun r2 =>
      post r2)
    else if a2 = 1 then vp_in a1 32 ∧
      post ((A_value A) (Int32.toNatClampNeg a1))
    else if a2 = 2 then vp_in a1 32 ∧
      wp_N_asNumber ((A_diskThere A) (Int32.toNatClampNeg a1)) (fun r3 =>
      post r3)
    else if a2 = 3 then vp_in a1 32 ∧
      post ((A_diskValue A) (Int32.toNatClampNeg a1))
    else post (-1))))

def wp_N_frame (A : S_A) (a1 : Int32) (post : Int32 → Prop) : Prop :=
  (if a1 < 0 then post (-1)
  else (if a1 < (A_framesInUse A) then vp_in a1 8 ∧
      vp_in ((A_byTouch A) (Int32.toNatClampNeg a1)) 8 ∧
      wp_N_asNumber ((A_dirty A) (Int32.toNatClampNeg ((A_byTouch A) (Int32.toNatClampNeg a1)))) (fun r1 =>
      post ((((A_byTouch A) (Int32.toNatClampNeg a1)) * 2) + r1))
    else post (-1)))

def wp_N_page (A : S_A) (a1 : Int32) (post : Int32 → Prop) : Prop :=
  wp_N_isPage a1 (fun r1 =>
  (if r1 = 0 then post (-1)
  else vp_in a1 8 ∧
    post ((A_lsn A) (Int32.toNatClampNeg a1))))
