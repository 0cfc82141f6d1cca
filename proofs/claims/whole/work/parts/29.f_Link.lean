def f_Link_addressOf (a1 : Int32) (v : sv_T) : Option (Int32 × sv_T) :=
  some (((1 : Int32) + a1), v)
set_option maxHeartbeats 4000000 in
set_option maxRecDepth 100000 in
theorem c_Link_addressOf (d : Nat) (a1 : Int32) (v : sv_T)  : sv_Cl (d + 0) 26 [.int a1] v (f_Link_addressOf a1 v) sv_Zi := by
  refine sv_spec (ls0 := [some (.int a1)]) mp_26 (Nat.le_of_ble_eq_true rfl) rfl ?_
  unfold f_Link_addressOf
  refine sv_iconst (x := (1 : Int32)) d_Link_addressOf_0 (by decide) ?_
  refine sv_iload_n d_Link_addressOf_1 rfl ?_
  refine sv_iadd d_Link_addressOf_2 ?_
  exact sv_iret rfl d_Link_addressOf_3
def f_Link_sendFrame (q : Nat) (a1 : Int32) (a2 : Int32) (a3 : Int32) (v : sv_T) : Option (sv_T) :=
  sv_ls (sv_up v (sv_ref (sg q) 3) 0 a1) fun v1 =>
  sv_ls (sv_up v1 (sv_ref (sg q) 3) 1 ((16 : Int32) + (sv_int (sg q) 0))) fun v2 =>
  sv_ls (sv_up v2 (sv_ref (sg q) 3) 2 a2) fun v3 =>
  sv_bv (f_Rows_add (sv_ref (sg q) 1) (sv_ref (sg q) 3) a3 v3) fun v4 =>
  some v4
set_option maxHeartbeats 4000000 in
set_option maxRecDepth 100000 in
theorem c_Link_sendFrame (d : Nat) (q : Nat) (a1 : Int32) (a2 : Int32) (a3 : Int32) (v : sv_T) (hq : sv_isO (sg q) 3 = true) : sv_Cl (d + 2) 37 [.ref q, .int a1, .int a2, .int a3] v (f_Link_sendFrame q a1 a2 a3 v) sv_Zv := by
  refine sv_spec (ls0 := [some (.ref q), some (.int a1), some (.int a2), some (.int a3)]) mp_37 (Nat.le_of_ble_eq_true rfl) rfl ?_
  unfold f_Link_sendFrame
  refine sv_aload_n d_Link_sendFrame_0 rfl ?_
  refine sv_getr d_Link_sendFrame_1 (gf_Link_25 mc_37) hq (sr_3_3 hq) ?_
  refine sv_iconst (x := (0 : Int32)) d_Link_sendFrame_4 (by decide) ?_
  refine sv_iload_n d_Link_sendFrame_5 rfl ?_
  refine sv_iastc (m := 0) d_Link_sendFrame_6 (st_3_3 hq) (by decide) rfl (fun v1 => ?_)
  refine sv_aload_n d_Link_sendFrame_7 rfl ?_
  refine sv_getr d_Link_sendFrame_8 (gf_Link_25 mc_37) hq (sr_3_3 hq) ?_
  refine sv_iconst (x := (1 : Int32)) d_Link_sendFrame_11 (by decide) ?_
  refine sv_bipush (x := (16 : Int32)) d_Link_sendFrame_12 (by decide) ?_
  refine sv_aload_n d_Link_sendFrame_14 rfl ?_
  refine sv_gets d_Link_sendFrame_15 (gf_Link_9 mc_37) hq (si_3_0 hq) ?_
  refine sv_iadd d_Link_sendFrame_18 ?_
  refine sv_iastc (m := 1) d_Link_sendFrame_19 (st_3_3 hq) (by decide) rfl (fun v2 => ?_)
  refine sv_aload_n d_Link_sendFrame_20 rfl ?_
  refine sv_getr d_Link_sendFrame_21 (gf_Link_25 mc_37) hq (sr_3_3 hq) ?_
  refine sv_iconst (x := (2 : Int32)) d_Link_sendFrame_24 (by decide) ?_
  refine sv_iload_n d_Link_sendFrame_25 rfl ?_
  refine sv_iastc (m := 2) d_Link_sendFrame_26 (st_3_3 hq) (by decide) rfl (fun v3 => ?_)
  refine sv_aload_n d_Link_sendFrame_27 rfl ?_
  refine sv_getr d_Link_sendFrame_28 (gf_Link_13 mc_37) hq (sr_3_1 hq) ?_
  refine sv_aload_n d_Link_sendFrame_31 rfl ?_
  refine sv_getr d_Link_sendFrame_32 (gf_Link_25 mc_37) hq (sr_3_3 hq) ?_
  refine sv_iload_n d_Link_sendFrame_35 rfl ?_
  refine sv_callVv (d := d + 1) (as := [.ref (sv_ref (sg q) 3), .int a3]) d_Link_sendFrame_36 (wv_Link_45 mc_37) (st_3_1 hq) ⟨_, rfl, rfl⟩ rfl (Nat.le_of_ble_eq_true rfl) rfl (c_Rows_add (d + 0) (sv_ref (sg q) 1) (sv_ref (sg q) 3) a3 v3 (st_3_1 hq) (sv_isAl (st_3_3 hq))) (fun v4 => ?_)
  exact sv_vret rfl d_Link_sendFrame_39
def f_Link_sendAsk (q : Nat) (a1 : Int32) (a2 : Int32) (v : sv_T) : Option (sv_T) :=
  sv_ls (sv_up v (sv_ref (sg q) 3) 3 a1) fun v1 =>
  sv_ls (sv_up v1 (sv_ref (sg q) 3) 4 ((16 : Int32) + (sv_int (sg q) 0))) fun v2 =>
  sv_bi (f_Link_addressOf (sv_int (sg q) 0) v2) fun x4 v3 =>
  sv_ls (sv_up v3 (sv_ref (sg q) 3) 5 x4) fun v5 =>
  sv_bi (f_Link_addressOf ((1 : Int32) - (sv_int (sg q) 0)) v5) fun x7 v6 =>
  sv_ls (sv_up v6 (sv_ref (sg q) 3) 6 x7) fun v8 =>
  sv_bv (f_Link_sendFrame q a2 (6 : Int32) (7 : Int32) v8) fun v9 =>
  some v9
set_option maxHeartbeats 4000000 in
set_option maxRecDepth 100000 in
theorem c_Link_sendAsk (d : Nat) (q : Nat) (a1 : Int32) (a2 : Int32) (v : sv_T) (hq : sv_isO (sg q) 3 = true) : sv_Cl (d + 3) 38 [.ref q, .int a1, .int a2] v (f_Link_sendAsk q a1 a2 v) sv_Zv := by
  refine sv_spec (ls0 := [some (.ref q), some (.int a1), some (.int a2)]) mp_38 (Nat.le_of_ble_eq_true rfl) rfl ?_
  unfold f_Link_sendAsk
  refine sv_aload_n d_Link_sendAsk_0 rfl ?_
  refine sv_getr d_Link_sendAsk_1 (gf_Link_25 mc_38) hq (sr_3_3 hq) ?_
  refine sv_iconst (x := (3 : Int32)) d_Link_sendAsk_4 (by decide) ?_
  refine sv_iload_n d_Link_sendAsk_5 rfl ?_
  refine sv_iastc (m := 3) d_Link_sendAsk_6 (st_3_3 hq) (by decide) rfl (fun v1 => ?_)
  refine sv_aload_n d_Link_sendAsk_7 rfl ?_
  refine sv_getr d_Link_sendAsk_8 (gf_Link_25 mc_38) hq (sr_3_3 hq) ?_
  refine sv_iconst (x := (4 : Int32)) d_Link_sendAsk_11 (by decide) ?_
  refine sv_bipush (x := (16 : Int32)) d_Link_sendAsk_12 (by decide) ?_
  refine sv_aload_n d_Link_sendAsk_14 rfl ?_
  refine sv_gets d_Link_sendAsk_15 (gf_Link_9 mc_38) hq (si_3_0 hq) ?_
  refine sv_iadd d_Link_sendAsk_18 ?_
  refine sv_iastc (m := 4) d_Link_sendAsk_19 (st_3_3 hq) (by decide) rfl (fun v2 => ?_)
  refine sv_aload_n d_Link_sendAsk_20 rfl ?_
  refine sv_getr d_Link_sendAsk_21 (gf_Link_25 mc_38) hq (sr_3_3 hq) ?_
  refine sv_iconst (x := (5 : Int32)) d_Link_sendAsk_24 (by decide) ?_
  refine sv_aload_n d_Link_sendAsk_25 rfl ?_
  refine sv_gets d_Link_sendAsk_26 (gf_Link_9 mc_38) hq (si_3_0 hq) ?_
  refine sv_callSi (d := d + 2) (as := [.int (sv_int (sg q) 0)]) d_Link_sendAsk_29 (ws_Link_67 mc_38)  rfl (Nat.le_of_ble_eq_true rfl) rfl (c_Link_addressOf (d + 2) (sv_int (sg q) 0) v2 ) (fun x4 v3 => ?_)
  refine sv_iastc (m := 5) d_Link_sendAsk_32 (st_3_3 hq) (by decide) rfl (fun v5 => ?_)
  refine sv_aload_n d_Link_sendAsk_33 rfl ?_
  refine sv_getr d_Link_sendAsk_34 (gf_Link_25 mc_38) hq (sr_3_3 hq) ?_
  refine sv_bipush (x := (6 : Int32)) d_Link_sendAsk_37 (by decide) ?_
  refine sv_iconst (x := (1 : Int32)) d_Link_sendAsk_39 (by decide) ?_
  refine sv_aload_n d_Link_sendAsk_40 rfl ?_
  refine sv_gets d_Link_sendAsk_41 (gf_Link_9 mc_38) hq (si_3_0 hq) ?_
  refine sv_isub d_Link_sendAsk_44 ?_
  refine sv_callSi (d := d + 2) (as := [.int ((1 : Int32) - (sv_int (sg q) 0))]) d_Link_sendAsk_45 (ws_Link_67 mc_38)  rfl (Nat.le_of_ble_eq_true rfl) rfl (c_Link_addressOf (d + 2) ((1 : Int32) - (sv_int (sg q) 0)) v5 ) (fun x7 v6 => ?_)
  refine sv_iastc (m := 6) d_Link_sendAsk_48 (st_3_3 hq) (by decide) rfl (fun v8 => ?_)
  refine sv_aload_n d_Link_sendAsk_49 rfl ?_
  refine sv_iload_n d_Link_sendAsk_50 rfl ?_
  refine sv_bipush (x := (6 : Int32)) d_Link_sendAsk_51 (by decide) ?_
  refine sv_bipush (x := (7 : Int32)) d_Link_sendAsk_53 (by decide) ?_
  refine sv_callVv (d := d + 2) (as := [.int a2, .int (6 : Int32), .int (7 : Int32)]) d_Link_sendAsk_55 (wv_Link_41 mc_38) hq ⟨_, rfl, rfl⟩ rfl (Nat.le_of_ble_eq_true rfl) rfl (c_Link_sendFrame (d + 0) q a2 (6 : Int32) (7 : Int32) v8 hq) (fun v9 => ?_)
  exact sv_vret rfl d_Link_sendAsk_58
def f_Link_sendPacket (q : Nat) (a1 : Nat) (a2 : Int32) (v : sv_T) : Option (sv_T) :=
  if 0 < (v q 4) then
  sv_cc (0 : Int32) (3 : Int32) a2 (sv_len (sg a1)) 37 <| sv_ls (sv_cp v a1 (0 : Int32).toNatClampNeg (sv_ref (sg q) 3) (3 : Int32).toNatClampNeg a2.toNatClampNeg) fun v4 =>
  sv_bv (f_Link_sendFrame q (v4 q 5) (8 : Int32) ((3 : Int32) + a2) v4) fun v5 =>
  some v5
  else
  sv_bv (f_Rows_add (sv_ref (sg q) 2) a1 a2 v) fun v1 =>
  if (v1 q 6) = 0 then
  sv_ls (sv_up v1 q 6 (4 : Int32)) fun v2 =>
  sv_bv (f_Link_sendAsk q (1 : Int32) (255 : Int32) v2) fun v3 =>
  some v3
  else
  some v1
set_option maxHeartbeats 4000000 in
set_option maxRecDepth 100000 in
theorem c_Link_sendPacket (d : Nat) (q : Nat) (a1 : Nat) (a2 : Int32) (v : sv_T) (hq : sv_isO (sg q) 3 = true) (ha1 : sv_isA (sg a1) 0 (sv_len (sg a1)) = true) : sv_Cl (d + 4) 36 [.ref q, .ref a1, .int a2] v (f_Link_sendPacket q a1 a2 v) sv_Zv := by
  refine sv_spec (ls0 := [some (.ref q), some (.ref a1), some (.int a2)]) mp_36 (Nat.le_of_ble_eq_true rfl) rfl ?_
  unfold f_Link_sendPacket
  refine sv_aload_n d_Link_sendPacket_0 rfl ?_
  refine sv_geti d_Link_sendPacket_1 (gf_Link_29 mc_36) hq (sd_3_4 hq) ?_
  refine sv_if_le 32 d_Link_sendPacket_4 rfl ?_ ?_
  · refine sv_aload_n d_Link_sendPacket_32 rfl ?_
    refine sv_getr d_Link_sendPacket_33 (gf_Link_22 mc_36) hq (sr_3_2 hq) ?_
    refine sv_aload_n d_Link_sendPacket_36 rfl ?_
    refine sv_iload_n d_Link_sendPacket_37 rfl ?_
    refine sv_callVv (d := d + 3) (as := [.ref a1, .int a2]) d_Link_sendPacket_38 (wv_Link_45 mc_36) (st_3_2 hq) ⟨_, rfl, rfl⟩ rfl (Nat.le_of_ble_eq_true rfl) rfl (c_Rows_add (d + 2) (sv_ref (sg q) 2) a1 a2 v (st_3_2 hq) ha1) (fun v1 => ?_)
    refine sv_aload_n d_Link_sendPacket_41 rfl ?_
    refine sv_geti d_Link_sendPacket_42 (gf_Link_49 mc_36) hq (sd_3_6 hq) ?_
    refine sv_if_ne 61 d_Link_sendPacket_45 rfl ?_ ?_
    · exact sv_vret rfl d_Link_sendPacket_61
    · refine sv_aload_n d_Link_sendPacket_48 rfl ?_
      refine sv_iconst (x := (4 : Int32)) d_Link_sendPacket_49 (by decide) ?_
      refine sv_puti d_Link_sendPacket_50 (pf_Link_49 mc_36) hq (sd_3_6 hq) (fun v2 => ?_)
      refine sv_aload_n d_Link_sendPacket_53 rfl ?_
      refine sv_iconst (x := (1 : Int32)) d_Link_sendPacket_54 (by decide) ?_
      refine sv_sipush (x := (255 : Int32)) d_Link_sendPacket_55 (by decide) ?_
      refine sv_callVv (d := d + 3) (as := [.int (1 : Int32), .int (255 : Int32)]) d_Link_sendPacket_58 (wv_Link_52 mc_36) hq ⟨_, rfl, rfl⟩ rfl (Nat.le_of_ble_eq_true rfl) rfl (c_Link_sendAsk (d + 0) q (1 : Int32) (255 : Int32) v2 hq) (fun v3 => ?_)
      exact sv_vret rfl d_Link_sendPacket_61
  · refine sv_aload_n d_Link_sendPacket_7 rfl ?_
    refine sv_iconst (x := (0 : Int32)) d_Link_sendPacket_8 (by decide) ?_
    refine sv_aload_n d_Link_sendPacket_9 rfl ?_
    refine sv_getr d_Link_sendPacket_10 (gf_Link_25 mc_36) hq (sr_3_3 hq) ?_
    refine sv_iconst (x := (3 : Int32)) d_Link_sendPacket_13 (by decide) ?_
    refine sv_iload_n d_Link_sendPacket_14 rfl ?_
    refine sv_copy (d := d + 3) d_Link_sendPacket_15 (wc_Link_32 mc_36) (Nat.le_of_ble_eq_true rfl) ha1 (st_3_3 hq) (fun v4 => ?_)
    refine sv_aload_n d_Link_sendPacket_18 rfl ?_
    refine sv_aload_n d_Link_sendPacket_19 rfl ?_
    refine sv_geti d_Link_sendPacket_20 (gf_Link_38 mc_36) hq (sd_3_5 hq) ?_
    refine sv_bipush (x := (8 : Int32)) d_Link_sendPacket_23 (by decide) ?_
    refine sv_iconst (x := (3 : Int32)) d_Link_sendPacket_25 (by decide) ?_
    refine sv_iload_n d_Link_sendPacket_26 rfl ?_
    refine sv_iadd d_Link_sendPacket_27 ?_
    refine sv_callVv (d := d + 3) (as := [.int (v4 q 5), .int (8 : Int32), .int ((3 : Int32) + a2)]) d_Link_sendPacket_28 (wv_Link_41 mc_36) hq ⟨_, rfl, rfl⟩ rfl (Nat.le_of_ble_eq_true rfl) rfl (c_Link_sendFrame (d + 1) q (v4 q 5) (8 : Int32) ((3 : Int32) + a2) v4 hq) (fun v5 => ?_)
    exact sv_vret rfl d_Link_sendPacket_31
def f_Link_isForMe (q : Nat) (a1 : Int32) (v : sv_T) : Option (Int32 × sv_T) :=
  if a1 = ((16 : Int32) + (sv_int (sg q) 0)) then
  some ((1 : Int32), v)
  else
  if a1 = (255 : Int32) then
  some ((1 : Int32), v)
  else
  some ((0 : Int32), v)
set_option maxHeartbeats 4000000 in
set_option maxRecDepth 100000 in
theorem c_Link_isForMe (d : Nat) (q : Nat) (a1 : Int32) (v : sv_T) (hq : sv_isO (sg q) 3 = true) : sv_Cl (d + 0) 71 [.ref q, .int a1] v (f_Link_isForMe q a1 v) sv_Zi := by
  refine sv_spec (ls0 := [some (.ref q), some (.int a1)]) mp_71 (Nat.le_of_ble_eq_true rfl) rfl ?_
  unfold f_Link_isForMe
  refine sv_iload_n d_Link_isForMe_0 rfl ?_
  refine sv_bipush (x := (16 : Int32)) d_Link_isForMe_1 (by decide) ?_
  refine sv_aload_n d_Link_isForMe_3 rfl ?_
  refine sv_gets d_Link_isForMe_4 (gf_Link_9 mc_71) hq (si_3_0 hq) ?_
  refine sv_iadd d_Link_isForMe_7 ?_
  refine sv_icmp_eq 18 d_Link_isForMe_8 rfl ?_ ?_
  · refine sv_iconst (x := (1 : Int32)) d_Link_isForMe_18 (by decide) ?_
    refine sv_goto 23 d_Link_isForMe_19 rfl ?_
    exact sv_zretc rfl (by decide) d_Link_isForMe_23
  · refine sv_iload_n d_Link_isForMe_11 rfl ?_
    refine sv_sipush (x := (255 : Int32)) d_Link_isForMe_12 (by decide) ?_
    refine sv_icmp_ne 22 d_Link_isForMe_15 rfl ?_ ?_
    · refine sv_iconst (x := (0 : Int32)) d_Link_isForMe_22 (by decide) ?_
      exact sv_zretc rfl (by decide) d_Link_isForMe_23
    · refine sv_iconst (x := (1 : Int32)) d_Link_isForMe_18 (by decide) ?_
      refine sv_goto 23 d_Link_isForMe_19 rfl ?_
      exact sv_zretc rfl (by decide) d_Link_isForMe_23
def f_Link_isRightAsk_b20 (r0 : Nat) (r1 : Nat) (v : sv_T) : Option (Int32 × sv_T) :=
  sv_ck (5 : Int32) (sv_len (sg r1)) <|
  sv_bi (f_Link_addressOf ((1 : Int32) - (sv_int (sg r0) 0)) v) fun x2 v1 =>
  if (v r1 (5 : Int32).toNatClampNeg) = x2 then
  sv_ck (6 : Int32) (sv_len (sg r1)) <|
  sv_bi (f_Link_addressOf (sv_int (sg r0) 0) v1) fun x4 v3 =>
  if (v1 r1 (6 : Int32).toNatClampNeg) = x4 then
  some ((1 : Int32), v3)
  else
  some ((0 : Int32), v3)
  else
  some ((0 : Int32), v1)
def f_Link_isRightAsk (q : Nat) (a1 : Nat) (a2 : Int32) (v : sv_T) : Option (Int32 × sv_T) :=
  if a2 = (7 : Int32) then
  sv_ck (3 : Int32) (sv_len (sg a1)) <|
  if (v a1 (3 : Int32).toNatClampNeg) = (1 : Int32) then
  f_Link_isRightAsk_b20 q a1 v
  else
  sv_ck (3 : Int32) (sv_len (sg a1)) <|
  if (v a1 (3 : Int32).toNatClampNeg) = (2 : Int32) then
  f_Link_isRightAsk_b20 q a1 v
  else
  some ((0 : Int32), v)
  else
  some ((0 : Int32), v)
set_option maxHeartbeats 4000000 in
set_option maxRecDepth 100000 in
theorem c_Link_isRightAsk_b20 (d : Nat) (r0 : Nat) (r1 : Nat) (v : sv_T) (hr0 : sv_isO (sg r0) 3 = true) (hr1 : sv_isA (sg r1) 0 (sv_len (sg r1)) = true) : sv_Ref (d + 1) 73 20 [some (.ref r0), some (.ref r1), none] [] v (f_Link_isRightAsk_b20 r0 r1 v) (sv_Zi) := by
  unfold f_Link_isRightAsk_b20
  refine sv_aload_n d_Link_isRightAsk_20 rfl ?_
  refine sv_iconst (x := (5 : Int32)) d_Link_isRightAsk_21 (by decide) ?_
  refine sv_iald d_Link_isRightAsk_22 hr1 ?_
  refine sv_iconst (x := (1 : Int32)) d_Link_isRightAsk_23 (by decide) ?_
  refine sv_aload_n d_Link_isRightAsk_24 rfl ?_
  refine sv_gets d_Link_isRightAsk_25 (gf_Link_9 mc_73) hr0 (si_3_0 hr0) ?_
  refine sv_isub d_Link_isRightAsk_28 ?_
  refine sv_callSi (d := d + 0) (as := [.int ((1 : Int32) - (sv_int (sg r0) 0))]) d_Link_isRightAsk_29 (ws_Link_67 mc_73)  rfl (Nat.le_of_ble_eq_true rfl) rfl (c_Link_addressOf (d + 0) ((1 : Int32) - (sv_int (sg r0) 0)) v ) (fun x2 v1 => ?_)
  refine sv_icmp_ne 53 d_Link_isRightAsk_32 rfl ?_ ?_
  · refine sv_iconst (x := (0 : Int32)) d_Link_isRightAsk_53 (by decide) ?_
    exact sv_zretc rfl (by decide) d_Link_isRightAsk_54
  · refine sv_aload_n d_Link_isRightAsk_35 rfl ?_
    refine sv_bipush (x := (6 : Int32)) d_Link_isRightAsk_36 (by decide) ?_
    refine sv_iald d_Link_isRightAsk_38 hr1 ?_
    refine sv_aload_n d_Link_isRightAsk_39 rfl ?_
    refine sv_gets d_Link_isRightAsk_40 (gf_Link_9 mc_73) hr0 (si_3_0 hr0) ?_
    refine sv_callSi (d := d + 0) (as := [.int (sv_int (sg r0) 0)]) d_Link_isRightAsk_43 (ws_Link_67 mc_73)  rfl (Nat.le_of_ble_eq_true rfl) rfl (c_Link_addressOf (d + 0) (sv_int (sg r0) 0) v1 ) (fun x4 v3 => ?_)
    refine sv_icmp_ne 53 d_Link_isRightAsk_46 rfl ?_ ?_
    · refine sv_iconst (x := (0 : Int32)) d_Link_isRightAsk_53 (by decide) ?_
      exact sv_zretc rfl (by decide) d_Link_isRightAsk_54
    · refine sv_iconst (x := (1 : Int32)) d_Link_isRightAsk_49 (by decide) ?_
      refine sv_goto 54 d_Link_isRightAsk_50 rfl ?_
      exact sv_zretc rfl (by decide) d_Link_isRightAsk_54
set_option maxHeartbeats 4000000 in
set_option maxRecDepth 100000 in
theorem c_Link_isRightAsk (d : Nat) (q : Nat) (a1 : Nat) (a2 : Int32) (v : sv_T) (hq : sv_isO (sg q) 3 = true) (ha1 : sv_isA (sg a1) 0 (sv_len (sg a1)) = true) : sv_Cl (d + 1) 73 [.ref q, .ref a1, .int a2] v (f_Link_isRightAsk q a1 a2 v) sv_Zi := by
  refine sv_spec (ls0 := [some (.ref q), some (.ref a1), some (.int a2)]) mp_73 (Nat.le_of_ble_eq_true rfl) rfl ?_
  unfold f_Link_isRightAsk
  refine sv_iload_n d_Link_isRightAsk_0 rfl ?_
  refine sv_bipush (x := (7 : Int32)) d_Link_isRightAsk_1 (by decide) ?_
  refine sv_icmp_ne 53 d_Link_isRightAsk_3 rfl ?_ ?_
  · refine sv_iconst (x := (0 : Int32)) d_Link_isRightAsk_53 (by decide) ?_
    exact sv_zretc rfl (by decide) d_Link_isRightAsk_54
  · refine sv_aload_n d_Link_isRightAsk_6 rfl ?_
    refine sv_iconst (x := (3 : Int32)) d_Link_isRightAsk_7 (by decide) ?_
    refine sv_iald d_Link_isRightAsk_8 ha1 ?_
    refine sv_iconst (x := (1 : Int32)) d_Link_isRightAsk_9 (by decide) ?_
    refine sv_icmp_eq 20 d_Link_isRightAsk_10 rfl ?_ ?_
    · refine sv_kill (ls' := [some (.ref q), some (.ref a1), none]) ⟨rfl, rfl, trivial⟩ ?_
      exact c_Link_isRightAsk_b20 d q a1 v hq ha1
    · refine sv_aload_n d_Link_isRightAsk_13 rfl ?_
      refine sv_iconst (x := (3 : Int32)) d_Link_isRightAsk_14 (by decide) ?_
      refine sv_iald d_Link_isRightAsk_15 ha1 ?_
      refine sv_iconst (x := (2 : Int32)) d_Link_isRightAsk_16 (by decide) ?_
      refine sv_icmp_ne 53 d_Link_isRightAsk_17 rfl ?_ ?_
      · refine sv_iconst (x := (0 : Int32)) d_Link_isRightAsk_53 (by decide) ?_
        exact sv_zretc rfl (by decide) d_Link_isRightAsk_54
      · refine sv_kill (ls' := [some (.ref q), some (.ref a1), none]) ⟨rfl, rfl, trivial⟩ ?_
        exact c_Link_isRightAsk_b20 d q a1 v hq ha1
def f_Link_takeAsk_l47 (r0 : Nat) (l3 : Int32) (v : sv_T) : Option ((Int32 × sv_T) ⊕ (sv_T)) :=
  if 0 < l3 then
  sv_bi (f_Rows_takeFirst (sv_ref (sg r0) 2) (sv_ref (sg r0) 3) (3 : Int32) v) fun x8 v7 =>
  sv_bv (f_Link_sendFrame r0 (v7 r0 5) (8 : Int32) ((3 : Int32) + x8) v7) fun v9 =>
  sv_le (l3 + (-1 : Int32)) fun x10 =>
  some (.inl (x10, v9))
  else
  some (.inr v)
def f_Link_takeAsk_x85  (v : sv_T) : Option (sv_T) :=
  some v
def f_Link_takeAsk_b39 (r0 : Nat) (v : sv_T) : Option (sv_T) :=
  sv_bi (f_Rows_count (sv_ref (sg r0) 2) v) fun x6 v5 =>
  Option.bind (sv_loop (fun (s : Int32 × sv_T) => f_Link_takeAsk_l47 r0 s.1 (s.2)) 100000 (x6, v5)) (fun (s : sv_T) => f_Link_takeAsk_x85  s)
def f_Link_takeAsk (q : Nat) (a1 : Nat) (a2 : Int32) (v : sv_T) : Option (sv_T) :=
  sv_bi (f_Link_isRightAsk q a1 a2 v) fun x2 v1 =>
  if x2 = 0 then
  some v1
  else
  sv_ck (4 : Int32) (sv_len (sg a1)) <|
  sv_ls (sv_up v1 q 5 (v1 a1 (4 : Int32).toNatClampNeg)) fun v3 =>
  sv_ls (sv_up v3 q 4 (30 : Int32)) fun v4 =>
  sv_ck (3 : Int32) (sv_len (sg a1)) <|
  if (v4 a1 (3 : Int32).toNatClampNeg) = (1 : Int32) then
  sv_bv (f_Link_sendAsk q (2 : Int32) (v4 q 5) v4) fun v11 =>
  f_Link_takeAsk_b39 q v11
  else
  f_Link_takeAsk_b39 q v4
set_option maxHeartbeats 4000000 in
set_option maxRecDepth 100000 in
theorem c_Link_takeAsk_l47 (d : Nat) (r0 : Nat) (l3 : Int32) (v : sv_T) (hr0 : sv_isO (sg r0) 3 = true) : sv_Ref (d + 4) 72 47 [some (.ref r0), none, none, some (.int l3), none] [] v (f_Link_takeAsk_l47 r0 l3 v) (sv_Zl (d + 4) 72 47 (fun (s : Int32 × sv_T) => [some (.ref r0), none, none, some (.int s.1), none]) (fun (s : Int32 × sv_T) => s.2) (sv_Zt (d + 4) 72 85 (fun (s : sv_T) => [none, none, none, none, none]) (fun (s : sv_T) => s))) := by
  unfold f_Link_takeAsk_l47
  refine sv_iload_n d_Link_takeAsk_47 rfl ?_
  refine sv_if_le 85 d_Link_takeAsk_48 rfl ?_ ?_
  · exact sv_leave v rfl trivial rfl
  · refine sv_aload_n d_Link_takeAsk_51 rfl ?_
    refine sv_getr d_Link_takeAsk_52 (gf_Link_22 mc_72) hr0 (sr_3_2 hr0) ?_
    refine sv_aload_n d_Link_takeAsk_55 rfl ?_
    refine sv_getr d_Link_takeAsk_56 (gf_Link_25 mc_72) hr0 (sr_3_3 hr0) ?_
    refine sv_iconst (x := (3 : Int32)) d_Link_takeAsk_59 (by decide) ?_
    refine sv_callVi (d := d + 3) (as := [.ref (sv_ref (sg r0) 3), .int (3 : Int32)]) d_Link_takeAsk_60 (wv_Link_63 mc_72) (st_3_2 hr0) ⟨_, rfl, rfl⟩ rfl (Nat.le_of_ble_eq_true rfl) rfl (c_Rows_takeFirst (d + 1) (sv_ref (sg r0) 2) (sv_ref (sg r0) 3) (3 : Int32) v (st_3_2 hr0) (sv_isAl (st_3_3 hr0))) (fun x8 v7 => ?_)
    refine sv_istore (ls' := [some (.ref r0), none, none, some (.int l3), some (.int x8)]) d_Link_takeAsk_63 (by decide) rfl ?_
    refine sv_aload_n d_Link_takeAsk_65 rfl ?_
    refine sv_aload_n d_Link_takeAsk_66 rfl ?_
    refine sv_geti d_Link_takeAsk_67 (gf_Link_38 mc_72) hr0 (sd_3_5 hr0) ?_
    refine sv_bipush (x := (8 : Int32)) d_Link_takeAsk_70 (by decide) ?_
    refine sv_iconst (x := (3 : Int32)) d_Link_takeAsk_72 (by decide) ?_
    refine sv_iload d_Link_takeAsk_73 rfl ?_
    refine sv_iadd d_Link_takeAsk_75 ?_
    refine sv_callVv (d := d + 3) (as := [.int (v7 r0 5), .int (8 : Int32), .int ((3 : Int32) + x8)]) d_Link_takeAsk_76 (wv_Link_41 mc_72) hr0 ⟨_, rfl, rfl⟩ rfl (Nat.le_of_ble_eq_true rfl) rfl (c_Link_sendFrame (d + 1) r0 (v7 r0 5) (8 : Int32) ((3 : Int32) + x8) v7 hr0) (fun v9 => ?_)
    refine sv_iinc (ls' := fun x10 => [some (.ref r0), none, none, some (.int x10), some (.int x8)]) (y := (-1 : Int32)) d_Link_takeAsk_79 rfl (by decide) (fun _ => rfl) (fun x10 => ?_)
    refine sv_goto 47 d_Link_takeAsk_82 rfl ?_
    exact sv_next (x10, v9) ⟨rfl, rfl, trivial⟩ rfl
set_option maxHeartbeats 4000000 in
set_option maxRecDepth 100000 in
theorem c_Link_takeAsk_x85 (d : Nat)  (v : sv_T)  : sv_Ref (d + 4) 72 85 [none, none, none, none, none] [] v (f_Link_takeAsk_x85  v) (sv_Zv) := by
  unfold f_Link_takeAsk_x85
  exact sv_vret rfl d_Link_takeAsk_85
set_option maxHeartbeats 4000000 in
set_option maxRecDepth 100000 in
theorem c_Link_takeAsk_b39 (d : Nat) (r0 : Nat) (v : sv_T) (hr0 : sv_isO (sg r0) 3 = true) : sv_Ref (d + 4) 72 39 [some (.ref r0), none, none, none, none] [] v (f_Link_takeAsk_b39 r0 v) (sv_Zv) := by
  unfold f_Link_takeAsk_b39
  refine sv_aload_n d_Link_takeAsk_39 rfl ?_
  refine sv_getr d_Link_takeAsk_40 (gf_Link_22 mc_72) hr0 (sr_3_2 hr0) ?_
  refine sv_callVi (d := d + 3) (as := []) d_Link_takeAsk_43 (wv_Link_59 mc_72) (st_3_2 hr0) ⟨_, rfl, rfl⟩ rfl (Nat.le_of_ble_eq_true rfl) rfl (c_Rows_count (d + 3) (sv_ref (sg r0) 2) v (st_3_2 hr0)) (fun x6 v5 => ?_)
  refine sv_istore_n (ls' := [some (.ref r0), none, none, some (.int x6), none]) d_Link_takeAsk_46 (by decide) rfl ?_
  exact sv_seq (xt := 85) (L := (fun (s : sv_T) => [none, none, none, none, none])) (S := (fun (s : sv_T) => s)) (sv_loopR (L := (fun (s : Int32 × sv_T) => [some (.ref r0), none, none, some (.int s.1), none])) (S := (fun (s : Int32 × sv_T) => s.2)) (fun s => c_Link_takeAsk_l47 d r0 s.1 (s.2) hr0) 100000 (x6, v5)) (fun s => c_Link_takeAsk_x85 d  s )
set_option maxHeartbeats 4000000 in
set_option maxRecDepth 100000 in
theorem c_Link_takeAsk (d : Nat) (q : Nat) (a1 : Nat) (a2 : Int32) (v : sv_T) (hq : sv_isO (sg q) 3 = true) (ha1 : sv_isA (sg a1) 0 (sv_len (sg a1)) = true) : sv_Cl (d + 4) 72 [.ref q, .ref a1, .int a2] v (f_Link_takeAsk q a1 a2 v) sv_Zv := by
  refine sv_spec (ls0 := [some (.ref q), some (.ref a1), some (.int a2), none, none]) mp_72 (Nat.le_of_ble_eq_true rfl) rfl ?_
  unfold f_Link_takeAsk
  refine sv_aload_n d_Link_takeAsk_0 rfl ?_
  refine sv_aload_n d_Link_takeAsk_1 rfl ?_
  refine sv_iload_n d_Link_takeAsk_2 rfl ?_
  refine sv_callVi (d := d + 3) (as := [.ref a1, .int a2]) d_Link_takeAsk_3 (wv_Link_55 mc_72) hq ⟨_, rfl, rfl⟩ rfl (Nat.le_of_ble_eq_true rfl) rfl (c_Link_isRightAsk (d + 2) q a1 a2 v hq ha1) (fun x2 v1 => ?_)
  refine sv_if_ne 10 d_Link_takeAsk_6 rfl ?_ ?_
  · refine sv_aload_n d_Link_takeAsk_10 rfl ?_
    refine sv_aload_n d_Link_takeAsk_11 rfl ?_
    refine sv_iconst (x := (4 : Int32)) d_Link_takeAsk_12 (by decide) ?_
    refine sv_iald d_Link_takeAsk_13 ha1 ?_
    refine sv_puti d_Link_takeAsk_14 (pf_Link_38 mc_72) hq (sd_3_5 hq) (fun v3 => ?_)
    refine sv_aload_n d_Link_takeAsk_17 rfl ?_
    refine sv_bipush (x := (30 : Int32)) d_Link_takeAsk_18 (by decide) ?_
    refine sv_puti d_Link_takeAsk_20 (pf_Link_29 mc_72) hq (sd_3_4 hq) (fun v4 => ?_)
    refine sv_aload_n d_Link_takeAsk_23 rfl ?_
    refine sv_iconst (x := (3 : Int32)) d_Link_takeAsk_24 (by decide) ?_
    refine sv_iald d_Link_takeAsk_25 ha1 ?_
    refine sv_iconst (x := (1 : Int32)) d_Link_takeAsk_26 (by decide) ?_
    refine sv_icmp_ne 39 d_Link_takeAsk_27 rfl ?_ ?_
    · refine sv_kill (ls' := [some (.ref q), none, none, none, none]) ⟨rfl, trivial⟩ ?_
      exact c_Link_takeAsk_b39 d q v4 hq
    · refine sv_aload_n d_Link_takeAsk_30 rfl ?_
      refine sv_iconst (x := (2 : Int32)) d_Link_takeAsk_31 (by decide) ?_
      refine sv_aload_n d_Link_takeAsk_32 rfl ?_
      refine sv_geti d_Link_takeAsk_33 (gf_Link_38 mc_72) hq (sd_3_5 hq) ?_
      refine sv_callVv (d := d + 3) (as := [.int (2 : Int32), .int (v4 q 5)]) d_Link_takeAsk_36 (wv_Link_52 mc_72) hq ⟨_, rfl, rfl⟩ rfl (Nat.le_of_ble_eq_true rfl) rfl (c_Link_sendAsk (d + 0) q (2 : Int32) (v4 q 5) v4 hq) (fun v11 => ?_)
      refine sv_kill (ls' := [some (.ref q), none, none, none, none]) ⟨rfl, trivial⟩ ?_
      exact c_Link_takeAsk_b39 d q v11 hq
  · exact sv_vret rfl d_Link_takeAsk_9
def f_Link_passTick_b17 (r0 : Nat) (v : sv_T) : Option (sv_T) :=
  if 0 < (v r0 4) then
  sv_ls (sv_up v r0 4 ((v r0 4) - (1 : Int32))) fun v1 =>
  some v1
  else
  some v
def f_Link_passTick (q : Nat) (v : sv_T) : Option (sv_T) :=
  if 0 < (v q 6) then
  sv_ls (sv_up v q 6 ((v q 6) - (1 : Int32))) fun v2 =>
  f_Link_passTick_b17 q v2
  else
  f_Link_passTick_b17 q v
set_option maxHeartbeats 4000000 in
set_option maxRecDepth 100000 in
theorem c_Link_passTick_b17 (d : Nat) (r0 : Nat) (v : sv_T) (hr0 : sv_isO (sg r0) 3 = true) : sv_Ref (d + 0) 118 17 [some (.ref r0)] [] v (f_Link_passTick_b17 r0 v) (sv_Zv) := by
  unfold f_Link_passTick_b17
  refine sv_aload_n d_Link_passTick_17 rfl ?_
  refine sv_geti d_Link_passTick_18 (gf_Link_29 mc_118) hr0 (sd_3_4 hr0) ?_
  refine sv_if_le 34 d_Link_passTick_21 rfl ?_ ?_
  · exact sv_vret rfl d_Link_passTick_34
  · refine sv_aload_n d_Link_passTick_24 rfl ?_
    refine sv_dup d_Link_passTick_25 ?_
    refine sv_geti d_Link_passTick_26 (gf_Link_29 mc_118) hr0 (sd_3_4 hr0) ?_
    refine sv_iconst (x := (1 : Int32)) d_Link_passTick_29 (by decide) ?_
    refine sv_isub d_Link_passTick_30 ?_
    refine sv_puti d_Link_passTick_31 (pf_Link_29 mc_118) hr0 (sd_3_4 hr0) (fun v1 => ?_)
    exact sv_vret rfl d_Link_passTick_34
set_option maxHeartbeats 4000000 in
set_option maxRecDepth 100000 in
theorem c_Link_passTick (d : Nat) (q : Nat) (v : sv_T) (hq : sv_isO (sg q) 3 = true) : sv_Cl (d + 0) 118 [.ref q] v (f_Link_passTick q v) sv_Zv := by
  refine sv_spec (ls0 := [some (.ref q)]) mp_118 (Nat.le_of_ble_eq_true rfl) rfl ?_
  unfold f_Link_passTick
  refine sv_aload_n d_Link_passTick_0 rfl ?_
  refine sv_geti d_Link_passTick_1 (gf_Link_49 mc_118) hq (sd_3_6 hq) ?_
  refine sv_if_le 17 d_Link_passTick_4 rfl ?_ ?_
  · exact c_Link_passTick_b17 d q v hq
  · refine sv_aload_n d_Link_passTick_7 rfl ?_
    refine sv_dup d_Link_passTick_8 ?_
    refine sv_geti d_Link_passTick_9 (gf_Link_49 mc_118) hq (sd_3_6 hq) ?_
    refine sv_iconst (x := (1 : Int32)) d_Link_passTick_12 (by decide) ?_
    refine sv_isub d_Link_passTick_13 ?_
    refine sv_puti d_Link_passTick_14 (pf_Link_49 mc_118) hq (sd_3_6 hq) (fun v2 => ?_)
    exact c_Link_passTick_b17 d q v2 hq
