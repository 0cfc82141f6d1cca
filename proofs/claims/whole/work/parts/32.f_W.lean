def f_W_isHost (a1 : Int32) (v : sv_T) : Option (Int32 × sv_T) :=
  if a1 = 0 then
  some ((1 : Int32), v)
  else
  if a1 = (1 : Int32) then
  some ((1 : Int32), v)
  else
  some ((0 : Int32), v)
set_option maxHeartbeats 4000000 in
set_option maxRecDepth 100000 in
theorem c_W_isHost (d : Nat) (a1 : Int32) (v : sv_T)  : sv_Cl (d + 0) 14 [.ref 0, .int a1] v (f_W_isHost a1 v) sv_Zi := by
  refine sv_spec (ls0 := [some (.ref 0), some (.int a1)]) mp_14 (Nat.le_of_ble_eq_true rfl) rfl ?_
  unfold f_W_isHost
  refine sv_iload_n d_W_isHost_0 rfl ?_
  refine sv_if_eq 9 d_W_isHost_1 rfl ?_ ?_
  · refine sv_iconst (x := (1 : Int32)) d_W_isHost_9 (by decide) ?_
    refine sv_goto 14 d_W_isHost_10 rfl ?_
    exact sv_zretc rfl (by decide) d_W_isHost_14
  · refine sv_iload_n d_W_isHost_4 rfl ?_
    refine sv_iconst (x := (1 : Int32)) d_W_isHost_5 (by decide) ?_
    refine sv_icmp_ne 13 d_W_isHost_6 rfl ?_ ?_
    · refine sv_iconst (x := (0 : Int32)) d_W_isHost_13 (by decide) ?_
      exact sv_zretc rfl (by decide) d_W_isHost_14
    · refine sv_iconst (x := (1 : Int32)) d_W_isHost_9 (by decide) ?_
      refine sv_goto 14 d_W_isHost_10 rfl ?_
      exact sv_zretc rfl (by decide) d_W_isHost_14
def f_W_endpointAt (a1 : Int32) (a2 : Int32) (v : sv_T) : Option (Option Nat × sv_T) :=
  sv_bi (f_W_isHost a1 v) fun x2 v1 =>
  if x2 = 0 then
  some (none, v1)
  else
  sv_ck a1 2 <| sv_lr (List.getD [9, 42] a1.toNatClampNeg 0) fun r3 =>
  sv_to r3 2 <|
  sv_bo (f_Host_endpointAt r3 a2 v1) (fun v4 =>
  some (none, v4)) (fun r6 v5 =>
  sv_to r6 7 <|
  some (some r6, v5))
set_option maxHeartbeats 4000000 in
set_option maxRecDepth 100000 in
theorem c_W_endpointAt (d : Nat) (a1 : Int32) (a2 : Int32) (v : sv_T)  : sv_Cl (d + 1) 13 [.ref 0, .int a1, .int a2] v (f_W_endpointAt a1 a2 v) sv_Zr := by
  refine sv_spec (ls0 := [some (.ref 0), some (.int a1), some (.int a2)]) mp_13 (Nat.le_of_ble_eq_true rfl) rfl ?_
  unfold f_W_endpointAt
  refine sv_aload_n d_W_endpointAt_0 rfl ?_
  refine sv_iload_n d_W_endpointAt_1 rfl ?_
  refine sv_callVi (d := d + 0) (as := [.int a1]) d_W_endpointAt_2 (wv_W_63 mc_13) so_0 ⟨_, rfl, rfl⟩ rfl (Nat.le_of_ble_eq_true rfl) rfl (c_W_isHost (d + 0) a1 v ) (fun x2 v1 => ?_)
  refine sv_if_eq 21 d_W_endpointAt_5 rfl ?_ ?_
  · refine sv_null d_W_endpointAt_21 ?_
    exact sv_aretN rfl d_W_endpointAt_22
  · refine sv_aload_n d_W_endpointAt_8 rfl ?_
    refine sv_getr d_W_endpointAt_9 (gf_W_25 mc_13) so_0 sm_0_1 ?_
    refine sv_iload_n d_W_endpointAt_12 rfl ?_
    refine sv_aald d_W_endpointAt_13 rfl sq_8 (fun r3 => ?_)
    refine sv_toR (fun hr3 => ?_)
    refine sv_iload_n d_W_endpointAt_14 rfl ?_
    refine sv_callVr (d := d + 0) (as := [.int a2]) d_W_endpointAt_15 (wv_W_111 mc_13) hr3 ⟨_, rfl, rfl⟩ rfl (Nat.le_of_ble_eq_true rfl) rfl (c_Host_endpointAt (d + 0) r3 a2 v1 hr3) (fun v4 => ?_) (fun r6 v5 => ?_)
    · refine sv_goto 22 d_W_endpointAt_18 rfl ?_
      exact sv_aretN rfl d_W_endpointAt_22
    · refine sv_toR (fun hr6 => ?_)
      refine sv_goto 22 d_W_endpointAt_18 rfl ?_
      exact sv_aret rfl d_W_endpointAt_22
def f_W_listen (a1 : Int32) (a2 : Int32) (v : sv_T) : Option (Int32 × sv_T) :=
  sv_bo (f_W_endpointAt a1 a2 v) (fun v1 =>
  some ((0 : Int32), v1)) (fun r3 v2 =>
  sv_to r3 7 <|
  sv_bi (f_Ep_startListening r3 v2) fun x5 v4 =>
  if x5 = 0 then
  some ((0 : Int32), v4)
  else
  some ((1 : Int32), v4))
set_option maxHeartbeats 4000000 in
set_option maxRecDepth 100000 in
theorem c_W_listen (d : Nat) (a1 : Int32) (a2 : Int32) (v : sv_T)  : sv_Cl (d + 2) 12 [.ref 0, .int a1, .int a2] v (f_W_listen a1 a2 v) sv_Zi := by
  refine sv_spec (ls0 := [some (.ref 0), some (.int a1), some (.int a2), none]) mp_12 (Nat.le_of_ble_eq_true rfl) rfl ?_
  unfold f_W_listen
  refine sv_aload_n d_W_listen_0 rfl ?_
  refine sv_iload_n d_W_listen_1 rfl ?_
  refine sv_iload_n d_W_listen_2 rfl ?_
  refine sv_callVr (d := d + 1) (as := [.int a1, .int a2]) d_W_listen_3 (wv_W_29 mc_12) so_0 ⟨_, rfl, rfl⟩ rfl (Nat.le_of_ble_eq_true rfl) rfl (c_W_endpointAt (d + 0) a1 a2 v ) (fun v1 => ?_) (fun r3 v2 => ?_)
  · refine sv_astore_nN (ls' := [some (.ref 0), some (.int a1), some (.int a2), some (.null)]) d_W_listen_6 (by decide) rfl ?_
    refine sv_aload_nN d_W_listen_7 rfl ?_
    refine sv_ifnullN 22 d_W_listen_8 rfl ?_
    refine sv_iconst (x := (0 : Int32)) d_W_listen_22 (by decide) ?_
    exact sv_zretc rfl (by decide) d_W_listen_23
  · refine sv_toR (fun hr3 => ?_)
    refine sv_astore_n (ls' := [some (.ref 0), some (.int a1), some (.int a2), some (.ref r3)]) d_W_listen_6 (by decide) rfl ?_
    refine sv_aload_n d_W_listen_7 rfl ?_
    refine sv_ifnull d_W_listen_8 ?_
    refine sv_aload_n d_W_listen_11 rfl ?_
    refine sv_callVi (d := d + 1) (as := []) d_W_listen_12 (wv_W_33 mc_12) hr3 ⟨_, rfl, rfl⟩ rfl (Nat.le_of_ble_eq_true rfl) rfl (c_Ep_startListening (d + 1) r3 v2 hr3) (fun x5 v4 => ?_)
    refine sv_if_eq 22 d_W_listen_15 rfl ?_ ?_
    · refine sv_iconst (x := (0 : Int32)) d_W_listen_22 (by decide) ?_
      exact sv_zretc rfl (by decide) d_W_listen_23
    · refine sv_iconst (x := (1 : Int32)) d_W_listen_18 (by decide) ?_
      refine sv_goto 23 d_W_listen_19 rfl ?_
      exact sv_zretc rfl (by decide) d_W_listen_23
def f_W_connect (a1 : Int32) (a2 : Int32) (v : sv_T) : Option (Int32 × sv_T) :=
  sv_bo (f_W_endpointAt a1 a2 v) (fun v1 =>
  some ((0 : Int32), v1)) (fun r3 v2 =>
  sv_to r3 7 <|
  sv_bi (f_Ep_startConnecting r3 (v2 0 2) v2) fun x5 v4 =>
  if x5 = 0 then
  some ((0 : Int32), v4)
  else
  sv_ck a1 2 <| sv_lr (List.getD [9, 42] a1.toNatClampNeg 0) fun r6 =>
  sv_to r6 2 <|
  sv_bi (f_Host_sendOut r6 v4) fun x8 v7 =>
  if x8 = 0 then
  some ((0 : Int32), v7)
  else
  some ((1 : Int32), v7))
set_option maxHeartbeats 4000000 in
set_option maxRecDepth 100000 in
theorem c_W_connect (d : Nat) (a1 : Int32) (a2 : Int32) (v : sv_T)  : sv_Cl (d + 7) 17 [.ref 0, .int a1, .int a2] v (f_W_connect a1 a2 v) sv_Zi := by
  refine sv_spec (ls0 := [some (.ref 0), some (.int a1), some (.int a2), none]) mp_17 (Nat.le_of_ble_eq_true rfl) rfl ?_
  unfold f_W_connect
  refine sv_aload_n d_W_connect_0 rfl ?_
  refine sv_iload_n d_W_connect_1 rfl ?_
  refine sv_iload_n d_W_connect_2 rfl ?_
  refine sv_callVr (d := d + 6) (as := [.int a1, .int a2]) d_W_connect_3 (wv_W_29 mc_17) so_0 ⟨_, rfl, rfl⟩ rfl (Nat.le_of_ble_eq_true rfl) rfl (c_W_endpointAt (d + 5) a1 a2 v ) (fun v1 => ?_) (fun r3 v2 => ?_)
  · refine sv_astore_nN (ls' := [some (.ref 0), some (.int a1), some (.int a2), some (.null)]) d_W_connect_6 (by decide) rfl ?_
    refine sv_aload_nN d_W_connect_7 rfl ?_
    refine sv_ifnullN 38 d_W_connect_8 rfl ?_
    refine sv_iconst (x := (0 : Int32)) d_W_connect_38 (by decide) ?_
    exact sv_zretc rfl (by decide) d_W_connect_39
  · refine sv_toR (fun hr3 => ?_)
    refine sv_astore_n (ls' := [some (.ref 0), some (.int a1), some (.int a2), some (.ref r3)]) d_W_connect_6 (by decide) rfl ?_
    refine sv_aload_n d_W_connect_7 rfl ?_
    refine sv_ifnull d_W_connect_8 ?_
    refine sv_aload_n d_W_connect_11 rfl ?_
    refine sv_aload_n d_W_connect_12 rfl ?_
    refine sv_geti d_W_connect_13 (gf_W_39 mc_17) so_0 (sd_0_2 so_0) ?_
    refine sv_callVi (d := d + 6) (as := [.int (v2 0 2)]) d_W_connect_16 (wv_W_43 mc_17) hr3 ⟨_, rfl, rfl⟩ rfl (Nat.le_of_ble_eq_true rfl) rfl (c_Ep_startConnecting (d + 2) r3 (v2 0 2) v2 hr3) (fun x5 v4 => ?_)
    refine sv_if_eq 38 d_W_connect_19 rfl ?_ ?_
    · refine sv_iconst (x := (0 : Int32)) d_W_connect_38 (by decide) ?_
      exact sv_zretc rfl (by decide) d_W_connect_39
    · refine sv_aload_n d_W_connect_22 rfl ?_
      refine sv_getr d_W_connect_23 (gf_W_25 mc_17) so_0 sm_0_1 ?_
      refine sv_iload_n d_W_connect_26 rfl ?_
      refine sv_aald d_W_connect_27 rfl sq_8 (fun r6 => ?_)
      refine sv_toR (fun hr6 => ?_)
      refine sv_callVi (d := d + 6) (as := []) d_W_connect_28 (wv_W_47 mc_17) hr6 ⟨_, rfl, rfl⟩ rfl (Nat.le_of_ble_eq_true rfl) rfl (c_Host_sendOut (d + 0) r6 v4 hr6) (fun x8 v7 => ?_)
      refine sv_if_eq 38 d_W_connect_31 rfl ?_ ?_
      · refine sv_iconst (x := (0 : Int32)) d_W_connect_38 (by decide) ?_
        exact sv_zretc rfl (by decide) d_W_connect_39
      · refine sv_iconst (x := (1 : Int32)) d_W_connect_34 (by decide) ?_
        refine sv_goto 39 d_W_connect_35 rfl ?_
        exact sv_zretc rfl (by decide) d_W_connect_39
def f_W_send (a1 : Int32) (a2 : Int32) (a3 : Int32) (v : sv_T) : Option (Int32 × sv_T) :=
  sv_bo (f_W_endpointAt a1 a2 v) (fun v1 =>
  some ((0 : Int32), v1)) (fun r3 v2 =>
  sv_to r3 7 <|
  sv_bi (f_Ep_offerByte r3 a3 v2) fun x5 v4 =>
  if x5 = 0 then
  some ((0 : Int32), v4)
  else
  sv_ck a1 2 <| sv_lr (List.getD [9, 42] a1.toNatClampNeg 0) fun r6 =>
  sv_to r6 2 <|
  sv_bi (f_Host_sendOut r6 v4) fun x8 v7 =>
  if x8 = 0 then
  some ((0 : Int32), v7)
  else
  some ((1 : Int32), v7))
set_option maxHeartbeats 4000000 in
set_option maxRecDepth 100000 in
theorem c_W_send (d : Nat) (a1 : Int32) (a2 : Int32) (a3 : Int32) (v : sv_T)  : sv_Cl (d + 7) 39 [.ref 0, .int a1, .int a2, .int a3] v (f_W_send a1 a2 a3 v) sv_Zi := by
  refine sv_spec (ls0 := [some (.ref 0), some (.int a1), some (.int a2), some (.int a3), none]) mp_39 (Nat.le_of_ble_eq_true rfl) rfl ?_
  unfold f_W_send
  refine sv_aload_n d_W_send_0 rfl ?_
  refine sv_iload_n d_W_send_1 rfl ?_
  refine sv_iload_n d_W_send_2 rfl ?_
  refine sv_callVr (d := d + 6) (as := [.int a1, .int a2]) d_W_send_3 (wv_W_29 mc_39) so_0 ⟨_, rfl, rfl⟩ rfl (Nat.le_of_ble_eq_true rfl) rfl (c_W_endpointAt (d + 5) a1 a2 v ) (fun v1 => ?_) (fun r3 v2 => ?_)
  · refine sv_astoreN (ls' := [some (.ref 0), some (.int a1), some (.int a2), some (.int a3), some (.null)]) d_W_send_6 (by decide) rfl ?_
    refine sv_aloadN d_W_send_8 rfl ?_
    refine sv_ifnullN 38 d_W_send_10 rfl ?_
    refine sv_iconst (x := (0 : Int32)) d_W_send_38 (by decide) ?_
    exact sv_zretc rfl (by decide) d_W_send_39
  · refine sv_toR (fun hr3 => ?_)
    refine sv_astore (ls' := [some (.ref 0), some (.int a1), some (.int a2), some (.int a3), some (.ref r3)]) d_W_send_6 (by decide) rfl ?_
    refine sv_aload d_W_send_8 rfl ?_
    refine sv_ifnull d_W_send_10 ?_
    refine sv_aload d_W_send_13 rfl ?_
    refine sv_iload_n d_W_send_15 rfl ?_
    refine sv_callVi (d := d + 6) (as := [.int a3]) d_W_send_16 (wv_W_50 mc_39) hr3 ⟨_, rfl, rfl⟩ rfl (Nat.le_of_ble_eq_true rfl) rfl (c_Ep_offerByte (d + 1) r3 a3 v2 hr3) (fun x5 v4 => ?_)
    refine sv_if_eq 38 d_W_send_19 rfl ?_ ?_
    · refine sv_iconst (x := (0 : Int32)) d_W_send_38 (by decide) ?_
      exact sv_zretc rfl (by decide) d_W_send_39
    · refine sv_aload_n d_W_send_22 rfl ?_
      refine sv_getr d_W_send_23 (gf_W_25 mc_39) so_0 sm_0_1 ?_
      refine sv_iload_n d_W_send_26 rfl ?_
      refine sv_aald d_W_send_27 rfl sq_8 (fun r6 => ?_)
      refine sv_toR (fun hr6 => ?_)
      refine sv_callVi (d := d + 6) (as := []) d_W_send_28 (wv_W_47 mc_39) hr6 ⟨_, rfl, rfl⟩ rfl (Nat.le_of_ble_eq_true rfl) rfl (c_Host_sendOut (d + 0) r6 v4 hr6) (fun x8 v7 => ?_)
      refine sv_if_eq 38 d_W_send_31 rfl ?_ ?_
      · refine sv_iconst (x := (0 : Int32)) d_W_send_38 (by decide) ?_
        exact sv_zretc rfl (by decide) d_W_send_39
      · refine sv_iconst (x := (1 : Int32)) d_W_send_34 (by decide) ?_
        refine sv_goto 39 d_W_send_35 rfl ?_
        exact sv_zretc rfl (by decide) d_W_send_39
def f_W_read (a1 : Int32) (a2 : Int32) (v : sv_T) : Option (Int32 × sv_T) :=
  sv_bo (f_W_endpointAt a1 a2 v) (fun v1 =>
  some ((-1 : Int32), v1)) (fun r3 v2 =>
  sv_to r3 7 <|
  sv_bi (f_Ep_takeByte r3 v2) fun x5 v4 =>
  sv_ck a1 2 <| sv_lr (List.getD [9, 42] a1.toNatClampNeg 0) fun r6 =>
  sv_to r6 2 <|
  sv_bi (f_Host_sendOut r6 v4) fun x8 v7 =>
  some (x5, v7))
set_option maxHeartbeats 4000000 in
set_option maxRecDepth 100000 in
theorem c_W_read (d : Nat) (a1 : Int32) (a2 : Int32) (v : sv_T)  : sv_Cl (d + 7) 51 [.ref 0, .int a1, .int a2] v (f_W_read a1 a2 v) sv_Zi := by
  refine sv_spec (ls0 := [some (.ref 0), some (.int a1), some (.int a2), none, none]) mp_51 (Nat.le_of_ble_eq_true rfl) rfl ?_
  unfold f_W_read
  refine sv_aload_n d_W_read_0 rfl ?_
  refine sv_iload_n d_W_read_1 rfl ?_
  refine sv_iload_n d_W_read_2 rfl ?_
  refine sv_callVr (d := d + 6) (as := [.int a1, .int a2]) d_W_read_3 (wv_W_29 mc_51) so_0 ⟨_, rfl, rfl⟩ rfl (Nat.le_of_ble_eq_true rfl) rfl (c_W_endpointAt (d + 5) a1 a2 v ) (fun v1 => ?_) (fun r3 v2 => ?_)
  · refine sv_astore_nN (ls' := [some (.ref 0), some (.int a1), some (.int a2), some (.null), none]) d_W_read_6 (by decide) rfl ?_
    refine sv_aload_nN d_W_read_7 rfl ?_
    refine sv_ifnonnullN d_W_read_8 ?_
    refine sv_iconst (x := (-1 : Int32)) d_W_read_11 (by decide) ?_
    exact sv_iret rfl d_W_read_12
  · refine sv_toR (fun hr3 => ?_)
    refine sv_astore_n (ls' := [some (.ref 0), some (.int a1), some (.int a2), some (.ref r3), none]) d_W_read_6 (by decide) rfl ?_
    refine sv_aload_n d_W_read_7 rfl ?_
    refine sv_ifnonnull 13 d_W_read_8 rfl ?_
    refine sv_aload_n d_W_read_13 rfl ?_
    refine sv_callVi (d := d + 6) (as := []) d_W_read_14 (wv_W_53 mc_51) hr3 ⟨_, rfl, rfl⟩ rfl (Nat.le_of_ble_eq_true rfl) rfl (c_Ep_takeByte (d + 2) r3 v2 hr3) (fun x5 v4 => ?_)
    refine sv_istore (ls' := [some (.ref 0), some (.int a1), some (.int a2), some (.ref r3), some (.int x5)]) d_W_read_17 (by decide) rfl ?_
    refine sv_aload_n d_W_read_19 rfl ?_
    refine sv_getr d_W_read_20 (gf_W_25 mc_51) so_0 sm_0_1 ?_
    refine sv_iload_n d_W_read_23 rfl ?_
    refine sv_aald d_W_read_24 rfl sq_8 (fun r6 => ?_)
    refine sv_toR (fun hr6 => ?_)
    refine sv_callVi (d := d + 6) (as := []) d_W_read_25 (wv_W_47 mc_51) hr6 ⟨_, rfl, rfl⟩ rfl (Nat.le_of_ble_eq_true rfl) rfl (c_Host_sendOut (d + 0) r6 v4 hr6) (fun x8 v7 => ?_)
    refine sv_pop d_W_read_28 ?_
    refine sv_iload d_W_read_29 rfl ?_
    exact sv_iret rfl d_W_read_31
def f_W_close (a1 : Int32) (a2 : Int32) (v : sv_T) : Option (Int32 × sv_T) :=
  sv_bo (f_W_endpointAt a1 a2 v) (fun v1 =>
  some ((0 : Int32), v1)) (fun r3 v2 =>
  sv_to r3 7 <|
  sv_bi (f_Ep_startEnding r3 v2) fun x5 v4 =>
  if x5 = 0 then
  some ((0 : Int32), v4)
  else
  sv_ck a1 2 <| sv_lr (List.getD [9, 42] a1.toNatClampNeg 0) fun r6 =>
  sv_to r6 2 <|
  sv_bi (f_Host_sendOut r6 v4) fun x8 v7 =>
  if x8 = 0 then
  some ((0 : Int32), v7)
  else
  some ((1 : Int32), v7))
set_option maxHeartbeats 4000000 in
set_option maxRecDepth 100000 in
theorem c_W_close (d : Nat) (a1 : Int32) (a2 : Int32) (v : sv_T)  : sv_Cl (d + 7) 56 [.ref 0, .int a1, .int a2] v (f_W_close a1 a2 v) sv_Zi := by
  refine sv_spec (ls0 := [some (.ref 0), some (.int a1), some (.int a2), none]) mp_56 (Nat.le_of_ble_eq_true rfl) rfl ?_
  unfold f_W_close
  refine sv_aload_n d_W_close_0 rfl ?_
  refine sv_iload_n d_W_close_1 rfl ?_
  refine sv_iload_n d_W_close_2 rfl ?_
  refine sv_callVr (d := d + 6) (as := [.int a1, .int a2]) d_W_close_3 (wv_W_29 mc_56) so_0 ⟨_, rfl, rfl⟩ rfl (Nat.le_of_ble_eq_true rfl) rfl (c_W_endpointAt (d + 5) a1 a2 v ) (fun v1 => ?_) (fun r3 v2 => ?_)
  · refine sv_astore_nN (ls' := [some (.ref 0), some (.int a1), some (.int a2), some (.null)]) d_W_close_6 (by decide) rfl ?_
    refine sv_aload_nN d_W_close_7 rfl ?_
    refine sv_ifnullN 34 d_W_close_8 rfl ?_
    refine sv_iconst (x := (0 : Int32)) d_W_close_34 (by decide) ?_
    exact sv_zretc rfl (by decide) d_W_close_35
  · refine sv_toR (fun hr3 => ?_)
    refine sv_astore_n (ls' := [some (.ref 0), some (.int a1), some (.int a2), some (.ref r3)]) d_W_close_6 (by decide) rfl ?_
    refine sv_aload_n d_W_close_7 rfl ?_
    refine sv_ifnull d_W_close_8 ?_
    refine sv_aload_n d_W_close_11 rfl ?_
    refine sv_callVi (d := d + 6) (as := []) d_W_close_12 (wv_W_57 mc_56) hr3 ⟨_, rfl, rfl⟩ rfl (Nat.le_of_ble_eq_true rfl) rfl (c_Ep_startEnding (d + 1) r3 v2 hr3) (fun x5 v4 => ?_)
    refine sv_if_eq 34 d_W_close_15 rfl ?_ ?_
    · refine sv_iconst (x := (0 : Int32)) d_W_close_34 (by decide) ?_
      exact sv_zretc rfl (by decide) d_W_close_35
    · refine sv_aload_n d_W_close_18 rfl ?_
      refine sv_getr d_W_close_19 (gf_W_25 mc_56) so_0 sm_0_1 ?_
      refine sv_iload_n d_W_close_22 rfl ?_
      refine sv_aald d_W_close_23 rfl sq_8 (fun r6 => ?_)
      refine sv_toR (fun hr6 => ?_)
      refine sv_callVi (d := d + 6) (as := []) d_W_close_24 (wv_W_47 mc_56) hr6 ⟨_, rfl, rfl⟩ rfl (Nat.le_of_ble_eq_true rfl) rfl (c_Host_sendOut (d + 0) r6 v4 hr6) (fun x8 v7 => ?_)
      refine sv_if_eq 34 d_W_close_27 rfl ?_ ?_
      · refine sv_iconst (x := (0 : Int32)) d_W_close_34 (by decide) ?_
        exact sv_zretc rfl (by decide) d_W_close_35
      · refine sv_iconst (x := (1 : Int32)) d_W_close_30 (by decide) ?_
        refine sv_goto 35 d_W_close_31 rfl ?_
        exact sv_zretc rfl (by decide) d_W_close_35
def f_W_abort (a1 : Int32) (a2 : Int32) (v : sv_T) : Option (Int32 × sv_T) :=
  sv_bo (f_W_endpointAt a1 a2 v) (fun v1 =>
  some ((0 : Int32), v1)) (fun r3 v2 =>
  sv_to r3 7 <|
  sv_bi (f_Ep_breakOff r3 v2) fun x5 v4 =>
  if x5 = 0 then
  some ((0 : Int32), v4)
  else
  sv_ck a1 2 <| sv_lr (List.getD [9, 42] a1.toNatClampNeg 0) fun r6 =>
  sv_to r6 2 <|
  sv_bi (f_Host_sendOut r6 v4) fun x8 v7 =>
  if x8 = 0 then
  some ((0 : Int32), v7)
  else
  some ((1 : Int32), v7))
set_option maxHeartbeats 4000000 in
set_option maxRecDepth 100000 in
theorem c_W_abort (d : Nat) (a1 : Int32) (a2 : Int32) (v : sv_T)  : sv_Cl (d + 7) 61 [.ref 0, .int a1, .int a2] v (f_W_abort a1 a2 v) sv_Zi := by
  refine sv_spec (ls0 := [some (.ref 0), some (.int a1), some (.int a2), none]) mp_61 (Nat.le_of_ble_eq_true rfl) rfl ?_
  unfold f_W_abort
  refine sv_aload_n d_W_abort_0 rfl ?_
  refine sv_iload_n d_W_abort_1 rfl ?_
  refine sv_iload_n d_W_abort_2 rfl ?_
  refine sv_callVr (d := d + 6) (as := [.int a1, .int a2]) d_W_abort_3 (wv_W_29 mc_61) so_0 ⟨_, rfl, rfl⟩ rfl (Nat.le_of_ble_eq_true rfl) rfl (c_W_endpointAt (d + 5) a1 a2 v ) (fun v1 => ?_) (fun r3 v2 => ?_)
  · refine sv_astore_nN (ls' := [some (.ref 0), some (.int a1), some (.int a2), some (.null)]) d_W_abort_6 (by decide) rfl ?_
    refine sv_aload_nN d_W_abort_7 rfl ?_
    refine sv_ifnullN 34 d_W_abort_8 rfl ?_
    refine sv_iconst (x := (0 : Int32)) d_W_abort_34 (by decide) ?_
    exact sv_zretc rfl (by decide) d_W_abort_35
  · refine sv_toR (fun hr3 => ?_)
    refine sv_astore_n (ls' := [some (.ref 0), some (.int a1), some (.int a2), some (.ref r3)]) d_W_abort_6 (by decide) rfl ?_
    refine sv_aload_n d_W_abort_7 rfl ?_
    refine sv_ifnull d_W_abort_8 ?_
    refine sv_aload_n d_W_abort_11 rfl ?_
    refine sv_callVi (d := d + 6) (as := []) d_W_abort_12 (wv_W_60 mc_61) hr3 ⟨_, rfl, rfl⟩ rfl (Nat.le_of_ble_eq_true rfl) rfl (c_Ep_breakOff (d + 2) r3 v2 hr3) (fun x5 v4 => ?_)
    refine sv_if_eq 34 d_W_abort_15 rfl ?_ ?_
    · refine sv_iconst (x := (0 : Int32)) d_W_abort_34 (by decide) ?_
      exact sv_zretc rfl (by decide) d_W_abort_35
    · refine sv_aload_n d_W_abort_18 rfl ?_
      refine sv_getr d_W_abort_19 (gf_W_25 mc_61) so_0 sm_0_1 ?_
      refine sv_iload_n d_W_abort_22 rfl ?_
      refine sv_aald d_W_abort_23 rfl sq_8 (fun r6 => ?_)
      refine sv_toR (fun hr6 => ?_)
      refine sv_callVi (d := d + 6) (as := []) d_W_abort_24 (wv_W_47 mc_61) hr6 ⟨_, rfl, rfl⟩ rfl (Nat.le_of_ble_eq_true rfl) rfl (c_Host_sendOut (d + 0) r6 v4 hr6) (fun x8 v7 => ?_)
      refine sv_if_eq 34 d_W_abort_27 rfl ?_ ?_
      · refine sv_iconst (x := (0 : Int32)) d_W_abort_34 (by decide) ?_
        exact sv_zretc rfl (by decide) d_W_abort_35
      · refine sv_iconst (x := (1 : Int32)) d_W_abort_30 (by decide) ?_
        refine sv_goto 35 d_W_abort_31 rfl ?_
        exact sv_zretc rfl (by decide) d_W_abort_35
def f_W_ping (a1 : Int32) (a2 : Int32) (a3 : Int32) (v : sv_T) : Option (Int32 × sv_T) :=
  sv_bi (f_W_isHost a1 v) fun x2 v1 =>
  if x2 = 0 then
  some ((0 : Int32), v1)
  else
  sv_ck a1 2 <| sv_lr (List.getD [9, 42] a1.toNatClampNeg 0) fun r3 =>
  sv_to r3 2 <|
  sv_bi (f_Host_askEcho r3 a2 a3 v1) fun x5 v4 =>
  if x5 = 0 then
  some ((0 : Int32), v4)
  else
  sv_ck a1 2 <| sv_lr (List.getD [9, 42] a1.toNatClampNeg 0) fun r6 =>
  sv_to r6 2 <|
  sv_bi (f_Host_sendOut r6 v4) fun x8 v7 =>
  if x8 = 0 then
  some ((0 : Int32), v7)
  else
  some ((1 : Int32), v7)
set_option maxHeartbeats 4000000 in
set_option maxRecDepth 100000 in
theorem c_W_ping (d : Nat) (a1 : Int32) (a2 : Int32) (a3 : Int32) (v : sv_T)  : sv_Cl (d + 7) 63 [.ref 0, .int a1, .int a2, .int a3] v (f_W_ping a1 a2 a3 v) sv_Zi := by
  refine sv_spec (ls0 := [some (.ref 0), some (.int a1), some (.int a2), some (.int a3)]) mp_63 (Nat.le_of_ble_eq_true rfl) rfl ?_
  unfold f_W_ping
  refine sv_aload_n d_W_ping_0 rfl ?_
  refine sv_iload_n d_W_ping_1 rfl ?_
  refine sv_callVi (d := d + 6) (as := [.int a1]) d_W_ping_2 (wv_W_63 mc_63) so_0 ⟨_, rfl, rfl⟩ rfl (Nat.le_of_ble_eq_true rfl) rfl (c_W_isHost (d + 6) a1 v ) (fun x2 v1 => ?_)
  refine sv_if_eq 38 d_W_ping_5 rfl ?_ ?_
  · refine sv_iconst (x := (0 : Int32)) d_W_ping_38 (by decide) ?_
    exact sv_zretc rfl (by decide) d_W_ping_39
  · refine sv_aload_n d_W_ping_8 rfl ?_
    refine sv_getr d_W_ping_9 (gf_W_25 mc_63) so_0 sm_0_1 ?_
    refine sv_iload_n d_W_ping_12 rfl ?_
    refine sv_aald d_W_ping_13 rfl sq_8 (fun r3 => ?_)
    refine sv_toR (fun hr3 => ?_)
    refine sv_iload_n d_W_ping_14 rfl ?_
    refine sv_iload_n d_W_ping_15 rfl ?_
    refine sv_callVi (d := d + 6) (as := [.int a2, .int a3]) d_W_ping_16 (wv_W_66 mc_63) hr3 ⟨_, rfl, rfl⟩ rfl (Nat.le_of_ble_eq_true rfl) rfl (c_Host_askEcho (d + 3) r3 a2 a3 v1 hr3) (fun x5 v4 => ?_)
    refine sv_if_eq 38 d_W_ping_19 rfl ?_ ?_
    · refine sv_iconst (x := (0 : Int32)) d_W_ping_38 (by decide) ?_
      exact sv_zretc rfl (by decide) d_W_ping_39
    · refine sv_aload_n d_W_ping_22 rfl ?_
      refine sv_getr d_W_ping_23 (gf_W_25 mc_63) so_0 sm_0_1 ?_
      refine sv_iload_n d_W_ping_26 rfl ?_
      refine sv_aald d_W_ping_27 rfl sq_8 (fun r6 => ?_)
      refine sv_toR (fun hr6 => ?_)
      refine sv_callVi (d := d + 6) (as := []) d_W_ping_28 (wv_W_47 mc_63) hr6 ⟨_, rfl, rfl⟩ rfl (Nat.le_of_ble_eq_true rfl) rfl (c_Host_sendOut (d + 0) r6 v4 hr6) (fun x8 v7 => ?_)
      refine sv_if_eq 38 d_W_ping_31 rfl ?_ ?_
      · refine sv_iconst (x := (0 : Int32)) d_W_ping_38 (by decide) ?_
        exact sv_zretc rfl (by decide) d_W_ping_39
      · refine sv_iconst (x := (1 : Int32)) d_W_ping_34 (by decide) ?_
        refine sv_goto 39 d_W_ping_35 rfl ?_
        exact sv_zretc rfl (by decide) d_W_ping_39
def f_W_flying (a1 : Int32) (v : sv_T) : Option (Int32 × sv_T) :=
  sv_bi (f_W_isHost a1 v) fun x2 v1 =>
  if x2 = 0 then
  some ((-1 : Int32), v1)
  else
  sv_ck a1 2 <| sv_lr (List.getD [1, 4] a1.toNatClampNeg 0) fun r3 =>
  sv_to r3 1 <|
  sv_bi (f_Rows_count r3 v1) fun x5 v4 =>
  some (x5, v4)
set_option maxHeartbeats 4000000 in
set_option maxRecDepth 100000 in
theorem c_W_flying (d : Nat) (a1 : Int32) (v : sv_T)  : sv_Cl (d + 1) 67 [.ref 0, .int a1] v (f_W_flying a1 v) sv_Zi := by
  refine sv_spec (ls0 := [some (.ref 0), some (.int a1)]) mp_67 (Nat.le_of_ble_eq_true rfl) rfl ?_
  unfold f_W_flying
  refine sv_aload_n d_W_flying_0 rfl ?_
  refine sv_iload_n d_W_flying_1 rfl ?_
  refine sv_callVi (d := d + 0) (as := [.int a1]) d_W_flying_2 (wv_W_63 mc_67) so_0 ⟨_, rfl, rfl⟩ rfl (Nat.le_of_ble_eq_true rfl) rfl (c_W_isHost (d + 0) a1 v ) (fun x2 v1 => ?_)
  refine sv_if_eq 20 d_W_flying_5 rfl ?_ ?_
  · refine sv_iconst (x := (-1 : Int32)) d_W_flying_20 (by decide) ?_
    exact sv_iret rfl d_W_flying_21
  · refine sv_aload_n d_W_flying_8 rfl ?_
    refine sv_getr d_W_flying_9 (gf_W_16 mc_67) so_0 sm_0_0 ?_
    refine sv_iload_n d_W_flying_12 rfl ?_
    refine sv_aald d_W_flying_13 rfl sq_7 (fun r3 => ?_)
    refine sv_toR (fun hr3 => ?_)
    refine sv_callVi (d := d + 0) (as := []) d_W_flying_14 (wv_W_101 mc_67) hr3 ⟨_, rfl, rfl⟩ rfl (Nat.le_of_ble_eq_true rfl) rfl (c_Rows_count (d + 0) r3 v1 hr3) (fun x5 v4 => ?_)
    refine sv_goto 21 d_W_flying_17 rfl ?_
    exact sv_iret rfl d_W_flying_21
def f_W_carry_b54 (l1 : Int32) (l2 : Int32) (v : sv_T) : Option (Int32 × sv_T) :=
  sv_ck l1 2 <| sv_lr (List.getD [9, 42] l1.toNatClampNeg 0) fun r10 =>
  sv_to r10 2 <|
  sv_bi (f_Host_sendOut r10 v) fun x12 v11 =>
  some (l2, v11)
def f_W_carry (a1 : Int32) (v : sv_T) : Option (Int32 × sv_T) :=
  sv_bi (f_W_flying a1 v) fun x2 v1 =>
  if x2 < (1 : Int32) then
  some ((-1 : Int32), v1)
  else
  sv_ck a1 2 <| sv_lr (List.getD [1, 4] a1.toNatClampNeg 0) fun r3 =>
  sv_to r3 1 <|
  sv_bi (f_Rows_at r3 (0 : Int32) (2 : Int32) v1) fun x5 v4 =>
  sv_ck a1 2 <| sv_lr (List.getD [9, 42] a1.toNatClampNeg 0) fun r6 =>
  sv_to r6 2 <|
  sv_ck a1 2 <| sv_lr (List.getD [1, 4] a1.toNatClampNeg 0) fun r7 =>
  sv_to r7 1 <|
  sv_bi (f_Host_takeFrame r6 r7 v4) fun x9 v8 =>
  if x9 = 0 then
  f_W_carry_b54 a1 x5 v8
  else
  sv_ck a1 2 <| sv_lr (List.getD [9, 42] a1.toNatClampNeg 0) fun r13 =>
  sv_to r13 2 <|
  sv_bv (f_Host_takeMessage r13 (v8 0 2) v8) fun v14 =>
  f_W_carry_b54 a1 x5 v14
set_option maxHeartbeats 4000000 in
set_option maxRecDepth 100000 in
theorem c_W_carry_b54 (d : Nat) (l1 : Int32) (l2 : Int32) (v : sv_T)  : sv_Ref (d + 7) 66 54 [some (.ref 0), some (.int l1), some (.int l2)] [] v (f_W_carry_b54 l1 l2 v) (sv_Zi) := by
  unfold f_W_carry_b54
  refine sv_aload_n d_W_carry_54 rfl ?_
  refine sv_getr d_W_carry_55 (gf_W_25 mc_66) so_0 sm_0_1 ?_
  refine sv_iload_n d_W_carry_58 rfl ?_
  refine sv_aald d_W_carry_59 rfl sq_8 (fun r10 => ?_)
  refine sv_toR (fun hr10 => ?_)
  refine sv_callVi (d := d + 6) (as := []) d_W_carry_60 (wv_W_47 mc_66) hr10 ⟨_, rfl, rfl⟩ rfl (Nat.le_of_ble_eq_true rfl) rfl (c_Host_sendOut (d + 0) r10 v hr10) (fun x12 v11 => ?_)
  refine sv_pop d_W_carry_63 ?_
  refine sv_iload_n d_W_carry_64 rfl ?_
  exact sv_iret rfl d_W_carry_65
set_option maxHeartbeats 4000000 in
set_option maxRecDepth 100000 in
theorem c_W_carry (d : Nat) (a1 : Int32) (v : sv_T)  : sv_Cl (d + 7) 66 [.ref 0, .int a1] v (f_W_carry a1 v) sv_Zi := by
  refine sv_spec (ls0 := [some (.ref 0), some (.int a1), none]) mp_66 (Nat.le_of_ble_eq_true rfl) rfl ?_
  unfold f_W_carry
  refine sv_aload_n d_W_carry_0 rfl ?_
  refine sv_iload_n d_W_carry_1 rfl ?_
  refine sv_callVi (d := d + 6) (as := [.int a1]) d_W_carry_2 (wv_W_70 mc_66) so_0 ⟨_, rfl, rfl⟩ rfl (Nat.le_of_ble_eq_true rfl) rfl (c_W_flying (d + 5) a1 v ) (fun x2 v1 => ?_)
  refine sv_iconst (x := (1 : Int32)) d_W_carry_5 (by decide) ?_
  refine sv_icmp_ge 11 d_W_carry_6 rfl ?_ ?_
  · refine sv_aload_n d_W_carry_11 rfl ?_
    refine sv_getr d_W_carry_12 (gf_W_16 mc_66) so_0 sm_0_0 ?_
    refine sv_iload_n d_W_carry_15 rfl ?_
    refine sv_aald d_W_carry_16 rfl sq_7 (fun r3 => ?_)
    refine sv_toR (fun hr3 => ?_)
    refine sv_iconst (x := (0 : Int32)) d_W_carry_17 (by decide) ?_
    refine sv_iconst (x := (2 : Int32)) d_W_carry_18 (by decide) ?_
    refine sv_callVi (d := d + 6) (as := [.int (0 : Int32), .int (2 : Int32)]) d_W_carry_19 (wv_W_74 mc_66) hr3 ⟨_, rfl, rfl⟩ rfl (Nat.le_of_ble_eq_true rfl) rfl (c_Rows_at (d + 5) r3 (0 : Int32) (2 : Int32) v1 hr3) (fun x5 v4 => ?_)
    refine sv_istore_n (ls' := [some (.ref 0), some (.int a1), some (.int x5)]) d_W_carry_22 (by decide) rfl ?_
    refine sv_aload_n d_W_carry_23 rfl ?_
    refine sv_getr d_W_carry_24 (gf_W_25 mc_66) so_0 sm_0_1 ?_
    refine sv_iload_n d_W_carry_27 rfl ?_
    refine sv_aald d_W_carry_28 rfl sq_8 (fun r6 => ?_)
    refine sv_toR (fun hr6 => ?_)
    refine sv_aload_n d_W_carry_29 rfl ?_
    refine sv_getr d_W_carry_30 (gf_W_16 mc_66) so_0 sm_0_0 ?_
    refine sv_iload_n d_W_carry_33 rfl ?_
    refine sv_aald d_W_carry_34 rfl sq_7 (fun r7 => ?_)
    refine sv_toR (fun hr7 => ?_)
    refine sv_callVi (d := d + 6) (as := [.ref r7]) d_W_carry_35 (wv_W_78 mc_66) hr6 ⟨_, rfl, rfl⟩ rfl (Nat.le_of_ble_eq_true rfl) rfl (c_Host_takeFrame (d + 1) r6 r7 v4 hr6 hr7) (fun x9 v8 => ?_)
    refine sv_if_eq 54 d_W_carry_38 rfl ?_ ?_
    · exact c_W_carry_b54 d a1 x5 v8 
    · refine sv_aload_n d_W_carry_41 rfl ?_
      refine sv_getr d_W_carry_42 (gf_W_25 mc_66) so_0 sm_0_1 ?_
      refine sv_iload_n d_W_carry_45 rfl ?_
      refine sv_aald d_W_carry_46 rfl sq_8 (fun r13 => ?_)
      refine sv_toR (fun hr13 => ?_)
      refine sv_aload_n d_W_carry_47 rfl ?_
      refine sv_geti d_W_carry_48 (gf_W_39 mc_66) so_0 (sd_0_2 so_0) ?_
      refine sv_callVv (d := d + 6) (as := [.int (v8 0 2)]) d_W_carry_51 (wv_W_82 mc_66) hr13 ⟨_, rfl, rfl⟩ rfl (Nat.le_of_ble_eq_true rfl) rfl (c_Host_takeMessage (d + 0) r13 (v8 0 2) v8 hr13) (fun v14 => ?_)
      exact c_W_carry_b54 d a1 x5 v14 
  · refine sv_iconst (x := (-1 : Int32)) d_W_carry_9 (by decide) ?_
    exact sv_iret rfl d_W_carry_10
def f_W_disturb (a1 : Int32) (a2 : Int32) (v : sv_T) : Option (Int32 × sv_T) :=
  sv_bi (f_W_flying a1 v) fun x2 v1 =>
  if x2 < (1 : Int32) then
  some ((0 : Int32), v1)
  else
  if a2 = (0 : Int32) then
  sv_ck a1 2 <| sv_lr (List.getD [1, 4] a1.toNatClampNeg 0) fun r8 =>
  sv_to r8 1 <|
  sv_bv (f_Rows_dropFirst r8 v1) fun v9 =>
  some ((1 : Int32), v9)
  else
  if a2 = (1 : Int32) then
  sv_ck a1 2 <| sv_lr (List.getD [1, 4] a1.toNatClampNeg 0) fun r6 =>
  sv_to r6 1 <|
  sv_bv (f_Rows_putFirstLast r6 v1) fun v7 =>
  some ((1 : Int32), v7)
  else
  if a2 = (2 : Int32) then
  sv_ck a1 2 <| sv_lr (List.getD [1, 4] a1.toNatClampNeg 0) fun r3 =>
  sv_to r3 1 <|
  sv_bi (f_Rows_copyFirstBehind r3 v1) fun x5 v4 =>
  sv_bl x5 (some (x5, v4))
  else
  some ((0 : Int32), v1)
set_option maxHeartbeats 4000000 in
set_option maxRecDepth 100000 in
theorem c_W_disturb (d : Nat) (a1 : Int32) (a2 : Int32) (v : sv_T)  : sv_Cl (d + 3) 110 [.ref 0, .int a1, .int a2] v (f_W_disturb a1 a2 v) sv_Zi := by
  refine sv_spec (ls0 := [some (.ref 0), some (.int a1), some (.int a2)]) mp_110 (Nat.le_of_ble_eq_true rfl) rfl ?_
  unfold f_W_disturb
  refine sv_aload_n d_W_disturb_0 rfl ?_
  refine sv_iload_n d_W_disturb_1 rfl ?_
  refine sv_callVi (d := d + 2) (as := [.int a1]) d_W_disturb_2 (wv_W_70 mc_110) so_0 ⟨_, rfl, rfl⟩ rfl (Nat.le_of_ble_eq_true rfl) rfl (c_W_flying (d + 1) a1 v ) (fun x2 v1 => ?_)
  refine sv_iconst (x := (1 : Int32)) d_W_disturb_5 (by decide) ?_
  refine sv_icmp_ge 11 d_W_disturb_6 rfl ?_ ?_
  · refine sv_iload_n d_W_disturb_11 rfl ?_
    refine sv_if (fun c12_0 => ?_) (fun c12_0 => ?_)
    · refine sv_tableIn 40 d_W_disturb_12 (0 : Int32) c12_0 (by decide) rfl rfl ?_
      refine sv_aload_n d_W_disturb_40 rfl ?_
      refine sv_getr d_W_disturb_41 (gf_W_16 mc_110) so_0 sm_0_0 ?_
      refine sv_iload_n d_W_disturb_44 rfl ?_
      refine sv_aald d_W_disturb_45 rfl sq_7 (fun r8 => ?_)
      refine sv_toR (fun hr8 => ?_)
      refine sv_callVv (d := d + 2) (as := []) d_W_disturb_46 (wv_W_86 mc_110) hr8 ⟨_, rfl, rfl⟩ rfl (Nat.le_of_ble_eq_true rfl) rfl (c_Rows_dropFirst (d + 1) r8 v1 hr8) (fun v9 => ?_)
      refine sv_iconst (x := (1 : Int32)) d_W_disturb_49 (by decide) ?_
      exact sv_zretc rfl (by decide) d_W_disturb_50
    · refine sv_if (fun c12_1 => ?_) (fun c12_1 => ?_)
      · refine sv_tableIn 51 d_W_disturb_12 (1 : Int32) c12_1 (by decide) rfl rfl ?_
        refine sv_aload_n d_W_disturb_51 rfl ?_
        refine sv_getr d_W_disturb_52 (gf_W_16 mc_110) so_0 sm_0_0 ?_
        refine sv_iload_n d_W_disturb_55 rfl ?_
        refine sv_aald d_W_disturb_56 rfl sq_7 (fun r6 => ?_)
        refine sv_toR (fun hr6 => ?_)
        refine sv_callVv (d := d + 2) (as := []) d_W_disturb_57 (wv_W_89 mc_110) hr6 ⟨_, rfl, rfl⟩ rfl (Nat.le_of_ble_eq_true rfl) rfl (c_Rows_putFirstLast (d + 0) r6 v1 hr6) (fun v7 => ?_)
        refine sv_iconst (x := (1 : Int32)) d_W_disturb_60 (by decide) ?_
        exact sv_zretc rfl (by decide) d_W_disturb_61
      · refine sv_if (fun c12_2 => ?_) (fun c12_2 => ?_)
        · refine sv_tableIn 62 d_W_disturb_12 (2 : Int32) c12_2 (by decide) rfl rfl ?_
          refine sv_aload_n d_W_disturb_62 rfl ?_
          refine sv_getr d_W_disturb_63 (gf_W_16 mc_110) so_0 sm_0_0 ?_
          refine sv_iload_n d_W_disturb_66 rfl ?_
          refine sv_aald d_W_disturb_67 rfl sq_7 (fun r3 => ?_)
          refine sv_toR (fun hr3 => ?_)
          refine sv_callVi (d := d + 2) (as := []) d_W_disturb_68 (wv_W_92 mc_110) hr3 ⟨_, rfl, rfl⟩ rfl (Nat.le_of_ble_eq_true rfl) rfl (c_Rows_copyFirstBehind (d + 0) r3 v1 hr3) (fun x5 v4 => ?_)
          exact sv_zret rfl d_W_disturb_71
        · refine sv_tableOut 72 d_W_disturb_12 (sv_out (fun k h1 h2 => by
            rcases (show k = 0 ∨ k = 1 ∨ k = 2 by omega) with rfl | rfl | rfl
            · exact c12_0
            · exact c12_1
            · exact c12_2
            )) rfl ?_
          refine sv_iconst (x := (0 : Int32)) d_W_disturb_72 (by decide) ?_
          exact sv_zretc rfl (by decide) d_W_disturb_73
  · refine sv_iconst (x := (0 : Int32)) d_W_disturb_9 (by decide) ?_
    exact sv_zretc rfl (by decide) d_W_disturb_10
def f_W_alter (a1 : Int32) (a2 : Int32) (a3 : Int32) (v : sv_T) : Option (Int32 × sv_T) :=
  sv_bi (f_W_isHost a1 v) fun x2 v1 =>
  if x2 = 0 then
  some ((0 : Int32), v1)
  else
  if a3 < (1 : Int32) then
  some ((0 : Int32), v1)
  else
  if a3 ≤ (255 : Int32) then
  sv_ck a1 2 <| sv_lr (List.getD [1, 4] a1.toNatClampNeg 0) fun r3 =>
  sv_to r3 1 <|
  sv_bi (f_Rows_alterFirst r3 a2 a3 v1) fun x5 v4 =>
  if x5 = 0 then
  some ((0 : Int32), v4)
  else
  some ((1 : Int32), v4)
  else
  some ((0 : Int32), v1)
set_option maxHeartbeats 4000000 in
set_option maxRecDepth 100000 in
theorem c_W_alter (d : Nat) (a1 : Int32) (a2 : Int32) (a3 : Int32) (v : sv_T)  : sv_Cl (d + 2) 114 [.ref 0, .int a1, .int a2, .int a3] v (f_W_alter a1 a2 a3 v) sv_Zi := by
  refine sv_spec (ls0 := [some (.ref 0), some (.int a1), some (.int a2), some (.int a3)]) mp_114 (Nat.le_of_ble_eq_true rfl) rfl ?_
  unfold f_W_alter
  refine sv_aload_n d_W_alter_0 rfl ?_
  refine sv_iload_n d_W_alter_1 rfl ?_
  refine sv_callVi (d := d + 1) (as := [.int a1]) d_W_alter_2 (wv_W_63 mc_114) so_0 ⟨_, rfl, rfl⟩ rfl (Nat.le_of_ble_eq_true rfl) rfl (c_W_isHost (d + 1) a1 v ) (fun x2 v1 => ?_)
  refine sv_if_eq 38 d_W_alter_5 rfl ?_ ?_
  · refine sv_iconst (x := (0 : Int32)) d_W_alter_38 (by decide) ?_
    exact sv_zretc rfl (by decide) d_W_alter_39
  · refine sv_iload_n d_W_alter_8 rfl ?_
    refine sv_iconst (x := (1 : Int32)) d_W_alter_9 (by decide) ?_
    refine sv_icmp_lt 38 d_W_alter_10 rfl ?_ ?_
    · refine sv_iconst (x := (0 : Int32)) d_W_alter_38 (by decide) ?_
      exact sv_zretc rfl (by decide) d_W_alter_39
    · refine sv_iload_n d_W_alter_13 rfl ?_
      refine sv_sipush (x := (255 : Int32)) d_W_alter_14 (by decide) ?_
      refine sv_icmp_gt 38 d_W_alter_17 rfl ?_ ?_
      · refine sv_iconst (x := (0 : Int32)) d_W_alter_38 (by decide) ?_
        exact sv_zretc rfl (by decide) d_W_alter_39
      · refine sv_aload_n d_W_alter_20 rfl ?_
        refine sv_getr d_W_alter_21 (gf_W_16 mc_114) so_0 sm_0_0 ?_
        refine sv_iload_n d_W_alter_24 rfl ?_
        refine sv_aald d_W_alter_25 rfl sq_7 (fun r3 => ?_)
        refine sv_toR (fun hr3 => ?_)
        refine sv_iload_n d_W_alter_26 rfl ?_
        refine sv_iload_n d_W_alter_27 rfl ?_
        refine sv_callVi (d := d + 1) (as := [.int a2, .int a3]) d_W_alter_28 (wv_W_95 mc_114) hr3 ⟨_, rfl, rfl⟩ rfl (Nat.le_of_ble_eq_true rfl) rfl (c_Rows_alterFirst (d + 0) r3 a2 a3 v1 hr3) (fun x5 v4 => ?_)
        refine sv_if_eq 38 d_W_alter_31 rfl ?_ ?_
        · refine sv_iconst (x := (0 : Int32)) d_W_alter_38 (by decide) ?_
          exact sv_zretc rfl (by decide) d_W_alter_39
        · refine sv_iconst (x := (1 : Int32)) d_W_alter_34 (by decide) ?_
          refine sv_goto 39 d_W_alter_35 rfl ?_
          exact sv_zretc rfl (by decide) d_W_alter_39
def f_W_tick_l42 (l1 : Int32) (l2 : Int32) (l4 : Int32) (l5 : Int32) (v : sv_T) : Option ((Int32 × sv_T) ⊕ (sv_T)) :=
  if l5 < l4 then
  sv_ck l5 2 <| sv_lr (List.getD [9, 42] l5.toNatClampNeg 0) fun r2 =>
  sv_to r2 2 <|
  sv_bv (f_Host_passTick r2 v) fun v3 =>
  sv_bi (f_Host_sendOut r2 v3) fun x5 v4 =>
  sv_le (l5 + (1 : Int32)) fun x6 =>
  some (.inl (x6, v4))
  else
  some (.inr v)
def f_W_tick_x72 (l1 : Int32) (l2 : Int32) (v : sv_T) : Option ((Int32 × sv_T) ⊕ (sv_T)) :=
  sv_le (l2 + (1 : Int32)) fun x7 =>
  some (.inl (x7, v))
def f_W_tick_l15 (l1 : Int32) (l2 : Int32) (v : sv_T) : Option ((Int32 × sv_T) ⊕ (sv_T)) :=
  if l2 < l1 then
  sv_ls (sv_up v 0 2 ((v 0 2) + (1 : Int32))) fun v1 =>
  Option.bind (sv_loop (fun (s : Int32 × sv_T) => f_W_tick_l42 l1 l2 (2 : Int32) s.1 (s.2)) 100000 ((0 : Int32), v1)) (fun (s : sv_T) => f_W_tick_x72 l1 l2 s)
  else
  some (.inr v)
def f_W_tick_x78  (v : sv_T) : Option (Int32 × sv_T) :=
  some ((v 0 2), v)
def f_W_tick (a1 : Int32) (v : sv_T) : Option (Int32 × sv_T) :=
  if a1 < (1 : Int32) then
  some ((-1 : Int32), v)
  else
  if (60 : Int32) < a1 then
  some ((-1 : Int32), v)
  else
  Option.bind (sv_loop (fun (s : Int32 × sv_T) => f_W_tick_l15 a1 s.1 (s.2)) 100000 ((0 : Int32), v)) (fun (s : sv_T) => f_W_tick_x78  s)
set_option maxHeartbeats 4000000 in
set_option maxRecDepth 100000 in
theorem c_W_tick_l42 (d : Nat) (l1 : Int32) (l2 : Int32) (l4 : Int32) (l5 : Int32) (v : sv_T)  : sv_Ref (d + 7) 116 42 [some (.ref 0), some (.int l1), some (.int l2), some (.ref 8), some (.int l4), some (.int l5), none] [] v (f_W_tick_l42 l1 l2 l4 l5 v) (sv_Zl (d + 7) 116 42 (fun (s : Int32 × sv_T) => [some (.ref 0), some (.int l1), some (.int l2), some (.ref 8), some (.int l4), some (.int s.1), none]) (fun (s : Int32 × sv_T) => s.2) (sv_Zt (d + 7) 116 72 (fun (s : sv_T) => [some (.ref 0), some (.int l1), some (.int l2), none, none, none, none]) (fun (s : sv_T) => s))) := by
  unfold f_W_tick_l42
  refine sv_iload d_W_tick_42 rfl ?_
  refine sv_iload d_W_tick_44 rfl ?_
  refine sv_icmp_ge 72 d_W_tick_46 rfl ?_ ?_
  · exact sv_leave v rfl ⟨rfl, rfl, rfl, trivial⟩ rfl
  · refine sv_aload_n d_W_tick_49 rfl ?_
    refine sv_iload d_W_tick_50 rfl ?_
    refine sv_aald d_W_tick_52 rfl sq_8 (fun r2 => ?_)
    refine sv_toR (fun hr2 => ?_)
    refine sv_astore (ls' := [some (.ref 0), some (.int l1), some (.int l2), some (.ref 8), some (.int l4), some (.int l5), some (.ref r2)]) d_W_tick_53 (by decide) rfl ?_
    refine sv_aload d_W_tick_55 rfl ?_
    refine sv_callVv (d := d + 6) (as := []) d_W_tick_57 (wv_W_98 mc_116) hr2 ⟨_, rfl, rfl⟩ rfl (Nat.le_of_ble_eq_true rfl) rfl (c_Host_passTick (d + 0) r2 v hr2) (fun v3 => ?_)
    refine sv_aload d_W_tick_60 rfl ?_
    refine sv_callVi (d := d + 6) (as := []) d_W_tick_62 (wv_W_47 mc_116) hr2 ⟨_, rfl, rfl⟩ rfl (Nat.le_of_ble_eq_true rfl) rfl (c_Host_sendOut (d + 0) r2 v3 hr2) (fun x5 v4 => ?_)
    refine sv_pop d_W_tick_65 ?_
    refine sv_iinc (ls' := fun x6 => [some (.ref 0), some (.int l1), some (.int l2), some (.ref 8), some (.int l4), some (.int x6), some (.ref r2)]) (y := (1 : Int32)) d_W_tick_66 rfl (by decide) (fun _ => rfl) (fun x6 => ?_)
    refine sv_goto 42 d_W_tick_69 rfl ?_
    exact sv_next (x6, v4) ⟨rfl, rfl, rfl, rfl, rfl, rfl, trivial⟩ rfl
set_option maxHeartbeats 4000000 in
set_option maxRecDepth 100000 in
theorem c_W_tick_x72 (d : Nat) (l1 : Int32) (l2 : Int32) (v : sv_T)  : sv_Ref (d + 7) 116 72 [some (.ref 0), some (.int l1), some (.int l2), none, none, none, none] [] v (f_W_tick_x72 l1 l2 v) (sv_Zl (d + 7) 116 15 (fun (s : Int32 × sv_T) => [some (.ref 0), some (.int l1), some (.int s.1), none, none, none, none]) (fun (s : Int32 × sv_T) => s.2) (sv_Zt (d + 7) 116 78 (fun (s : sv_T) => [some (.ref 0), none, none, none, none, none, none]) (fun (s : sv_T) => s))) := by
  unfold f_W_tick_x72
  refine sv_iinc (ls' := fun x7 => [some (.ref 0), some (.int l1), some (.int x7), none, none, none, none]) (y := (1 : Int32)) d_W_tick_72 rfl (by decide) (fun _ => rfl) (fun x7 => ?_)
  refine sv_goto 15 d_W_tick_75 rfl ?_
  exact sv_next (x7, v) ⟨rfl, rfl, rfl, trivial⟩ rfl
set_option maxHeartbeats 4000000 in
set_option maxRecDepth 100000 in
theorem c_W_tick_l15 (d : Nat) (l1 : Int32) (l2 : Int32) (v : sv_T)  : sv_Ref (d + 7) 116 15 [some (.ref 0), some (.int l1), some (.int l2), none, none, none, none] [] v (f_W_tick_l15 l1 l2 v) (sv_Zl (d + 7) 116 15 (fun (s : Int32 × sv_T) => [some (.ref 0), some (.int l1), some (.int s.1), none, none, none, none]) (fun (s : Int32 × sv_T) => s.2) (sv_Zt (d + 7) 116 78 (fun (s : sv_T) => [some (.ref 0), none, none, none, none, none, none]) (fun (s : sv_T) => s))) := by
  unfold f_W_tick_l15
  refine sv_iload_n d_W_tick_15 rfl ?_
  refine sv_iload_n d_W_tick_16 rfl ?_
  refine sv_icmp_ge 78 d_W_tick_17 rfl ?_ ?_
  · exact sv_leave v rfl ⟨rfl, trivial⟩ rfl
  · refine sv_aload_n d_W_tick_20 rfl ?_
    refine sv_dup d_W_tick_21 ?_
    refine sv_geti d_W_tick_22 (gf_W_39 mc_116) so_0 (sd_0_2 so_0) ?_
    refine sv_iconst (x := (1 : Int32)) d_W_tick_25 (by decide) ?_
    refine sv_iadd d_W_tick_26 ?_
    refine sv_puti d_W_tick_27 (pf_W_39 mc_116) so_0 (sd_0_2 so_0) (fun v1 => ?_)
    refine sv_aload_n d_W_tick_30 rfl ?_
    refine sv_getr d_W_tick_31 (gf_W_25 mc_116) so_0 sm_0_1 ?_
    refine sv_astore_n (ls' := [some (.ref 0), some (.int l1), some (.int l2), some (.ref 8), none, none, none]) d_W_tick_34 (by decide) rfl ?_
    refine sv_aload_n d_W_tick_35 rfl ?_
    refine sv_alenq (x := (2 : Int32)) d_W_tick_36 sq_8 (by decide) (by decide) ?_
    refine sv_istore (ls' := [some (.ref 0), some (.int l1), some (.int l2), some (.ref 8), some (.int (2 : Int32)), none, none]) d_W_tick_37 (by decide) rfl ?_
    refine sv_iconst (x := (0 : Int32)) d_W_tick_39 (by decide) ?_
    refine sv_istore (ls' := [some (.ref 0), some (.int l1), some (.int l2), some (.ref 8), some (.int (2 : Int32)), some (.int (0 : Int32)), none]) d_W_tick_40 (by decide) rfl ?_
    exact sv_seq (xt := 72) (L := (fun (s : sv_T) => [some (.ref 0), some (.int l1), some (.int l2), none, none, none, none])) (S := (fun (s : sv_T) => s)) (sv_loopR (L := (fun (s : Int32 × sv_T) => [some (.ref 0), some (.int l1), some (.int l2), some (.ref 8), some (.int (2 : Int32)), some (.int s.1), none])) (S := (fun (s : Int32 × sv_T) => s.2)) (fun s => c_W_tick_l42 d l1 l2 (2 : Int32) s.1 (s.2) ) 100000 ((0 : Int32), v1)) (fun s => c_W_tick_x72 d l1 l2 s )
set_option maxHeartbeats 4000000 in
set_option maxRecDepth 100000 in
theorem c_W_tick_x78 (d : Nat)  (v : sv_T)  : sv_Ref (d + 7) 116 78 [some (.ref 0), none, none, none, none, none, none] [] v (f_W_tick_x78  v) (sv_Zi) := by
  unfold f_W_tick_x78
  refine sv_aload_n d_W_tick_78 rfl ?_
  refine sv_geti d_W_tick_79 (gf_W_39 mc_116) so_0 (sd_0_2 so_0) ?_
  exact sv_iret rfl d_W_tick_82
set_option maxHeartbeats 4000000 in
set_option maxRecDepth 100000 in
theorem c_W_tick (d : Nat) (a1 : Int32) (v : sv_T)  : sv_Cl (d + 7) 116 [.ref 0, .int a1] v (f_W_tick a1 v) sv_Zi := by
  refine sv_spec (ls0 := [some (.ref 0), some (.int a1), none, none, none, none, none]) mp_116 (Nat.le_of_ble_eq_true rfl) rfl ?_
  unfold f_W_tick
  refine sv_iload_n d_W_tick_0 rfl ?_
  refine sv_iconst (x := (1 : Int32)) d_W_tick_1 (by decide) ?_
  refine sv_icmp_lt 11 d_W_tick_2 rfl ?_ ?_
  · refine sv_iconst (x := (-1 : Int32)) d_W_tick_11 (by decide) ?_
    exact sv_iret rfl d_W_tick_12
  · refine sv_iload_n d_W_tick_5 rfl ?_
    refine sv_bipush (x := (60 : Int32)) d_W_tick_6 (by decide) ?_
    refine sv_icmp_le 13 d_W_tick_8 rfl ?_ ?_
    · refine sv_iconst (x := (0 : Int32)) d_W_tick_13 (by decide) ?_
      refine sv_istore_n (ls' := [some (.ref 0), some (.int a1), some (.int (0 : Int32)), none, none, none, none]) d_W_tick_14 (by decide) rfl ?_
      exact sv_seq (xt := 78) (L := (fun (s : sv_T) => [some (.ref 0), none, none, none, none, none, none])) (S := (fun (s : sv_T) => s)) (sv_loopR (L := (fun (s : Int32 × sv_T) => [some (.ref 0), some (.int a1), some (.int s.1), none, none, none, none])) (S := (fun (s : Int32 × sv_T) => s.2)) (fun s => c_W_tick_l15 d a1 s.1 (s.2) ) 100000 ((0 : Int32), v)) (fun s => c_W_tick_x78 d  s )
    · refine sv_iconst (x := (-1 : Int32)) d_W_tick_11 (by decide) ?_
      exact sv_iret rfl d_W_tick_12
def f_W_octet (a1 : Int32) (a2 : Int32) (a3 : Int32) (v : sv_T) : Option (Int32 × sv_T) :=
  sv_bi (f_W_isHost a1 v) fun x2 v1 =>
  if x2 = 0 then
  some ((-1 : Int32), v1)
  else
  if a3 = (-1 : Int32) then
  sv_ck a1 2 <| sv_lr (List.getD [1, 4] a1.toNatClampNeg 0) fun r6 =>
  sv_to r6 1 <|
  sv_bi (f_Rows_sizeOf r6 a2 v1) fun x8 v7 =>
  some (x8, v7)
  else
  sv_ck a1 2 <| sv_lr (List.getD [1, 4] a1.toNatClampNeg 0) fun r3 =>
  sv_to r3 1 <|
  sv_bi (f_Rows_at r3 a2 a3 v1) fun x5 v4 =>
  some (x5, v4)
set_option maxHeartbeats 4000000 in
set_option maxRecDepth 100000 in
theorem c_W_octet (d : Nat) (a1 : Int32) (a2 : Int32) (a3 : Int32) (v : sv_T)  : sv_Cl (d + 2) 124 [.ref 0, .int a1, .int a2, .int a3] v (f_W_octet a1 a2 a3 v) sv_Zi := by
  refine sv_spec (ls0 := [some (.ref 0), some (.int a1), some (.int a2), some (.int a3)]) mp_124 (Nat.le_of_ble_eq_true rfl) rfl ?_
  unfold f_W_octet
  refine sv_aload_n d_W_octet_0 rfl ?_
  refine sv_iload_n d_W_octet_1 rfl ?_
  refine sv_callVi (d := d + 1) (as := [.int a1]) d_W_octet_2 (wv_W_63 mc_124) so_0 ⟨_, rfl, rfl⟩ rfl (Nat.le_of_ble_eq_true rfl) rfl (c_W_isHost (d + 1) a1 v ) (fun x2 v1 => ?_)
  refine sv_if_ne 10 d_W_octet_5 rfl ?_ ?_
  · refine sv_iload_n d_W_octet_10 rfl ?_
    refine sv_iconst (x := (-1 : Int32)) d_W_octet_11 (by decide) ?_
    refine sv_icmp_ne 28 d_W_octet_12 rfl ?_ ?_
    · refine sv_aload_n d_W_octet_28 rfl ?_
      refine sv_getr d_W_octet_29 (gf_W_16 mc_124) so_0 sm_0_0 ?_
      refine sv_iload_n d_W_octet_32 rfl ?_
      refine sv_aald d_W_octet_33 rfl sq_7 (fun r3 => ?_)
      refine sv_toR (fun hr3 => ?_)
      refine sv_iload_n d_W_octet_34 rfl ?_
      refine sv_iload_n d_W_octet_35 rfl ?_
      refine sv_callVi (d := d + 1) (as := [.int a2, .int a3]) d_W_octet_36 (wv_W_74 mc_124) hr3 ⟨_, rfl, rfl⟩ rfl (Nat.le_of_ble_eq_true rfl) rfl (c_Rows_at (d + 0) r3 a2 a3 v1 hr3) (fun x5 v4 => ?_)
      exact sv_iret rfl d_W_octet_39
    · refine sv_aload_n d_W_octet_15 rfl ?_
      refine sv_getr d_W_octet_16 (gf_W_16 mc_124) so_0 sm_0_0 ?_
      refine sv_iload_n d_W_octet_19 rfl ?_
      refine sv_aald d_W_octet_20 rfl sq_7 (fun r6 => ?_)
      refine sv_toR (fun hr6 => ?_)
      refine sv_iload_n d_W_octet_21 rfl ?_
      refine sv_callVi (d := d + 1) (as := [.int a2]) d_W_octet_22 (wv_W_104 mc_124) hr6 ⟨_, rfl, rfl⟩ rfl (Nat.le_of_ble_eq_true rfl) rfl (c_Rows_sizeOf (d + 1) r6 a2 v1 hr6) (fun x8 v7 => ?_)
      refine sv_goto 39 d_W_octet_25 rfl ?_
      exact sv_iret rfl d_W_octet_39
  · refine sv_iconst (x := (-1 : Int32)) d_W_octet_8 (by decide) ?_
    exact sv_iret rfl d_W_octet_9
def f_W_socket (a1 : Int32) (a2 : Int32) (a3 : Int32) (v : sv_T) : Option (Int32 × sv_T) :=
  sv_bo (f_W_endpointAt a1 a2 v) (fun v1 =>
  some ((-1 : Int32), v1)) (fun r3 v2 =>
  sv_to r3 7 <|
  sv_bi (f_Ep_about r3 a3 v2) fun x5 v4 =>
  some (x5, v4))
set_option maxHeartbeats 4000000 in
set_option maxRecDepth 100000 in
theorem c_W_socket (d : Nat) (a1 : Int32) (a2 : Int32) (a3 : Int32) (v : sv_T)  : sv_Cl (d + 2) 125 [.ref 0, .int a1, .int a2, .int a3] v (f_W_socket a1 a2 a3 v) sv_Zi := by
  refine sv_spec (ls0 := [some (.ref 0), some (.int a1), some (.int a2), some (.int a3), none]) mp_125 (Nat.le_of_ble_eq_true rfl) rfl ?_
  unfold f_W_socket
  refine sv_aload_n d_W_socket_0 rfl ?_
  refine sv_iload_n d_W_socket_1 rfl ?_
  refine sv_iload_n d_W_socket_2 rfl ?_
  refine sv_callVr (d := d + 1) (as := [.int a1, .int a2]) d_W_socket_3 (wv_W_29 mc_125) so_0 ⟨_, rfl, rfl⟩ rfl (Nat.le_of_ble_eq_true rfl) rfl (c_W_endpointAt (d + 0) a1 a2 v ) (fun v1 => ?_) (fun r3 v2 => ?_)
  · refine sv_astoreN (ls' := [some (.ref 0), some (.int a1), some (.int a2), some (.int a3), some (.null)]) d_W_socket_6 (by decide) rfl ?_
    refine sv_aloadN d_W_socket_8 rfl ?_
    refine sv_ifnonnullN d_W_socket_10 ?_
    refine sv_iconst (x := (-1 : Int32)) d_W_socket_13 (by decide) ?_
    refine sv_goto 23 d_W_socket_14 rfl ?_
    exact sv_iret rfl d_W_socket_23
  · refine sv_toR (fun hr3 => ?_)
    refine sv_astore (ls' := [some (.ref 0), some (.int a1), some (.int a2), some (.int a3), some (.ref r3)]) d_W_socket_6 (by decide) rfl ?_
    refine sv_aload d_W_socket_8 rfl ?_
    refine sv_ifnonnull 17 d_W_socket_10 rfl ?_
    refine sv_aload d_W_socket_17 rfl ?_
    refine sv_iload_n d_W_socket_19 rfl ?_
    refine sv_callVi (d := d + 1) (as := [.int a3]) d_W_socket_20 (wv_W_107 mc_125) hr3 ⟨_, rfl, rfl⟩ rfl (Nat.le_of_ble_eq_true rfl) rfl (c_Ep_about (d + 1) r3 a3 v2 hr3) (fun x5 v4 => ?_)
    exact sv_iret rfl d_W_socket_23
def f_W_host (a1 : Int32) (a2 : Int32) (v : sv_T) : Option (Int32 × sv_T) :=
  sv_bi (f_W_isHost a1 v) fun x2 v1 =>
  if x2 = 0 then
  some ((-1 : Int32), v1)
  else
  sv_ck a1 2 <| sv_lr (List.getD [9, 42] a1.toNatClampNeg 0) fun r3 =>
  sv_to r3 2 <|
  sv_bi (f_Host_about r3 a2 v1) fun x5 v4 =>
  some (x5, v4)
set_option maxHeartbeats 4000000 in
set_option maxRecDepth 100000 in
theorem c_W_host (d : Nat) (a1 : Int32) (a2 : Int32) (v : sv_T)  : sv_Cl (d + 2) 127 [.ref 0, .int a1, .int a2] v (f_W_host a1 a2 v) sv_Zi := by
  refine sv_spec (ls0 := [some (.ref 0), some (.int a1), some (.int a2)]) mp_127 (Nat.le_of_ble_eq_true rfl) rfl ?_
  unfold f_W_host
  refine sv_aload_n d_W_host_0 rfl ?_
  refine sv_iload_n d_W_host_1 rfl ?_
  refine sv_callVi (d := d + 1) (as := [.int a1]) d_W_host_2 (wv_W_63 mc_127) so_0 ⟨_, rfl, rfl⟩ rfl (Nat.le_of_ble_eq_true rfl) rfl (c_W_isHost (d + 1) a1 v ) (fun x2 v1 => ?_)
  refine sv_if_eq 21 d_W_host_5 rfl ?_ ?_
  · refine sv_iconst (x := (-1 : Int32)) d_W_host_21 (by decide) ?_
    exact sv_iret rfl d_W_host_22
  · refine sv_aload_n d_W_host_8 rfl ?_
    refine sv_getr d_W_host_9 (gf_W_25 mc_127) so_0 sm_0_1 ?_
    refine sv_iload_n d_W_host_12 rfl ?_
    refine sv_aald d_W_host_13 rfl sq_8 (fun r3 => ?_)
    refine sv_toR (fun hr3 => ?_)
    refine sv_iload_n d_W_host_14 rfl ?_
    refine sv_callVi (d := d + 1) (as := [.int a2]) d_W_host_15 (wv_W_110 mc_127) hr3 ⟨_, rfl, rfl⟩ rfl (Nat.le_of_ble_eq_true rfl) rfl (c_Host_about (d + 0) r3 a2 v1 hr3) (fun x5 v4 => ?_)
    refine sv_goto 22 d_W_host_18 rfl ?_
    exact sv_iret rfl d_W_host_22
