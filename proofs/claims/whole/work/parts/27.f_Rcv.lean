def f_Rcv_room (q : Nat) (v : sv_T) : Option (Int32 × sv_T) :=
  some (((24 : Int32) - (v q 2)), v)
set_option maxHeartbeats 4000000 in
set_option maxRecDepth 100000 in
theorem c_Rcv_room (d : Nat) (q : Nat) (v : sv_T) (hq : sv_isO (sg q) 9 = true) : sv_Cl (d + 0) 24 [.ref q] v (f_Rcv_room q v) sv_Zi := by
  refine sv_spec (ls0 := [some (.ref q)]) mp_24 (Nat.le_of_ble_eq_true rfl) rfl ?_
  unfold f_Rcv_room
  refine sv_bipush (x := (24 : Int32)) d_Rcv_room_0 (by decide) ?_
  refine sv_aload_n d_Rcv_room_2 rfl ?_
  refine sv_geti d_Rcv_room_3 (gf_Rcv_28 mc_24) hq (sd_9_2 hq) ?_
  refine sv_isub d_Rcv_room_6 ?_
  exact sv_iret rfl d_Rcv_room_7
def f_Rcv_takeFirst (q : Nat) (v : sv_T) : Option (Int32 × sv_T) :=
  if (v q 2) = 0 then
  some ((-1 : Int32), v)
  else
  sv_le ((v (sv_ref (sg q) 0) 0)) fun x1 =>
  sv_ls (sv_up v q 2 ((v q 2) - (1 : Int32))) fun v2 =>
  sv_cc (1 : Int32) (0 : Int32) (v2 q 2) 24 24 <| sv_ls (sv_cp v2 (sv_ref (sg q) 0) (1 : Int32).toNatClampNeg (sv_ref (sg q) 0) (0 : Int32).toNatClampNeg (v2 q 2).toNatClampNeg) fun v3 =>
  some (x1, v3)
set_option maxHeartbeats 4000000 in
set_option maxRecDepth 100000 in
theorem c_Rcv_takeFirst (d : Nat) (q : Nat) (v : sv_T) (hq : sv_isO (sg q) 9 = true) : sv_Cl (d + 1) 53 [.ref q] v (f_Rcv_takeFirst q v) sv_Zi := by
  refine sv_spec (ls0 := [some (.ref q), none]) mp_53 (Nat.le_of_ble_eq_true rfl) rfl ?_
  unfold f_Rcv_takeFirst
  refine sv_aload_n d_Rcv_takeFirst_0 rfl ?_
  refine sv_geti d_Rcv_takeFirst_1 (gf_Rcv_28 mc_53) hq (sd_9_2 hq) ?_
  refine sv_if_ne 9 d_Rcv_takeFirst_4 rfl ?_ ?_
  · refine sv_aload_n d_Rcv_takeFirst_9 rfl ?_
    refine sv_getr d_Rcv_takeFirst_10 (gf_Rcv_11 mc_53) hq (sr_9_0 hq) ?_
    refine sv_iconst (x := (0 : Int32)) d_Rcv_takeFirst_13 (by decide) ?_
    refine sv_ialdc (m := 0) d_Rcv_takeFirst_14 (st_9_0 hq) (by decide) rfl ?_
    refine sv_leR (fun x1 => ?_)
    refine sv_istore_n (ls' := [some (.ref q), some (.int x1)]) d_Rcv_takeFirst_15 (by decide) rfl ?_
    refine sv_aload_n d_Rcv_takeFirst_16 rfl ?_
    refine sv_dup d_Rcv_takeFirst_17 ?_
    refine sv_geti d_Rcv_takeFirst_18 (gf_Rcv_28 mc_53) hq (sd_9_2 hq) ?_
    refine sv_iconst (x := (1 : Int32)) d_Rcv_takeFirst_21 (by decide) ?_
    refine sv_isub d_Rcv_takeFirst_22 ?_
    refine sv_puti d_Rcv_takeFirst_23 (pf_Rcv_28 mc_53) hq (sd_9_2 hq) (fun v2 => ?_)
    refine sv_aload_n d_Rcv_takeFirst_26 rfl ?_
    refine sv_getr d_Rcv_takeFirst_27 (gf_Rcv_11 mc_53) hq (sr_9_0 hq) ?_
    refine sv_iconst (x := (1 : Int32)) d_Rcv_takeFirst_30 (by decide) ?_
    refine sv_aload_n d_Rcv_takeFirst_31 rfl ?_
    refine sv_getr d_Rcv_takeFirst_32 (gf_Rcv_11 mc_53) hq (sr_9_0 hq) ?_
    refine sv_iconst (x := (0 : Int32)) d_Rcv_takeFirst_35 (by decide) ?_
    refine sv_aload_n d_Rcv_takeFirst_36 rfl ?_
    refine sv_geti d_Rcv_takeFirst_37 (gf_Rcv_28 mc_53) hq (sd_9_2 hq) ?_
    refine sv_copy (d := d + 0) d_Rcv_takeFirst_40 (wc_Rcv_64 mc_53) (Nat.le_of_ble_eq_true rfl) (st_9_0 hq) (st_9_0 hq) (fun v3 => ?_)
    refine sv_iload_n d_Rcv_takeFirst_43 rfl ?_
    exact sv_iret rfl d_Rcv_takeFirst_44
  · refine sv_iconst (x := (-1 : Int32)) d_Rcv_takeFirst_7 (by decide) ?_
    exact sv_iret rfl d_Rcv_takeFirst_8
def f_Rcv_clear (q : Nat) (v : sv_T) : Option (sv_T) :=
  sv_bv (f_Arrays_fill (sv_ref (sg q) 1) (-1 : Int32) v) fun v1 =>
  sv_ls (sv_up v1 q 2 (0 : Int32)) fun v2 =>
  sv_ls (sv_up v2 q 3 (0 : Int32)) fun v3 =>
  sv_ls (sv_up v3 q 4 (-1 : Int32)) fun v4 =>
  some v4
set_option maxHeartbeats 4000000 in
set_option maxRecDepth 100000 in
theorem c_Rcv_clear (d : Nat) (q : Nat) (v : sv_T) (hq : sv_isO (sg q) 9 = true) : sv_Cl (d + 1) 60 [.ref q] v (f_Rcv_clear q v) sv_Zv := by
  refine sv_spec (ls0 := [some (.ref q)]) mp_60 (Nat.le_of_ble_eq_true rfl) rfl ?_
  unfold f_Rcv_clear
  refine sv_aload_n d_Rcv_clear_0 rfl ?_
  refine sv_getr d_Rcv_clear_1 (gf_Rcv_15 mc_60) hq (sr_9_1 hq) ?_
  refine sv_iconst (x := (-1 : Int32)) d_Rcv_clear_4 (by decide) ?_
  refine sv_callSv (d := d + 0) (as := [.ref (sv_ref (sg q) 1), .int (-1 : Int32)]) d_Rcv_clear_5 (ws_Rcv_18 mc_60)  rfl (Nat.le_of_ble_eq_true rfl) rfl (c_Arrays_fill (d + 0) (sv_ref (sg q) 1) (-1 : Int32) v (sv_isAl (st_9_1 hq))) (fun v1 => ?_)
  refine sv_aload_n d_Rcv_clear_8 rfl ?_
  refine sv_iconst (x := (0 : Int32)) d_Rcv_clear_9 (by decide) ?_
  refine sv_puti d_Rcv_clear_10 (pf_Rcv_28 mc_60) hq (sd_9_2 hq) (fun v2 => ?_)
  refine sv_aload_n d_Rcv_clear_13 rfl ?_
  refine sv_iconst (x := (0 : Int32)) d_Rcv_clear_14 (by decide) ?_
  refine sv_puti d_Rcv_clear_15 (pf_Rcv_31 mc_60) hq (sd_9_3 hq) (fun v3 => ?_)
  refine sv_aload_n d_Rcv_clear_18 rfl ?_
  refine sv_iconst (x := (-1 : Int32)) d_Rcv_clear_19 (by decide) ?_
  refine sv_puti d_Rcv_clear_20 (pf_Rcv_24 mc_60) hq (sd_9_4 hq) (fun v4 => ?_)
  exact sv_vret rfl d_Rcv_clear_23
def f_Rcv_startAfter (q : Nat) (a1 : Int32) (v : sv_T) : Option (sv_T) :=
  sv_ls (sv_up v q 3 ((a1 + (1 : Int32)) &&& (65535 : Int32))) fun v1 =>
  some v1
set_option maxHeartbeats 4000000 in
set_option maxRecDepth 100000 in
theorem c_Rcv_startAfter (d : Nat) (q : Nat) (a1 : Int32) (v : sv_T) (hq : sv_isO (sg q) 9 = true) : sv_Cl (d + 0) 92 [.ref q, .int a1] v (f_Rcv_startAfter q a1 v) sv_Zv := by
  refine sv_spec (ls0 := [some (.ref q), some (.int a1)]) mp_92 (Nat.le_of_ble_eq_true rfl) rfl ?_
  unfold f_Rcv_startAfter
  refine sv_aload_n d_Rcv_startAfter_0 rfl ?_
  refine sv_iload_n d_Rcv_startAfter_1 rfl ?_
  refine sv_iconst (x := (1 : Int32)) d_Rcv_startAfter_2 (by decide) ?_
  refine sv_iadd d_Rcv_startAfter_3 ?_
  refine sv_ldc d_Rcv_startAfter_4 tw_674 ?_
  refine sv_iand d_Rcv_startAfter_6 ?_
  refine sv_puti d_Rcv_startAfter_7 (pf_Rcv_31 mc_92) hq (sd_9_3 hq) (fun v1 => ?_)
  exact sv_vret rfl d_Rcv_startAfter_10
def f_Rcv_isNear (q : Nat) (a1 : Int32) (a2 : Int32) (v : sv_T) : Option (Int32 × sv_T) :=
  if ((a1 - (v q 3)) &&& (65535 : Int32)) < a2 then
  some ((1 : Int32), v)
  else
  some ((0 : Int32), v)
set_option maxHeartbeats 4000000 in
set_option maxRecDepth 100000 in
theorem c_Rcv_isNear (d : Nat) (q : Nat) (a1 : Int32) (a2 : Int32) (v : sv_T) (hq : sv_isO (sg q) 9 = true) : sv_Cl (d + 0) 98 [.ref q, .int a1, .int a2] v (f_Rcv_isNear q a1 a2 v) sv_Zi := by
  refine sv_spec (ls0 := [some (.ref q), some (.int a1), some (.int a2)]) mp_98 (Nat.le_of_ble_eq_true rfl) rfl ?_
  unfold f_Rcv_isNear
  refine sv_iload_n d_Rcv_isNear_0 rfl ?_
  refine sv_aload_n d_Rcv_isNear_1 rfl ?_
  refine sv_geti d_Rcv_isNear_2 (gf_Rcv_31 mc_98) hq (sd_9_3 hq) ?_
  refine sv_isub d_Rcv_isNear_5 ?_
  refine sv_ldc d_Rcv_isNear_6 tw_674 ?_
  refine sv_iand d_Rcv_isNear_8 ?_
  refine sv_iload_n d_Rcv_isNear_9 rfl ?_
  refine sv_icmp_ge 17 d_Rcv_isNear_10 rfl ?_ ?_
  · refine sv_iconst (x := (0 : Int32)) d_Rcv_isNear_17 (by decide) ?_
    exact sv_zretc rfl (by decide) d_Rcv_isNear_18
  · refine sv_iconst (x := (1 : Int32)) d_Rcv_isNear_13 (by decide) ?_
    refine sv_goto 18 d_Rcv_isNear_14 rfl ?_
    exact sv_zretc rfl (by decide) d_Rcv_isNear_18
def f_Rcv_fits (q : Nat) (a1 : Nat) (v : sv_T) : Option (Int32 × sv_T) :=
  sv_bi (f_Seg_length a1 v) fun x2 v1 =>
  if x2 = 0 then
  if (v1 a1 4) = (v1 q 3) then
  some ((1 : Int32), v1)
  else
  sv_bi (f_Rcv_room q v1) fun x12 v11 =>
  sv_bi (f_Rcv_isNear q (v1 a1 4) x12 v11) fun x14 v13 =>
  if x14 = 0 then
  some ((0 : Int32), v13)
  else
  some ((1 : Int32), v13)
  else
  sv_bi (f_Rcv_room q v1) fun x4 v3 =>
  sv_bi (f_Rcv_isNear q (v1 a1 4) x4 v3) fun x6 v5 =>
  if x6 = 0 then
  sv_bi (f_Rcv_room q v5) fun x8 v7 =>
  sv_bi (f_Rcv_isNear q (((v5 a1 4) + x2) - (1 : Int32)) x8 v7) fun x10 v9 =>
  if x10 = 0 then
  some ((0 : Int32), v9)
  else
  some ((1 : Int32), v9)
  else
  some ((1 : Int32), v5)
set_option maxHeartbeats 4000000 in
set_option maxRecDepth 100000 in
theorem c_Rcv_fits (d : Nat) (q : Nat) (a1 : Nat) (v : sv_T) (hq : sv_isO (sg q) 9 = true) (ha1 : sv_isO (sg a1) 6 = true) : sv_Cl (d + 2) 97 [.ref q, .ref a1] v (f_Rcv_fits q a1 v) sv_Zi := by
  refine sv_spec (ls0 := [some (.ref q), some (.ref a1), none]) mp_97 (Nat.le_of_ble_eq_true rfl) rfl ?_
  unfold f_Rcv_fits
  refine sv_aload_n d_Rcv_fits_0 rfl ?_
  refine sv_callVi (d := d + 1) (as := []) d_Rcv_fits_1 (wv_Rcv_37 mc_97) ha1 ⟨_, rfl, rfl⟩ rfl (Nat.le_of_ble_eq_true rfl) rfl (c_Seg_length (d + 0) a1 v ha1) (fun x2 v1 => ?_)
  refine sv_istore_n (ls' := [some (.ref q), some (.ref a1), some (.int x2)]) d_Rcv_fits_4 (by decide) rfl ?_
  refine sv_iload_n d_Rcv_fits_5 rfl ?_
  refine sv_if_ne 41 d_Rcv_fits_6 rfl ?_ ?_
  · refine sv_aload_n d_Rcv_fits_41 rfl ?_
    refine sv_aload_n d_Rcv_fits_42 rfl ?_
    refine sv_geti d_Rcv_fits_43 (gf_Rcv_43 mc_97) ha1 (sd_6_4 ha1) ?_
    refine sv_aload_n d_Rcv_fits_46 rfl ?_
    refine sv_callVi (d := d + 1) (as := []) d_Rcv_fits_47 (wv_Rcv_46 mc_97) hq ⟨_, rfl, rfl⟩ rfl (Nat.le_of_ble_eq_true rfl) rfl (c_Rcv_room (d + 1) q v1 hq) (fun x4 v3 => ?_)
    refine sv_callVi (d := d + 1) (as := [.int (v1 a1 4), .int x4]) d_Rcv_fits_50 (wv_Rcv_49 mc_97) hq ⟨_, rfl, rfl⟩ rfl (Nat.le_of_ble_eq_true rfl) rfl (c_Rcv_isNear (d + 1) q (v1 a1 4) x4 v3 hq) (fun x6 v5 => ?_)
    refine sv_if_ne 75 d_Rcv_fits_53 rfl ?_ ?_
    · refine sv_iconst (x := (1 : Int32)) d_Rcv_fits_75 (by decide) ?_
      refine sv_goto 80 d_Rcv_fits_76 rfl ?_
      exact sv_zretc rfl (by decide) d_Rcv_fits_80
    · refine sv_aload_n d_Rcv_fits_56 rfl ?_
      refine sv_aload_n d_Rcv_fits_57 rfl ?_
      refine sv_geti d_Rcv_fits_58 (gf_Rcv_43 mc_97) ha1 (sd_6_4 ha1) ?_
      refine sv_iload_n d_Rcv_fits_61 rfl ?_
      refine sv_iadd d_Rcv_fits_62 ?_
      refine sv_iconst (x := (1 : Int32)) d_Rcv_fits_63 (by decide) ?_
      refine sv_isub d_Rcv_fits_64 ?_
      refine sv_aload_n d_Rcv_fits_65 rfl ?_
      refine sv_callVi (d := d + 1) (as := []) d_Rcv_fits_66 (wv_Rcv_46 mc_97) hq ⟨_, rfl, rfl⟩ rfl (Nat.le_of_ble_eq_true rfl) rfl (c_Rcv_room (d + 1) q v5 hq) (fun x8 v7 => ?_)
      refine sv_callVi (d := d + 1) (as := [.int (((v5 a1 4) + x2) - (1 : Int32)), .int x8]) d_Rcv_fits_69 (wv_Rcv_49 mc_97) hq ⟨_, rfl, rfl⟩ rfl (Nat.le_of_ble_eq_true rfl) rfl (c_Rcv_isNear (d + 1) q (((v5 a1 4) + x2) - (1 : Int32)) x8 v7 hq) (fun x10 v9 => ?_)
      refine sv_if_eq 79 d_Rcv_fits_72 rfl ?_ ?_
      · refine sv_iconst (x := (0 : Int32)) d_Rcv_fits_79 (by decide) ?_
        exact sv_zretc rfl (by decide) d_Rcv_fits_80
      · refine sv_iconst (x := (1 : Int32)) d_Rcv_fits_75 (by decide) ?_
        refine sv_goto 80 d_Rcv_fits_76 rfl ?_
        exact sv_zretc rfl (by decide) d_Rcv_fits_80
  · refine sv_aload_n d_Rcv_fits_9 rfl ?_
    refine sv_geti d_Rcv_fits_10 (gf_Rcv_43 mc_97) ha1 (sd_6_4 ha1) ?_
    refine sv_aload_n d_Rcv_fits_13 rfl ?_
    refine sv_geti d_Rcv_fits_14 (gf_Rcv_31 mc_97) hq (sd_9_3 hq) ?_
    refine sv_icmp_eq 35 d_Rcv_fits_17 rfl ?_ ?_
    · refine sv_iconst (x := (1 : Int32)) d_Rcv_fits_35 (by decide) ?_
      refine sv_goto 40 d_Rcv_fits_36 rfl ?_
      exact sv_zretc rfl (by decide) d_Rcv_fits_40
    · refine sv_aload_n d_Rcv_fits_20 rfl ?_
      refine sv_aload_n d_Rcv_fits_21 rfl ?_
      refine sv_geti d_Rcv_fits_22 (gf_Rcv_43 mc_97) ha1 (sd_6_4 ha1) ?_
      refine sv_aload_n d_Rcv_fits_25 rfl ?_
      refine sv_callVi (d := d + 1) (as := []) d_Rcv_fits_26 (wv_Rcv_46 mc_97) hq ⟨_, rfl, rfl⟩ rfl (Nat.le_of_ble_eq_true rfl) rfl (c_Rcv_room (d + 1) q v1 hq) (fun x12 v11 => ?_)
      refine sv_callVi (d := d + 1) (as := [.int (v1 a1 4), .int x12]) d_Rcv_fits_29 (wv_Rcv_49 mc_97) hq ⟨_, rfl, rfl⟩ rfl (Nat.le_of_ble_eq_true rfl) rfl (c_Rcv_isNear (d + 1) q (v1 a1 4) x12 v11 hq) (fun x14 v13 => ?_)
      refine sv_if_eq 39 d_Rcv_fits_32 rfl ?_ ?_
      · refine sv_iconst (x := (0 : Int32)) d_Rcv_fits_39 (by decide) ?_
        exact sv_zretc rfl (by decide) d_Rcv_fits_40
      · refine sv_iconst (x := (1 : Int32)) d_Rcv_fits_35 (by decide) ?_
        refine sv_goto 40 d_Rcv_fits_36 rfl ?_
        exact sv_zretc rfl (by decide) d_Rcv_fits_40
def f_Rcv_keep_b63 (r0 : Nat) (r1 : Nat) (l2 : Int32) (l3 : Int32) (v : sv_T) : Option ((Int32 × sv_T) ⊕ (sv_T)) :=
  sv_le (l3 + (1 : Int32)) fun x6 =>
  some (.inl (x6, v))
def f_Rcv_keep_l7 (r0 : Nat) (r1 : Nat) (l2 : Int32) (l3 : Int32) (v : sv_T) : Option ((Int32 × sv_T) ⊕ (sv_T)) :=
  if l3 < (v r1 1) then
  sv_le ((((v r1 4) + l3) &&& (31 : Int32))) fun x3 =>
  sv_bi (f_Rcv_isNear r0 ((v r1 4) + l3) l2 v) fun x5 v4 =>
  if x5 = 0 then
  f_Rcv_keep_b63 r0 r1 l2 l3 v4
  else
  sv_ck x3 32 <|
  if (v4 (sv_ref (sg r0) 1) x3.toNatClampNeg) = (-1 : Int32) then
  sv_bi (f_Seg_dataAt r1 l3 v4) fun x8 v7 =>
  sv_ck x3 32 <| sv_ls (sv_up v7 (sv_ref (sg r0) 1) x3.toNatClampNeg x8) fun v9 =>
  f_Rcv_keep_b63 r0 r1 l2 l3 v9
  else
  f_Rcv_keep_b63 r0 r1 l2 l3 v4
  else
  some (.inr v)
def f_Rcv_keep_x69 (r0 : Nat) (r1 : Nat) (l2 : Int32) (v : sv_T) : Option (sv_T) :=
  sv_le ((((v r1 4) + (v r1 1)) &&& (65535 : Int32))) fun x10 =>
  sv_bi (f_Seg_has r1 (1 : Int32) v) fun x12 v11 =>
  if x12 = 0 then
  some v11
  else
  sv_bi (f_Rcv_isNear r0 x10 (l2 + (1 : Int32)) v11) fun x14 v13 =>
  if x14 = 0 then
  some v13
  else
  sv_ls (sv_up v13 r0 4 x10) fun v15 =>
  some v15
def f_Rcv_keep (q : Nat) (a1 : Nat) (v : sv_T) : Option (sv_T) :=
  sv_bi (f_Rcv_room q v) fun x2 v1 =>
  Option.bind (sv_loop (fun (s : Int32 × sv_T) => f_Rcv_keep_l7 q a1 x2 s.1 (s.2)) 100000 ((0 : Int32), v1)) (fun (s : sv_T) => f_Rcv_keep_x69 q a1 x2 s)
set_option maxHeartbeats 4000000 in
set_option maxRecDepth 100000 in
theorem c_Rcv_keep_b63 (d : Nat) (r0 : Nat) (r1 : Nat) (l2 : Int32) (l3 : Int32) (v : sv_T) (hr0 : sv_isO (sg r0) 9 = true) (hr1 : sv_isO (sg r1) 6 = true) : sv_Ref (d + 1) 106 63 [some (.ref r0), some (.ref r1), some (.int l2), some (.int l3), none] [] v (f_Rcv_keep_b63 r0 r1 l2 l3 v) (sv_Zl (d + 1) 106 7 (fun (s : Int32 × sv_T) => [some (.ref r0), some (.ref r1), some (.int l2), some (.int s.1), none]) (fun (s : Int32 × sv_T) => s.2) (sv_Zt (d + 1) 106 69 (fun (s : sv_T) => [some (.ref r0), some (.ref r1), some (.int l2), none, none]) (fun (s : sv_T) => s))) := by
  unfold f_Rcv_keep_b63
  refine sv_iinc (ls' := fun x6 => [some (.ref r0), some (.ref r1), some (.int l2), some (.int x6), none]) (y := (1 : Int32)) d_Rcv_keep_63 rfl (by decide) (fun _ => rfl) (fun x6 => ?_)
  refine sv_goto 7 d_Rcv_keep_66 rfl ?_
  exact sv_next (x6, v) ⟨rfl, rfl, rfl, rfl, trivial⟩ rfl
set_option maxHeartbeats 4000000 in
set_option maxRecDepth 100000 in
theorem c_Rcv_keep_l7 (d : Nat) (r0 : Nat) (r1 : Nat) (l2 : Int32) (l3 : Int32) (v : sv_T) (hr0 : sv_isO (sg r0) 9 = true) (hr1 : sv_isO (sg r1) 6 = true) : sv_Ref (d + 1) 106 7 [some (.ref r0), some (.ref r1), some (.int l2), some (.int l3), none] [] v (f_Rcv_keep_l7 r0 r1 l2 l3 v) (sv_Zl (d + 1) 106 7 (fun (s : Int32 × sv_T) => [some (.ref r0), some (.ref r1), some (.int l2), some (.int s.1), none]) (fun (s : Int32 × sv_T) => s.2) (sv_Zt (d + 1) 106 69 (fun (s : sv_T) => [some (.ref r0), some (.ref r1), some (.int l2), none, none]) (fun (s : sv_T) => s))) := by
  unfold f_Rcv_keep_l7
  refine sv_iload_n d_Rcv_keep_7 rfl ?_
  refine sv_aload_n d_Rcv_keep_8 rfl ?_
  refine sv_geti d_Rcv_keep_9 (gf_Rcv_53 mc_106) hr1 (sd_6_1 hr1) ?_
  refine sv_icmp_ge 69 d_Rcv_keep_12 rfl ?_ ?_
  · exact sv_leave v rfl ⟨rfl, rfl, rfl, trivial⟩ rfl
  · refine sv_aload_n d_Rcv_keep_15 rfl ?_
    refine sv_geti d_Rcv_keep_16 (gf_Rcv_43 mc_106) hr1 (sd_6_4 hr1) ?_
    refine sv_iload_n d_Rcv_keep_19 rfl ?_
    refine sv_iadd d_Rcv_keep_20 ?_
    refine sv_bipush (x := (31 : Int32)) d_Rcv_keep_21 (by decide) ?_
    refine sv_iand d_Rcv_keep_23 ?_
    refine sv_leR (fun x3 => ?_)
    refine sv_istore (ls' := [some (.ref r0), some (.ref r1), some (.int l2), some (.int l3), some (.int x3)]) d_Rcv_keep_24 (by decide) rfl ?_
    refine sv_aload_n d_Rcv_keep_26 rfl ?_
    refine sv_aload_n d_Rcv_keep_27 rfl ?_
    refine sv_geti d_Rcv_keep_28 (gf_Rcv_43 mc_106) hr1 (sd_6_4 hr1) ?_
    refine sv_iload_n d_Rcv_keep_31 rfl ?_
    refine sv_iadd d_Rcv_keep_32 ?_
    refine sv_iload_n d_Rcv_keep_33 rfl ?_
    refine sv_callVi (d := d + 0) (as := [.int ((v r1 4) + l3), .int l2]) d_Rcv_keep_34 (wv_Rcv_49 mc_106) hr0 ⟨_, rfl, rfl⟩ rfl (Nat.le_of_ble_eq_true rfl) rfl (c_Rcv_isNear (d + 0) r0 ((v r1 4) + l3) l2 v hr0) (fun x5 v4 => ?_)
    refine sv_if_eq 63 d_Rcv_keep_37 rfl ?_ ?_
    · refine sv_kill (ls' := [some (.ref r0), some (.ref r1), some (.int l2), some (.int l3), none]) ⟨rfl, rfl, rfl, rfl, trivial⟩ ?_
      exact c_Rcv_keep_b63 d r0 r1 l2 l3 v4 hr0 hr1
    · refine sv_aload_n d_Rcv_keep_40 rfl ?_
      refine sv_getr d_Rcv_keep_41 (gf_Rcv_15 mc_106) hr0 (sr_9_1 hr0) ?_
      refine sv_iload d_Rcv_keep_44 rfl ?_
      refine sv_iald d_Rcv_keep_46 (st_9_1 hr0) ?_
      refine sv_iconst (x := (-1 : Int32)) d_Rcv_keep_47 (by decide) ?_
      refine sv_icmp_ne 63 d_Rcv_keep_48 rfl ?_ ?_
      · refine sv_kill (ls' := [some (.ref r0), some (.ref r1), some (.int l2), some (.int l3), none]) ⟨rfl, rfl, rfl, rfl, trivial⟩ ?_
        exact c_Rcv_keep_b63 d r0 r1 l2 l3 v4 hr0 hr1
      · refine sv_aload_n d_Rcv_keep_51 rfl ?_
        refine sv_getr d_Rcv_keep_52 (gf_Rcv_15 mc_106) hr0 (sr_9_1 hr0) ?_
        refine sv_iload d_Rcv_keep_55 rfl ?_
        refine sv_aload_n d_Rcv_keep_57 rfl ?_
        refine sv_iload_n d_Rcv_keep_58 rfl ?_
        refine sv_callVi (d := d + 0) (as := [.int l3]) d_Rcv_keep_59 (wv_Rcv_56 mc_106) hr1 ⟨_, rfl, rfl⟩ rfl (Nat.le_of_ble_eq_true rfl) rfl (c_Seg_dataAt (d + 0) r1 l3 v4 hr1) (fun x8 v7 => ?_)
        refine sv_iast d_Rcv_keep_62 (st_9_1 hr0) (fun v9 => ?_)
        refine sv_kill (ls' := [some (.ref r0), some (.ref r1), some (.int l2), some (.int l3), none]) ⟨rfl, rfl, rfl, rfl, trivial⟩ ?_
        exact c_Rcv_keep_b63 d r0 r1 l2 l3 v9 hr0 hr1
set_option maxHeartbeats 4000000 in
set_option maxRecDepth 100000 in
theorem c_Rcv_keep_x69 (d : Nat) (r0 : Nat) (r1 : Nat) (l2 : Int32) (v : sv_T) (hr0 : sv_isO (sg r0) 9 = true) (hr1 : sv_isO (sg r1) 6 = true) : sv_Ref (d + 1) 106 69 [some (.ref r0), some (.ref r1), some (.int l2), none, none] [] v (f_Rcv_keep_x69 r0 r1 l2 v) (sv_Zv) := by
  unfold f_Rcv_keep_x69
  refine sv_aload_n d_Rcv_keep_69 rfl ?_
  refine sv_geti d_Rcv_keep_70 (gf_Rcv_43 mc_106) hr1 (sd_6_4 hr1) ?_
  refine sv_aload_n d_Rcv_keep_73 rfl ?_
  refine sv_geti d_Rcv_keep_74 (gf_Rcv_53 mc_106) hr1 (sd_6_1 hr1) ?_
  refine sv_iadd d_Rcv_keep_77 ?_
  refine sv_ldc d_Rcv_keep_78 tw_674 ?_
  refine sv_iand d_Rcv_keep_80 ?_
  refine sv_leR (fun x10 => ?_)
  refine sv_istore_n (ls' := [some (.ref r0), some (.ref r1), some (.int l2), some (.int x10), none]) d_Rcv_keep_81 (by decide) rfl ?_
  refine sv_aload_n d_Rcv_keep_82 rfl ?_
  refine sv_iconst (x := (1 : Int32)) d_Rcv_keep_83 (by decide) ?_
  refine sv_callVi (d := d + 0) (as := [.int (1 : Int32)]) d_Rcv_keep_84 (wv_Rcv_60 mc_106) hr1 ⟨_, rfl, rfl⟩ rfl (Nat.le_of_ble_eq_true rfl) rfl (c_Seg_has (d + 0) r1 (1 : Int32) v hr1) (fun x12 v11 => ?_)
  refine sv_if_eq 106 d_Rcv_keep_87 rfl ?_ ?_
  · exact sv_vret rfl d_Rcv_keep_106
  · refine sv_aload_n d_Rcv_keep_90 rfl ?_
    refine sv_iload_n d_Rcv_keep_91 rfl ?_
    refine sv_iload_n d_Rcv_keep_92 rfl ?_
    refine sv_iconst (x := (1 : Int32)) d_Rcv_keep_93 (by decide) ?_
    refine sv_iadd d_Rcv_keep_94 ?_
    refine sv_callVi (d := d + 0) (as := [.int x10, .int (l2 + (1 : Int32))]) d_Rcv_keep_95 (wv_Rcv_49 mc_106) hr0 ⟨_, rfl, rfl⟩ rfl (Nat.le_of_ble_eq_true rfl) rfl (c_Rcv_isNear (d + 0) r0 x10 (l2 + (1 : Int32)) v11 hr0) (fun x14 v13 => ?_)
    refine sv_if_eq 106 d_Rcv_keep_98 rfl ?_ ?_
    · exact sv_vret rfl d_Rcv_keep_106
    · refine sv_aload_n d_Rcv_keep_101 rfl ?_
      refine sv_iload_n d_Rcv_keep_102 rfl ?_
      refine sv_puti d_Rcv_keep_103 (pf_Rcv_24 mc_106) hr0 (sd_9_4 hr0) (fun v15 => ?_)
      exact sv_vret rfl d_Rcv_keep_106
set_option maxHeartbeats 4000000 in
set_option maxRecDepth 100000 in
theorem c_Rcv_keep (d : Nat) (q : Nat) (a1 : Nat) (v : sv_T) (hq : sv_isO (sg q) 9 = true) (ha1 : sv_isO (sg a1) 6 = true) : sv_Cl (d + 1) 106 [.ref q, .ref a1] v (f_Rcv_keep q a1 v) sv_Zv := by
  refine sv_spec (ls0 := [some (.ref q), some (.ref a1), none, none, none]) mp_106 (Nat.le_of_ble_eq_true rfl) rfl ?_
  unfold f_Rcv_keep
  refine sv_aload_n d_Rcv_keep_0 rfl ?_
  refine sv_callVi (d := d + 0) (as := []) d_Rcv_keep_1 (wv_Rcv_46 mc_106) hq ⟨_, rfl, rfl⟩ rfl (Nat.le_of_ble_eq_true rfl) rfl (c_Rcv_room (d + 0) q v hq) (fun x2 v1 => ?_)
  refine sv_istore_n (ls' := [some (.ref q), some (.ref a1), some (.int x2), none, none]) d_Rcv_keep_4 (by decide) rfl ?_
  refine sv_iconst (x := (0 : Int32)) d_Rcv_keep_5 (by decide) ?_
  refine sv_istore_n (ls' := [some (.ref q), some (.ref a1), some (.int x2), some (.int (0 : Int32)), none]) d_Rcv_keep_6 (by decide) rfl ?_
  exact sv_seq (xt := 69) (L := (fun (s : sv_T) => [some (.ref q), some (.ref a1), some (.int x2), none, none])) (S := (fun (s : sv_T) => s)) (sv_loopR (L := (fun (s : Int32 × sv_T) => [some (.ref q), some (.ref a1), some (.int x2), some (.int s.1), none])) (S := (fun (s : Int32 × sv_T) => s.2)) (fun s => c_Rcv_keep_l7 d q a1 x2 s.1 (s.2) hq ha1) 100000 ((0 : Int32), v1)) (fun s => c_Rcv_keep_x69 d q a1 x2 s hq ha1)
def f_Rcv_advance_b89 (r0 : Nat) (v : sv_T) : Option (Int32 × sv_T) :=
  if (v r0 3) = (v r0 4) then
  sv_ls (sv_up v r0 3 (((v r0 3) + (1 : Int32)) &&& (65535 : Int32))) fun v1 =>
  some ((1 : Int32), v1)
  else
  some ((0 : Int32), v)
def f_Rcv_advance_l2 (r0 : Nat) (l1 : Int32) (v : sv_T) : Option ((Int32 × sv_T) ⊕ (Int32 × sv_T)) :=
  if l1 < (24 : Int32) then
  if (v r0 2) < (24 : Int32) then
  sv_le (((v r0 3) &&& (31 : Int32))) fun x2 =>
  sv_ck x2 32 <|
  if (v (sv_ref (sg r0) 1) x2.toNatClampNeg) = (-1 : Int32) then
  Option.map Sum.inr (f_Rcv_advance_b89 r0 v)
  else
  sv_ck x2 32 <|
  sv_ck (v r0 2) 24 <| sv_ls (sv_up v (sv_ref (sg r0) 0) (v r0 2).toNatClampNeg (v (sv_ref (sg r0) 1) x2.toNatClampNeg)) fun v3 =>
  sv_ls (sv_up v3 r0 2 ((v3 r0 2) + (1 : Int32))) fun v4 =>
  sv_ck x2 32 <| sv_ls (sv_up v4 (sv_ref (sg r0) 1) x2.toNatClampNeg (-1 : Int32)) fun v5 =>
  sv_ls (sv_up v5 r0 3 (((v5 r0 3) + (1 : Int32)) &&& (65535 : Int32))) fun v6 =>
  sv_le (l1 + (1 : Int32)) fun x7 =>
  some (.inl (x7, v6))
  else
  Option.map Sum.inr (f_Rcv_advance_b89 r0 v)
  else
  Option.map Sum.inr (f_Rcv_advance_b89 r0 v)
def f_Rcv_advance (q : Nat) (v : sv_T) : Option (Int32 × sv_T) :=
  sv_loop (fun (s : Int32 × sv_T) => f_Rcv_advance_l2 q s.1 (s.2)) 100000 ((0 : Int32), v)
set_option maxHeartbeats 4000000 in
set_option maxRecDepth 100000 in
theorem c_Rcv_advance_b89 (d : Nat) (r0 : Nat) (v : sv_T) (hr0 : sv_isO (sg r0) 9 = true) : sv_Ref (d + 0) 108 89 [some (.ref r0), none, none] [] v (f_Rcv_advance_b89 r0 v) (sv_Zi) := by
  unfold f_Rcv_advance_b89
  refine sv_aload_n d_Rcv_advance_89 rfl ?_
  refine sv_geti d_Rcv_advance_90 (gf_Rcv_31 mc_108) hr0 (sd_9_3 hr0) ?_
  refine sv_aload_n d_Rcv_advance_93 rfl ?_
  refine sv_geti d_Rcv_advance_94 (gf_Rcv_24 mc_108) hr0 (sd_9_4 hr0) ?_
  refine sv_icmp_eq 102 d_Rcv_advance_97 rfl ?_ ?_
  · refine sv_aload_n d_Rcv_advance_102 rfl ?_
    refine sv_aload_n d_Rcv_advance_103 rfl ?_
    refine sv_geti d_Rcv_advance_104 (gf_Rcv_31 mc_108) hr0 (sd_9_3 hr0) ?_
    refine sv_iconst (x := (1 : Int32)) d_Rcv_advance_107 (by decide) ?_
    refine sv_iadd d_Rcv_advance_108 ?_
    refine sv_ldc d_Rcv_advance_109 tw_674 ?_
    refine sv_iand d_Rcv_advance_111 ?_
    refine sv_puti d_Rcv_advance_112 (pf_Rcv_31 mc_108) hr0 (sd_9_3 hr0) (fun v1 => ?_)
    refine sv_iconst (x := (1 : Int32)) d_Rcv_advance_115 (by decide) ?_
    exact sv_zretc rfl (by decide) d_Rcv_advance_116
  · refine sv_iconst (x := (0 : Int32)) d_Rcv_advance_100 (by decide) ?_
    exact sv_zretc rfl (by decide) d_Rcv_advance_101
set_option maxHeartbeats 4000000 in
set_option maxRecDepth 100000 in
theorem c_Rcv_advance_l2 (d : Nat) (r0 : Nat) (l1 : Int32) (v : sv_T) (hr0 : sv_isO (sg r0) 9 = true) : sv_Ref (d + 0) 108 2 [some (.ref r0), some (.int l1), none] [] v (f_Rcv_advance_l2 r0 l1 v) (sv_Zl (d + 0) 108 2 (fun (s : Int32 × sv_T) => [some (.ref r0), some (.int s.1), none]) (fun (s : Int32 × sv_T) => s.2) (sv_Zi)) := by
  unfold f_Rcv_advance_l2
  refine sv_iload_n d_Rcv_advance_2 rfl ?_
  refine sv_bipush (x := (24 : Int32)) d_Rcv_advance_3 (by decide) ?_
  refine sv_icmp_ge 89 d_Rcv_advance_5 rfl ?_ ?_
  · refine sv_exit ?_
    refine sv_kill (ls' := [some (.ref r0), none, none]) ⟨rfl, trivial⟩ ?_
    exact c_Rcv_advance_b89 d r0 v hr0
  · refine sv_aload_n d_Rcv_advance_8 rfl ?_
    refine sv_geti d_Rcv_advance_9 (gf_Rcv_28 mc_108) hr0 (sd_9_2 hr0) ?_
    refine sv_bipush (x := (24 : Int32)) d_Rcv_advance_12 (by decide) ?_
    refine sv_icmp_ge 89 d_Rcv_advance_14 rfl ?_ ?_
    · refine sv_exit ?_
      refine sv_kill (ls' := [some (.ref r0), none, none]) ⟨rfl, trivial⟩ ?_
      exact c_Rcv_advance_b89 d r0 v hr0
    · refine sv_aload_n d_Rcv_advance_17 rfl ?_
      refine sv_geti d_Rcv_advance_18 (gf_Rcv_31 mc_108) hr0 (sd_9_3 hr0) ?_
      refine sv_bipush (x := (31 : Int32)) d_Rcv_advance_21 (by decide) ?_
      refine sv_iand d_Rcv_advance_23 ?_
      refine sv_leR (fun x2 => ?_)
      refine sv_istore_n (ls' := [some (.ref r0), some (.int l1), some (.int x2)]) d_Rcv_advance_24 (by decide) rfl ?_
      refine sv_aload_n d_Rcv_advance_25 rfl ?_
      refine sv_getr d_Rcv_advance_26 (gf_Rcv_15 mc_108) hr0 (sr_9_1 hr0) ?_
      refine sv_iload_n d_Rcv_advance_29 rfl ?_
      refine sv_iald d_Rcv_advance_30 (st_9_1 hr0) ?_
      refine sv_iconst (x := (-1 : Int32)) d_Rcv_advance_31 (by decide) ?_
      refine sv_icmp_ne 38 d_Rcv_advance_32 rfl ?_ ?_
      · refine sv_aload_n d_Rcv_advance_38 rfl ?_
        refine sv_getr d_Rcv_advance_39 (gf_Rcv_11 mc_108) hr0 (sr_9_0 hr0) ?_
        refine sv_aload_n d_Rcv_advance_42 rfl ?_
        refine sv_geti d_Rcv_advance_43 (gf_Rcv_28 mc_108) hr0 (sd_9_2 hr0) ?_
        refine sv_aload_n d_Rcv_advance_46 rfl ?_
        refine sv_getr d_Rcv_advance_47 (gf_Rcv_15 mc_108) hr0 (sr_9_1 hr0) ?_
        refine sv_iload_n d_Rcv_advance_50 rfl ?_
        refine sv_iald d_Rcv_advance_51 (st_9_1 hr0) ?_
        refine sv_iast d_Rcv_advance_52 (st_9_0 hr0) (fun v3 => ?_)
        refine sv_aload_n d_Rcv_advance_53 rfl ?_
        refine sv_dup d_Rcv_advance_54 ?_
        refine sv_geti d_Rcv_advance_55 (gf_Rcv_28 mc_108) hr0 (sd_9_2 hr0) ?_
        refine sv_iconst (x := (1 : Int32)) d_Rcv_advance_58 (by decide) ?_
        refine sv_iadd d_Rcv_advance_59 ?_
        refine sv_puti d_Rcv_advance_60 (pf_Rcv_28 mc_108) hr0 (sd_9_2 hr0) (fun v4 => ?_)
        refine sv_aload_n d_Rcv_advance_63 rfl ?_
        refine sv_getr d_Rcv_advance_64 (gf_Rcv_15 mc_108) hr0 (sr_9_1 hr0) ?_
        refine sv_iload_n d_Rcv_advance_67 rfl ?_
        refine sv_iconst (x := (-1 : Int32)) d_Rcv_advance_68 (by decide) ?_
        refine sv_iast d_Rcv_advance_69 (st_9_1 hr0) (fun v5 => ?_)
        refine sv_aload_n d_Rcv_advance_70 rfl ?_
        refine sv_aload_n d_Rcv_advance_71 rfl ?_
        refine sv_geti d_Rcv_advance_72 (gf_Rcv_31 mc_108) hr0 (sd_9_3 hr0) ?_
        refine sv_iconst (x := (1 : Int32)) d_Rcv_advance_75 (by decide) ?_
        refine sv_iadd d_Rcv_advance_76 ?_
        refine sv_ldc d_Rcv_advance_77 tw_674 ?_
        refine sv_iand d_Rcv_advance_79 ?_
        refine sv_puti d_Rcv_advance_80 (pf_Rcv_31 mc_108) hr0 (sd_9_3 hr0) (fun v6 => ?_)
        refine sv_iinc (ls' := fun x7 => [some (.ref r0), some (.int x7), some (.int x2)]) (y := (1 : Int32)) d_Rcv_advance_83 rfl (by decide) (fun _ => rfl) (fun x7 => ?_)
        refine sv_goto 2 d_Rcv_advance_86 rfl ?_
        exact sv_next (x7, v6) ⟨rfl, rfl, trivial⟩ rfl
      · refine sv_exit ?_
        refine sv_goto 89 d_Rcv_advance_35 rfl ?_
        refine sv_kill (ls' := [some (.ref r0), none, none]) ⟨rfl, trivial⟩ ?_
        exact c_Rcv_advance_b89 d r0 v hr0
set_option maxHeartbeats 4000000 in
set_option maxRecDepth 100000 in
theorem c_Rcv_advance (d : Nat) (q : Nat) (v : sv_T) (hq : sv_isO (sg q) 9 = true) : sv_Cl (d + 0) 108 [.ref q] v (f_Rcv_advance q v) sv_Zi := by
  refine sv_spec (ls0 := [some (.ref q), none, none]) mp_108 (Nat.le_of_ble_eq_true rfl) rfl ?_
  unfold f_Rcv_advance
  refine sv_iconst (x := (0 : Int32)) d_Rcv_advance_0 (by decide) ?_
  refine sv_istore_n (ls' := [some (.ref q), some (.int (0 : Int32)), none]) d_Rcv_advance_1 (by decide) rfl ?_
  exact sv_loopR (L := (fun (s : Int32 × sv_T) => [some (.ref q), some (.int s.1), none])) (S := (fun (s : Int32 × sv_T) => s.2)) (fun s => c_Rcv_advance_l2 d q s.1 (s.2) hq) 100000 ((0 : Int32), v)
