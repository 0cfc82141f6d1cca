def f_Seg_startOfCheck (a1 : Int32) (a2 : Int32) (a3 : Int32) (v : sv_T) : Option (Int32 × sv_T) :=
  some (((((a1 <<< (8 : Int32)) + a2) + (1536 : Int32)) + a3), v)
set_option maxHeartbeats 4000000 in
set_option maxRecDepth 100000 in
theorem c_Seg_startOfCheck (d : Nat) (a1 : Int32) (a2 : Int32) (a3 : Int32) (v : sv_T)  : sv_Cl (d + 0) 27 [.int a1, .int a2, .int a3] v (f_Seg_startOfCheck a1 a2 a3 v) sv_Zi := by
  refine sv_spec (ls0 := [some (.int a1), some (.int a2), some (.int a3)]) mp_27 (Nat.le_of_ble_eq_true rfl) rfl ?_
  unfold f_Seg_startOfCheck
  refine sv_iload_n d_Seg_startOfCheck_0 rfl ?_
  refine sv_bipush (x := (8 : Int32)) d_Seg_startOfCheck_1 (by decide) ?_
  refine sv_ishl d_Seg_startOfCheck_3 (z := (8 : Int32)) (by decide) ?_
  refine sv_iload_n d_Seg_startOfCheck_4 rfl ?_
  refine sv_iadd d_Seg_startOfCheck_5 ?_
  refine sv_sipush (x := (1536 : Int32)) d_Seg_startOfCheck_6 (by decide) ?_
  refine sv_iadd d_Seg_startOfCheck_9 ?_
  refine sv_iload_n d_Seg_startOfCheck_10 rfl ?_
  refine sv_iadd d_Seg_startOfCheck_11 ?_
  exact sv_iret rfl d_Seg_startOfCheck_12
def f_Seg_isRight (q : Nat) (a1 : Int32) (a2 : Int32) (a3 : Int32) (v : sv_T) : Option (Int32 × sv_T) :=
  if a1 < (10 : Int32) then
  some ((0 : Int32), v)
  else
  if (42 : Int32) < a1 then
  some ((0 : Int32), v)
  else
  sv_ls (sv_up v q 1 (a1 - (10 : Int32))) fun v1 =>
  sv_ls (sv_up v1 q 2 (v1 (sv_ref (sg q) 0) 0)) fun v2 =>
  sv_ls (sv_up v2 q 3 (v2 (sv_ref (sg q) 0) 1)) fun v3 =>
  sv_bi (f_Num_pairAt (sv_ref (sg q) 0) (2 : Int32) v3) fun x5 v4 =>
  sv_ls (sv_up v4 q 4 x5) fun v6 =>
  sv_bi (f_Num_pairAt (sv_ref (sg q) 0) (4 : Int32) v6) fun x8 v7 =>
  sv_ls (sv_up v7 q 5 x8) fun v9 =>
  sv_ls (sv_up v9 q 6 (v9 (sv_ref (sg q) 0) 6)) fun v10 =>
  if ((v10 q 3) &&& (-24 : Int32)) = 0 then
  sv_bi (f_Seg_startOfCheck a2 a3 a1 v10) fun x12 v11 =>
  sv_bi (f_Num_check x12 (sv_ref (sg q) 0) (0 : Int32) a1 v11) fun x14 v13 =>
  if x14 = 0 then
  some ((1 : Int32), v13)
  else
  some ((0 : Int32), v13)
  else
  some ((0 : Int32), v10)
set_option maxHeartbeats 4000000 in
set_option maxRecDepth 100000 in
theorem c_Seg_isRight (d : Nat) (q : Nat) (a1 : Int32) (a2 : Int32) (a3 : Int32) (v : sv_T) (hq : sv_isO (sg q) 6 = true) : sv_Cl (d + 1) 85 [.ref q, .int a1, .int a2, .int a3] v (f_Seg_isRight q a1 a2 a3 v) sv_Zi := by
  refine sv_spec (ls0 := [some (.ref q), some (.int a1), some (.int a2), some (.int a3)]) mp_85 (Nat.le_of_ble_eq_true rfl) rfl ?_
  unfold f_Seg_isRight
  refine sv_iload_n d_Seg_isRight_0 rfl ?_
  refine sv_bipush (x := (10 : Int32)) d_Seg_isRight_1 (by decide) ?_
  refine sv_icmp_lt 12 d_Seg_isRight_3 rfl ?_ ?_
  · refine sv_iconst (x := (0 : Int32)) d_Seg_isRight_12 (by decide) ?_
    exact sv_zretc rfl (by decide) d_Seg_isRight_13
  · refine sv_iload_n d_Seg_isRight_6 rfl ?_
    refine sv_bipush (x := (42 : Int32)) d_Seg_isRight_7 (by decide) ?_
    refine sv_icmp_le 14 d_Seg_isRight_9 rfl ?_ ?_
    · refine sv_aload_n d_Seg_isRight_14 rfl ?_
      refine sv_iload_n d_Seg_isRight_15 rfl ?_
      refine sv_bipush (x := (10 : Int32)) d_Seg_isRight_16 (by decide) ?_
      refine sv_isub d_Seg_isRight_18 ?_
      refine sv_puti d_Seg_isRight_19 (pf_Seg_15 mc_85) hq (sd_6_1 hq) (fun v1 => ?_)
      refine sv_aload_n d_Seg_isRight_22 rfl ?_
      refine sv_aload_n d_Seg_isRight_23 rfl ?_
      refine sv_getr d_Seg_isRight_24 (gf_Seg_11 mc_85) hq (sr_6_0 hq) ?_
      refine sv_iconst (x := (0 : Int32)) d_Seg_isRight_27 (by decide) ?_
      refine sv_ialdc (m := 0) d_Seg_isRight_28 (st_6_0 hq) (by decide) rfl ?_
      refine sv_puti d_Seg_isRight_29 (pf_Seg_19 mc_85) hq (sd_6_2 hq) (fun v2 => ?_)
      refine sv_aload_n d_Seg_isRight_32 rfl ?_
      refine sv_aload_n d_Seg_isRight_33 rfl ?_
      refine sv_getr d_Seg_isRight_34 (gf_Seg_11 mc_85) hq (sr_6_0 hq) ?_
      refine sv_iconst (x := (1 : Int32)) d_Seg_isRight_37 (by decide) ?_
      refine sv_ialdc (m := 1) d_Seg_isRight_38 (st_6_0 hq) (by decide) rfl ?_
      refine sv_puti d_Seg_isRight_39 (pf_Seg_22 mc_85) hq (sd_6_3 hq) (fun v3 => ?_)
      refine sv_aload_n d_Seg_isRight_42 rfl ?_
      refine sv_aload_n d_Seg_isRight_43 rfl ?_
      refine sv_getr d_Seg_isRight_44 (gf_Seg_11 mc_85) hq (sr_6_0 hq) ?_
      refine sv_iconst (x := (2 : Int32)) d_Seg_isRight_47 (by decide) ?_
      refine sv_callSi (d := d + 0) (as := [.ref (sv_ref (sg q) 0), .int (2 : Int32)]) d_Seg_isRight_48 (ws_Seg_25 mc_85)  rfl (Nat.le_of_ble_eq_true rfl) rfl (c_Num_pairAt (d + 0) (sv_ref (sg q) 0) (2 : Int32) v3 (sv_isAl (st_6_0 hq))) (fun x5 v4 => ?_)
      refine sv_puti d_Seg_isRight_51 (pf_Seg_31 mc_85) hq (sd_6_4 hq) (fun v6 => ?_)
      refine sv_aload_n d_Seg_isRight_54 rfl ?_
      refine sv_aload_n d_Seg_isRight_55 rfl ?_
      refine sv_getr d_Seg_isRight_56 (gf_Seg_11 mc_85) hq (sr_6_0 hq) ?_
      refine sv_iconst (x := (4 : Int32)) d_Seg_isRight_59 (by decide) ?_
      refine sv_callSi (d := d + 0) (as := [.ref (sv_ref (sg q) 0), .int (4 : Int32)]) d_Seg_isRight_60 (ws_Seg_25 mc_85)  rfl (Nat.le_of_ble_eq_true rfl) rfl (c_Num_pairAt (d + 0) (sv_ref (sg q) 0) (4 : Int32) v6 (sv_isAl (st_6_0 hq))) (fun x8 v7 => ?_)
      refine sv_puti d_Seg_isRight_63 (pf_Seg_34 mc_85) hq (sd_6_5 hq) (fun v9 => ?_)
      refine sv_aload_n d_Seg_isRight_66 rfl ?_
      refine sv_aload_n d_Seg_isRight_67 rfl ?_
      refine sv_getr d_Seg_isRight_68 (gf_Seg_11 mc_85) hq (sr_6_0 hq) ?_
      refine sv_bipush (x := (6 : Int32)) d_Seg_isRight_71 (by decide) ?_
      refine sv_ialdc (m := 6) d_Seg_isRight_73 (st_6_0 hq) (by decide) rfl ?_
      refine sv_puti d_Seg_isRight_74 (pf_Seg_37 mc_85) hq (sd_6_6 hq) (fun v10 => ?_)
      refine sv_aload_n d_Seg_isRight_77 rfl ?_
      refine sv_geti d_Seg_isRight_78 (gf_Seg_22 mc_85) hq (sd_6_3 hq) ?_
      refine sv_bipush (x := (-24 : Int32)) d_Seg_isRight_81 (by decide) ?_
      refine sv_iand d_Seg_isRight_83 ?_
      refine sv_if_ne 109 d_Seg_isRight_84 rfl ?_ ?_
      · refine sv_iconst (x := (0 : Int32)) d_Seg_isRight_109 (by decide) ?_
        exact sv_zretc rfl (by decide) d_Seg_isRight_110
      · refine sv_iload_n d_Seg_isRight_87 rfl ?_
        refine sv_iload_n d_Seg_isRight_88 rfl ?_
        refine sv_iload_n d_Seg_isRight_89 rfl ?_
        refine sv_callSi (d := d + 0) (as := [.int a2, .int a3, .int a1]) d_Seg_isRight_90 (ws_Seg_40 mc_85)  rfl (Nat.le_of_ble_eq_true rfl) rfl (c_Seg_startOfCheck (d + 0) a2 a3 a1 v10 ) (fun x12 v11 => ?_)
        refine sv_aload_n d_Seg_isRight_93 rfl ?_
        refine sv_getr d_Seg_isRight_94 (gf_Seg_11 mc_85) hq (sr_6_0 hq) ?_
        refine sv_iconst (x := (0 : Int32)) d_Seg_isRight_97 (by decide) ?_
        refine sv_iload_n d_Seg_isRight_98 rfl ?_
        refine sv_callSi (d := d + 0) (as := [.int x12, .ref (sv_ref (sg q) 0), .int (0 : Int32), .int a1]) d_Seg_isRight_99 (ws_Seg_44 mc_85)  rfl (Nat.le_of_ble_eq_true rfl) rfl (c_Num_check (d + 0) x12 (sv_ref (sg q) 0) (0 : Int32) a1 v11 (sv_isAl (st_6_0 hq))) (fun x14 v13 => ?_)
        refine sv_if_ne 109 d_Seg_isRight_102 rfl ?_ ?_
        · refine sv_iconst (x := (0 : Int32)) d_Seg_isRight_109 (by decide) ?_
          exact sv_zretc rfl (by decide) d_Seg_isRight_110
        · refine sv_iconst (x := (1 : Int32)) d_Seg_isRight_105 (by decide) ?_
          refine sv_goto 110 d_Seg_isRight_106 rfl ?_
          exact sv_zretc rfl (by decide) d_Seg_isRight_110
    · refine sv_iconst (x := (0 : Int32)) d_Seg_isRight_12 (by decide) ?_
      exact sv_zretc rfl (by decide) d_Seg_isRight_13
def f_Seg_has (q : Nat) (a1 : Int32) (v : sv_T) : Option (Int32 × sv_T) :=
  if ((v q 3) &&& a1) = 0 then
  some ((0 : Int32), v)
  else
  some ((1 : Int32), v)
set_option maxHeartbeats 4000000 in
set_option maxRecDepth 100000 in
theorem c_Seg_has (d : Nat) (q : Nat) (a1 : Int32) (v : sv_T) (hq : sv_isO (sg q) 6 = true) : sv_Cl (d + 0) 89 [.ref q, .int a1] v (f_Seg_has q a1 v) sv_Zi := by
  refine sv_spec (ls0 := [some (.ref q), some (.int a1)]) mp_89 (Nat.le_of_ble_eq_true rfl) rfl ?_
  unfold f_Seg_has
  refine sv_aload_n d_Seg_has_0 rfl ?_
  refine sv_geti d_Seg_has_1 (gf_Seg_22 mc_89) hq (sd_6_3 hq) ?_
  refine sv_iload_n d_Seg_has_4 rfl ?_
  refine sv_iand d_Seg_has_5 ?_
  refine sv_if_eq 13 d_Seg_has_6 rfl ?_ ?_
  · refine sv_iconst (x := (0 : Int32)) d_Seg_has_13 (by decide) ?_
    exact sv_zretc rfl (by decide) d_Seg_has_14
  · refine sv_iconst (x := (1 : Int32)) d_Seg_has_9 (by decide) ?_
    refine sv_goto 14 d_Seg_has_10 rfl ?_
    exact sv_zretc rfl (by decide) d_Seg_has_14
def f_Seg_length_b31 (s0 : Int32) (s1 : Int32) (v : sv_T) : Option (Int32 × sv_T) :=
  some ((s1 + s0), v)
def f_Seg_length_b17 (r0 : Nat) (s0 : Int32) (s1 : Int32) (v : sv_T) : Option (Int32 × sv_T) :=
  sv_bi (f_Seg_has r0 (1 : Int32) v) fun x4 v3 =>
  if x4 = 0 then
  f_Seg_length_b31 (0 : Int32) (s1 + s0) v3
  else
  f_Seg_length_b31 (1 : Int32) (s1 + s0) v3
def f_Seg_length (q : Nat) (v : sv_T) : Option (Int32 × sv_T) :=
  sv_bi (f_Seg_has q (2 : Int32) v) fun x2 v1 =>
  if x2 = 0 then
  f_Seg_length_b17 q (0 : Int32) (v q 1) v1
  else
  f_Seg_length_b17 q (1 : Int32) (v q 1) v1
set_option maxHeartbeats 4000000 in
set_option maxRecDepth 100000 in
theorem c_Seg_length_b31 (d : Nat) (s0 : Int32) (s1 : Int32) (v : sv_T)  : sv_Ref (d + 1) 90 31 [none] [.int s0, .int s1] v (f_Seg_length_b31 s0 s1 v) (sv_Zi) := by
  unfold f_Seg_length_b31
  refine sv_iadd d_Seg_length_31 ?_
  exact sv_iret rfl d_Seg_length_32
set_option maxHeartbeats 4000000 in
set_option maxRecDepth 100000 in
theorem c_Seg_length_b17 (d : Nat) (r0 : Nat) (s0 : Int32) (s1 : Int32) (v : sv_T) (hr0 : sv_isO (sg r0) 6 = true) : sv_Ref (d + 1) 90 17 [some (.ref r0)] [.int s0, .int s1] v (f_Seg_length_b17 r0 s0 s1 v) (sv_Zi) := by
  unfold f_Seg_length_b17
  refine sv_iadd d_Seg_length_17 ?_
  refine sv_aload_n d_Seg_length_18 rfl ?_
  refine sv_iconst (x := (1 : Int32)) d_Seg_length_19 (by decide) ?_
  refine sv_callVi (d := d + 0) (as := [.int (1 : Int32)]) d_Seg_length_20 (wv_Seg_48 mc_90) hr0 ⟨_, rfl, rfl⟩ rfl (Nat.le_of_ble_eq_true rfl) rfl (c_Seg_has (d + 0) r0 (1 : Int32) v hr0) (fun x4 v3 => ?_)
  refine sv_if_eq 30 d_Seg_length_23 rfl ?_ ?_
  · refine sv_iconst (x := (0 : Int32)) d_Seg_length_30 (by decide) ?_
    refine sv_kill (ls' := [none]) trivial ?_
    exact c_Seg_length_b31 d (0 : Int32) (s1 + s0) v3 
  · refine sv_iconst (x := (1 : Int32)) d_Seg_length_26 (by decide) ?_
    refine sv_goto 31 d_Seg_length_27 rfl ?_
    refine sv_kill (ls' := [none]) trivial ?_
    exact c_Seg_length_b31 d (1 : Int32) (s1 + s0) v3 
set_option maxHeartbeats 4000000 in
set_option maxRecDepth 100000 in
theorem c_Seg_length (d : Nat) (q : Nat) (v : sv_T) (hq : sv_isO (sg q) 6 = true) : sv_Cl (d + 1) 90 [.ref q] v (f_Seg_length q v) sv_Zi := by
  refine sv_spec (ls0 := [some (.ref q)]) mp_90 (Nat.le_of_ble_eq_true rfl) rfl ?_
  unfold f_Seg_length
  refine sv_aload_n d_Seg_length_0 rfl ?_
  refine sv_geti d_Seg_length_1 (gf_Seg_15 mc_90) hq (sd_6_1 hq) ?_
  refine sv_aload_n d_Seg_length_4 rfl ?_
  refine sv_iconst (x := (2 : Int32)) d_Seg_length_5 (by decide) ?_
  refine sv_callVi (d := d + 0) (as := [.int (2 : Int32)]) d_Seg_length_6 (wv_Seg_48 mc_90) hq ⟨_, rfl, rfl⟩ rfl (Nat.le_of_ble_eq_true rfl) rfl (c_Seg_has (d + 0) q (2 : Int32) v hq) (fun x2 v1 => ?_)
  refine sv_if_eq 16 d_Seg_length_9 rfl ?_ ?_
  · refine sv_iconst (x := (0 : Int32)) d_Seg_length_16 (by decide) ?_
    exact c_Seg_length_b17 d q (0 : Int32) (v q 1) v1 hq
  · refine sv_iconst (x := (1 : Int32)) d_Seg_length_12 (by decide) ?_
    refine sv_goto 17 d_Seg_length_13 rfl ?_
    exact c_Seg_length_b17 d q (1 : Int32) (v q 1) v1 hq
def f_Seg_dataAt (q : Nat) (a1 : Int32) (v : sv_T) : Option (Int32 × sv_T) :=
  if a1 < 0 then
  some ((-1 : Int32), v)
  else
  if a1 < (v q 1) then
  sv_ck ((10 : Int32) + a1) 48 <|
  some ((v (sv_ref (sg q) 0) ((10 : Int32) + a1).toNatClampNeg), v)
  else
  some ((-1 : Int32), v)
set_option maxHeartbeats 4000000 in
set_option maxRecDepth 100000 in
theorem c_Seg_dataAt (d : Nat) (q : Nat) (a1 : Int32) (v : sv_T) (hq : sv_isO (sg q) 6 = true) : sv_Cl (d + 0) 107 [.ref q, .int a1] v (f_Seg_dataAt q a1 v) sv_Zi := by
  refine sv_spec (ls0 := [some (.ref q), some (.int a1)]) mp_107 (Nat.le_of_ble_eq_true rfl) rfl ?_
  unfold f_Seg_dataAt
  refine sv_iload_n d_Seg_dataAt_0 rfl ?_
  refine sv_if_lt 12 d_Seg_dataAt_1 rfl ?_ ?_
  · refine sv_iconst (x := (-1 : Int32)) d_Seg_dataAt_12 (by decide) ?_
    refine sv_goto 25 d_Seg_dataAt_13 rfl ?_
    exact sv_iret rfl d_Seg_dataAt_25
  · refine sv_iload_n d_Seg_dataAt_4 rfl ?_
    refine sv_aload_n d_Seg_dataAt_5 rfl ?_
    refine sv_geti d_Seg_dataAt_6 (gf_Seg_15 mc_107) hq (sd_6_1 hq) ?_
    refine sv_icmp_lt 16 d_Seg_dataAt_9 rfl ?_ ?_
    · refine sv_aload_n d_Seg_dataAt_16 rfl ?_
      refine sv_getr d_Seg_dataAt_17 (gf_Seg_11 mc_107) hq (sr_6_0 hq) ?_
      refine sv_bipush (x := (10 : Int32)) d_Seg_dataAt_20 (by decide) ?_
      refine sv_iload_n d_Seg_dataAt_22 rfl ?_
      refine sv_iadd d_Seg_dataAt_23 ?_
      refine sv_iald d_Seg_dataAt_24 (st_6_0 hq) ?_
      exact sv_iret rfl d_Seg_dataAt_25
    · refine sv_iconst (x := (-1 : Int32)) d_Seg_dataAt_12 (by decide) ?_
      refine sv_goto 25 d_Seg_dataAt_13 rfl ?_
      exact sv_iret rfl d_Seg_dataAt_25
