def f_Rows_add (q : Nat) (a1 : Nat) (a2 : Int32) (v : sv_T) : Option (sv_T) :=
  if (v q 4) < (sv_int (sg q) 0) then
  if a2 < 0 then
  some v
  else
  if a2 ≤ (sv_int (sg q) 1) then
  if a2 ≤ (Int32.ofNat (sv_len (sg a1))) then
  sv_cc (0 : Int32) ((v q 4) * (sv_int (sg q) 1)) a2 (sv_len (sg a1)) (sv_len (sg (sv_ref (sg q) 2))) <| sv_ls (sv_cp v a1 (0 : Int32).toNatClampNeg (sv_ref (sg q) 2) ((v q 4) * (sv_int (sg q) 1)).toNatClampNeg a2.toNatClampNeg) fun v1 =>
  sv_ck (v1 q 4) (sv_len (sg (sv_ref (sg q) 3))) <| sv_ls (sv_up v1 (sv_ref (sg q) 3) (v1 q 4).toNatClampNeg a2) fun v2 =>
  sv_ls (sv_up v2 q 4 ((v2 q 4) + (1 : Int32))) fun v3 =>
  some v3
  else
  some v
  else
  some v
  else
  some v
set_option maxHeartbeats 4000000 in
set_option maxRecDepth 100000 in
theorem c_Rows_add (d : Nat) (q : Nat) (a1 : Nat) (a2 : Int32) (v : sv_T) (hq : sv_isO (sg q) 1 = true) (ha1 : sv_isA (sg a1) 0 (sv_len (sg a1)) = true) : sv_Cl (d + 1) 29 [.ref q, .ref a1, .int a2] v (f_Rows_add q a1 a2 v) sv_Zv := by
  refine sv_spec (ls0 := [some (.ref q), some (.ref a1), some (.int a2)]) mp_29 (Nat.le_of_ble_eq_true rfl) rfl ?_
  unfold f_Rows_add
  refine sv_aload_n d_Rows_add_0 rfl ?_
  refine sv_geti d_Rows_add_1 (gf_Rows_25 mc_29) hq (sd_1_4 hq) ?_
  refine sv_aload_n d_Rows_add_4 rfl ?_
  refine sv_gets d_Rows_add_5 (gf_Rows_9 mc_29) hq (si_1_0 hq) ?_
  refine sv_icmp_ge 68 d_Rows_add_8 rfl ?_ ?_
  · exact sv_vret rfl d_Rows_add_68
  · refine sv_iload_n d_Rows_add_11 rfl ?_
    refine sv_if_lt 68 d_Rows_add_12 rfl ?_ ?_
    · exact sv_vret rfl d_Rows_add_68
    · refine sv_iload_n d_Rows_add_15 rfl ?_
      refine sv_aload_n d_Rows_add_16 rfl ?_
      refine sv_gets d_Rows_add_17 (gf_Rows_15 mc_29) hq (si_1_1 hq) ?_
      refine sv_icmp_gt 68 d_Rows_add_20 rfl ?_ ?_
      · exact sv_vret rfl d_Rows_add_68
      · refine sv_iload_n d_Rows_add_23 rfl ?_
        refine sv_aload_n d_Rows_add_24 rfl ?_
        refine sv_alen (x := (Int32.ofNat (sv_len (sg a1)))) d_Rows_add_25 ha1 (by decide) rfl ?_
        refine sv_icmp_gt 68 d_Rows_add_26 rfl ?_ ?_
        · exact sv_vret rfl d_Rows_add_68
        · refine sv_aload_n d_Rows_add_29 rfl ?_
          refine sv_iconst (x := (0 : Int32)) d_Rows_add_30 (by decide) ?_
          refine sv_aload_n d_Rows_add_31 rfl ?_
          refine sv_getr d_Rows_add_32 (gf_Rows_18 mc_29) hq (sr_1_2 hq) ?_
          refine sv_aload_n d_Rows_add_35 rfl ?_
          refine sv_geti d_Rows_add_36 (gf_Rows_25 mc_29) hq (sd_1_4 hq) ?_
          refine sv_aload_n d_Rows_add_39 rfl ?_
          refine sv_gets d_Rows_add_40 (gf_Rows_15 mc_29) hq (si_1_1 hq) ?_
          refine sv_imul d_Rows_add_43 ?_
          refine sv_iload_n d_Rows_add_44 rfl ?_
          refine sv_copy (d := d + 0) d_Rows_add_45 (wc_Rows_32 mc_29) (Nat.le_of_ble_eq_true rfl) ha1 (st_1_2 hq) (fun v1 => ?_)
          refine sv_aload_n d_Rows_add_48 rfl ?_
          refine sv_getr d_Rows_add_49 (gf_Rows_22 mc_29) hq (sr_1_3 hq) ?_
          refine sv_aload_n d_Rows_add_52 rfl ?_
          refine sv_geti d_Rows_add_53 (gf_Rows_25 mc_29) hq (sd_1_4 hq) ?_
          refine sv_iload_n d_Rows_add_56 rfl ?_
          refine sv_iast d_Rows_add_57 (st_1_3 hq) (fun v2 => ?_)
          refine sv_aload_n d_Rows_add_58 rfl ?_
          refine sv_dup d_Rows_add_59 ?_
          refine sv_geti d_Rows_add_60 (gf_Rows_25 mc_29) hq (sd_1_4 hq) ?_
          refine sv_iconst (x := (1 : Int32)) d_Rows_add_63 (by decide) ?_
          refine sv_iadd d_Rows_add_64 ?_
          refine sv_puti d_Rows_add_65 (pf_Rows_25 mc_29) hq (sd_1_4 hq) (fun v3 => ?_)
          exact sv_vret rfl d_Rows_add_68
def f_Rows_count (q : Nat) (v : sv_T) : Option (Int32 × sv_T) :=
  some ((v q 4), v)
set_option maxHeartbeats 4000000 in
set_option maxRecDepth 100000 in
theorem c_Rows_count (d : Nat) (q : Nat) (v : sv_T) (hq : sv_isO (sg q) 1 = true) : sv_Cl (d + 0) 31 [.ref q] v (f_Rows_count q v) sv_Zi := by
  refine sv_spec (ls0 := [some (.ref q)]) mp_31 (Nat.le_of_ble_eq_true rfl) rfl ?_
  unfold f_Rows_count
  refine sv_aload_n d_Rows_count_0 rfl ?_
  refine sv_geti d_Rows_count_1 (gf_Rows_25 mc_31) hq (sd_1_4 hq) ?_
  exact sv_iret rfl d_Rows_count_4
def f_Rows_dropFirst (q : Nat) (v : sv_T) : Option (sv_T) :=
  if 0 < (v q 4) then
  sv_ls (sv_up v q 4 ((v q 4) - (1 : Int32))) fun v1 =>
  sv_cc (sv_int (sg q) 1) (0 : Int32) ((v1 q 4) * (sv_int (sg q) 1)) (sv_len (sg (sv_ref (sg q) 2))) (sv_len (sg (sv_ref (sg q) 2))) <| sv_ls (sv_cp v1 (sv_ref (sg q) 2) (sv_int (sg q) 1).toNatClampNeg (sv_ref (sg q) 2) (0 : Int32).toNatClampNeg ((v1 q 4) * (sv_int (sg q) 1)).toNatClampNeg) fun v2 =>
  sv_cc (1 : Int32) (0 : Int32) (v2 q 4) (sv_len (sg (sv_ref (sg q) 3))) (sv_len (sg (sv_ref (sg q) 3))) <| sv_ls (sv_cp v2 (sv_ref (sg q) 3) (1 : Int32).toNatClampNeg (sv_ref (sg q) 3) (0 : Int32).toNatClampNeg (v2 q 4).toNatClampNeg) fun v3 =>
  some v3
  else
  some v
set_option maxHeartbeats 4000000 in
set_option maxRecDepth 100000 in
theorem c_Rows_dropFirst (d : Nat) (q : Nat) (v : sv_T) (hq : sv_isO (sg q) 1 = true) : sv_Cl (d + 1) 33 [.ref q] v (f_Rows_dropFirst q v) sv_Zv := by
  refine sv_spec (ls0 := [some (.ref q)]) mp_33 (Nat.le_of_ble_eq_true rfl) rfl ?_
  unfold f_Rows_dropFirst
  refine sv_aload_n d_Rows_dropFirst_0 rfl ?_
  refine sv_geti d_Rows_dropFirst_1 (gf_Rows_25 mc_33) hq (sd_1_4 hq) ?_
  refine sv_if_le 59 d_Rows_dropFirst_4 rfl ?_ ?_
  · exact sv_vret rfl d_Rows_dropFirst_59
  · refine sv_aload_n d_Rows_dropFirst_7 rfl ?_
    refine sv_dup d_Rows_dropFirst_8 ?_
    refine sv_geti d_Rows_dropFirst_9 (gf_Rows_25 mc_33) hq (sd_1_4 hq) ?_
    refine sv_iconst (x := (1 : Int32)) d_Rows_dropFirst_12 (by decide) ?_
    refine sv_isub d_Rows_dropFirst_13 ?_
    refine sv_puti d_Rows_dropFirst_14 (pf_Rows_25 mc_33) hq (sd_1_4 hq) (fun v1 => ?_)
    refine sv_aload_n d_Rows_dropFirst_17 rfl ?_
    refine sv_getr d_Rows_dropFirst_18 (gf_Rows_18 mc_33) hq (sr_1_2 hq) ?_
    refine sv_aload_n d_Rows_dropFirst_21 rfl ?_
    refine sv_gets d_Rows_dropFirst_22 (gf_Rows_15 mc_33) hq (si_1_1 hq) ?_
    refine sv_aload_n d_Rows_dropFirst_25 rfl ?_
    refine sv_getr d_Rows_dropFirst_26 (gf_Rows_18 mc_33) hq (sr_1_2 hq) ?_
    refine sv_iconst (x := (0 : Int32)) d_Rows_dropFirst_29 (by decide) ?_
    refine sv_aload_n d_Rows_dropFirst_30 rfl ?_
    refine sv_geti d_Rows_dropFirst_31 (gf_Rows_25 mc_33) hq (sd_1_4 hq) ?_
    refine sv_aload_n d_Rows_dropFirst_34 rfl ?_
    refine sv_gets d_Rows_dropFirst_35 (gf_Rows_15 mc_33) hq (si_1_1 hq) ?_
    refine sv_imul d_Rows_dropFirst_38 ?_
    refine sv_copy (d := d + 0) d_Rows_dropFirst_39 (wc_Rows_32 mc_33) (Nat.le_of_ble_eq_true rfl) (st_1_2 hq) (st_1_2 hq) (fun v2 => ?_)
    refine sv_aload_n d_Rows_dropFirst_42 rfl ?_
    refine sv_getr d_Rows_dropFirst_43 (gf_Rows_22 mc_33) hq (sr_1_3 hq) ?_
    refine sv_iconst (x := (1 : Int32)) d_Rows_dropFirst_46 (by decide) ?_
    refine sv_aload_n d_Rows_dropFirst_47 rfl ?_
    refine sv_getr d_Rows_dropFirst_48 (gf_Rows_22 mc_33) hq (sr_1_3 hq) ?_
    refine sv_iconst (x := (0 : Int32)) d_Rows_dropFirst_51 (by decide) ?_
    refine sv_aload_n d_Rows_dropFirst_52 rfl ?_
    refine sv_geti d_Rows_dropFirst_53 (gf_Rows_25 mc_33) hq (sd_1_4 hq) ?_
    refine sv_copy (d := d + 0) d_Rows_dropFirst_56 (wc_Rows_32 mc_33) (Nat.le_of_ble_eq_true rfl) (st_1_3 hq) (st_1_3 hq) (fun v3 => ?_)
    exact sv_vret rfl d_Rows_dropFirst_59
def f_Rows_takeFirst (q : Nat) (a1 : Nat) (a2 : Int32) (v : sv_T) : Option (Int32 × sv_T) :=
  if (v q 4) = 0 then
  some ((0 : Int32), v)
  else
  if a2 < 0 then
  some ((0 : Int32), v)
  else
  sv_ck (0 : Int32) (sv_len (sg (sv_ref (sg q) 3))) <|
  if ((Int32.ofNat (sv_len (sg a1))) - (v (sv_ref (sg q) 3) (0 : Int32).toNatClampNeg)) < a2 then
  some ((0 : Int32), v)
  else
  sv_ck (0 : Int32) (sv_len (sg (sv_ref (sg q) 3))) <|
  sv_le ((v (sv_ref (sg q) 3) (0 : Int32).toNatClampNeg)) fun x1 =>
  sv_cc (0 : Int32) a2 x1 (sv_len (sg (sv_ref (sg q) 2))) (sv_len (sg a1)) <| sv_ls (sv_cp v (sv_ref (sg q) 2) (0 : Int32).toNatClampNeg a1 a2.toNatClampNeg x1.toNatClampNeg) fun v2 =>
  sv_bv (f_Rows_dropFirst q v2) fun v3 =>
  some (x1, v3)
set_option maxHeartbeats 4000000 in
set_option maxRecDepth 100000 in
theorem c_Rows_takeFirst (d : Nat) (q : Nat) (a1 : Nat) (a2 : Int32) (v : sv_T) (hq : sv_isO (sg q) 1 = true) (ha1 : sv_isA (sg a1) 0 (sv_len (sg a1)) = true) : sv_Cl (d + 2) 32 [.ref q, .ref a1, .int a2] v (f_Rows_takeFirst q a1 a2 v) sv_Zi := by
  refine sv_spec (ls0 := [some (.ref q), some (.ref a1), some (.int a2), none]) mp_32 (Nat.le_of_ble_eq_true rfl) rfl ?_
  unfold f_Rows_takeFirst
  refine sv_aload_n d_Rows_takeFirst_0 rfl ?_
  refine sv_geti d_Rows_takeFirst_1 (gf_Rows_25 mc_32) hq (sd_1_4 hq) ?_
  refine sv_if_eq 24 d_Rows_takeFirst_4 rfl ?_ ?_
  · refine sv_iconst (x := (0 : Int32)) d_Rows_takeFirst_24 (by decide) ?_
    exact sv_iret rfl d_Rows_takeFirst_25
  · refine sv_iload_n d_Rows_takeFirst_7 rfl ?_
    refine sv_if_lt 24 d_Rows_takeFirst_8 rfl ?_ ?_
    · refine sv_iconst (x := (0 : Int32)) d_Rows_takeFirst_24 (by decide) ?_
      exact sv_iret rfl d_Rows_takeFirst_25
    · refine sv_iload_n d_Rows_takeFirst_11 rfl ?_
      refine sv_aload_n d_Rows_takeFirst_12 rfl ?_
      refine sv_alen (x := (Int32.ofNat (sv_len (sg a1)))) d_Rows_takeFirst_13 ha1 (by decide) rfl ?_
      refine sv_aload_n d_Rows_takeFirst_14 rfl ?_
      refine sv_getr d_Rows_takeFirst_15 (gf_Rows_22 mc_32) hq (sr_1_3 hq) ?_
      refine sv_iconst (x := (0 : Int32)) d_Rows_takeFirst_18 (by decide) ?_
      refine sv_iald d_Rows_takeFirst_19 (st_1_3 hq) ?_
      refine sv_isub d_Rows_takeFirst_20 ?_
      refine sv_icmp_le 26 d_Rows_takeFirst_21 rfl ?_ ?_
      · refine sv_aload_n d_Rows_takeFirst_26 rfl ?_
        refine sv_getr d_Rows_takeFirst_27 (gf_Rows_22 mc_32) hq (sr_1_3 hq) ?_
        refine sv_iconst (x := (0 : Int32)) d_Rows_takeFirst_30 (by decide) ?_
        refine sv_iald d_Rows_takeFirst_31 (st_1_3 hq) ?_
        refine sv_leR (fun x1 => ?_)
        refine sv_istore_n (ls' := [some (.ref q), some (.ref a1), some (.int a2), some (.int x1)]) d_Rows_takeFirst_32 (by decide) rfl ?_
        refine sv_aload_n d_Rows_takeFirst_33 rfl ?_
        refine sv_getr d_Rows_takeFirst_34 (gf_Rows_18 mc_32) hq (sr_1_2 hq) ?_
        refine sv_iconst (x := (0 : Int32)) d_Rows_takeFirst_37 (by decide) ?_
        refine sv_aload_n d_Rows_takeFirst_38 rfl ?_
        refine sv_iload_n d_Rows_takeFirst_39 rfl ?_
        refine sv_iload_n d_Rows_takeFirst_40 rfl ?_
        refine sv_copy (d := d + 1) d_Rows_takeFirst_41 (wc_Rows_32 mc_32) (Nat.le_of_ble_eq_true rfl) (st_1_2 hq) ha1 (fun v2 => ?_)
        refine sv_aload_n d_Rows_takeFirst_44 rfl ?_
        refine sv_callVv (d := d + 1) (as := []) d_Rows_takeFirst_45 (wv_Rows_38 mc_32) hq ⟨_, rfl, rfl⟩ rfl (Nat.le_of_ble_eq_true rfl) rfl (c_Rows_dropFirst (d + 0) q v2 hq) (fun v3 => ?_)
        refine sv_iload_n d_Rows_takeFirst_48 rfl ?_
        exact sv_iret rfl d_Rows_takeFirst_49
      · refine sv_iconst (x := (0 : Int32)) d_Rows_takeFirst_24 (by decide) ?_
        exact sv_iret rfl d_Rows_takeFirst_25
def f_Rows_sizeOf (q : Nat) (a1 : Int32) (v : sv_T) : Option (Int32 × sv_T) :=
  if a1 < 0 then
  some ((-1 : Int32), v)
  else
  if a1 < (v q 4) then
  sv_ck a1 (sv_len (sg (sv_ref (sg q) 3))) <|
  some ((v (sv_ref (sg q) 3) a1.toNatClampNeg), v)
  else
  some ((-1 : Int32), v)
set_option maxHeartbeats 4000000 in
set_option maxRecDepth 100000 in
theorem c_Rows_sizeOf (d : Nat) (q : Nat) (a1 : Int32) (v : sv_T) (hq : sv_isO (sg q) 1 = true) : sv_Cl (d + 0) 69 [.ref q, .int a1] v (f_Rows_sizeOf q a1 v) sv_Zi := by
  refine sv_spec (ls0 := [some (.ref q), some (.int a1)]) mp_69 (Nat.le_of_ble_eq_true rfl) rfl ?_
  unfold f_Rows_sizeOf
  refine sv_iload_n d_Rows_sizeOf_0 rfl ?_
  refine sv_if_lt 12 d_Rows_sizeOf_1 rfl ?_ ?_
  · refine sv_iconst (x := (-1 : Int32)) d_Rows_sizeOf_12 (by decide) ?_
    refine sv_goto 22 d_Rows_sizeOf_13 rfl ?_
    exact sv_iret rfl d_Rows_sizeOf_22
  · refine sv_iload_n d_Rows_sizeOf_4 rfl ?_
    refine sv_aload_n d_Rows_sizeOf_5 rfl ?_
    refine sv_geti d_Rows_sizeOf_6 (gf_Rows_25 mc_69) hq (sd_1_4 hq) ?_
    refine sv_icmp_lt 16 d_Rows_sizeOf_9 rfl ?_ ?_
    · refine sv_aload_n d_Rows_sizeOf_16 rfl ?_
      refine sv_getr d_Rows_sizeOf_17 (gf_Rows_22 mc_69) hq (sr_1_3 hq) ?_
      refine sv_iload_n d_Rows_sizeOf_20 rfl ?_
      refine sv_iald d_Rows_sizeOf_21 (st_1_3 hq) ?_
      exact sv_iret rfl d_Rows_sizeOf_22
    · refine sv_iconst (x := (-1 : Int32)) d_Rows_sizeOf_12 (by decide) ?_
      refine sv_goto 22 d_Rows_sizeOf_13 rfl ?_
      exact sv_iret rfl d_Rows_sizeOf_22
def f_Rows_at (q : Nat) (a1 : Int32) (a2 : Int32) (v : sv_T) : Option (Int32 × sv_T) :=
  if a2 < 0 then
  some ((-1 : Int32), v)
  else
  sv_bi (f_Rows_sizeOf q a1 v) fun x2 v1 =>
  if a2 < x2 then
  sv_ck ((a1 * (sv_int (sg q) 1)) + a2) (sv_len (sg (sv_ref (sg q) 2))) <|
  some ((v1 (sv_ref (sg q) 2) ((a1 * (sv_int (sg q) 1)) + a2).toNatClampNeg), v1)
  else
  some ((-1 : Int32), v1)
set_option maxHeartbeats 4000000 in
set_option maxRecDepth 100000 in
theorem c_Rows_at (d : Nat) (q : Nat) (a1 : Int32) (a2 : Int32) (v : sv_T) (hq : sv_isO (sg q) 1 = true) : sv_Cl (d + 1) 68 [.ref q, .int a1, .int a2] v (f_Rows_at q a1 a2 v) sv_Zi := by
  refine sv_spec (ls0 := [some (.ref q), some (.int a1), some (.int a2)]) mp_68 (Nat.le_of_ble_eq_true rfl) rfl ?_
  unfold f_Rows_at
  refine sv_iload_n d_Rows_at_0 rfl ?_
  refine sv_if_lt 13 d_Rows_at_1 rfl ?_ ?_
  · refine sv_iconst (x := (-1 : Int32)) d_Rows_at_13 (by decide) ?_
    refine sv_goto 30 d_Rows_at_14 rfl ?_
    exact sv_iret rfl d_Rows_at_30
  · refine sv_iload_n d_Rows_at_4 rfl ?_
    refine sv_aload_n d_Rows_at_5 rfl ?_
    refine sv_iload_n d_Rows_at_6 rfl ?_
    refine sv_callVi (d := d + 0) (as := [.int a1]) d_Rows_at_7 (wv_Rows_28 mc_68) hq ⟨_, rfl, rfl⟩ rfl (Nat.le_of_ble_eq_true rfl) rfl (c_Rows_sizeOf (d + 0) q a1 v hq) (fun x2 v1 => ?_)
    refine sv_icmp_lt 17 d_Rows_at_10 rfl ?_ ?_
    · refine sv_aload_n d_Rows_at_17 rfl ?_
      refine sv_getr d_Rows_at_18 (gf_Rows_18 mc_68) hq (sr_1_2 hq) ?_
      refine sv_iload_n d_Rows_at_21 rfl ?_
      refine sv_aload_n d_Rows_at_22 rfl ?_
      refine sv_gets d_Rows_at_23 (gf_Rows_15 mc_68) hq (si_1_1 hq) ?_
      refine sv_imul d_Rows_at_26 ?_
      refine sv_iload_n d_Rows_at_27 rfl ?_
      refine sv_iadd d_Rows_at_28 ?_
      refine sv_iald d_Rows_at_29 (st_1_2 hq) ?_
      exact sv_iret rfl d_Rows_at_30
    · refine sv_iconst (x := (-1 : Int32)) d_Rows_at_13 (by decide) ?_
      refine sv_goto 30 d_Rows_at_14 rfl ?_
      exact sv_iret rfl d_Rows_at_30
def f_Rows_copyFirstToEnd (q : Nat) (v : sv_T) : Option (sv_T) :=
  sv_cc (0 : Int32) ((v q 4) * (sv_int (sg q) 1)) (sv_int (sg q) 1) (sv_len (sg (sv_ref (sg q) 2))) (sv_len (sg (sv_ref (sg q) 2))) <| sv_ls (sv_cp v (sv_ref (sg q) 2) (0 : Int32).toNatClampNeg (sv_ref (sg q) 2) ((v q 4) * (sv_int (sg q) 1)).toNatClampNeg (sv_int (sg q) 1).toNatClampNeg) fun v1 =>
  sv_ck (0 : Int32) (sv_len (sg (sv_ref (sg q) 3))) <|
  sv_ck (v1 q 4) (sv_len (sg (sv_ref (sg q) 3))) <| sv_ls (sv_up v1 (sv_ref (sg q) 3) (v1 q 4).toNatClampNeg (v1 (sv_ref (sg q) 3) (0 : Int32).toNatClampNeg)) fun v2 =>
  some v2
set_option maxHeartbeats 4000000 in
set_option maxRecDepth 100000 in
theorem c_Rows_copyFirstToEnd (d : Nat) (q : Nat) (v : sv_T) (hq : sv_isO (sg q) 1 = true) : sv_Cl (d + 1) 112 [.ref q] v (f_Rows_copyFirstToEnd q v) sv_Zv := by
  refine sv_spec (ls0 := [some (.ref q)]) mp_112 (Nat.le_of_ble_eq_true rfl) rfl ?_
  unfold f_Rows_copyFirstToEnd
  refine sv_aload_n d_Rows_copyFirstToEnd_0 rfl ?_
  refine sv_getr d_Rows_copyFirstToEnd_1 (gf_Rows_18 mc_112) hq (sr_1_2 hq) ?_
  refine sv_iconst (x := (0 : Int32)) d_Rows_copyFirstToEnd_4 (by decide) ?_
  refine sv_aload_n d_Rows_copyFirstToEnd_5 rfl ?_
  refine sv_getr d_Rows_copyFirstToEnd_6 (gf_Rows_18 mc_112) hq (sr_1_2 hq) ?_
  refine sv_aload_n d_Rows_copyFirstToEnd_9 rfl ?_
  refine sv_geti d_Rows_copyFirstToEnd_10 (gf_Rows_25 mc_112) hq (sd_1_4 hq) ?_
  refine sv_aload_n d_Rows_copyFirstToEnd_13 rfl ?_
  refine sv_gets d_Rows_copyFirstToEnd_14 (gf_Rows_15 mc_112) hq (si_1_1 hq) ?_
  refine sv_imul d_Rows_copyFirstToEnd_17 ?_
  refine sv_aload_n d_Rows_copyFirstToEnd_18 rfl ?_
  refine sv_gets d_Rows_copyFirstToEnd_19 (gf_Rows_15 mc_112) hq (si_1_1 hq) ?_
  refine sv_copy (d := d + 0) d_Rows_copyFirstToEnd_22 (wc_Rows_32 mc_112) (Nat.le_of_ble_eq_true rfl) (st_1_2 hq) (st_1_2 hq) (fun v1 => ?_)
  refine sv_aload_n d_Rows_copyFirstToEnd_25 rfl ?_
  refine sv_getr d_Rows_copyFirstToEnd_26 (gf_Rows_22 mc_112) hq (sr_1_3 hq) ?_
  refine sv_aload_n d_Rows_copyFirstToEnd_29 rfl ?_
  refine sv_geti d_Rows_copyFirstToEnd_30 (gf_Rows_25 mc_112) hq (sd_1_4 hq) ?_
  refine sv_aload_n d_Rows_copyFirstToEnd_33 rfl ?_
  refine sv_getr d_Rows_copyFirstToEnd_34 (gf_Rows_22 mc_112) hq (sr_1_3 hq) ?_
  refine sv_iconst (x := (0 : Int32)) d_Rows_copyFirstToEnd_37 (by decide) ?_
  refine sv_iald d_Rows_copyFirstToEnd_38 (st_1_3 hq) ?_
  refine sv_iast d_Rows_copyFirstToEnd_39 (st_1_3 hq) (fun v2 => ?_)
  exact sv_vret rfl d_Rows_copyFirstToEnd_40
def f_Rows_putFirstLast (q : Nat) (v : sv_T) : Option (sv_T) :=
  if 0 < (v q 4) then
  sv_bv (f_Rows_copyFirstToEnd q v) fun v1 =>
  sv_ls (sv_up v1 q 4 ((v1 q 4) + (1 : Int32))) fun v2 =>
  sv_bv (f_Rows_dropFirst q v2) fun v3 =>
  some v3
  else
  some v
set_option maxHeartbeats 4000000 in
set_option maxRecDepth 100000 in
theorem c_Rows_putFirstLast (d : Nat) (q : Nat) (v : sv_T) (hq : sv_isO (sg q) 1 = true) : sv_Cl (d + 2) 111 [.ref q] v (f_Rows_putFirstLast q v) sv_Zv := by
  refine sv_spec (ls0 := [some (.ref q)]) mp_111 (Nat.le_of_ble_eq_true rfl) rfl ?_
  unfold f_Rows_putFirstLast
  refine sv_aload_n d_Rows_putFirstLast_0 rfl ?_
  refine sv_geti d_Rows_putFirstLast_1 (gf_Rows_25 mc_111) hq (sd_1_4 hq) ?_
  refine sv_if_le 25 d_Rows_putFirstLast_4 rfl ?_ ?_
  · exact sv_vret rfl d_Rows_putFirstLast_25
  · refine sv_aload_n d_Rows_putFirstLast_7 rfl ?_
    refine sv_callVv (d := d + 1) (as := []) d_Rows_putFirstLast_8 (wv_Rows_41 mc_111) hq ⟨_, rfl, rfl⟩ rfl (Nat.le_of_ble_eq_true rfl) rfl (c_Rows_copyFirstToEnd (d + 0) q v hq) (fun v1 => ?_)
    refine sv_aload_n d_Rows_putFirstLast_11 rfl ?_
    refine sv_dup d_Rows_putFirstLast_12 ?_
    refine sv_geti d_Rows_putFirstLast_13 (gf_Rows_25 mc_111) hq (sd_1_4 hq) ?_
    refine sv_iconst (x := (1 : Int32)) d_Rows_putFirstLast_16 (by decide) ?_
    refine sv_iadd d_Rows_putFirstLast_17 ?_
    refine sv_puti d_Rows_putFirstLast_18 (pf_Rows_25 mc_111) hq (sd_1_4 hq) (fun v2 => ?_)
    refine sv_aload_n d_Rows_putFirstLast_21 rfl ?_
    refine sv_callVv (d := d + 1) (as := []) d_Rows_putFirstLast_22 (wv_Rows_38 mc_111) hq ⟨_, rfl, rfl⟩ rfl (Nat.le_of_ble_eq_true rfl) rfl (c_Rows_dropFirst (d + 0) q v2 hq) (fun v3 => ?_)
    exact sv_vret rfl d_Rows_putFirstLast_25
def f_Rows_copyFirstBehind (q : Nat) (v : sv_T) : Option (Int32 × sv_T) :=
  if (v q 4) = 0 then
  some ((0 : Int32), v)
  else
  if (v q 4) < (sv_int (sg q) 0) then
  sv_bv (f_Rows_copyFirstToEnd q v) fun v1 =>
  sv_ls (sv_up v1 q 4 ((v1 q 4) + (1 : Int32))) fun v2 =>
  some ((1 : Int32), v2)
  else
  some ((0 : Int32), v)
set_option maxHeartbeats 4000000 in
set_option maxRecDepth 100000 in
theorem c_Rows_copyFirstBehind (d : Nat) (q : Nat) (v : sv_T) (hq : sv_isO (sg q) 1 = true) : sv_Cl (d + 2) 113 [.ref q] v (f_Rows_copyFirstBehind q v) sv_Zi := by
  refine sv_spec (ls0 := [some (.ref q)]) mp_113 (Nat.le_of_ble_eq_true rfl) rfl ?_
  unfold f_Rows_copyFirstBehind
  refine sv_aload_n d_Rows_copyFirstBehind_0 rfl ?_
  refine sv_geti d_Rows_copyFirstBehind_1 (gf_Rows_25 mc_113) hq (sd_1_4 hq) ?_
  refine sv_if_eq 18 d_Rows_copyFirstBehind_4 rfl ?_ ?_
  · refine sv_iconst (x := (0 : Int32)) d_Rows_copyFirstBehind_18 (by decide) ?_
    exact sv_zretc rfl (by decide) d_Rows_copyFirstBehind_19
  · refine sv_aload_n d_Rows_copyFirstBehind_7 rfl ?_
    refine sv_geti d_Rows_copyFirstBehind_8 (gf_Rows_25 mc_113) hq (sd_1_4 hq) ?_
    refine sv_aload_n d_Rows_copyFirstBehind_11 rfl ?_
    refine sv_gets d_Rows_copyFirstBehind_12 (gf_Rows_9 mc_113) hq (si_1_0 hq) ?_
    refine sv_icmp_lt 20 d_Rows_copyFirstBehind_15 rfl ?_ ?_
    · refine sv_aload_n d_Rows_copyFirstBehind_20 rfl ?_
      refine sv_callVv (d := d + 1) (as := []) d_Rows_copyFirstBehind_21 (wv_Rows_41 mc_113) hq ⟨_, rfl, rfl⟩ rfl (Nat.le_of_ble_eq_true rfl) rfl (c_Rows_copyFirstToEnd (d + 0) q v hq) (fun v1 => ?_)
      refine sv_aload_n d_Rows_copyFirstBehind_24 rfl ?_
      refine sv_dup d_Rows_copyFirstBehind_25 ?_
      refine sv_geti d_Rows_copyFirstBehind_26 (gf_Rows_25 mc_113) hq (sd_1_4 hq) ?_
      refine sv_iconst (x := (1 : Int32)) d_Rows_copyFirstBehind_29 (by decide) ?_
      refine sv_iadd d_Rows_copyFirstBehind_30 ?_
      refine sv_puti d_Rows_copyFirstBehind_31 (pf_Rows_25 mc_113) hq (sd_1_4 hq) (fun v2 => ?_)
      refine sv_iconst (x := (1 : Int32)) d_Rows_copyFirstBehind_34 (by decide) ?_
      exact sv_zretc rfl (by decide) d_Rows_copyFirstBehind_35
    · refine sv_iconst (x := (0 : Int32)) d_Rows_copyFirstBehind_18 (by decide) ?_
      exact sv_zretc rfl (by decide) d_Rows_copyFirstBehind_19
def f_Rows_alterFirst (q : Nat) (a1 : Int32) (a2 : Int32) (v : sv_T) : Option (Int32 × sv_T) :=
  if a1 < 0 then
  some ((0 : Int32), v)
  else
  sv_bi (f_Rows_sizeOf q (0 : Int32) v) fun x2 v1 =>
  if a1 < x2 then
  sv_ck a1 (sv_len (sg (sv_ref (sg q) 2))) <|
  sv_ck a1 (sv_len (sg (sv_ref (sg q) 2))) <| sv_ls (sv_up v1 (sv_ref (sg q) 2) a1.toNatClampNeg ((v1 (sv_ref (sg q) 2) a1.toNatClampNeg) ^^^ a2)) fun v3 =>
  some ((1 : Int32), v3)
  else
  some ((0 : Int32), v1)
set_option maxHeartbeats 4000000 in
set_option maxRecDepth 100000 in
theorem c_Rows_alterFirst (d : Nat) (q : Nat) (a1 : Int32) (a2 : Int32) (v : sv_T) (hq : sv_isO (sg q) 1 = true) : sv_Cl (d + 1) 115 [.ref q, .int a1, .int a2] v (f_Rows_alterFirst q a1 a2 v) sv_Zi := by
  refine sv_spec (ls0 := [some (.ref q), some (.int a1), some (.int a2)]) mp_115 (Nat.le_of_ble_eq_true rfl) rfl ?_
  unfold f_Rows_alterFirst
  refine sv_iload_n d_Rows_alterFirst_0 rfl ?_
  refine sv_if_lt 13 d_Rows_alterFirst_1 rfl ?_ ?_
  · refine sv_iconst (x := (0 : Int32)) d_Rows_alterFirst_13 (by decide) ?_
    exact sv_zretc rfl (by decide) d_Rows_alterFirst_14
  · refine sv_iload_n d_Rows_alterFirst_4 rfl ?_
    refine sv_aload_n d_Rows_alterFirst_5 rfl ?_
    refine sv_iconst (x := (0 : Int32)) d_Rows_alterFirst_6 (by decide) ?_
    refine sv_callVi (d := d + 0) (as := [.int (0 : Int32)]) d_Rows_alterFirst_7 (wv_Rows_28 mc_115) hq ⟨_, rfl, rfl⟩ rfl (Nat.le_of_ble_eq_true rfl) rfl (c_Rows_sizeOf (d + 0) q (0 : Int32) v hq) (fun x2 v1 => ?_)
    refine sv_icmp_lt 15 d_Rows_alterFirst_10 rfl ?_ ?_
    · refine sv_aload_n d_Rows_alterFirst_15 rfl ?_
      refine sv_getr d_Rows_alterFirst_16 (gf_Rows_18 mc_115) hq (sr_1_2 hq) ?_
      refine sv_iload_n d_Rows_alterFirst_19 rfl ?_
      refine sv_dup2 d_Rows_alterFirst_20 ?_
      refine sv_iald d_Rows_alterFirst_21 (st_1_2 hq) ?_
      refine sv_iload_n d_Rows_alterFirst_22 rfl ?_
      refine sv_ixor d_Rows_alterFirst_23 ?_
      refine sv_iast d_Rows_alterFirst_24 (st_1_2 hq) (fun v3 => ?_)
      refine sv_iconst (x := (1 : Int32)) d_Rows_alterFirst_25 (by decide) ?_
      exact sv_zretc rfl (by decide) d_Rows_alterFirst_26
    · refine sv_iconst (x := (0 : Int32)) d_Rows_alterFirst_13 (by decide) ?_
      exact sv_zretc rfl (by decide) d_Rows_alterFirst_14
