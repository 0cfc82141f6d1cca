def f_Snd_begin (q : Nat) (a1 : Int32) (v : sv_T) : Option (sv_T) :=
  sv_ls (sv_up v q 2 (a1 &&& (65535 : Int32))) fun v1 =>
  sv_ls (sv_up v1 q 3 (v1 q 2)) fun v2 =>
  sv_ls (sv_up v2 q 4 (((v2 q 2) + (1 : Int32)) &&& (65535 : Int32))) fun v3 =>
  some v3
set_option maxHeartbeats 4000000 in
set_option maxRecDepth 100000 in
theorem c_Snd_begin (d : Nat) (q : Nat) (a1 : Int32) (v : sv_T) (hq : sv_isO (sg q) 8 = true) : sv_Cl (d + 0) 20 [.ref q, .int a1] v (f_Snd_begin q a1 v) sv_Zv := by
  refine sv_spec (ls0 := [some (.ref q), some (.int a1)]) mp_20 (Nat.le_of_ble_eq_true rfl) rfl ?_
  unfold f_Snd_begin
  refine sv_aload_n d_Snd_begin_0 rfl ?_
  refine sv_iload_n d_Snd_begin_1 rfl ?_
  refine sv_ldc d_Snd_begin_2 tw_366 ?_
  refine sv_iand d_Snd_begin_4 ?_
  refine sv_puti d_Snd_begin_5 (pf_Snd_17 mc_20) hq (sd_8_2 hq) (fun v1 => ?_)
  refine sv_aload_n d_Snd_begin_8 rfl ?_
  refine sv_aload_n d_Snd_begin_9 rfl ?_
  refine sv_geti d_Snd_begin_10 (gf_Snd_17 mc_20) hq (sd_8_2 hq) ?_
  refine sv_puti d_Snd_begin_13 (pf_Snd_20 mc_20) hq (sd_8_3 hq) (fun v2 => ?_)
  refine sv_aload_n d_Snd_begin_16 rfl ?_
  refine sv_aload_n d_Snd_begin_17 rfl ?_
  refine sv_geti d_Snd_begin_18 (gf_Snd_17 mc_20) hq (sd_8_2 hq) ?_
  refine sv_iconst (x := (1 : Int32)) d_Snd_begin_21 (by decide) ?_
  refine sv_iadd d_Snd_begin_22 ?_
  refine sv_ldc d_Snd_begin_23 tw_366 ?_
  refine sv_iand d_Snd_begin_25 ?_
  refine sv_puti d_Snd_begin_26 (pf_Snd_23 mc_20) hq (sd_8_4 hq) (fun v3 => ?_)
  exact sv_vret rfl d_Snd_begin_29
def f_Snd_copyTo (q : Nat) (a1 : Nat) (a2 : Int32) (a3 : Int32) (a4 : Int32) (v : sv_T) : Option (sv_T) :=
  if a3 < 0 then
  some v
  else
  if a4 < 0 then
  some v
  else
  if (a3 + a4) ≤ (v q 1) then
  if a2 < 0 then
  some v
  else
  if (a2 + a4) ≤ (Int32.ofNat (sv_len (sg a1))) then
  sv_cc a3 a2 a4 64 (sv_len (sg a1)) <| sv_ls (sv_cp v (sv_ref (sg q) 0) a3.toNatClampNeg a1 a2.toNatClampNeg a4.toNatClampNeg) fun v1 =>
  some v1
  else
  some v
  else
  some v
set_option maxHeartbeats 4000000 in
set_option maxRecDepth 100000 in
theorem c_Snd_copyTo (d : Nat) (q : Nat) (a1 : Nat) (a2 : Int32) (a3 : Int32) (a4 : Int32) (v : sv_T) (hq : sv_isO (sg q) 8 = true) (ha1 : sv_isA (sg a1) 0 (sv_len (sg a1)) = true) : sv_Cl (d + 1) 25 [.ref q, .ref a1, .int a2, .int a3, .int a4] v (f_Snd_copyTo q a1 a2 a3 a4 v) sv_Zv := by
  refine sv_spec (ls0 := [some (.ref q), some (.ref a1), some (.int a2), some (.int a3), some (.int a4)]) mp_25 (Nat.le_of_ble_eq_true rfl) rfl ?_
  unfold f_Snd_copyTo
  refine sv_iload_n d_Snd_copyTo_0 rfl ?_
  refine sv_if_lt 45 d_Snd_copyTo_1 rfl ?_ ?_
  · exact sv_vret rfl d_Snd_copyTo_45
  · refine sv_iload d_Snd_copyTo_4 rfl ?_
    refine sv_if_lt 45 d_Snd_copyTo_6 rfl ?_ ?_
    · exact sv_vret rfl d_Snd_copyTo_45
    · refine sv_iload_n d_Snd_copyTo_9 rfl ?_
      refine sv_iload d_Snd_copyTo_10 rfl ?_
      refine sv_iadd d_Snd_copyTo_12 ?_
      refine sv_aload_n d_Snd_copyTo_13 rfl ?_
      refine sv_geti d_Snd_copyTo_14 (gf_Snd_13 mc_25) hq (sd_8_1 hq) ?_
      refine sv_icmp_gt 45 d_Snd_copyTo_17 rfl ?_ ?_
      · exact sv_vret rfl d_Snd_copyTo_45
      · refine sv_iload_n d_Snd_copyTo_20 rfl ?_
        refine sv_if_lt 45 d_Snd_copyTo_21 rfl ?_ ?_
        · exact sv_vret rfl d_Snd_copyTo_45
        · refine sv_iload_n d_Snd_copyTo_24 rfl ?_
          refine sv_iload d_Snd_copyTo_25 rfl ?_
          refine sv_iadd d_Snd_copyTo_27 ?_
          refine sv_aload_n d_Snd_copyTo_28 rfl ?_
          refine sv_alen (x := (Int32.ofNat (sv_len (sg a1)))) d_Snd_copyTo_29 ha1 (by decide) rfl ?_
          refine sv_icmp_gt 45 d_Snd_copyTo_30 rfl ?_ ?_
          · exact sv_vret rfl d_Snd_copyTo_45
          · refine sv_aload_n d_Snd_copyTo_33 rfl ?_
            refine sv_getr d_Snd_copyTo_34 (gf_Snd_9 mc_25) hq (sr_8_0 hq) ?_
            refine sv_iload_n d_Snd_copyTo_37 rfl ?_
            refine sv_aload_n d_Snd_copyTo_38 rfl ?_
            refine sv_iload_n d_Snd_copyTo_39 rfl ?_
            refine sv_iload d_Snd_copyTo_40 rfl ?_
            refine sv_copy (d := d + 0) d_Snd_copyTo_42 (wc_Snd_48 mc_25) (Nat.le_of_ble_eq_true rfl) (st_8_0 hq) ha1 (fun v1 => ?_)
            exact sv_vret rfl d_Snd_copyTo_45
def f_Snd_isFull (q : Nat) (v : sv_T) : Option (Int32 × sv_T) :=
  if (v q 1) < (64 : Int32) then
  some ((0 : Int32), v)
  else
  some ((1 : Int32), v)
set_option maxHeartbeats 4000000 in
set_option maxRecDepth 100000 in
theorem c_Snd_isFull (d : Nat) (q : Nat) (v : sv_T) (hq : sv_isO (sg q) 8 = true) : sv_Cl (d + 0) 42 [.ref q] v (f_Snd_isFull q v) sv_Zi := by
  refine sv_spec (ls0 := [some (.ref q)]) mp_42 (Nat.le_of_ble_eq_true rfl) rfl ?_
  unfold f_Snd_isFull
  refine sv_aload_n d_Snd_isFull_0 rfl ?_
  refine sv_geti d_Snd_isFull_1 (gf_Snd_13 mc_42) hq (sd_8_1 hq) ?_
  refine sv_bipush (x := (64 : Int32)) d_Snd_isFull_4 (by decide) ?_
  refine sv_icmp_lt 13 d_Snd_isFull_6 rfl ?_ ?_
  · refine sv_iconst (x := (0 : Int32)) d_Snd_isFull_13 (by decide) ?_
    exact sv_zretc rfl (by decide) d_Snd_isFull_14
  · refine sv_iconst (x := (1 : Int32)) d_Snd_isFull_9 (by decide) ?_
    refine sv_goto 14 d_Snd_isFull_10 rfl ?_
    exact sv_zretc rfl (by decide) d_Snd_isFull_14
def f_Snd_add (q : Nat) (a1 : Int32) (v : sv_T) : Option (sv_T) :=
  if (v q 1) < (64 : Int32) then
  sv_ck (v q 1) 64 <| sv_ls (sv_up v (sv_ref (sg q) 0) (v q 1).toNatClampNeg a1) fun v1 =>
  sv_ls (sv_up v1 q 1 ((v1 q 1) + (1 : Int32))) fun v2 =>
  some v2
  else
  some v
set_option maxHeartbeats 4000000 in
set_option maxRecDepth 100000 in
theorem c_Snd_add (d : Nat) (q : Nat) (a1 : Int32) (v : sv_T) (hq : sv_isO (sg q) 8 = true) : sv_Cl (d + 0) 43 [.ref q, .int a1] v (f_Snd_add q a1 v) sv_Zv := by
  refine sv_spec (ls0 := [some (.ref q), some (.int a1)]) mp_43 (Nat.le_of_ble_eq_true rfl) rfl ?_
  unfold f_Snd_add
  refine sv_aload_n d_Snd_add_0 rfl ?_
  refine sv_geti d_Snd_add_1 (gf_Snd_13 mc_43) hq (sd_8_1 hq) ?_
  refine sv_bipush (x := (64 : Int32)) d_Snd_add_4 (by decide) ?_
  refine sv_icmp_ge 29 d_Snd_add_6 rfl ?_ ?_
  · exact sv_vret rfl d_Snd_add_29
  · refine sv_aload_n d_Snd_add_9 rfl ?_
    refine sv_getr d_Snd_add_10 (gf_Snd_9 mc_43) hq (sr_8_0 hq) ?_
    refine sv_aload_n d_Snd_add_13 rfl ?_
    refine sv_geti d_Snd_add_14 (gf_Snd_13 mc_43) hq (sd_8_1 hq) ?_
    refine sv_iload_n d_Snd_add_17 rfl ?_
    refine sv_iast d_Snd_add_18 (st_8_0 hq) (fun v1 => ?_)
    refine sv_aload_n d_Snd_add_19 rfl ?_
    refine sv_dup d_Snd_add_20 ?_
    refine sv_geti d_Snd_add_21 (gf_Snd_13 mc_43) hq (sd_8_1 hq) ?_
    refine sv_iconst (x := (1 : Int32)) d_Snd_add_24 (by decide) ?_
    refine sv_iadd d_Snd_add_25 ?_
    refine sv_puti d_Snd_add_26 (pf_Snd_13 mc_43) hq (sd_8_1 hq) (fun v2 => ?_)
    exact sv_vret rfl d_Snd_add_29
def f_Snd_sentCount (q : Nat) (v : sv_T) : Option (Int32 × sv_T) :=
  some ((sv_min (((v q 4) - (v q 3)) &&& (65535 : Int32)) (v q 1)), v)
set_option maxHeartbeats 4000000 in
set_option maxRecDepth 100000 in
theorem c_Snd_sentCount (d : Nat) (q : Nat) (v : sv_T) (hq : sv_isO (sg q) 8 = true) : sv_Cl (d + 1) 47 [.ref q] v (f_Snd_sentCount q v) sv_Zi := by
  refine sv_spec (ls0 := [some (.ref q)]) mp_47 (Nat.le_of_ble_eq_true rfl) rfl ?_
  unfold f_Snd_sentCount
  refine sv_aload_n d_Snd_sentCount_0 rfl ?_
  refine sv_geti d_Snd_sentCount_1 (gf_Snd_23 mc_47) hq (sd_8_4 hq) ?_
  refine sv_aload_n d_Snd_sentCount_4 rfl ?_
  refine sv_geti d_Snd_sentCount_5 (gf_Snd_20 mc_47) hq (sd_8_3 hq) ?_
  refine sv_isub d_Snd_sentCount_8 ?_
  refine sv_ldc d_Snd_sentCount_9 tw_366 ?_
  refine sv_iand d_Snd_sentCount_11 ?_
  refine sv_aload_n d_Snd_sentCount_12 rfl ?_
  refine sv_geti d_Snd_sentCount_13 (gf_Snd_13 mc_47) hq (sd_8_1 hq) ?_
  refine sv_mmin (d := d + 0) d_Snd_sentCount_16 (wm_Snd_36 mc_47) (Nat.le_of_ble_eq_true rfl) ?_
  exact sv_iret rfl d_Snd_sentCount_19
def f_Snd_sendableCount (q : Nat) (v : sv_T) : Option (Int32 × sv_T) :=
  sv_bi (f_Snd_sentCount q v) fun x2 v1 =>
  sv_le (((sv_min (v1 q 5) (48 : Int32)) - x2)) fun x3 =>
  some ((sv_min (sv_min ((v1 q 1) - x2) x3) (32 : Int32)), v1)
set_option maxHeartbeats 4000000 in
set_option maxRecDepth 100000 in
theorem c_Snd_sendableCount (d : Nat) (q : Nat) (v : sv_T) (hq : sv_isO (sg q) 8 = true) : sv_Cl (d + 2) 46 [.ref q] v (f_Snd_sendableCount q v) sv_Zi := by
  refine sv_spec (ls0 := [some (.ref q), none, none]) mp_46 (Nat.le_of_ble_eq_true rfl) rfl ?_
  unfold f_Snd_sendableCount
  refine sv_aload_n d_Snd_sendableCount_0 rfl ?_
  refine sv_callVi (d := d + 1) (as := []) d_Snd_sendableCount_1 (wv_Snd_42 mc_46) hq ⟨_, rfl, rfl⟩ rfl (Nat.le_of_ble_eq_true rfl) rfl (c_Snd_sentCount (d + 0) q v hq) (fun x2 v1 => ?_)
  refine sv_istore_n (ls' := [some (.ref q), some (.int x2), none]) d_Snd_sendableCount_4 (by decide) rfl ?_
  refine sv_aload_n d_Snd_sendableCount_5 rfl ?_
  refine sv_geti d_Snd_sendableCount_6 (gf_Snd_26 mc_46) hq (sd_8_5 hq) ?_
  refine sv_bipush (x := (48 : Int32)) d_Snd_sendableCount_9 (by decide) ?_
  refine sv_mmin (d := d + 1) d_Snd_sendableCount_11 (wm_Snd_36 mc_46) (Nat.le_of_ble_eq_true rfl) ?_
  refine sv_iload_n d_Snd_sendableCount_14 rfl ?_
  refine sv_isub d_Snd_sendableCount_15 ?_
  refine sv_leR (fun x3 => ?_)
  refine sv_istore_n (ls' := [some (.ref q), some (.int x2), some (.int x3)]) d_Snd_sendableCount_16 (by decide) rfl ?_
  refine sv_aload_n d_Snd_sendableCount_17 rfl ?_
  refine sv_geti d_Snd_sendableCount_18 (gf_Snd_13 mc_46) hq (sd_8_1 hq) ?_
  refine sv_iload_n d_Snd_sendableCount_21 rfl ?_
  refine sv_isub d_Snd_sendableCount_22 ?_
  refine sv_iload_n d_Snd_sendableCount_23 rfl ?_
  refine sv_mmin (d := d + 1) d_Snd_sendableCount_24 (wm_Snd_36 mc_46) (Nat.le_of_ble_eq_true rfl) ?_
  refine sv_bipush (x := (32 : Int32)) d_Snd_sendableCount_27 (by decide) ?_
  refine sv_mmin (d := d + 1) d_Snd_sendableCount_29 (wm_Snd_36 mc_46) (Nat.le_of_ble_eq_true rfl) ?_
  exact sv_iret rfl d_Snd_sendableCount_32
def f_Snd_countSent (q : Nat) (a1 : Int32) (v : sv_T) : Option (sv_T) :=
  sv_ls (sv_up v q 4 (((v q 4) + a1) &&& (65535 : Int32))) fun v1 =>
  some v1
set_option maxHeartbeats 4000000 in
set_option maxRecDepth 100000 in
theorem c_Snd_countSent (d : Nat) (q : Nat) (a1 : Int32) (v : sv_T) (hq : sv_isO (sg q) 8 = true) : sv_Cl (d + 0) 48 [.ref q, .int a1] v (f_Snd_countSent q a1 v) sv_Zv := by
  refine sv_spec (ls0 := [some (.ref q), some (.int a1)]) mp_48 (Nat.le_of_ble_eq_true rfl) rfl ?_
  unfold f_Snd_countSent
  refine sv_aload_n d_Snd_countSent_0 rfl ?_
  refine sv_aload_n d_Snd_countSent_1 rfl ?_
  refine sv_geti d_Snd_countSent_2 (gf_Snd_23 mc_48) hq (sd_8_4 hq) ?_
  refine sv_iload_n d_Snd_countSent_5 rfl ?_
  refine sv_iadd d_Snd_countSent_6 ?_
  refine sv_ldc d_Snd_countSent_7 tw_366 ?_
  refine sv_iand d_Snd_countSent_9 ?_
  refine sv_puti d_Snd_countSent_10 (pf_Snd_23 mc_48) hq (sd_8_4 hq) (fun v1 => ?_)
  exact sv_vret rfl d_Snd_countSent_13
def f_Snd_unsentCount (q : Nat) (v : sv_T) : Option (Int32 × sv_T) :=
  sv_bi (f_Snd_sentCount q v) fun x2 v1 =>
  some (((v q 1) - x2), v1)
set_option maxHeartbeats 4000000 in
set_option maxRecDepth 100000 in
theorem c_Snd_unsentCount (d : Nat) (q : Nat) (v : sv_T) (hq : sv_isO (sg q) 8 = true) : sv_Cl (d + 2) 49 [.ref q] v (f_Snd_unsentCount q v) sv_Zi := by
  refine sv_spec (ls0 := [some (.ref q)]) mp_49 (Nat.le_of_ble_eq_true rfl) rfl ?_
  unfold f_Snd_unsentCount
  refine sv_aload_n d_Snd_unsentCount_0 rfl ?_
  refine sv_geti d_Snd_unsentCount_1 (gf_Snd_13 mc_49) hq (sd_8_1 hq) ?_
  refine sv_aload_n d_Snd_unsentCount_4 rfl ?_
  refine sv_callVi (d := d + 1) (as := []) d_Snd_unsentCount_5 (wv_Snd_42 mc_49) hq ⟨_, rfl, rfl⟩ rfl (Nat.le_of_ble_eq_true rfl) rfl (c_Snd_sentCount (d + 0) q v hq) (fun x2 v1 => ?_)
  refine sv_isub d_Snd_unsentCount_8 ?_
  exact sv_iret rfl d_Snd_unsentCount_9
def f_Snd_isAllConfirmed (q : Nat) (v : sv_T) : Option (Int32 × sv_T) :=
  if (v q 3) = (v q 4) then
  some ((1 : Int32), v)
  else
  some ((0 : Int32), v)
set_option maxHeartbeats 4000000 in
set_option maxRecDepth 100000 in
theorem c_Snd_isAllConfirmed (d : Nat) (q : Nat) (v : sv_T) (hq : sv_isO (sg q) 8 = true) : sv_Cl (d + 0) 50 [.ref q] v (f_Snd_isAllConfirmed q v) sv_Zi := by
  refine sv_spec (ls0 := [some (.ref q)]) mp_50 (Nat.le_of_ble_eq_true rfl) rfl ?_
  unfold f_Snd_isAllConfirmed
  refine sv_aload_n d_Snd_isAllConfirmed_0 rfl ?_
  refine sv_geti d_Snd_isAllConfirmed_1 (gf_Snd_20 mc_50) hq (sd_8_3 hq) ?_
  refine sv_aload_n d_Snd_isAllConfirmed_4 rfl ?_
  refine sv_geti d_Snd_isAllConfirmed_5 (gf_Snd_23 mc_50) hq (sd_8_4 hq) ?_
  refine sv_icmp_ne 15 d_Snd_isAllConfirmed_8 rfl ?_ ?_
  · refine sv_iconst (x := (0 : Int32)) d_Snd_isAllConfirmed_15 (by decide) ?_
    exact sv_zretc rfl (by decide) d_Snd_isAllConfirmed_16
  · refine sv_iconst (x := (1 : Int32)) d_Snd_isAllConfirmed_11 (by decide) ?_
    refine sv_goto 16 d_Snd_isAllConfirmed_12 rfl ?_
    exact sv_zretc rfl (by decide) d_Snd_isAllConfirmed_16
def f_Snd_clear (q : Nat) (v : sv_T) : Option (sv_T) :=
  sv_ls (sv_up v q 1 (0 : Int32)) fun v1 =>
  sv_ls (sv_up v1 q 2 (0 : Int32)) fun v2 =>
  sv_ls (sv_up v2 q 3 (0 : Int32)) fun v3 =>
  sv_ls (sv_up v3 q 4 (0 : Int32)) fun v4 =>
  sv_ls (sv_up v4 q 5 (0 : Int32)) fun v5 =>
  sv_ls (sv_up v5 q 6 (0 : Int32)) fun v6 =>
  some v6
set_option maxHeartbeats 4000000 in
set_option maxRecDepth 100000 in
theorem c_Snd_clear (d : Nat) (q : Nat) (v : sv_T) (hq : sv_isO (sg q) 8 = true) : sv_Cl (d + 0) 59 [.ref q] v (f_Snd_clear q v) sv_Zv := by
  refine sv_spec (ls0 := [some (.ref q)]) mp_59 (Nat.le_of_ble_eq_true rfl) rfl ?_
  unfold f_Snd_clear
  refine sv_aload_n d_Snd_clear_0 rfl ?_
  refine sv_iconst (x := (0 : Int32)) d_Snd_clear_1 (by decide) ?_
  refine sv_puti d_Snd_clear_2 (pf_Snd_13 mc_59) hq (sd_8_1 hq) (fun v1 => ?_)
  refine sv_aload_n d_Snd_clear_5 rfl ?_
  refine sv_iconst (x := (0 : Int32)) d_Snd_clear_6 (by decide) ?_
  refine sv_puti d_Snd_clear_7 (pf_Snd_17 mc_59) hq (sd_8_2 hq) (fun v2 => ?_)
  refine sv_aload_n d_Snd_clear_10 rfl ?_
  refine sv_iconst (x := (0 : Int32)) d_Snd_clear_11 (by decide) ?_
  refine sv_puti d_Snd_clear_12 (pf_Snd_20 mc_59) hq (sd_8_3 hq) (fun v3 => ?_)
  refine sv_aload_n d_Snd_clear_15 rfl ?_
  refine sv_iconst (x := (0 : Int32)) d_Snd_clear_16 (by decide) ?_
  refine sv_puti d_Snd_clear_17 (pf_Snd_23 mc_59) hq (sd_8_4 hq) (fun v4 => ?_)
  refine sv_aload_n d_Snd_clear_20 rfl ?_
  refine sv_iconst (x := (0 : Int32)) d_Snd_clear_21 (by decide) ?_
  refine sv_puti d_Snd_clear_22 (pf_Snd_26 mc_59) hq (sd_8_5 hq) (fun v5 => ?_)
  refine sv_aload_n d_Snd_clear_25 rfl ?_
  refine sv_iconst (x := (0 : Int32)) d_Snd_clear_26 (by decide) ?_
  refine sv_putz d_Snd_clear_27 (pf_Snd_29 mc_59) hq (sd_8_6 hq) (by decide) (fun v6 => ?_)
  exact sv_vret rfl d_Snd_clear_30
def f_Snd_confirm (q : Nat) (a1 : Int32) (v : sv_T) : Option (sv_T) :=
  sv_le ((sv_min ((a1 - (v q 3)) &&& (65535 : Int32)) (v q 1))) fun x1 =>
  sv_ls (sv_up v q 1 ((v q 1) - x1)) fun v2 =>
  sv_cc x1 (0 : Int32) (v2 q 1) 64 64 <| sv_ls (sv_cp v2 (sv_ref (sg q) 0) x1.toNatClampNeg (sv_ref (sg q) 0) (0 : Int32).toNatClampNeg (v2 q 1).toNatClampNeg) fun v3 =>
  sv_ls (sv_up v3 q 3 a1) fun v4 =>
  some v4
set_option maxHeartbeats 4000000 in
set_option maxRecDepth 100000 in
theorem c_Snd_confirm (d : Nat) (q : Nat) (a1 : Int32) (v : sv_T) (hq : sv_isO (sg q) 8 = true) : sv_Cl (d + 1) 94 [.ref q, .int a1] v (f_Snd_confirm q a1 v) sv_Zv := by
  refine sv_spec (ls0 := [some (.ref q), some (.int a1), none]) mp_94 (Nat.le_of_ble_eq_true rfl) rfl ?_
  unfold f_Snd_confirm
  refine sv_iload_n d_Snd_confirm_0 rfl ?_
  refine sv_aload_n d_Snd_confirm_1 rfl ?_
  refine sv_geti d_Snd_confirm_2 (gf_Snd_20 mc_94) hq (sd_8_3 hq) ?_
  refine sv_isub d_Snd_confirm_5 ?_
  refine sv_ldc d_Snd_confirm_6 tw_366 ?_
  refine sv_iand d_Snd_confirm_8 ?_
  refine sv_aload_n d_Snd_confirm_9 rfl ?_
  refine sv_geti d_Snd_confirm_10 (gf_Snd_13 mc_94) hq (sd_8_1 hq) ?_
  refine sv_mmin (d := d + 0) d_Snd_confirm_13 (wm_Snd_36 mc_94) (Nat.le_of_ble_eq_true rfl) ?_
  refine sv_leR (fun x1 => ?_)
  refine sv_istore_n (ls' := [some (.ref q), some (.int a1), some (.int x1)]) d_Snd_confirm_16 (by decide) rfl ?_
  refine sv_aload_n d_Snd_confirm_17 rfl ?_
  refine sv_dup d_Snd_confirm_18 ?_
  refine sv_geti d_Snd_confirm_19 (gf_Snd_13 mc_94) hq (sd_8_1 hq) ?_
  refine sv_iload_n d_Snd_confirm_22 rfl ?_
  refine sv_isub d_Snd_confirm_23 ?_
  refine sv_puti d_Snd_confirm_24 (pf_Snd_13 mc_94) hq (sd_8_1 hq) (fun v2 => ?_)
  refine sv_aload_n d_Snd_confirm_27 rfl ?_
  refine sv_getr d_Snd_confirm_28 (gf_Snd_9 mc_94) hq (sr_8_0 hq) ?_
  refine sv_iload_n d_Snd_confirm_31 rfl ?_
  refine sv_aload_n d_Snd_confirm_32 rfl ?_
  refine sv_getr d_Snd_confirm_33 (gf_Snd_9 mc_94) hq (sr_8_0 hq) ?_
  refine sv_iconst (x := (0 : Int32)) d_Snd_confirm_36 (by decide) ?_
  refine sv_aload_n d_Snd_confirm_37 rfl ?_
  refine sv_geti d_Snd_confirm_38 (gf_Snd_13 mc_94) hq (sd_8_1 hq) ?_
  refine sv_copy (d := d + 0) d_Snd_confirm_41 (wc_Snd_48 mc_94) (Nat.le_of_ble_eq_true rfl) (st_8_0 hq) (st_8_0 hq) (fun v3 => ?_)
  refine sv_aload_n d_Snd_confirm_44 rfl ?_
  refine sv_iload_n d_Snd_confirm_45 rfl ?_
  refine sv_puti d_Snd_confirm_46 (pf_Snd_20 mc_94) hq (sd_8_3 hq) (fun v4 => ?_)
  exact sv_vret rfl d_Snd_confirm_49
def f_Snd_confirms (q : Nat) (a1 : Int32) (v : sv_T) : Option (Int32 × sv_T) :=
  sv_le (((a1 - (v q 3)) &&& (65535 : Int32))) fun x1 =>
  if x1 < (1 : Int32) then
  some ((0 : Int32), v)
  else
  if x1 ≤ (((v q 4) - (v q 3)) &&& (65535 : Int32)) then
  some ((1 : Int32), v)
  else
  some ((0 : Int32), v)
set_option maxHeartbeats 4000000 in
set_option maxRecDepth 100000 in
theorem c_Snd_confirms (d : Nat) (q : Nat) (a1 : Int32) (v : sv_T) (hq : sv_isO (sg q) 8 = true) : sv_Cl (d + 0) 101 [.ref q, .int a1] v (f_Snd_confirms q a1 v) sv_Zi := by
  refine sv_spec (ls0 := [some (.ref q), some (.int a1), none]) mp_101 (Nat.le_of_ble_eq_true rfl) rfl ?_
  unfold f_Snd_confirms
  refine sv_iload_n d_Snd_confirms_0 rfl ?_
  refine sv_aload_n d_Snd_confirms_1 rfl ?_
  refine sv_geti d_Snd_confirms_2 (gf_Snd_20 mc_101) hq (sd_8_3 hq) ?_
  refine sv_isub d_Snd_confirms_5 ?_
  refine sv_ldc d_Snd_confirms_6 tw_366 ?_
  refine sv_iand d_Snd_confirms_8 ?_
  refine sv_leR (fun x1 => ?_)
  refine sv_istore_n (ls' := [some (.ref q), some (.int a1), some (.int x1)]) d_Snd_confirms_9 (by decide) rfl ?_
  refine sv_iload_n d_Snd_confirms_10 rfl ?_
  refine sv_iconst (x := (1 : Int32)) d_Snd_confirms_11 (by decide) ?_
  refine sv_icmp_lt 35 d_Snd_confirms_12 rfl ?_ ?_
  · refine sv_iconst (x := (0 : Int32)) d_Snd_confirms_35 (by decide) ?_
    exact sv_zretc rfl (by decide) d_Snd_confirms_36
  · refine sv_iload_n d_Snd_confirms_15 rfl ?_
    refine sv_aload_n d_Snd_confirms_16 rfl ?_
    refine sv_geti d_Snd_confirms_17 (gf_Snd_23 mc_101) hq (sd_8_4 hq) ?_
    refine sv_aload_n d_Snd_confirms_20 rfl ?_
    refine sv_geti d_Snd_confirms_21 (gf_Snd_20 mc_101) hq (sd_8_3 hq) ?_
    refine sv_isub d_Snd_confirms_24 ?_
    refine sv_ldc d_Snd_confirms_25 tw_366 ?_
    refine sv_iand d_Snd_confirms_27 ?_
    refine sv_icmp_gt 35 d_Snd_confirms_28 rfl ?_ ?_
    · refine sv_iconst (x := (0 : Int32)) d_Snd_confirms_35 (by decide) ?_
      exact sv_zretc rfl (by decide) d_Snd_confirms_36
    · refine sv_iconst (x := (1 : Int32)) d_Snd_confirms_31 (by decide) ?_
      refine sv_goto 36 d_Snd_confirms_32 rfl ?_
      exact sv_zretc rfl (by decide) d_Snd_confirms_36
def f_Snd_isAhead (q : Nat) (a1 : Int32) (v : sv_T) : Option (Int32 × sv_T) :=
  sv_le (((a1 - (v q 4)) &&& (65535 : Int32))) fun x1 =>
  if a1 = (v q 3) then
  some ((0 : Int32), v)
  else
  if x1 < (1 : Int32) then
  some ((0 : Int32), v)
  else
  if x1 ≤ (32767 : Int32) then
  some ((1 : Int32), v)
  else
  some ((0 : Int32), v)
set_option maxHeartbeats 4000000 in
set_option maxRecDepth 100000 in
theorem c_Snd_isAhead (d : Nat) (q : Nat) (a1 : Int32) (v : sv_T) (hq : sv_isO (sg q) 8 = true) : sv_Cl (d + 0) 102 [.ref q, .int a1] v (f_Snd_isAhead q a1 v) sv_Zi := by
  refine sv_spec (ls0 := [some (.ref q), some (.int a1), none]) mp_102 (Nat.le_of_ble_eq_true rfl) rfl ?_
  unfold f_Snd_isAhead
  refine sv_iload_n d_Snd_isAhead_0 rfl ?_
  refine sv_aload_n d_Snd_isAhead_1 rfl ?_
  refine sv_geti d_Snd_isAhead_2 (gf_Snd_23 mc_102) hq (sd_8_4 hq) ?_
  refine sv_isub d_Snd_isAhead_5 ?_
  refine sv_ldc d_Snd_isAhead_6 tw_366 ?_
  refine sv_iand d_Snd_isAhead_8 ?_
  refine sv_leR (fun x1 => ?_)
  refine sv_istore_n (ls' := [some (.ref q), some (.int a1), some (.int x1)]) d_Snd_isAhead_9 (by decide) rfl ?_
  refine sv_iload_n d_Snd_isAhead_10 rfl ?_
  refine sv_aload_n d_Snd_isAhead_11 rfl ?_
  refine sv_geti d_Snd_isAhead_12 (gf_Snd_20 mc_102) hq (sd_8_3 hq) ?_
  refine sv_icmp_eq 34 d_Snd_isAhead_15 rfl ?_ ?_
  · refine sv_iconst (x := (0 : Int32)) d_Snd_isAhead_34 (by decide) ?_
    exact sv_zretc rfl (by decide) d_Snd_isAhead_35
  · refine sv_iload_n d_Snd_isAhead_18 rfl ?_
    refine sv_iconst (x := (1 : Int32)) d_Snd_isAhead_19 (by decide) ?_
    refine sv_icmp_lt 34 d_Snd_isAhead_20 rfl ?_ ?_
    · refine sv_iconst (x := (0 : Int32)) d_Snd_isAhead_34 (by decide) ?_
      exact sv_zretc rfl (by decide) d_Snd_isAhead_35
    · refine sv_iload_n d_Snd_isAhead_23 rfl ?_
      refine sv_sipush (x := (32767 : Int32)) d_Snd_isAhead_24 (by decide) ?_
      refine sv_icmp_gt 34 d_Snd_isAhead_27 rfl ?_ ?_
      · refine sv_iconst (x := (0 : Int32)) d_Snd_isAhead_34 (by decide) ?_
        exact sv_zretc rfl (by decide) d_Snd_isAhead_35
      · refine sv_iconst (x := (1 : Int32)) d_Snd_isAhead_30 (by decide) ?_
        refine sv_goto 35 d_Snd_isAhead_31 rfl ?_
        exact sv_zretc rfl (by decide) d_Snd_isAhead_35
