def f_Ep_startListening (q : Nat) (v : sv_T) : Option (Int32 × sv_T) :=
  if (v q 6) = 0 then
  sv_ls (sv_up v q 6 (1 : Int32)) fun v1 =>
  some ((1 : Int32), v1)
  else
  some ((0 : Int32), v)
set_option maxHeartbeats 4000000 in
set_option maxRecDepth 100000 in
theorem c_Ep_startListening (d : Nat) (q : Nat) (v : sv_T) (hq : sv_isO (sg q) 7 = true) : sv_Cl (d + 0) 16 [.ref q] v (f_Ep_startListening q v) sv_Zi := by
  refine sv_spec (ls0 := [some (.ref q)]) mp_16 (Nat.le_of_ble_eq_true rfl) rfl ?_
  unfold f_Ep_startListening
  refine sv_aload_n d_Ep_startListening_0 rfl ?_
  refine sv_geti d_Ep_startListening_1 (gf_Ep_45 mc_16) hq (sd_7_6 hq) ?_
  refine sv_if_eq 9 d_Ep_startListening_4 rfl ?_ ?_
  · refine sv_aload_n d_Ep_startListening_9 rfl ?_
    refine sv_iconst (x := (1 : Int32)) d_Ep_startListening_10 (by decide) ?_
    refine sv_puti d_Ep_startListening_11 (pf_Ep_45 mc_16) hq (sd_7_6 hq) (fun v1 => ?_)
    refine sv_iconst (x := (1 : Int32)) d_Ep_startListening_14 (by decide) ?_
    exact sv_zretc rfl (by decide) d_Ep_startListening_15
  · refine sv_iconst (x := (0 : Int32)) d_Ep_startListening_7 (by decide) ?_
    exact sv_zretc rfl (by decide) d_Ep_startListening_8
def f_Ep_begin (q : Nat) (a1 : Int32) (v : sv_T) : Option (sv_T) :=
  sv_bv (f_Snd_begin (sv_ref (sg q) 4) ((((1000 : Int32) * (sv_int (sg q) 0)) + ((100 : Int32) * (sv_int (sg q) 1))) + a1) v) fun v1 =>
  sv_ls (sv_up v1 q 7 (v1 q 8)) fun v2 =>
  some v2
set_option maxHeartbeats 4000000 in
set_option maxRecDepth 100000 in
theorem c_Ep_begin (d : Nat) (q : Nat) (a1 : Int32) (v : sv_T) (hq : sv_isO (sg q) 7 = true) : sv_Cl (d + 1) 19 [.ref q, .int a1] v (f_Ep_begin q a1 v) sv_Zv := by
  refine sv_spec (ls0 := [some (.ref q), some (.int a1)]) mp_19 (Nat.le_of_ble_eq_true rfl) rfl ?_
  unfold f_Ep_begin
  refine sv_aload_n d_Ep_begin_0 rfl ?_
  refine sv_getr d_Ep_begin_1 (gf_Ep_31 mc_19) hq (sr_7_4 hq) ?_
  refine sv_sipush (x := (1000 : Int32)) d_Ep_begin_4 (by decide) ?_
  refine sv_aload_n d_Ep_begin_7 rfl ?_
  refine sv_gets d_Ep_begin_8 (gf_Ep_9 mc_19) hq (si_7_0 hq) ?_
  refine sv_imul d_Ep_begin_11 ?_
  refine sv_bipush (x := (100 : Int32)) d_Ep_begin_12 (by decide) ?_
  refine sv_aload_n d_Ep_begin_14 rfl ?_
  refine sv_gets d_Ep_begin_15 (gf_Ep_15 mc_19) hq (si_7_1 hq) ?_
  refine sv_imul d_Ep_begin_18 ?_
  refine sv_iadd d_Ep_begin_19 ?_
  refine sv_iload_n d_Ep_begin_20 rfl ?_
  refine sv_iadd d_Ep_begin_21 ?_
  refine sv_callVv (d := d + 0) (as := [.int ((((1000 : Int32) * (sv_int (sg q) 0)) + ((100 : Int32) * (sv_int (sg q) 1))) + a1)]) d_Ep_begin_22 (wv_Ep_143 mc_19) (st_7_4 hq) ⟨_, rfl, rfl⟩ rfl (Nat.le_of_ble_eq_true rfl) rfl (c_Snd_begin (d + 0) (sv_ref (sg q) 4) ((((1000 : Int32) * (sv_int (sg q) 0)) + ((100 : Int32) * (sv_int (sg q) 1))) + a1) v (st_7_4 hq)) (fun v1 => ?_)
  refine sv_aload_n d_Ep_begin_25 rfl ?_
  refine sv_aload_n d_Ep_begin_26 rfl ?_
  refine sv_geti d_Ep_begin_27 (gf_Ep_42 mc_19) hq (sd_7_8 hq) ?_
  refine sv_puti d_Ep_begin_30 (pf_Ep_97 mc_19) hq (sd_7_7 hq) (fun v2 => ?_)
  exact sv_vret rfl d_Ep_begin_33
def f_Ep_emitWhole (q : Nat) (a1 : Int32) (a2 : Int32) (a3 : Int32) (a4 : Int32) (a5 : Int32) (v : sv_T) : Option (sv_T) :=
  sv_le (((10 : Int32) + a5)) fun x1 =>
  sv_ls (sv_up v (sv_ref (sg q) 3) 0 (6 : Int32)) fun v2 =>
  sv_ls (sv_up v2 (sv_ref (sg q) 3) 1 (sv_int (sg q) 1)) fun v3 =>
  sv_ck ((1 : Int32) + (1 : Int32)) 49 <| sv_ls (sv_up v3 (sv_ref (sg q) 3) ((1 : Int32) + (1 : Int32)).toNatClampNeg a1) fun v4 =>
  sv_bv (f_Num_putPair (sv_ref (sg q) 3) ((1 : Int32) + (2 : Int32)) a2 v4) fun v5 =>
  sv_bv (f_Num_putPair (sv_ref (sg q) 3) ((1 : Int32) + (4 : Int32)) a3 v5) fun v6 =>
  sv_bi (f_Rcv_room (sv_ref (sg q) 5) v6) fun x8 v7 =>
  sv_ck ((1 : Int32) + (6 : Int32)) 49 <| sv_ls (sv_up v7 (sv_ref (sg q) 3) ((1 : Int32) + (6 : Int32)).toNatClampNeg x8) fun v9 =>
  sv_ck ((1 : Int32) + (7 : Int32)) 49 <| sv_ls (sv_up v9 (sv_ref (sg q) 3) ((1 : Int32) + (7 : Int32)).toNatClampNeg (0 : Int32)) fun v10 =>
  sv_bv (f_Num_putPair (sv_ref (sg q) 3) ((1 : Int32) + (8 : Int32)) (0 : Int32) v10) fun v11 =>
  sv_bv (f_Snd_copyTo (sv_ref (sg q) 4) (sv_ref (sg q) 3) ((1 : Int32) + (10 : Int32)) a4 a5 v11) fun v12 =>
  sv_bi (f_Link_addressOf (sv_int (sg q) 0) v12) fun x14 v13 =>
  sv_bi (f_Link_addressOf ((1 : Int32) - (sv_int (sg q) 0)) v13) fun x16 v15 =>
  sv_bi (f_Seg_startOfCheck x14 x16 x1 v15) fun x18 v17 =>
  sv_bi (f_Num_check x18 (sv_ref (sg q) 3) (1 : Int32) x1 v17) fun x20 v19 =>
  sv_bv (f_Num_putPair (sv_ref (sg q) 3) ((1 : Int32) + (8 : Int32)) x20 v19) fun v21 =>
  sv_bv (f_Rows_add (sv_ref (sg q) 2) (sv_ref (sg q) 3) ((1 : Int32) + x1) v21) fun v22 =>
  some v22
set_option maxHeartbeats 4000000 in
set_option maxRecDepth 100000 in
theorem c_Ep_emitWhole (d : Nat) (q : Nat) (a1 : Int32) (a2 : Int32) (a3 : Int32) (a4 : Int32) (a5 : Int32) (v : sv_T) (hq : sv_isO (sg q) 7 = true) : sv_Cl (d + 2) 22 [.ref q, .int a1, .int a2, .int a3, .int a4, .int a5] v (f_Ep_emitWhole q a1 a2 a3 a4 a5 v) sv_Zv := by
  refine sv_spec (ls0 := [some (.ref q), some (.int a1), some (.int a2), some (.int a3), some (.int a4), some (.int a5), none, none, none]) mp_22 (Nat.le_of_ble_eq_true rfl) rfl ?_
  unfold f_Ep_emitWhole
  refine sv_iconst (x := (1 : Int32)) d_Ep_emitWhole_0 (by decide) ?_
  refine sv_istore (ls' := [some (.ref q), some (.int a1), some (.int a2), some (.int a3), some (.int a4), some (.int a5), some (.int (1 : Int32)), none, none]) d_Ep_emitWhole_1 (by decide) rfl ?_
  refine sv_bipush (x := (10 : Int32)) d_Ep_emitWhole_3 (by decide) ?_
  refine sv_iload d_Ep_emitWhole_5 rfl ?_
  refine sv_iadd d_Ep_emitWhole_7 ?_
  refine sv_leR (fun x1 => ?_)
  refine sv_istore (ls' := [some (.ref q), some (.int a1), some (.int a2), some (.int a3), some (.int a4), some (.int a5), some (.int (1 : Int32)), some (.int x1), none]) d_Ep_emitWhole_8 (by decide) rfl ?_
  refine sv_aload_n d_Ep_emitWhole_10 rfl ?_
  refine sv_getr d_Ep_emitWhole_11 (gf_Ep_24 mc_22) hq (sr_7_3 hq) ?_
  refine sv_iconst (x := (0 : Int32)) d_Ep_emitWhole_14 (by decide) ?_
  refine sv_bipush (x := (6 : Int32)) d_Ep_emitWhole_15 (by decide) ?_
  refine sv_iastc (m := 0) d_Ep_emitWhole_17 (st_7_3 hq) (by decide) rfl (fun v2 => ?_)
  refine sv_aload_n d_Ep_emitWhole_18 rfl ?_
  refine sv_getr d_Ep_emitWhole_19 (gf_Ep_24 mc_22) hq (sr_7_3 hq) ?_
  refine sv_iload d_Ep_emitWhole_22 rfl ?_
  refine sv_aload_n d_Ep_emitWhole_24 rfl ?_
  refine sv_gets d_Ep_emitWhole_25 (gf_Ep_15 mc_22) hq (si_7_1 hq) ?_
  refine sv_iastc (m := 1) d_Ep_emitWhole_28 (st_7_3 hq) (by decide) rfl (fun v3 => ?_)
  refine sv_aload_n d_Ep_emitWhole_29 rfl ?_
  refine sv_getr d_Ep_emitWhole_30 (gf_Ep_24 mc_22) hq (sr_7_3 hq) ?_
  refine sv_iload d_Ep_emitWhole_33 rfl ?_
  refine sv_iconst (x := (1 : Int32)) d_Ep_emitWhole_35 (by decide) ?_
  refine sv_iadd d_Ep_emitWhole_36 ?_
  refine sv_iload_n d_Ep_emitWhole_37 rfl ?_
  refine sv_iast d_Ep_emitWhole_38 (st_7_3 hq) (fun v4 => ?_)
  refine sv_aload_n d_Ep_emitWhole_39 rfl ?_
  refine sv_getr d_Ep_emitWhole_40 (gf_Ep_24 mc_22) hq (sr_7_3 hq) ?_
  refine sv_iload d_Ep_emitWhole_43 rfl ?_
  refine sv_iconst (x := (2 : Int32)) d_Ep_emitWhole_45 (by decide) ?_
  refine sv_iadd d_Ep_emitWhole_46 ?_
  refine sv_iload_n d_Ep_emitWhole_47 rfl ?_
  refine sv_callSv (d := d + 1) (as := [.ref (sv_ref (sg q) 3), .int ((1 : Int32) + (2 : Int32)), .int a2]) d_Ep_emitWhole_48 (ws_Ep_226 mc_22)  rfl (Nat.le_of_ble_eq_true rfl) rfl (c_Num_putPair (d + 1) (sv_ref (sg q) 3) ((1 : Int32) + (2 : Int32)) a2 v4 (sv_isAl (st_7_3 hq))) (fun v5 => ?_)
  refine sv_aload_n d_Ep_emitWhole_51 rfl ?_
  refine sv_getr d_Ep_emitWhole_52 (gf_Ep_24 mc_22) hq (sr_7_3 hq) ?_
  refine sv_iload d_Ep_emitWhole_55 rfl ?_
  refine sv_iconst (x := (4 : Int32)) d_Ep_emitWhole_57 (by decide) ?_
  refine sv_iadd d_Ep_emitWhole_58 ?_
  refine sv_iload_n d_Ep_emitWhole_59 rfl ?_
  refine sv_callSv (d := d + 1) (as := [.ref (sv_ref (sg q) 3), .int ((1 : Int32) + (4 : Int32)), .int a3]) d_Ep_emitWhole_60 (ws_Ep_226 mc_22)  rfl (Nat.le_of_ble_eq_true rfl) rfl (c_Num_putPair (d + 1) (sv_ref (sg q) 3) ((1 : Int32) + (4 : Int32)) a3 v5 (sv_isAl (st_7_3 hq))) (fun v6 => ?_)
  refine sv_aload_n d_Ep_emitWhole_63 rfl ?_
  refine sv_getr d_Ep_emitWhole_64 (gf_Ep_24 mc_22) hq (sr_7_3 hq) ?_
  refine sv_iload d_Ep_emitWhole_67 rfl ?_
  refine sv_bipush (x := (6 : Int32)) d_Ep_emitWhole_69 (by decide) ?_
  refine sv_iadd d_Ep_emitWhole_71 ?_
  refine sv_aload_n d_Ep_emitWhole_72 rfl ?_
  refine sv_getr d_Ep_emitWhole_73 (gf_Ep_38 mc_22) hq (sr_7_5 hq) ?_
  refine sv_callVi (d := d + 1) (as := []) d_Ep_emitWhole_76 (wv_Ep_78 mc_22) (st_7_5 hq) ⟨_, rfl, rfl⟩ rfl (Nat.le_of_ble_eq_true rfl) rfl (c_Rcv_room (d + 1) (sv_ref (sg q) 5) v6 (st_7_5 hq)) (fun x8 v7 => ?_)
  refine sv_iast d_Ep_emitWhole_79 (st_7_3 hq) (fun v9 => ?_)
  refine sv_aload_n d_Ep_emitWhole_80 rfl ?_
  refine sv_getr d_Ep_emitWhole_81 (gf_Ep_24 mc_22) hq (sr_7_3 hq) ?_
  refine sv_iload d_Ep_emitWhole_84 rfl ?_
  refine sv_bipush (x := (7 : Int32)) d_Ep_emitWhole_86 (by decide) ?_
  refine sv_iadd d_Ep_emitWhole_88 ?_
  refine sv_iconst (x := (0 : Int32)) d_Ep_emitWhole_89 (by decide) ?_
  refine sv_iast d_Ep_emitWhole_90 (st_7_3 hq) (fun v10 => ?_)
  refine sv_aload_n d_Ep_emitWhole_91 rfl ?_
  refine sv_getr d_Ep_emitWhole_92 (gf_Ep_24 mc_22) hq (sr_7_3 hq) ?_
  refine sv_iload d_Ep_emitWhole_95 rfl ?_
  refine sv_bipush (x := (8 : Int32)) d_Ep_emitWhole_97 (by decide) ?_
  refine sv_iadd d_Ep_emitWhole_99 ?_
  refine sv_iconst (x := (0 : Int32)) d_Ep_emitWhole_100 (by decide) ?_
  refine sv_callSv (d := d + 1) (as := [.ref (sv_ref (sg q) 3), .int ((1 : Int32) + (8 : Int32)), .int (0 : Int32)]) d_Ep_emitWhole_101 (ws_Ep_226 mc_22)  rfl (Nat.le_of_ble_eq_true rfl) rfl (c_Num_putPair (d + 1) (sv_ref (sg q) 3) ((1 : Int32) + (8 : Int32)) (0 : Int32) v10 (sv_isAl (st_7_3 hq))) (fun v11 => ?_)
  refine sv_aload_n d_Ep_emitWhole_104 rfl ?_
  refine sv_getr d_Ep_emitWhole_105 (gf_Ep_31 mc_22) hq (sr_7_4 hq) ?_
  refine sv_aload_n d_Ep_emitWhole_108 rfl ?_
  refine sv_getr d_Ep_emitWhole_109 (gf_Ep_24 mc_22) hq (sr_7_3 hq) ?_
  refine sv_iload d_Ep_emitWhole_112 rfl ?_
  refine sv_bipush (x := (10 : Int32)) d_Ep_emitWhole_114 (by decide) ?_
  refine sv_iadd d_Ep_emitWhole_116 ?_
  refine sv_iload d_Ep_emitWhole_117 rfl ?_
  refine sv_iload d_Ep_emitWhole_119 rfl ?_
  refine sv_callVv (d := d + 1) (as := [.ref (sv_ref (sg q) 3), .int ((1 : Int32) + (10 : Int32)), .int a4, .int a5]) d_Ep_emitWhole_121 (wv_Ep_232 mc_22) (st_7_4 hq) ⟨_, rfl, rfl⟩ rfl (Nat.le_of_ble_eq_true rfl) rfl (c_Snd_copyTo (d + 0) (sv_ref (sg q) 4) (sv_ref (sg q) 3) ((1 : Int32) + (10 : Int32)) a4 a5 v11 (st_7_4 hq) (sv_isAl (st_7_3 hq))) (fun v12 => ?_)
  refine sv_aload_n d_Ep_emitWhole_124 rfl ?_
  refine sv_gets d_Ep_emitWhole_125 (gf_Ep_9 mc_22) hq (si_7_0 hq) ?_
  refine sv_callSi (d := d + 1) (as := [.int (sv_int (sg q) 0)]) d_Ep_emitWhole_128 (ws_Ep_236 mc_22)  rfl (Nat.le_of_ble_eq_true rfl) rfl (c_Link_addressOf (d + 1) (sv_int (sg q) 0) v12 ) (fun x14 v13 => ?_)
  refine sv_iconst (x := (1 : Int32)) d_Ep_emitWhole_131 (by decide) ?_
  refine sv_aload_n d_Ep_emitWhole_132 rfl ?_
  refine sv_gets d_Ep_emitWhole_133 (gf_Ep_9 mc_22) hq (si_7_0 hq) ?_
  refine sv_isub d_Ep_emitWhole_136 ?_
  refine sv_callSi (d := d + 1) (as := [.int ((1 : Int32) - (sv_int (sg q) 0))]) d_Ep_emitWhole_137 (ws_Ep_236 mc_22)  rfl (Nat.le_of_ble_eq_true rfl) rfl (c_Link_addressOf (d + 1) ((1 : Int32) - (sv_int (sg q) 0)) v13 ) (fun x16 v15 => ?_)
  refine sv_iload d_Ep_emitWhole_140 rfl ?_
  refine sv_callSi (d := d + 1) (as := [.int x14, .int x16, .int x1]) d_Ep_emitWhole_142 (ws_Ep_242 mc_22)  rfl (Nat.le_of_ble_eq_true rfl) rfl (c_Seg_startOfCheck (d + 1) x14 x16 x1 v15 ) (fun x18 v17 => ?_)
  refine sv_istore (ls' := [some (.ref q), some (.int a1), some (.int a2), some (.int a3), some (.int a4), some (.int a5), some (.int (1 : Int32)), some (.int x1), some (.int x18)]) d_Ep_emitWhole_145 (by decide) rfl ?_
  refine sv_aload_n d_Ep_emitWhole_147 rfl ?_
  refine sv_getr d_Ep_emitWhole_148 (gf_Ep_24 mc_22) hq (sr_7_3 hq) ?_
  refine sv_iload d_Ep_emitWhole_151 rfl ?_
  refine sv_bipush (x := (8 : Int32)) d_Ep_emitWhole_153 (by decide) ?_
  refine sv_iadd d_Ep_emitWhole_155 ?_
  refine sv_iload d_Ep_emitWhole_156 rfl ?_
  refine sv_aload_n d_Ep_emitWhole_158 rfl ?_
  refine sv_getr d_Ep_emitWhole_159 (gf_Ep_24 mc_22) hq (sr_7_3 hq) ?_
  refine sv_iload d_Ep_emitWhole_162 rfl ?_
  refine sv_iload d_Ep_emitWhole_164 rfl ?_
  refine sv_callSi (d := d + 1) (as := [.int x18, .ref (sv_ref (sg q) 3), .int (1 : Int32), .int x1]) d_Ep_emitWhole_166 (ws_Ep_246 mc_22)  rfl (Nat.le_of_ble_eq_true rfl) rfl (c_Num_check (d + 1) x18 (sv_ref (sg q) 3) (1 : Int32) x1 v17 (sv_isAl (st_7_3 hq))) (fun x20 v19 => ?_)
  refine sv_callSv (d := d + 1) (as := [.ref (sv_ref (sg q) 3), .int ((1 : Int32) + (8 : Int32)), .int x20]) d_Ep_emitWhole_169 (ws_Ep_226 mc_22)  rfl (Nat.le_of_ble_eq_true rfl) rfl (c_Num_putPair (d + 1) (sv_ref (sg q) 3) ((1 : Int32) + (8 : Int32)) x20 v19 (sv_isAl (st_7_3 hq))) (fun v21 => ?_)
  refine sv_aload_n d_Ep_emitWhole_172 rfl ?_
  refine sv_getr d_Ep_emitWhole_173 (gf_Ep_18 mc_22) hq (sr_7_2 hq) ?_
  refine sv_aload_n d_Ep_emitWhole_176 rfl ?_
  refine sv_getr d_Ep_emitWhole_177 (gf_Ep_24 mc_22) hq (sr_7_3 hq) ?_
  refine sv_iload d_Ep_emitWhole_180 rfl ?_
  refine sv_iload d_Ep_emitWhole_182 rfl ?_
  refine sv_iadd d_Ep_emitWhole_184 ?_
  refine sv_callVv (d := d + 1) (as := [.ref (sv_ref (sg q) 3), .int ((1 : Int32) + x1)]) d_Ep_emitWhole_185 (wv_Ep_250 mc_22) (st_7_2 hq) ⟨_, rfl, rfl⟩ rfl (Nat.le_of_ble_eq_true rfl) rfl (c_Rows_add (d + 0) (sv_ref (sg q) 2) (sv_ref (sg q) 3) ((1 : Int32) + x1) v21 (st_7_2 hq) (sv_isAl (st_7_3 hq))) (fun v22 => ?_)
  exact sv_vret rfl d_Ep_emitWhole_188
def f_Ep_emit (q : Nat) (a1 : Int32) (a2 : Int32) (v : sv_T) : Option (sv_T) :=
  sv_bv (f_Ep_emitWhole q a1 a2 (v (sv_ref (sg q) 5) 3) (0 : Int32) (0 : Int32) v) fun v1 =>
  some v1
set_option maxHeartbeats 4000000 in
set_option maxRecDepth 100000 in
theorem c_Ep_emit (d : Nat) (q : Nat) (a1 : Int32) (a2 : Int32) (v : sv_T) (hq : sv_isO (sg q) 7 = true) : sv_Cl (d + 3) 21 [.ref q, .int a1, .int a2] v (f_Ep_emit q a1 a2 v) sv_Zv := by
  refine sv_spec (ls0 := [some (.ref q), some (.int a1), some (.int a2)]) mp_21 (Nat.le_of_ble_eq_true rfl) rfl ?_
  unfold f_Ep_emit
  refine sv_aload_n d_Ep_emit_0 rfl ?_
  refine sv_iload_n d_Ep_emit_1 rfl ?_
  refine sv_iload_n d_Ep_emit_2 rfl ?_
  refine sv_aload_n d_Ep_emit_3 rfl ?_
  refine sv_getr d_Ep_emit_4 (gf_Ep_38 mc_21) hq (sr_7_5 hq) ?_
  refine sv_geti d_Ep_emit_7 (gf_Ep_130 mc_21) (st_7_5 hq) (sd_9_3 (st_7_5 hq)) ?_
  refine sv_iconst (x := (0 : Int32)) d_Ep_emit_10 (by decide) ?_
  refine sv_iconst (x := (0 : Int32)) d_Ep_emit_11 (by decide) ?_
  refine sv_callVv (d := d + 2) (as := [.int a1, .int a2, .int (v (sv_ref (sg q) 5) 3), .int (0 : Int32), .int (0 : Int32)]) d_Ep_emit_12 (wv_Ep_166 mc_21) hq ⟨_, rfl, rfl⟩ rfl (Nat.le_of_ble_eq_true rfl) rfl (c_Ep_emitWhole (d + 0) q a1 a2 (v (sv_ref (sg q) 5) 3) (0 : Int32) (0 : Int32) v hq) (fun v1 => ?_)
  exact sv_vret rfl d_Ep_emit_15
def f_Ep_startConnecting (q : Nat) (a1 : Int32) (v : sv_T) : Option (Int32 × sv_T) :=
  if (v q 6) = 0 then
  sv_bv (f_Ep_begin q a1 v) fun v1 =>
  sv_ls (sv_up v1 q 6 (2 : Int32)) fun v2 =>
  sv_bv (f_Ep_emit q (2 : Int32) (v2 (sv_ref (sg q) 4) 2) v2) fun v3 =>
  some ((1 : Int32), v3)
  else
  some ((0 : Int32), v)
set_option maxHeartbeats 4000000 in
set_option maxRecDepth 100000 in
theorem c_Ep_startConnecting (d : Nat) (q : Nat) (a1 : Int32) (v : sv_T) (hq : sv_isO (sg q) 7 = true) : sv_Cl (d + 4) 18 [.ref q, .int a1] v (f_Ep_startConnecting q a1 v) sv_Zi := by
  refine sv_spec (ls0 := [some (.ref q), some (.int a1)]) mp_18 (Nat.le_of_ble_eq_true rfl) rfl ?_
  unfold f_Ep_startConnecting
  refine sv_aload_n d_Ep_startConnecting_0 rfl ?_
  refine sv_geti d_Ep_startConnecting_1 (gf_Ep_45 mc_18) hq (sd_7_6 hq) ?_
  refine sv_if_eq 9 d_Ep_startConnecting_4 rfl ?_ ?_
  · refine sv_aload_n d_Ep_startConnecting_9 rfl ?_
    refine sv_iload_n d_Ep_startConnecting_10 rfl ?_
    refine sv_callVv (d := d + 3) (as := [.int a1]) d_Ep_startConnecting_11 (wv_Ep_48 mc_18) hq ⟨_, rfl, rfl⟩ rfl (Nat.le_of_ble_eq_true rfl) rfl (c_Ep_begin (d + 2) q a1 v hq) (fun v1 => ?_)
    refine sv_aload_n d_Ep_startConnecting_14 rfl ?_
    refine sv_iconst (x := (2 : Int32)) d_Ep_startConnecting_15 (by decide) ?_
    refine sv_puti d_Ep_startConnecting_16 (pf_Ep_45 mc_18) hq (sd_7_6 hq) (fun v2 => ?_)
    refine sv_aload_n d_Ep_startConnecting_19 rfl ?_
    refine sv_iconst (x := (2 : Int32)) d_Ep_startConnecting_20 (by decide) ?_
    refine sv_aload_n d_Ep_startConnecting_21 rfl ?_
    refine sv_getr d_Ep_startConnecting_22 (gf_Ep_31 mc_18) hq (sr_7_4 hq) ?_
    refine sv_geti d_Ep_startConnecting_25 (gf_Ep_54 mc_18) (st_7_4 hq) (sd_8_2 (st_7_4 hq)) ?_
    refine sv_callVv (d := d + 3) (as := [.int (2 : Int32), .int (v2 (sv_ref (sg q) 4) 2)]) d_Ep_startConnecting_28 (wv_Ep_57 mc_18) hq ⟨_, rfl, rfl⟩ rfl (Nat.le_of_ble_eq_true rfl) rfl (c_Ep_emit (d + 0) q (2 : Int32) (v2 (sv_ref (sg q) 4) 2) v2 hq) (fun v3 => ?_)
    refine sv_iconst (x := (1 : Int32)) d_Ep_startConnecting_31 (by decide) ?_
    exact sv_zretc rfl (by decide) d_Ep_startConnecting_32
  · refine sv_iconst (x := (0 : Int32)) d_Ep_startConnecting_7 (by decide) ?_
    exact sv_zretc rfl (by decide) d_Ep_startConnecting_8
def f_Ep_isSendingState (q : Nat) (v : sv_T) : Option (Int32 × sv_T) :=
  if (v q 6) = (4 : Int32) then
  some ((1 : Int32), v)
  else
  if (v q 6) = (7 : Int32) then
  some ((1 : Int32), v)
  else
  some ((0 : Int32), v)
set_option maxHeartbeats 4000000 in
set_option maxRecDepth 100000 in
theorem c_Ep_isSendingState (d : Nat) (q : Nat) (v : sv_T) (hq : sv_isO (sg q) 7 = true) : sv_Cl (d + 0) 41 [.ref q] v (f_Ep_isSendingState q v) sv_Zi := by
  refine sv_spec (ls0 := [some (.ref q)]) mp_41 (Nat.le_of_ble_eq_true rfl) rfl ?_
  unfold f_Ep_isSendingState
  refine sv_aload_n d_Ep_isSendingState_0 rfl ?_
  refine sv_geti d_Ep_isSendingState_1 (gf_Ep_45 mc_41) hq (sd_7_6 hq) ?_
  refine sv_iconst (x := (4 : Int32)) d_Ep_isSendingState_4 (by decide) ?_
  refine sv_icmp_eq 17 d_Ep_isSendingState_5 rfl ?_ ?_
  · refine sv_iconst (x := (1 : Int32)) d_Ep_isSendingState_17 (by decide) ?_
    refine sv_goto 22 d_Ep_isSendingState_18 rfl ?_
    exact sv_zretc rfl (by decide) d_Ep_isSendingState_22
  · refine sv_aload_n d_Ep_isSendingState_8 rfl ?_
    refine sv_geti d_Ep_isSendingState_9 (gf_Ep_45 mc_41) hq (sd_7_6 hq) ?_
    refine sv_bipush (x := (7 : Int32)) d_Ep_isSendingState_12 (by decide) ?_
    refine sv_icmp_ne 21 d_Ep_isSendingState_14 rfl ?_ ?_
    · refine sv_iconst (x := (0 : Int32)) d_Ep_isSendingState_21 (by decide) ?_
      exact sv_zretc rfl (by decide) d_Ep_isSendingState_22
    · refine sv_iconst (x := (1 : Int32)) d_Ep_isSendingState_17 (by decide) ?_
      refine sv_goto 22 d_Ep_isSendingState_18 rfl ?_
      exact sv_zretc rfl (by decide) d_Ep_isSendingState_22
def f_Ep_pushBytes_l2 (r0 : Nat) (l1 : Int32) (v : sv_T) : Option ((Int32 × sv_T) ⊕ (sv_T)) :=
  if l1 < (64 : Int32) then
  sv_bi (f_Snd_sendableCount (sv_ref (sg r0) 4) v) fun x2 v1 =>
  if x2 ≤ 0 then
  Option.map Sum.inr (some v1)
  else
  sv_bi (f_Snd_sentCount (sv_ref (sg r0) 4) v1) fun x4 v3 =>
  sv_bv (f_Ep_emitWhole r0 (16 : Int32) (v1 (sv_ref (sg r0) 4) 4) (v1 (sv_ref (sg r0) 5) 3) x4 x2 v3) fun v5 =>
  sv_bv (f_Snd_countSent (sv_ref (sg r0) 4) x2 v5) fun v6 =>
  sv_le (l1 + (1 : Int32)) fun x7 =>
  some (.inl (x7, v6))
  else
  Option.map Sum.inr (some v)
def f_Ep_pushBytes (q : Nat) (v : sv_T) : Option (sv_T) :=
  sv_loop (fun (s : Int32 × sv_T) => f_Ep_pushBytes_l2 q s.1 (s.2)) 100000 ((0 : Int32), v)
set_option maxHeartbeats 4000000 in
set_option maxRecDepth 100000 in
theorem c_Ep_pushBytes_l2 (d : Nat) (r0 : Nat) (l1 : Int32) (v : sv_T) (hr0 : sv_isO (sg r0) 7 = true) : sv_Ref (d + 3) 45 2 [some (.ref r0), some (.int l1), none] [] v (f_Ep_pushBytes_l2 r0 l1 v) (sv_Zl (d + 3) 45 2 (fun (s : Int32 × sv_T) => [some (.ref r0), some (.int s.1), none]) (fun (s : Int32 × sv_T) => s.2) (sv_Zv)) := by
  unfold f_Ep_pushBytes_l2
  refine sv_iload_n d_Ep_pushBytes_2 rfl ?_
  refine sv_bipush (x := (64 : Int32)) d_Ep_pushBytes_3 (by decide) ?_
  refine sv_icmp_ge 63 d_Ep_pushBytes_5 rfl ?_ ?_
  · refine sv_exit ?_
    exact sv_vret rfl d_Ep_pushBytes_63
  · refine sv_aload_n d_Ep_pushBytes_8 rfl ?_
    refine sv_getr d_Ep_pushBytes_9 (gf_Ep_31 mc_45) hr0 (sr_7_4 hr0) ?_
    refine sv_callVi (d := d + 2) (as := []) d_Ep_pushBytes_12 (wv_Ep_160 mc_45) (st_7_4 hr0) ⟨_, rfl, rfl⟩ rfl (Nat.le_of_ble_eq_true rfl) rfl (c_Snd_sendableCount (d + 0) (sv_ref (sg r0) 4) v (st_7_4 hr0)) (fun x2 v1 => ?_)
    refine sv_istore_n (ls' := [some (.ref r0), some (.int l1), some (.int x2)]) d_Ep_pushBytes_15 (by decide) rfl ?_
    refine sv_iload_n d_Ep_pushBytes_16 rfl ?_
    refine sv_if_gt 21 d_Ep_pushBytes_17 rfl ?_ ?_
    · refine sv_aload_n d_Ep_pushBytes_21 rfl ?_
      refine sv_bipush (x := (16 : Int32)) d_Ep_pushBytes_22 (by decide) ?_
      refine sv_aload_n d_Ep_pushBytes_24 rfl ?_
      refine sv_getr d_Ep_pushBytes_25 (gf_Ep_31 mc_45) hr0 (sr_7_4 hr0) ?_
      refine sv_geti d_Ep_pushBytes_28 (gf_Ep_94 mc_45) (st_7_4 hr0) (sd_8_4 (st_7_4 hr0)) ?_
      refine sv_aload_n d_Ep_pushBytes_31 rfl ?_
      refine sv_getr d_Ep_pushBytes_32 (gf_Ep_38 mc_45) hr0 (sr_7_5 hr0) ?_
      refine sv_geti d_Ep_pushBytes_35 (gf_Ep_130 mc_45) (st_7_5 hr0) (sd_9_3 (st_7_5 hr0)) ?_
      refine sv_aload_n d_Ep_pushBytes_38 rfl ?_
      refine sv_getr d_Ep_pushBytes_39 (gf_Ep_31 mc_45) hr0 (sr_7_4 hr0) ?_
      refine sv_callVi (d := d + 2) (as := []) d_Ep_pushBytes_42 (wv_Ep_163 mc_45) (st_7_4 hr0) ⟨_, rfl, rfl⟩ rfl (Nat.le_of_ble_eq_true rfl) rfl (c_Snd_sentCount (d + 1) (sv_ref (sg r0) 4) v1 (st_7_4 hr0)) (fun x4 v3 => ?_)
      refine sv_iload_n d_Ep_pushBytes_45 rfl ?_
      refine sv_callVv (d := d + 2) (as := [.int (16 : Int32), .int (v1 (sv_ref (sg r0) 4) 4), .int (v1 (sv_ref (sg r0) 5) 3), .int x4, .int x2]) d_Ep_pushBytes_46 (wv_Ep_166 mc_45) hr0 ⟨_, rfl, rfl⟩ rfl (Nat.le_of_ble_eq_true rfl) rfl (c_Ep_emitWhole (d + 0) r0 (16 : Int32) (v1 (sv_ref (sg r0) 4) 4) (v1 (sv_ref (sg r0) 5) 3) x4 x2 v3 hr0) (fun v5 => ?_)
      refine sv_aload_n d_Ep_pushBytes_49 rfl ?_
      refine sv_getr d_Ep_pushBytes_50 (gf_Ep_31 mc_45) hr0 (sr_7_4 hr0) ?_
      refine sv_iload_n d_Ep_pushBytes_53 rfl ?_
      refine sv_callVv (d := d + 2) (as := [.int x2]) d_Ep_pushBytes_54 (wv_Ep_154 mc_45) (st_7_4 hr0) ⟨_, rfl, rfl⟩ rfl (Nat.le_of_ble_eq_true rfl) rfl (c_Snd_countSent (d + 2) (sv_ref (sg r0) 4) x2 v5 (st_7_4 hr0)) (fun v6 => ?_)
      refine sv_iinc (ls' := fun x7 => [some (.ref r0), some (.int x7), some (.int x2)]) (y := (1 : Int32)) d_Ep_pushBytes_57 rfl (by decide) (fun _ => rfl) (fun x7 => ?_)
      refine sv_goto 2 d_Ep_pushBytes_60 rfl ?_
      exact sv_next (x7, v6) ⟨rfl, rfl, trivial⟩ rfl
    · refine sv_exit ?_
      exact sv_vret rfl d_Ep_pushBytes_20
set_option maxHeartbeats 4000000 in
set_option maxRecDepth 100000 in
theorem c_Ep_pushBytes (d : Nat) (q : Nat) (v : sv_T) (hq : sv_isO (sg q) 7 = true) : sv_Cl (d + 3) 45 [.ref q] v (f_Ep_pushBytes q v) sv_Zv := by
  refine sv_spec (ls0 := [some (.ref q), none, none]) mp_45 (Nat.le_of_ble_eq_true rfl) rfl ?_
  unfold f_Ep_pushBytes
  refine sv_iconst (x := (0 : Int32)) d_Ep_pushBytes_0 (by decide) ?_
  refine sv_istore_n (ls' := [some (.ref q), some (.int (0 : Int32)), none]) d_Ep_pushBytes_1 (by decide) rfl ?_
  exact sv_loopR (L := (fun (s : Int32 × sv_T) => [some (.ref q), some (.int s.1), none])) (S := (fun (s : Int32 × sv_T) => s.2)) (fun s => c_Ep_pushBytes_l2 d q s.1 (s.2) hq) 100000 ((0 : Int32), v)
def f_Ep_push_b98 (r0 : Nat) (v : sv_T) : Option (sv_T) :=
  sv_ls (sv_up v r0 7 (v r0 8)) fun v6 =>
  some v6
def f_Ep_push_b71 (r0 : Nat) (v : sv_T) : Option (sv_T) :=
  if (v r0 7) = 0 then
  sv_bi (f_Snd_isAllConfirmed (sv_ref (sg r0) 4) v) fun x5 v4 =>
  if x5 = 0 then
  f_Ep_push_b98 r0 v4
  else
  sv_bi (f_Snd_unsentCount (sv_ref (sg r0) 4) v4) fun x8 v7 =>
  if 0 < x8 then
  f_Ep_push_b98 r0 v7
  else
  some v7
  else
  some v
def f_Ep_push_b68 (r0 : Nat) (s0 : Int32) (t1 : Nat) (v : sv_T) : Option (sv_T) :=
  sv_ls (sv_up v t1 6 s0) fun v13 =>
  f_Ep_push_b71 r0 v13
def f_Ep_push (q : Nat) (v : sv_T) : Option (sv_T) :=
  sv_bi (f_Ep_isSendingState q v) fun x2 v1 =>
  if x2 = 0 then
  some v1
  else
  sv_bv (f_Ep_pushBytes q v1) fun v3 =>
  if (v3 (sv_ref (sg q) 4) 6) = 0 then
  f_Ep_push_b71 q v3
  else
  sv_bi (f_Snd_unsentCount (sv_ref (sg q) 4) v3) fun x10 v9 =>
  if x10 = 0 then
  sv_bv (f_Ep_emit q (17 : Int32) (v9 (sv_ref (sg q) 4) 4) v9) fun v11 =>
  sv_bv (f_Snd_countSent (sv_ref (sg q) 4) (1 : Int32) v11) fun v12 =>
  if (v12 q 6) = (4 : Int32) then
  f_Ep_push_b68 q (5 : Int32) q v12
  else
  f_Ep_push_b68 q (9 : Int32) q v12
  else
  f_Ep_push_b71 q v9
set_option maxHeartbeats 4000000 in
set_option maxRecDepth 100000 in
theorem c_Ep_push_b98 (d : Nat) (r0 : Nat) (v : sv_T) (hr0 : sv_isO (sg r0) 7 = true) : sv_Ref (d + 4) 44 98 [some (.ref r0)] [] v (f_Ep_push_b98 r0 v) (sv_Zv) := by
  unfold f_Ep_push_b98
  refine sv_aload_n d_Ep_push_98 rfl ?_
  refine sv_aload_n d_Ep_push_99 rfl ?_
  refine sv_geti d_Ep_push_100 (gf_Ep_42 mc_44) hr0 (sd_7_8 hr0) ?_
  refine sv_puti d_Ep_push_103 (pf_Ep_97 mc_44) hr0 (sd_7_7 hr0) (fun v6 => ?_)
  exact sv_vret rfl d_Ep_push_106
set_option maxHeartbeats 4000000 in
set_option maxRecDepth 100000 in
theorem c_Ep_push_b71 (d : Nat) (r0 : Nat) (v : sv_T) (hr0 : sv_isO (sg r0) 7 = true) : sv_Ref (d + 4) 44 71 [some (.ref r0)] [] v (f_Ep_push_b71 r0 v) (sv_Zv) := by
  unfold f_Ep_push_b71
  refine sv_aload_n d_Ep_push_71 rfl ?_
  refine sv_geti d_Ep_push_72 (gf_Ep_97 mc_44) hr0 (sd_7_7 hr0) ?_
  refine sv_if_ne 106 d_Ep_push_75 rfl ?_ ?_
  · exact sv_vret rfl d_Ep_push_106
  · refine sv_aload_n d_Ep_push_78 rfl ?_
    refine sv_getr d_Ep_push_79 (gf_Ep_31 mc_44) hr0 (sr_7_4 hr0) ?_
    refine sv_callVi (d := d + 3) (as := []) d_Ep_push_82 (wv_Ep_157 mc_44) (st_7_4 hr0) ⟨_, rfl, rfl⟩ rfl (Nat.le_of_ble_eq_true rfl) rfl (c_Snd_isAllConfirmed (d + 3) (sv_ref (sg r0) 4) v (st_7_4 hr0)) (fun x5 v4 => ?_)
    refine sv_if_eq 98 d_Ep_push_85 rfl ?_ ?_
    · exact c_Ep_push_b98 d r0 v4 hr0
    · refine sv_aload_n d_Ep_push_88 rfl ?_
      refine sv_getr d_Ep_push_89 (gf_Ep_31 mc_44) hr0 (sr_7_4 hr0) ?_
      refine sv_callVi (d := d + 3) (as := []) d_Ep_push_92 (wv_Ep_151 mc_44) (st_7_4 hr0) ⟨_, rfl, rfl⟩ rfl (Nat.le_of_ble_eq_true rfl) rfl (c_Snd_unsentCount (d + 1) (sv_ref (sg r0) 4) v4 (st_7_4 hr0)) (fun x8 v7 => ?_)
      refine sv_if_le 106 d_Ep_push_95 rfl ?_ ?_
      · exact sv_vret rfl d_Ep_push_106
      · exact c_Ep_push_b98 d r0 v7 hr0
set_option maxHeartbeats 4000000 in
set_option maxRecDepth 100000 in
theorem c_Ep_push_b68 (d : Nat) (r0 : Nat) (s0 : Int32) (t1 : Nat) (v : sv_T) (hr0 : sv_isO (sg r0) 7 = true) (ht1 : sv_isO (sg t1) 7 = true) : sv_Ref (d + 4) 44 68 [some (.ref r0)] [.int s0, .ref t1] v (f_Ep_push_b68 r0 s0 t1 v) (sv_Zv) := by
  unfold f_Ep_push_b68
  refine sv_puti d_Ep_push_68 (pf_Ep_45 mc_44) ht1 (sd_7_6 ht1) (fun v13 => ?_)
  exact c_Ep_push_b71 d r0 v13 hr0
set_option maxHeartbeats 4000000 in
set_option maxRecDepth 100000 in
theorem c_Ep_push (d : Nat) (q : Nat) (v : sv_T) (hq : sv_isO (sg q) 7 = true) : sv_Cl (d + 4) 44 [.ref q] v (f_Ep_push q v) sv_Zv := by
  refine sv_spec (ls0 := [some (.ref q)]) mp_44 (Nat.le_of_ble_eq_true rfl) rfl ?_
  unfold f_Ep_push
  refine sv_aload_n d_Ep_push_0 rfl ?_
  refine sv_callVi (d := d + 3) (as := []) d_Ep_push_1 (wv_Ep_61 mc_44) hq ⟨_, rfl, rfl⟩ rfl (Nat.le_of_ble_eq_true rfl) rfl (c_Ep_isSendingState (d + 3) q v hq) (fun x2 v1 => ?_)
  refine sv_if_ne 8 d_Ep_push_4 rfl ?_ ?_
  · refine sv_aload_n d_Ep_push_8 rfl ?_
    refine sv_callVv (d := d + 3) (as := []) d_Ep_push_9 (wv_Ep_148 mc_44) hq ⟨_, rfl, rfl⟩ rfl (Nat.le_of_ble_eq_true rfl) rfl (c_Ep_pushBytes (d + 0) q v1 hq) (fun v3 => ?_)
    refine sv_aload_n d_Ep_push_12 rfl ?_
    refine sv_getr d_Ep_push_13 (gf_Ep_31 mc_44) hq (sr_7_4 hq) ?_
    refine sv_geti d_Ep_push_16 (gf_Ep_65 mc_44) (st_7_4 hq) (sd_8_6 (st_7_4 hq)) ?_
    refine sv_if_eq 71 d_Ep_push_19 rfl ?_ ?_
    · exact c_Ep_push_b71 d q v3 hq
    · refine sv_aload_n d_Ep_push_22 rfl ?_
      refine sv_getr d_Ep_push_23 (gf_Ep_31 mc_44) hq (sr_7_4 hq) ?_
      refine sv_callVi (d := d + 3) (as := []) d_Ep_push_26 (wv_Ep_151 mc_44) (st_7_4 hq) ⟨_, rfl, rfl⟩ rfl (Nat.le_of_ble_eq_true rfl) rfl (c_Snd_unsentCount (d + 1) (sv_ref (sg q) 4) v3 (st_7_4 hq)) (fun x10 v9 => ?_)
      refine sv_if_ne 71 d_Ep_push_29 rfl ?_ ?_
      · exact c_Ep_push_b71 d q v9 hq
      · refine sv_aload_n d_Ep_push_32 rfl ?_
        refine sv_bipush (x := (17 : Int32)) d_Ep_push_33 (by decide) ?_
        refine sv_aload_n d_Ep_push_35 rfl ?_
        refine sv_getr d_Ep_push_36 (gf_Ep_31 mc_44) hq (sr_7_4 hq) ?_
        refine sv_geti d_Ep_push_39 (gf_Ep_94 mc_44) (st_7_4 hq) (sd_8_4 (st_7_4 hq)) ?_
        refine sv_callVv (d := d + 3) (as := [.int (17 : Int32), .int (v9 (sv_ref (sg q) 4) 4)]) d_Ep_push_42 (wv_Ep_57 mc_44) hq ⟨_, rfl, rfl⟩ rfl (Nat.le_of_ble_eq_true rfl) rfl (c_Ep_emit (d + 0) q (17 : Int32) (v9 (sv_ref (sg q) 4) 4) v9 hq) (fun v11 => ?_)
        refine sv_aload_n d_Ep_push_45 rfl ?_
        refine sv_getr d_Ep_push_46 (gf_Ep_31 mc_44) hq (sr_7_4 hq) ?_
        refine sv_iconst (x := (1 : Int32)) d_Ep_push_49 (by decide) ?_
        refine sv_callVv (d := d + 3) (as := [.int (1 : Int32)]) d_Ep_push_50 (wv_Ep_154 mc_44) (st_7_4 hq) ⟨_, rfl, rfl⟩ rfl (Nat.le_of_ble_eq_true rfl) rfl (c_Snd_countSent (d + 3) (sv_ref (sg q) 4) (1 : Int32) v11 (st_7_4 hq)) (fun v12 => ?_)
        refine sv_aload_n d_Ep_push_53 rfl ?_
        refine sv_aload_n d_Ep_push_54 rfl ?_
        refine sv_geti d_Ep_push_55 (gf_Ep_45 mc_44) hq (sd_7_6 hq) ?_
        refine sv_iconst (x := (4 : Int32)) d_Ep_push_58 (by decide) ?_
        refine sv_icmp_ne 66 d_Ep_push_59 rfl ?_ ?_
        · refine sv_bipush (x := (9 : Int32)) d_Ep_push_66 (by decide) ?_
          exact c_Ep_push_b68 d q (9 : Int32) q v12 hq hq
        · refine sv_iconst (x := (5 : Int32)) d_Ep_push_62 (by decide) ?_
          refine sv_goto 68 d_Ep_push_63 rfl ?_
          exact c_Ep_push_b68 d q (5 : Int32) q v12 hq hq
  · exact sv_vret rfl d_Ep_push_7
def f_Ep_offerByte (q : Nat) (a1 : Int32) (v : sv_T) : Option (Int32 × sv_T) :=
  sv_bi (f_Ep_isSendingState q v) fun x2 v1 =>
  if x2 = 0 then
  some ((0 : Int32), v1)
  else
  if (v1 (sv_ref (sg q) 4) 6) = 0 then
  if a1 < 0 then
  some ((0 : Int32), v1)
  else
  if a1 ≤ (255 : Int32) then
  sv_bi (f_Snd_isFull (sv_ref (sg q) 4) v1) fun x4 v3 =>
  if x4 = 0 then
  sv_bv (f_Snd_add (sv_ref (sg q) 4) a1 v3) fun v5 =>
  sv_bv (f_Ep_push q v5) fun v6 =>
  some ((1 : Int32), v6)
  else
  some ((0 : Int32), v3)
  else
  some ((0 : Int32), v1)
  else
  some ((0 : Int32), v1)
set_option maxHeartbeats 4000000 in
set_option maxRecDepth 100000 in
theorem c_Ep_offerByte (d : Nat) (q : Nat) (a1 : Int32) (v : sv_T) (hq : sv_isO (sg q) 7 = true) : sv_Cl (d + 5) 40 [.ref q, .int a1] v (f_Ep_offerByte q a1 v) sv_Zi := by
  refine sv_spec (ls0 := [some (.ref q), some (.int a1)]) mp_40 (Nat.le_of_ble_eq_true rfl) rfl ?_
  unfold f_Ep_offerByte
  refine sv_aload_n d_Ep_offerByte_0 rfl ?_
  refine sv_callVi (d := d + 4) (as := []) d_Ep_offerByte_1 (wv_Ep_61 mc_40) hq ⟨_, rfl, rfl⟩ rfl (Nat.le_of_ble_eq_true rfl) rfl (c_Ep_isSendingState (d + 4) q v hq) (fun x2 v1 => ?_)
  refine sv_if_eq 38 d_Ep_offerByte_4 rfl ?_ ?_
  · refine sv_iconst (x := (0 : Int32)) d_Ep_offerByte_38 (by decide) ?_
    exact sv_zretc rfl (by decide) d_Ep_offerByte_39
  · refine sv_aload_n d_Ep_offerByte_7 rfl ?_
    refine sv_getr d_Ep_offerByte_8 (gf_Ep_31 mc_40) hq (sr_7_4 hq) ?_
    refine sv_geti d_Ep_offerByte_11 (gf_Ep_65 mc_40) (st_7_4 hq) (sd_8_6 (st_7_4 hq)) ?_
    refine sv_if_ne 38 d_Ep_offerByte_14 rfl ?_ ?_
    · refine sv_iconst (x := (0 : Int32)) d_Ep_offerByte_38 (by decide) ?_
      exact sv_zretc rfl (by decide) d_Ep_offerByte_39
    · refine sv_iload_n d_Ep_offerByte_17 rfl ?_
      refine sv_if_lt 38 d_Ep_offerByte_18 rfl ?_ ?_
      · refine sv_iconst (x := (0 : Int32)) d_Ep_offerByte_38 (by decide) ?_
        exact sv_zretc rfl (by decide) d_Ep_offerByte_39
      · refine sv_iload_n d_Ep_offerByte_21 rfl ?_
        refine sv_sipush (x := (255 : Int32)) d_Ep_offerByte_22 (by decide) ?_
        refine sv_icmp_gt 38 d_Ep_offerByte_25 rfl ?_ ?_
        · refine sv_iconst (x := (0 : Int32)) d_Ep_offerByte_38 (by decide) ?_
          exact sv_zretc rfl (by decide) d_Ep_offerByte_39
        · refine sv_aload_n d_Ep_offerByte_28 rfl ?_
          refine sv_getr d_Ep_offerByte_29 (gf_Ep_31 mc_40) hq (sr_7_4 hq) ?_
          refine sv_callVi (d := d + 4) (as := []) d_Ep_offerByte_32 (wv_Ep_69 mc_40) (st_7_4 hq) ⟨_, rfl, rfl⟩ rfl (Nat.le_of_ble_eq_true rfl) rfl (c_Snd_isFull (d + 4) (sv_ref (sg q) 4) v1 (st_7_4 hq)) (fun x4 v3 => ?_)
          refine sv_if_eq 40 d_Ep_offerByte_35 rfl ?_ ?_
          · refine sv_aload_n d_Ep_offerByte_40 rfl ?_
            refine sv_getr d_Ep_offerByte_41 (gf_Ep_31 mc_40) hq (sr_7_4 hq) ?_
            refine sv_iload_n d_Ep_offerByte_44 rfl ?_
            refine sv_callVv (d := d + 4) (as := [.int a1]) d_Ep_offerByte_45 (wv_Ep_72 mc_40) (st_7_4 hq) ⟨_, rfl, rfl⟩ rfl (Nat.le_of_ble_eq_true rfl) rfl (c_Snd_add (d + 4) (sv_ref (sg q) 4) a1 v3 (st_7_4 hq)) (fun v5 => ?_)
            refine sv_aload_n d_Ep_offerByte_48 rfl ?_
            refine sv_callVv (d := d + 4) (as := []) d_Ep_offerByte_49 (wv_Ep_75 mc_40) hq ⟨_, rfl, rfl⟩ rfl (Nat.le_of_ble_eq_true rfl) rfl (c_Ep_push (d + 0) q v5 hq) (fun v6 => ?_)
            refine sv_iconst (x := (1 : Int32)) d_Ep_offerByte_52 (by decide) ?_
            exact sv_zretc rfl (by decide) d_Ep_offerByte_53
          · refine sv_iconst (x := (0 : Int32)) d_Ep_offerByte_38 (by decide) ?_
            exact sv_zretc rfl (by decide) d_Ep_offerByte_39
def f_Ep_isReceivingState (q : Nat) (v : sv_T) : Option (Int32 × sv_T) :=
  if (v q 6) = (4 : Int32) then
  some ((1 : Int32), v)
  else
  if (v q 6) = (5 : Int32) then
  some ((1 : Int32), v)
  else
  if (v q 6) = (6 : Int32) then
  some ((1 : Int32), v)
  else
  some ((0 : Int32), v)
set_option maxHeartbeats 4000000 in
set_option maxRecDepth 100000 in
theorem c_Ep_isReceivingState (d : Nat) (q : Nat) (v : sv_T) (hq : sv_isO (sg q) 7 = true) : sv_Cl (d + 0) 54 [.ref q] v (f_Ep_isReceivingState q v) sv_Zi := by
  refine sv_spec (ls0 := [some (.ref q)]) mp_54 (Nat.le_of_ble_eq_true rfl) rfl ?_
  unfold f_Ep_isReceivingState
  refine sv_aload_n d_Ep_isReceivingState_0 rfl ?_
  refine sv_geti d_Ep_isReceivingState_1 (gf_Ep_45 mc_54) hq (sd_7_6 hq) ?_
  refine sv_iconst (x := (4 : Int32)) d_Ep_isReceivingState_4 (by decide) ?_
  refine sv_icmp_eq 25 d_Ep_isReceivingState_5 rfl ?_ ?_
  · refine sv_iconst (x := (1 : Int32)) d_Ep_isReceivingState_25 (by decide) ?_
    refine sv_goto 30 d_Ep_isReceivingState_26 rfl ?_
    exact sv_zretc rfl (by decide) d_Ep_isReceivingState_30
  · refine sv_aload_n d_Ep_isReceivingState_8 rfl ?_
    refine sv_geti d_Ep_isReceivingState_9 (gf_Ep_45 mc_54) hq (sd_7_6 hq) ?_
    refine sv_iconst (x := (5 : Int32)) d_Ep_isReceivingState_12 (by decide) ?_
    refine sv_icmp_eq 25 d_Ep_isReceivingState_13 rfl ?_ ?_
    · refine sv_iconst (x := (1 : Int32)) d_Ep_isReceivingState_25 (by decide) ?_
      refine sv_goto 30 d_Ep_isReceivingState_26 rfl ?_
      exact sv_zretc rfl (by decide) d_Ep_isReceivingState_30
    · refine sv_aload_n d_Ep_isReceivingState_16 rfl ?_
      refine sv_geti d_Ep_isReceivingState_17 (gf_Ep_45 mc_54) hq (sd_7_6 hq) ?_
      refine sv_bipush (x := (6 : Int32)) d_Ep_isReceivingState_20 (by decide) ?_
      refine sv_icmp_ne 29 d_Ep_isReceivingState_22 rfl ?_ ?_
      · refine sv_iconst (x := (0 : Int32)) d_Ep_isReceivingState_29 (by decide) ?_
        exact sv_zretc rfl (by decide) d_Ep_isReceivingState_30
      · refine sv_iconst (x := (1 : Int32)) d_Ep_isReceivingState_25 (by decide) ?_
        refine sv_goto 30 d_Ep_isReceivingState_26 rfl ?_
        exact sv_zretc rfl (by decide) d_Ep_isReceivingState_30
def f_Ep_emitAck (q : Nat) (v : sv_T) : Option (sv_T) :=
  sv_bv (f_Ep_emitWhole q (16 : Int32) (v (sv_ref (sg q) 4) 4) (v (sv_ref (sg q) 5) 3) (0 : Int32) (0 : Int32) v) fun v1 =>
  some v1
set_option maxHeartbeats 4000000 in
set_option maxRecDepth 100000 in
theorem c_Ep_emitAck (d : Nat) (q : Nat) (v : sv_T) (hq : sv_isO (sg q) 7 = true) : sv_Cl (d + 3) 55 [.ref q] v (f_Ep_emitAck q v) sv_Zv := by
  refine sv_spec (ls0 := [some (.ref q)]) mp_55 (Nat.le_of_ble_eq_true rfl) rfl ?_
  unfold f_Ep_emitAck
  refine sv_aload_n d_Ep_emitAck_0 rfl ?_
  refine sv_bipush (x := (16 : Int32)) d_Ep_emitAck_1 (by decide) ?_
  refine sv_aload_n d_Ep_emitAck_3 rfl ?_
  refine sv_getr d_Ep_emitAck_4 (gf_Ep_31 mc_55) hq (sr_7_4 hq) ?_
  refine sv_geti d_Ep_emitAck_7 (gf_Ep_94 mc_55) (st_7_4 hq) (sd_8_4 (st_7_4 hq)) ?_
  refine sv_aload_n d_Ep_emitAck_10 rfl ?_
  refine sv_getr d_Ep_emitAck_11 (gf_Ep_38 mc_55) hq (sr_7_5 hq) ?_
  refine sv_geti d_Ep_emitAck_14 (gf_Ep_130 mc_55) (st_7_5 hq) (sd_9_3 (st_7_5 hq)) ?_
  refine sv_iconst (x := (0 : Int32)) d_Ep_emitAck_17 (by decide) ?_
  refine sv_iconst (x := (0 : Int32)) d_Ep_emitAck_18 (by decide) ?_
  refine sv_callVv (d := d + 2) (as := [.int (16 : Int32), .int (v (sv_ref (sg q) 4) 4), .int (v (sv_ref (sg q) 5) 3), .int (0 : Int32), .int (0 : Int32)]) d_Ep_emitAck_19 (wv_Ep_166 mc_55) hq ⟨_, rfl, rfl⟩ rfl (Nat.le_of_ble_eq_true rfl) rfl (c_Ep_emitWhole (d + 0) q (16 : Int32) (v (sv_ref (sg q) 4) 4) (v (sv_ref (sg q) 5) 3) (0 : Int32) (0 : Int32) v hq) (fun v1 => ?_)
  exact sv_vret rfl d_Ep_emitAck_22
def f_Ep_takeByte_b15 (r0 : Nat) (s0 : Int32) (v : sv_T) : Option (Int32 × sv_T) :=
  sv_bi (f_Rcv_takeFirst (sv_ref (sg r0) 5) v) fun x4 v3 =>
  if s0 = 0 then
  some (x4, v3)
  else
  sv_bi (f_Ep_isReceivingState r0 v3) fun x6 v5 =>
  if x6 = 0 then
  some (x4, v5)
  else
  sv_bv (f_Ep_emitAck r0 v5) fun v7 =>
  some (x4, v7)
def f_Ep_takeByte (q : Nat) (v : sv_T) : Option (Int32 × sv_T) :=
  sv_bi (f_Rcv_room (sv_ref (sg q) 5) v) fun x2 v1 =>
  if x2 = 0 then
  f_Ep_takeByte_b15 q (1 : Int32) v1
  else
  f_Ep_takeByte_b15 q (0 : Int32) v1
set_option maxHeartbeats 4000000 in
set_option maxRecDepth 100000 in
theorem c_Ep_takeByte_b15 (d : Nat) (r0 : Nat) (s0 : Int32) (v : sv_T) (hr0 : sv_isO (sg r0) 7 = true) : sv_Ref (d + 4) 52 15 [some (.ref r0), none, none] [.int s0] v (f_Ep_takeByte_b15 r0 s0 v) (sv_Zi) := by
  unfold f_Ep_takeByte_b15
  refine sv_istore_n (ls' := [some (.ref r0), some (.int s0), none]) d_Ep_takeByte_15 (by decide) rfl ?_
  refine sv_aload_n d_Ep_takeByte_16 rfl ?_
  refine sv_getr d_Ep_takeByte_17 (gf_Ep_38 mc_52) hr0 (sr_7_5 hr0) ?_
  refine sv_callVi (d := d + 3) (as := []) d_Ep_takeByte_20 (wv_Ep_82 mc_52) (st_7_5 hr0) ⟨_, rfl, rfl⟩ rfl (Nat.le_of_ble_eq_true rfl) rfl (c_Rcv_takeFirst (d + 2) (sv_ref (sg r0) 5) v (st_7_5 hr0)) (fun x4 v3 => ?_)
  refine sv_istore_n (ls' := [some (.ref r0), some (.int s0), some (.int x4)]) d_Ep_takeByte_23 (by decide) rfl ?_
  refine sv_iload_n d_Ep_takeByte_24 rfl ?_
  refine sv_if_eq 39 d_Ep_takeByte_25 rfl ?_ ?_
  · refine sv_iload_n d_Ep_takeByte_39 rfl ?_
    exact sv_iret rfl d_Ep_takeByte_40
  · refine sv_aload_n d_Ep_takeByte_28 rfl ?_
    refine sv_callVi (d := d + 3) (as := []) d_Ep_takeByte_29 (wv_Ep_85 mc_52) hr0 ⟨_, rfl, rfl⟩ rfl (Nat.le_of_ble_eq_true rfl) rfl (c_Ep_isReceivingState (d + 3) r0 v3 hr0) (fun x6 v5 => ?_)
    refine sv_if_eq 39 d_Ep_takeByte_32 rfl ?_ ?_
    · refine sv_iload_n d_Ep_takeByte_39 rfl ?_
      exact sv_iret rfl d_Ep_takeByte_40
    · refine sv_aload_n d_Ep_takeByte_35 rfl ?_
      refine sv_callVv (d := d + 3) (as := []) d_Ep_takeByte_36 (wv_Ep_88 mc_52) hr0 ⟨_, rfl, rfl⟩ rfl (Nat.le_of_ble_eq_true rfl) rfl (c_Ep_emitAck (d + 0) r0 v5 hr0) (fun v7 => ?_)
      refine sv_iload_n d_Ep_takeByte_39 rfl ?_
      exact sv_iret rfl d_Ep_takeByte_40
set_option maxHeartbeats 4000000 in
set_option maxRecDepth 100000 in
theorem c_Ep_takeByte (d : Nat) (q : Nat) (v : sv_T) (hq : sv_isO (sg q) 7 = true) : sv_Cl (d + 4) 52 [.ref q] v (f_Ep_takeByte q v) sv_Zi := by
  refine sv_spec (ls0 := [some (.ref q), none, none]) mp_52 (Nat.le_of_ble_eq_true rfl) rfl ?_
  unfold f_Ep_takeByte
  refine sv_aload_n d_Ep_takeByte_0 rfl ?_
  refine sv_getr d_Ep_takeByte_1 (gf_Ep_38 mc_52) hq (sr_7_5 hq) ?_
  refine sv_callVi (d := d + 3) (as := []) d_Ep_takeByte_4 (wv_Ep_78 mc_52) (st_7_5 hq) ⟨_, rfl, rfl⟩ rfl (Nat.le_of_ble_eq_true rfl) rfl (c_Rcv_room (d + 3) (sv_ref (sg q) 5) v (st_7_5 hq)) (fun x2 v1 => ?_)
  refine sv_if_ne 14 d_Ep_takeByte_7 rfl ?_ ?_
  · refine sv_iconst (x := (0 : Int32)) d_Ep_takeByte_14 (by decide) ?_
    exact c_Ep_takeByte_b15 d q (0 : Int32) v1 hq
  · refine sv_iconst (x := (1 : Int32)) d_Ep_takeByte_10 (by decide) ?_
    refine sv_goto 15 d_Ep_takeByte_11 rfl ?_
    exact c_Ep_takeByte_b15 d q (1 : Int32) v1 hq
def f_Ep_shut (q : Nat) (v : sv_T) : Option (sv_T) :=
  sv_ls (sv_up v q 6 (0 : Int32)) fun v1 =>
  sv_bv (f_Snd_clear (sv_ref (sg q) 4) v1) fun v2 =>
  sv_bv (f_Rcv_clear (sv_ref (sg q) 5) v2) fun v3 =>
  sv_ls (sv_up v3 q 7 (0 : Int32)) fun v4 =>
  sv_ls (sv_up v4 q 8 (4 : Int32)) fun v5 =>
  sv_ls (sv_up v5 q 9 (0 : Int32)) fun v6 =>
  some v6
set_option maxHeartbeats 4000000 in
set_option maxRecDepth 100000 in
theorem c_Ep_shut (d : Nat) (q : Nat) (v : sv_T) (hq : sv_isO (sg q) 7 = true) : sv_Cl (d + 2) 58 [.ref q] v (f_Ep_shut q v) sv_Zv := by
  refine sv_spec (ls0 := [some (.ref q)]) mp_58 (Nat.le_of_ble_eq_true rfl) rfl ?_
  unfold f_Ep_shut
  refine sv_aload_n d_Ep_shut_0 rfl ?_
  refine sv_iconst (x := (0 : Int32)) d_Ep_shut_1 (by decide) ?_
  refine sv_puti d_Ep_shut_2 (pf_Ep_45 mc_58) hq (sd_7_6 hq) (fun v1 => ?_)
  refine sv_aload_n d_Ep_shut_5 rfl ?_
  refine sv_getr d_Ep_shut_6 (gf_Ep_31 mc_58) hq (sr_7_4 hq) ?_
  refine sv_callVv (d := d + 1) (as := []) d_Ep_shut_9 (wv_Ep_144 mc_58) (st_7_4 hq) ⟨_, rfl, rfl⟩ rfl (Nat.le_of_ble_eq_true rfl) rfl (c_Snd_clear (d + 1) (sv_ref (sg q) 4) v1 (st_7_4 hq)) (fun v2 => ?_)
  refine sv_aload_n d_Ep_shut_12 rfl ?_
  refine sv_getr d_Ep_shut_13 (gf_Ep_38 mc_58) hq (sr_7_5 hq) ?_
  refine sv_callVv (d := d + 1) (as := []) d_Ep_shut_16 (wv_Ep_147 mc_58) (st_7_5 hq) ⟨_, rfl, rfl⟩ rfl (Nat.le_of_ble_eq_true rfl) rfl (c_Rcv_clear (d + 0) (sv_ref (sg q) 5) v2 (st_7_5 hq)) (fun v3 => ?_)
  refine sv_aload_n d_Ep_shut_19 rfl ?_
  refine sv_iconst (x := (0 : Int32)) d_Ep_shut_20 (by decide) ?_
  refine sv_puti d_Ep_shut_21 (pf_Ep_97 mc_58) hq (sd_7_7 hq) (fun v4 => ?_)
  refine sv_aload_n d_Ep_shut_24 rfl ?_
  refine sv_iconst (x := (4 : Int32)) d_Ep_shut_25 (by decide) ?_
  refine sv_puti d_Ep_shut_26 (pf_Ep_42 mc_58) hq (sd_7_8 hq) (fun v5 => ?_)
  refine sv_aload_n d_Ep_shut_29 rfl ?_
  refine sv_iconst (x := (0 : Int32)) d_Ep_shut_30 (by decide) ?_
  refine sv_puti d_Ep_shut_31 (pf_Ep_140 mc_58) hq (sd_7_9 hq) (fun v6 => ?_)
  exact sv_vret rfl d_Ep_shut_34
def f_Ep_startEnding_b16 (r0 : Nat) (v : sv_T) : Option (Int32 × sv_T) :=
  sv_bv (f_Ep_shut r0 v) fun v1 =>
  some ((1 : Int32), v1)
def f_Ep_startEnding (q : Nat) (v : sv_T) : Option (Int32 × sv_T) :=
  if (v q 6) = (1 : Int32) then
  f_Ep_startEnding_b16 q v
  else
  if (v q 6) = (2 : Int32) then
  f_Ep_startEnding_b16 q v
  else
  sv_bi (f_Ep_isSendingState q v) fun x3 v2 =>
  if x3 = 0 then
  some ((0 : Int32), v2)
  else
  if (v2 (sv_ref (sg q) 4) 6) = 0 then
  sv_ls (sv_up v2 (sv_ref (sg q) 4) 6 (1 : Int32)) fun v4 =>
  sv_bv (f_Ep_push q v4) fun v5 =>
  some ((1 : Int32), v5)
  else
  some ((0 : Int32), v2)
set_option maxHeartbeats 4000000 in
set_option maxRecDepth 100000 in
theorem c_Ep_startEnding_b16 (d : Nat) (r0 : Nat) (v : sv_T) (hr0 : sv_isO (sg r0) 7 = true) : sv_Ref (d + 5) 57 16 [some (.ref r0)] [] v (f_Ep_startEnding_b16 r0 v) (sv_Zi) := by
  unfold f_Ep_startEnding_b16
  refine sv_aload_n d_Ep_startEnding_16 rfl ?_
  refine sv_callVv (d := d + 4) (as := []) d_Ep_startEnding_17 (wv_Ep_91 mc_57) hr0 ⟨_, rfl, rfl⟩ rfl (Nat.le_of_ble_eq_true rfl) rfl (c_Ep_shut (d + 2) r0 v hr0) (fun v1 => ?_)
  refine sv_iconst (x := (1 : Int32)) d_Ep_startEnding_20 (by decide) ?_
  exact sv_zretc rfl (by decide) d_Ep_startEnding_21
set_option maxHeartbeats 4000000 in
set_option maxRecDepth 100000 in
theorem c_Ep_startEnding (d : Nat) (q : Nat) (v : sv_T) (hq : sv_isO (sg q) 7 = true) : sv_Cl (d + 5) 57 [.ref q] v (f_Ep_startEnding q v) sv_Zi := by
  refine sv_spec (ls0 := [some (.ref q)]) mp_57 (Nat.le_of_ble_eq_true rfl) rfl ?_
  unfold f_Ep_startEnding
  refine sv_aload_n d_Ep_startEnding_0 rfl ?_
  refine sv_geti d_Ep_startEnding_1 (gf_Ep_45 mc_57) hq (sd_7_6 hq) ?_
  refine sv_iconst (x := (1 : Int32)) d_Ep_startEnding_4 (by decide) ?_
  refine sv_icmp_eq 16 d_Ep_startEnding_5 rfl ?_ ?_
  · exact c_Ep_startEnding_b16 d q v hq
  · refine sv_aload_n d_Ep_startEnding_8 rfl ?_
    refine sv_geti d_Ep_startEnding_9 (gf_Ep_45 mc_57) hq (sd_7_6 hq) ?_
    refine sv_iconst (x := (2 : Int32)) d_Ep_startEnding_12 (by decide) ?_
    refine sv_icmp_ne 22 d_Ep_startEnding_13 rfl ?_ ?_
    · refine sv_aload_n d_Ep_startEnding_22 rfl ?_
      refine sv_callVi (d := d + 4) (as := []) d_Ep_startEnding_23 (wv_Ep_61 mc_57) hq ⟨_, rfl, rfl⟩ rfl (Nat.le_of_ble_eq_true rfl) rfl (c_Ep_isSendingState (d + 4) q v hq) (fun x3 v2 => ?_)
      refine sv_if_eq 39 d_Ep_startEnding_26 rfl ?_ ?_
      · refine sv_iconst (x := (0 : Int32)) d_Ep_startEnding_39 (by decide) ?_
        exact sv_zretc rfl (by decide) d_Ep_startEnding_40
      · refine sv_aload_n d_Ep_startEnding_29 rfl ?_
        refine sv_getr d_Ep_startEnding_30 (gf_Ep_31 mc_57) hq (sr_7_4 hq) ?_
        refine sv_geti d_Ep_startEnding_33 (gf_Ep_65 mc_57) (st_7_4 hq) (sd_8_6 (st_7_4 hq)) ?_
        refine sv_if_eq 41 d_Ep_startEnding_36 rfl ?_ ?_
        · refine sv_aload_n d_Ep_startEnding_41 rfl ?_
          refine sv_getr d_Ep_startEnding_42 (gf_Ep_31 mc_57) hq (sr_7_4 hq) ?_
          refine sv_iconst (x := (1 : Int32)) d_Ep_startEnding_45 (by decide) ?_
          refine sv_putz d_Ep_startEnding_46 (pf_Ep_65 mc_57) (st_7_4 hq) (sd_8_6 (st_7_4 hq)) (by decide) (fun v4 => ?_)
          refine sv_aload_n d_Ep_startEnding_49 rfl ?_
          refine sv_callVv (d := d + 4) (as := []) d_Ep_startEnding_50 (wv_Ep_75 mc_57) hq ⟨_, rfl, rfl⟩ rfl (Nat.le_of_ble_eq_true rfl) rfl (c_Ep_push (d + 0) q v4 hq) (fun v5 => ?_)
          refine sv_iconst (x := (1 : Int32)) d_Ep_startEnding_53 (by decide) ?_
          exact sv_zretc rfl (by decide) d_Ep_startEnding_54
        · refine sv_iconst (x := (0 : Int32)) d_Ep_startEnding_39 (by decide) ?_
          exact sv_zretc rfl (by decide) d_Ep_startEnding_40
    · exact c_Ep_startEnding_b16 d q v hq
def f_Ep_breakOff_b46 (r0 : Nat) (v : sv_T) : Option (Int32 × sv_T) :=
  sv_bv (f_Ep_shut r0 v) fun v1 =>
  some ((1 : Int32), v1)
def f_Ep_breakOff (q : Nat) (v : sv_T) : Option (Int32 × sv_T) :=
  if (v q 6) = 0 then
  some ((0 : Int32), v)
  else
  if (v q 6) = (1 : Int32) then
  f_Ep_breakOff_b46 q v
  else
  if (v q 6) = (2 : Int32) then
  f_Ep_breakOff_b46 q v
  else
  if (v q 6) = (10 : Int32) then
  f_Ep_breakOff_b46 q v
  else
  sv_bv (f_Ep_emit q (4 : Int32) (v (sv_ref (sg q) 4) 4) v) fun v2 =>
  f_Ep_breakOff_b46 q v2
set_option maxHeartbeats 4000000 in
set_option maxRecDepth 100000 in
theorem c_Ep_breakOff_b46 (d : Nat) (r0 : Nat) (v : sv_T) (hr0 : sv_isO (sg r0) 7 = true) : sv_Ref (d + 4) 62 46 [some (.ref r0)] [] v (f_Ep_breakOff_b46 r0 v) (sv_Zi) := by
  unfold f_Ep_breakOff_b46
  refine sv_aload_n d_Ep_breakOff_46 rfl ?_
  refine sv_callVv (d := d + 3) (as := []) d_Ep_breakOff_47 (wv_Ep_91 mc_62) hr0 ⟨_, rfl, rfl⟩ rfl (Nat.le_of_ble_eq_true rfl) rfl (c_Ep_shut (d + 1) r0 v hr0) (fun v1 => ?_)
  refine sv_iconst (x := (1 : Int32)) d_Ep_breakOff_50 (by decide) ?_
  exact sv_zretc rfl (by decide) d_Ep_breakOff_51
set_option maxHeartbeats 4000000 in
set_option maxRecDepth 100000 in
theorem c_Ep_breakOff (d : Nat) (q : Nat) (v : sv_T) (hq : sv_isO (sg q) 7 = true) : sv_Cl (d + 4) 62 [.ref q] v (f_Ep_breakOff q v) sv_Zi := by
  refine sv_spec (ls0 := [some (.ref q)]) mp_62 (Nat.le_of_ble_eq_true rfl) rfl ?_
  unfold f_Ep_breakOff
  refine sv_aload_n d_Ep_breakOff_0 rfl ?_
  refine sv_geti d_Ep_breakOff_1 (gf_Ep_45 mc_62) hq (sd_7_6 hq) ?_
  refine sv_if_ne 9 d_Ep_breakOff_4 rfl ?_ ?_
  · refine sv_aload_n d_Ep_breakOff_9 rfl ?_
    refine sv_geti d_Ep_breakOff_10 (gf_Ep_45 mc_62) hq (sd_7_6 hq) ?_
    refine sv_iconst (x := (1 : Int32)) d_Ep_breakOff_13 (by decide) ?_
    refine sv_icmp_eq 46 d_Ep_breakOff_14 rfl ?_ ?_
    · exact c_Ep_breakOff_b46 d q v hq
    · refine sv_aload_n d_Ep_breakOff_17 rfl ?_
      refine sv_geti d_Ep_breakOff_18 (gf_Ep_45 mc_62) hq (sd_7_6 hq) ?_
      refine sv_iconst (x := (2 : Int32)) d_Ep_breakOff_21 (by decide) ?_
      refine sv_icmp_eq 46 d_Ep_breakOff_22 rfl ?_ ?_
      · exact c_Ep_breakOff_b46 d q v hq
      · refine sv_aload_n d_Ep_breakOff_25 rfl ?_
        refine sv_geti d_Ep_breakOff_26 (gf_Ep_45 mc_62) hq (sd_7_6 hq) ?_
        refine sv_bipush (x := (10 : Int32)) d_Ep_breakOff_29 (by decide) ?_
        refine sv_icmp_eq 46 d_Ep_breakOff_31 rfl ?_ ?_
        · exact c_Ep_breakOff_b46 d q v hq
        · refine sv_aload_n d_Ep_breakOff_34 rfl ?_
          refine sv_iconst (x := (4 : Int32)) d_Ep_breakOff_35 (by decide) ?_
          refine sv_aload_n d_Ep_breakOff_36 rfl ?_
          refine sv_getr d_Ep_breakOff_37 (gf_Ep_31 mc_62) hq (sr_7_4 hq) ?_
          refine sv_geti d_Ep_breakOff_40 (gf_Ep_94 mc_62) (st_7_4 hq) (sd_8_4 (st_7_4 hq)) ?_
          refine sv_callVv (d := d + 3) (as := [.int (4 : Int32), .int (v (sv_ref (sg q) 4) 4)]) d_Ep_breakOff_43 (wv_Ep_57 mc_62) hq ⟨_, rfl, rfl⟩ rfl (Nat.le_of_ble_eq_true rfl) rfl (c_Ep_emit (d + 0) q (4 : Int32) (v (sv_ref (sg q) 4) 4) v hq) (fun v2 => ?_)
          exact c_Ep_breakOff_b46 d q v2 hq
  · refine sv_iconst (x := (0 : Int32)) d_Ep_breakOff_7 (by decide) ?_
    exact sv_zretc rfl (by decide) d_Ep_breakOff_8
def f_Ep_answerWhenClosed (q : Nat) (a1 : Nat) (v : sv_T) : Option (sv_T) :=
  sv_bi (f_Seg_has a1 (4 : Int32) v) fun x2 v1 =>
  if x2 = 0 then
  sv_bi (f_Seg_length a1 v1) fun x4 v3 =>
  sv_bv (f_Ep_emitWhole q (20 : Int32) (v1 a1 5) ((v1 a1 4) + x4) (0 : Int32) (0 : Int32) v3) fun v5 =>
  some v5
  else
  some v1
set_option maxHeartbeats 4000000 in
set_option maxRecDepth 100000 in
theorem c_Ep_answerWhenClosed (d : Nat) (q : Nat) (a1 : Nat) (v : sv_T) (hq : sv_isO (sg q) 7 = true) (ha1 : sv_isO (sg a1) 6 = true) : sv_Cl (d + 3) 88 [.ref q, .ref a1] v (f_Ep_answerWhenClosed q a1 v) sv_Zv := by
  refine sv_spec (ls0 := [some (.ref q), some (.ref a1)]) mp_88 (Nat.le_of_ble_eq_true rfl) rfl ?_
  unfold f_Ep_answerWhenClosed
  refine sv_aload_n d_Ep_answerWhenClosed_0 rfl ?_
  refine sv_iconst (x := (4 : Int32)) d_Ep_answerWhenClosed_1 (by decide) ?_
  refine sv_callVi (d := d + 2) (as := [.int (4 : Int32)]) d_Ep_answerWhenClosed_2 (wv_Ep_179 mc_88) ha1 ⟨_, rfl, rfl⟩ rfl (Nat.le_of_ble_eq_true rfl) rfl (c_Seg_has (d + 2) a1 (4 : Int32) v ha1) (fun x2 v1 => ?_)
  refine sv_if_ne 29 d_Ep_answerWhenClosed_5 rfl ?_ ?_
  · exact sv_vret rfl d_Ep_answerWhenClosed_29
  · refine sv_aload_n d_Ep_answerWhenClosed_8 rfl ?_
    refine sv_bipush (x := (20 : Int32)) d_Ep_answerWhenClosed_9 (by decide) ?_
    refine sv_aload_n d_Ep_answerWhenClosed_11 rfl ?_
    refine sv_geti d_Ep_answerWhenClosed_12 (gf_Ep_183 mc_88) ha1 (sd_6_5 ha1) ?_
    refine sv_aload_n d_Ep_answerWhenClosed_15 rfl ?_
    refine sv_geti d_Ep_answerWhenClosed_16 (gf_Ep_186 mc_88) ha1 (sd_6_4 ha1) ?_
    refine sv_aload_n d_Ep_answerWhenClosed_19 rfl ?_
    refine sv_callVi (d := d + 2) (as := []) d_Ep_answerWhenClosed_20 (wv_Ep_189 mc_88) ha1 ⟨_, rfl, rfl⟩ rfl (Nat.le_of_ble_eq_true rfl) rfl (c_Seg_length (d + 1) a1 v1 ha1) (fun x4 v3 => ?_)
    refine sv_iadd d_Ep_answerWhenClosed_23 ?_
    refine sv_iconst (x := (0 : Int32)) d_Ep_answerWhenClosed_24 (by decide) ?_
    refine sv_iconst (x := (0 : Int32)) d_Ep_answerWhenClosed_25 (by decide) ?_
    refine sv_callVv (d := d + 2) (as := [.int (20 : Int32), .int (v1 a1 5), .int ((v1 a1 4) + x4), .int (0 : Int32), .int (0 : Int32)]) d_Ep_answerWhenClosed_26 (wv_Ep_166 mc_88) hq ⟨_, rfl, rfl⟩ rfl (Nat.le_of_ble_eq_true rfl) rfl (c_Ep_emitWhole (d + 0) q (20 : Int32) (v1 a1 5) ((v1 a1 4) + x4) (0 : Int32) (0 : Int32) v3 hq) (fun v5 => ?_)
    exact sv_vret rfl d_Ep_answerWhenClosed_29
def f_Ep_answerWhenListening (q : Nat) (a1 : Nat) (a2 : Int32) (v : sv_T) : Option (sv_T) :=
  sv_bi (f_Seg_has a1 (4 : Int32) v) fun x2 v1 =>
  if x2 = 0 then
  sv_bi (f_Seg_has a1 (16 : Int32) v1) fun x4 v3 =>
  if x4 = 0 then
  sv_bi (f_Seg_has a1 (2 : Int32) v3) fun x6 v5 =>
  if x6 = 0 then
  some v5
  else
  sv_bv (f_Ep_begin q a2 v5) fun v7 =>
  sv_bv (f_Rcv_startAfter (sv_ref (sg q) 5) (v7 a1 4) v7) fun v8 =>
  sv_ls (sv_up v8 (sv_ref (sg q) 4) 5 (v8 a1 6)) fun v9 =>
  sv_ls (sv_up v9 q 6 (3 : Int32)) fun v10 =>
  sv_bv (f_Ep_emit q (18 : Int32) (v10 (sv_ref (sg q) 4) 2) v10) fun v11 =>
  some v11
  else
  sv_bv (f_Ep_emit q (4 : Int32) (v3 a1 5) v3) fun v12 =>
  some v12
  else
  some v1
set_option maxHeartbeats 4000000 in
set_option maxRecDepth 100000 in
theorem c_Ep_answerWhenListening (d : Nat) (q : Nat) (a1 : Nat) (a2 : Int32) (v : sv_T) (hq : sv_isO (sg q) 7 = true) (ha1 : sv_isO (sg a1) 6 = true) : sv_Cl (d + 4) 91 [.ref q, .ref a1, .int a2] v (f_Ep_answerWhenListening q a1 a2 v) sv_Zv := by
  refine sv_spec (ls0 := [some (.ref q), some (.ref a1), some (.int a2)]) mp_91 (Nat.le_of_ble_eq_true rfl) rfl ?_
  unfold f_Ep_answerWhenListening
  refine sv_aload_n d_Ep_answerWhenListening_0 rfl ?_
  refine sv_iconst (x := (4 : Int32)) d_Ep_answerWhenListening_1 (by decide) ?_
  refine sv_callVi (d := d + 3) (as := [.int (4 : Int32)]) d_Ep_answerWhenListening_2 (wv_Ep_179 mc_91) ha1 ⟨_, rfl, rfl⟩ rfl (Nat.le_of_ble_eq_true rfl) rfl (c_Seg_has (d + 3) a1 (4 : Int32) v ha1) (fun x2 v1 => ?_)
  refine sv_if_eq 9 d_Ep_answerWhenListening_5 rfl ?_ ?_
  · refine sv_aload_n d_Ep_answerWhenListening_9 rfl ?_
    refine sv_bipush (x := (16 : Int32)) d_Ep_answerWhenListening_10 (by decide) ?_
    refine sv_callVi (d := d + 3) (as := [.int (16 : Int32)]) d_Ep_answerWhenListening_12 (wv_Ep_179 mc_91) ha1 ⟨_, rfl, rfl⟩ rfl (Nat.le_of_ble_eq_true rfl) rfl (c_Seg_has (d + 3) a1 (16 : Int32) v1 ha1) (fun x4 v3 => ?_)
    refine sv_if_eq 30 d_Ep_answerWhenListening_15 rfl ?_ ?_
    · refine sv_aload_n d_Ep_answerWhenListening_30 rfl ?_
      refine sv_iconst (x := (2 : Int32)) d_Ep_answerWhenListening_31 (by decide) ?_
      refine sv_callVi (d := d + 3) (as := [.int (2 : Int32)]) d_Ep_answerWhenListening_32 (wv_Ep_179 mc_91) ha1 ⟨_, rfl, rfl⟩ rfl (Nat.le_of_ble_eq_true rfl) rfl (c_Seg_has (d + 3) a1 (2 : Int32) v3 ha1) (fun x6 v5 => ?_)
      refine sv_if_eq 83 d_Ep_answerWhenListening_35 rfl ?_ ?_
      · exact sv_vret rfl d_Ep_answerWhenListening_83
      · refine sv_aload_n d_Ep_answerWhenListening_38 rfl ?_
        refine sv_iload_n d_Ep_answerWhenListening_39 rfl ?_
        refine sv_callVv (d := d + 3) (as := [.int a2]) d_Ep_answerWhenListening_40 (wv_Ep_48 mc_91) hq ⟨_, rfl, rfl⟩ rfl (Nat.le_of_ble_eq_true rfl) rfl (c_Ep_begin (d + 2) q a2 v5 hq) (fun v7 => ?_)
        refine sv_aload_n d_Ep_answerWhenListening_43 rfl ?_
        refine sv_getr d_Ep_answerWhenListening_44 (gf_Ep_38 mc_91) hq (sr_7_5 hq) ?_
        refine sv_aload_n d_Ep_answerWhenListening_47 rfl ?_
        refine sv_geti d_Ep_answerWhenListening_48 (gf_Ep_186 mc_91) ha1 (sd_6_4 ha1) ?_
        refine sv_callVv (d := d + 3) (as := [.int (v7 a1 4)]) d_Ep_answerWhenListening_51 (wv_Ep_192 mc_91) (st_7_5 hq) ⟨_, rfl, rfl⟩ rfl (Nat.le_of_ble_eq_true rfl) rfl (c_Rcv_startAfter (d + 3) (sv_ref (sg q) 5) (v7 a1 4) v7 (st_7_5 hq)) (fun v8 => ?_)
        refine sv_aload_n d_Ep_answerWhenListening_54 rfl ?_
        refine sv_getr d_Ep_answerWhenListening_55 (gf_Ep_31 mc_91) hq (sr_7_4 hq) ?_
        refine sv_aload_n d_Ep_answerWhenListening_58 rfl ?_
        refine sv_geti d_Ep_answerWhenListening_59 (gf_Ep_195 mc_91) ha1 (sd_6_6 ha1) ?_
        refine sv_puti d_Ep_answerWhenListening_62 (pf_Ep_133 mc_91) (st_7_4 hq) (sd_8_5 (st_7_4 hq)) (fun v9 => ?_)
        refine sv_aload_n d_Ep_answerWhenListening_65 rfl ?_
        refine sv_iconst (x := (3 : Int32)) d_Ep_answerWhenListening_66 (by decide) ?_
        refine sv_puti d_Ep_answerWhenListening_67 (pf_Ep_45 mc_91) hq (sd_7_6 hq) (fun v10 => ?_)
        refine sv_aload_n d_Ep_answerWhenListening_70 rfl ?_
        refine sv_bipush (x := (18 : Int32)) d_Ep_answerWhenListening_71 (by decide) ?_
        refine sv_aload_n d_Ep_answerWhenListening_73 rfl ?_
        refine sv_getr d_Ep_answerWhenListening_74 (gf_Ep_31 mc_91) hq (sr_7_4 hq) ?_
        refine sv_geti d_Ep_answerWhenListening_77 (gf_Ep_54 mc_91) (st_7_4 hq) (sd_8_2 (st_7_4 hq)) ?_
        refine sv_callVv (d := d + 3) (as := [.int (18 : Int32), .int (v10 (sv_ref (sg q) 4) 2)]) d_Ep_answerWhenListening_80 (wv_Ep_57 mc_91) hq ⟨_, rfl, rfl⟩ rfl (Nat.le_of_ble_eq_true rfl) rfl (c_Ep_emit (d + 0) q (18 : Int32) (v10 (sv_ref (sg q) 4) 2) v10 hq) (fun v11 => ?_)
        exact sv_vret rfl d_Ep_answerWhenListening_83
    · refine sv_aload_n d_Ep_answerWhenListening_18 rfl ?_
      refine sv_iconst (x := (4 : Int32)) d_Ep_answerWhenListening_19 (by decide) ?_
      refine sv_aload_n d_Ep_answerWhenListening_20 rfl ?_
      refine sv_geti d_Ep_answerWhenListening_21 (gf_Ep_183 mc_91) ha1 (sd_6_5 ha1) ?_
      refine sv_callVv (d := d + 3) (as := [.int (4 : Int32), .int (v3 a1 5)]) d_Ep_answerWhenListening_24 (wv_Ep_57 mc_91) hq ⟨_, rfl, rfl⟩ rfl (Nat.le_of_ble_eq_true rfl) rfl (c_Ep_emit (d + 0) q (4 : Int32) (v3 a1 5) v3 hq) (fun v12 => ?_)
      refine sv_goto 83 d_Ep_answerWhenListening_27 rfl ?_
      exact sv_vret rfl d_Ep_answerWhenListening_83
  · exact sv_vret rfl d_Ep_answerWhenListening_8
def f_Ep_restartTimer_b29 (s0 : Int32) (t1 : Nat) (v : sv_T) : Option (sv_T) :=
  sv_ls (sv_up v t1 7 s0) fun v5 =>
  some v5
def f_Ep_restartTimer (q : Nat) (v : sv_T) : Option (sv_T) :=
  sv_ls (sv_up v q 9 (0 : Int32)) fun v1 =>
  sv_ls (sv_up v1 q 8 (4 : Int32)) fun v2 =>
  sv_bi (f_Snd_isAllConfirmed (sv_ref (sg q) 4) v2) fun x4 v3 =>
  if x4 = 0 then
  f_Ep_restartTimer_b29 (v3 q 8) q v3
  else
  f_Ep_restartTimer_b29 (0 : Int32) q v3
set_option maxHeartbeats 4000000 in
set_option maxRecDepth 100000 in
theorem c_Ep_restartTimer_b29 (d : Nat) (s0 : Int32) (t1 : Nat) (v : sv_T) (ht1 : sv_isO (sg t1) 7 = true) : sv_Ref (d + 1) 95 29 [none] [.int s0, .ref t1] v (f_Ep_restartTimer_b29 s0 t1 v) (sv_Zv) := by
  unfold f_Ep_restartTimer_b29
  refine sv_puti d_Ep_restartTimer_29 (pf_Ep_97 mc_95) ht1 (sd_7_7 ht1) (fun v5 => ?_)
  exact sv_vret rfl d_Ep_restartTimer_32
set_option maxHeartbeats 4000000 in
set_option maxRecDepth 100000 in
theorem c_Ep_restartTimer (d : Nat) (q : Nat) (v : sv_T) (hq : sv_isO (sg q) 7 = true) : sv_Cl (d + 1) 95 [.ref q] v (f_Ep_restartTimer q v) sv_Zv := by
  refine sv_spec (ls0 := [some (.ref q)]) mp_95 (Nat.le_of_ble_eq_true rfl) rfl ?_
  unfold f_Ep_restartTimer
  refine sv_aload_n d_Ep_restartTimer_0 rfl ?_
  refine sv_iconst (x := (0 : Int32)) d_Ep_restartTimer_1 (by decide) ?_
  refine sv_puti d_Ep_restartTimer_2 (pf_Ep_140 mc_95) hq (sd_7_9 hq) (fun v1 => ?_)
  refine sv_aload_n d_Ep_restartTimer_5 rfl ?_
  refine sv_iconst (x := (4 : Int32)) d_Ep_restartTimer_6 (by decide) ?_
  refine sv_puti d_Ep_restartTimer_7 (pf_Ep_42 mc_95) hq (sd_7_8 hq) (fun v2 => ?_)
  refine sv_aload_n d_Ep_restartTimer_10 rfl ?_
  refine sv_aload_n d_Ep_restartTimer_11 rfl ?_
  refine sv_getr d_Ep_restartTimer_12 (gf_Ep_31 mc_95) hq (sr_7_4 hq) ?_
  refine sv_callVi (d := d + 0) (as := []) d_Ep_restartTimer_15 (wv_Ep_157 mc_95) (st_7_4 hq) ⟨_, rfl, rfl⟩ rfl (Nat.le_of_ble_eq_true rfl) rfl (c_Snd_isAllConfirmed (d + 0) (sv_ref (sg q) 4) v2 (st_7_4 hq)) (fun x4 v3 => ?_)
  refine sv_if_eq 25 d_Ep_restartTimer_18 rfl ?_ ?_
  · refine sv_aload_n d_Ep_restartTimer_25 rfl ?_
    refine sv_geti d_Ep_restartTimer_26 (gf_Ep_42 mc_95) hq (sd_7_8 hq) ?_
    refine sv_kill (ls' := [none]) trivial ?_
    exact c_Ep_restartTimer_b29 d (v3 q 8) q v3 hq
  · refine sv_iconst (x := (0 : Int32)) d_Ep_restartTimer_21 (by decide) ?_
    refine sv_goto 29 d_Ep_restartTimer_22 rfl ?_
    refine sv_kill (ls' := [none]) trivial ?_
    exact c_Ep_restartTimer_b29 d (0 : Int32) q v3 hq
def f_Ep_answerWhenSynSent_b43 (r0 : Nat) (r1 : Nat) (v : sv_T) : Option (sv_T) :=
  sv_bi (f_Seg_has r1 (4 : Int32) v) fun x4 v3 =>
  if x4 = 0 then
  sv_bi (f_Seg_has r1 (2 : Int32) v3) fun x6 v5 =>
  if x6 = 0 then
  some v5
  else
  sv_bv (f_Rcv_startAfter (sv_ref (sg r0) 5) (v5 r1 4) v5) fun v7 =>
  sv_ls (sv_up v7 (sv_ref (sg r0) 4) 5 (v7 r1 6)) fun v8 =>
  sv_bi (f_Seg_has r1 (16 : Int32) v8) fun x10 v9 =>
  if x10 = 0 then
  sv_ls (sv_up v9 r0 6 (3 : Int32)) fun v11 =>
  sv_bv (f_Ep_emit r0 (18 : Int32) (v11 (sv_ref (sg r0) 4) 2) v11) fun v12 =>
  some v12
  else
  sv_bv (f_Snd_confirm (sv_ref (sg r0) 4) (v9 r1 5) v9) fun v13 =>
  sv_bv (f_Ep_restartTimer r0 v13) fun v14 =>
  sv_ls (sv_up v14 r0 6 (4 : Int32)) fun v15 =>
  sv_bv (f_Ep_emitAck r0 v15) fun v16 =>
  some v16
  else
  sv_bi (f_Seg_has r1 (16 : Int32) v3) fun x18 v17 =>
  if x18 = 0 then
  some v17
  else
  sv_bv (f_Ep_shut r0 v17) fun v19 =>
  some v19
def f_Ep_answerWhenSynSent (q : Nat) (a1 : Nat) (v : sv_T) : Option (sv_T) :=
  sv_bi (f_Seg_has a1 (16 : Int32) v) fun x2 v1 =>
  if x2 = 0 then
  f_Ep_answerWhenSynSent_b43 q a1 v1
  else
  if (v1 a1 5) = (v1 (sv_ref (sg q) 4) 4) then
  f_Ep_answerWhenSynSent_b43 q a1 v1
  else
  sv_bi (f_Seg_has a1 (4 : Int32) v1) fun x21 v20 =>
  if x21 = 0 then
  sv_bv (f_Ep_emit q (4 : Int32) (v20 a1 5) v20) fun v22 =>
  some v22
  else
  some v20
set_option maxHeartbeats 4000000 in
set_option maxRecDepth 100000 in
theorem c_Ep_answerWhenSynSent_b43 (d : Nat) (r0 : Nat) (r1 : Nat) (v : sv_T) (hr0 : sv_isO (sg r0) 7 = true) (hr1 : sv_isO (sg r1) 6 = true) : sv_Ref (d + 4) 93 43 [some (.ref r0), some (.ref r1)] [] v (f_Ep_answerWhenSynSent_b43 r0 r1 v) (sv_Zv) := by
  unfold f_Ep_answerWhenSynSent_b43
  refine sv_aload_n d_Ep_answerWhenSynSent_43 rfl ?_
  refine sv_iconst (x := (4 : Int32)) d_Ep_answerWhenSynSent_44 (by decide) ?_
  refine sv_callVi (d := d + 3) (as := [.int (4 : Int32)]) d_Ep_answerWhenSynSent_45 (wv_Ep_179 mc_93) hr1 ⟨_, rfl, rfl⟩ rfl (Nat.le_of_ble_eq_true rfl) rfl (c_Seg_has (d + 3) r1 (4 : Int32) v hr1) (fun x4 v3 => ?_)
  refine sv_if_eq 67 d_Ep_answerWhenSynSent_48 rfl ?_ ?_
  · refine sv_aload_n d_Ep_answerWhenSynSent_67 rfl ?_
    refine sv_iconst (x := (2 : Int32)) d_Ep_answerWhenSynSent_68 (by decide) ?_
    refine sv_callVi (d := d + 3) (as := [.int (2 : Int32)]) d_Ep_answerWhenSynSent_69 (wv_Ep_179 mc_93) hr1 ⟨_, rfl, rfl⟩ rfl (Nat.le_of_ble_eq_true rfl) rfl (c_Seg_has (d + 3) r1 (2 : Int32) v3 hr1) (fun x6 v5 => ?_)
    refine sv_if_eq 151 d_Ep_answerWhenSynSent_72 rfl ?_ ?_
    · exact sv_vret rfl d_Ep_answerWhenSynSent_151
    · refine sv_aload_n d_Ep_answerWhenSynSent_75 rfl ?_
      refine sv_getr d_Ep_answerWhenSynSent_76 (gf_Ep_38 mc_93) hr0 (sr_7_5 hr0) ?_
      refine sv_aload_n d_Ep_answerWhenSynSent_79 rfl ?_
      refine sv_geti d_Ep_answerWhenSynSent_80 (gf_Ep_186 mc_93) hr1 (sd_6_4 hr1) ?_
      refine sv_callVv (d := d + 3) (as := [.int (v5 r1 4)]) d_Ep_answerWhenSynSent_83 (wv_Ep_192 mc_93) (st_7_5 hr0) ⟨_, rfl, rfl⟩ rfl (Nat.le_of_ble_eq_true rfl) rfl (c_Rcv_startAfter (d + 3) (sv_ref (sg r0) 5) (v5 r1 4) v5 (st_7_5 hr0)) (fun v7 => ?_)
      refine sv_aload_n d_Ep_answerWhenSynSent_86 rfl ?_
      refine sv_getr d_Ep_answerWhenSynSent_87 (gf_Ep_31 mc_93) hr0 (sr_7_4 hr0) ?_
      refine sv_aload_n d_Ep_answerWhenSynSent_90 rfl ?_
      refine sv_geti d_Ep_answerWhenSynSent_91 (gf_Ep_195 mc_93) hr1 (sd_6_6 hr1) ?_
      refine sv_puti d_Ep_answerWhenSynSent_94 (pf_Ep_133 mc_93) (st_7_4 hr0) (sd_8_5 (st_7_4 hr0)) (fun v8 => ?_)
      refine sv_aload_n d_Ep_answerWhenSynSent_97 rfl ?_
      refine sv_bipush (x := (16 : Int32)) d_Ep_answerWhenSynSent_98 (by decide) ?_
      refine sv_callVi (d := d + 3) (as := [.int (16 : Int32)]) d_Ep_answerWhenSynSent_100 (wv_Ep_179 mc_93) hr1 ⟨_, rfl, rfl⟩ rfl (Nat.le_of_ble_eq_true rfl) rfl (c_Seg_has (d + 3) r1 (16 : Int32) v8 hr1) (fun x10 v9 => ?_)
      refine sv_if_eq 133 d_Ep_answerWhenSynSent_103 rfl ?_ ?_
      · refine sv_aload_n d_Ep_answerWhenSynSent_133 rfl ?_
        refine sv_iconst (x := (3 : Int32)) d_Ep_answerWhenSynSent_134 (by decide) ?_
        refine sv_puti d_Ep_answerWhenSynSent_135 (pf_Ep_45 mc_93) hr0 (sd_7_6 hr0) (fun v11 => ?_)
        refine sv_aload_n d_Ep_answerWhenSynSent_138 rfl ?_
        refine sv_bipush (x := (18 : Int32)) d_Ep_answerWhenSynSent_139 (by decide) ?_
        refine sv_aload_n d_Ep_answerWhenSynSent_141 rfl ?_
        refine sv_getr d_Ep_answerWhenSynSent_142 (gf_Ep_31 mc_93) hr0 (sr_7_4 hr0) ?_
        refine sv_geti d_Ep_answerWhenSynSent_145 (gf_Ep_54 mc_93) (st_7_4 hr0) (sd_8_2 (st_7_4 hr0)) ?_
        refine sv_callVv (d := d + 3) (as := [.int (18 : Int32), .int (v11 (sv_ref (sg r0) 4) 2)]) d_Ep_answerWhenSynSent_148 (wv_Ep_57 mc_93) hr0 ⟨_, rfl, rfl⟩ rfl (Nat.le_of_ble_eq_true rfl) rfl (c_Ep_emit (d + 0) r0 (18 : Int32) (v11 (sv_ref (sg r0) 4) 2) v11 hr0) (fun v12 => ?_)
        exact sv_vret rfl d_Ep_answerWhenSynSent_151
      · refine sv_aload_n d_Ep_answerWhenSynSent_106 rfl ?_
        refine sv_getr d_Ep_answerWhenSynSent_107 (gf_Ep_31 mc_93) hr0 (sr_7_4 hr0) ?_
        refine sv_aload_n d_Ep_answerWhenSynSent_110 rfl ?_
        refine sv_geti d_Ep_answerWhenSynSent_111 (gf_Ep_183 mc_93) hr1 (sd_6_5 hr1) ?_
        refine sv_callVv (d := d + 3) (as := [.int (v9 r1 5)]) d_Ep_answerWhenSynSent_114 (wv_Ep_196 mc_93) (st_7_4 hr0) ⟨_, rfl, rfl⟩ rfl (Nat.le_of_ble_eq_true rfl) rfl (c_Snd_confirm (d + 2) (sv_ref (sg r0) 4) (v9 r1 5) v9 (st_7_4 hr0)) (fun v13 => ?_)
        refine sv_aload_n d_Ep_answerWhenSynSent_117 rfl ?_
        refine sv_callVv (d := d + 3) (as := []) d_Ep_answerWhenSynSent_118 (wv_Ep_199 mc_93) hr0 ⟨_, rfl, rfl⟩ rfl (Nat.le_of_ble_eq_true rfl) rfl (c_Ep_restartTimer (d + 2) r0 v13 hr0) (fun v14 => ?_)
        refine sv_aload_n d_Ep_answerWhenSynSent_121 rfl ?_
        refine sv_iconst (x := (4 : Int32)) d_Ep_answerWhenSynSent_122 (by decide) ?_
        refine sv_puti d_Ep_answerWhenSynSent_123 (pf_Ep_45 mc_93) hr0 (sd_7_6 hr0) (fun v15 => ?_)
        refine sv_aload_n d_Ep_answerWhenSynSent_126 rfl ?_
        refine sv_callVv (d := d + 3) (as := []) d_Ep_answerWhenSynSent_127 (wv_Ep_88 mc_93) hr0 ⟨_, rfl, rfl⟩ rfl (Nat.le_of_ble_eq_true rfl) rfl (c_Ep_emitAck (d + 0) r0 v15 hr0) (fun v16 => ?_)
        refine sv_goto 151 d_Ep_answerWhenSynSent_130 rfl ?_
        exact sv_vret rfl d_Ep_answerWhenSynSent_151
  · refine sv_aload_n d_Ep_answerWhenSynSent_51 rfl ?_
    refine sv_bipush (x := (16 : Int32)) d_Ep_answerWhenSynSent_52 (by decide) ?_
    refine sv_callVi (d := d + 3) (as := [.int (16 : Int32)]) d_Ep_answerWhenSynSent_54 (wv_Ep_179 mc_93) hr1 ⟨_, rfl, rfl⟩ rfl (Nat.le_of_ble_eq_true rfl) rfl (c_Seg_has (d + 3) r1 (16 : Int32) v3 hr1) (fun x18 v17 => ?_)
    refine sv_if_eq 151 d_Ep_answerWhenSynSent_57 rfl ?_ ?_
    · exact sv_vret rfl d_Ep_answerWhenSynSent_151
    · refine sv_aload_n d_Ep_answerWhenSynSent_60 rfl ?_
      refine sv_callVv (d := d + 3) (as := []) d_Ep_answerWhenSynSent_61 (wv_Ep_91 mc_93) hr0 ⟨_, rfl, rfl⟩ rfl (Nat.le_of_ble_eq_true rfl) rfl (c_Ep_shut (d + 1) r0 v17 hr0) (fun v19 => ?_)
      refine sv_goto 151 d_Ep_answerWhenSynSent_64 rfl ?_
      exact sv_vret rfl d_Ep_answerWhenSynSent_151
set_option maxHeartbeats 4000000 in
set_option maxRecDepth 100000 in
theorem c_Ep_answerWhenSynSent (d : Nat) (q : Nat) (a1 : Nat) (v : sv_T) (hq : sv_isO (sg q) 7 = true) (ha1 : sv_isO (sg a1) 6 = true) : sv_Cl (d + 4) 93 [.ref q, .ref a1] v (f_Ep_answerWhenSynSent q a1 v) sv_Zv := by
  refine sv_spec (ls0 := [some (.ref q), some (.ref a1)]) mp_93 (Nat.le_of_ble_eq_true rfl) rfl ?_
  unfold f_Ep_answerWhenSynSent
  refine sv_aload_n d_Ep_answerWhenSynSent_0 rfl ?_
  refine sv_bipush (x := (16 : Int32)) d_Ep_answerWhenSynSent_1 (by decide) ?_
  refine sv_callVi (d := d + 3) (as := [.int (16 : Int32)]) d_Ep_answerWhenSynSent_3 (wv_Ep_179 mc_93) ha1 ⟨_, rfl, rfl⟩ rfl (Nat.le_of_ble_eq_true rfl) rfl (c_Seg_has (d + 3) a1 (16 : Int32) v ha1) (fun x2 v1 => ?_)
  refine sv_if_eq 43 d_Ep_answerWhenSynSent_6 rfl ?_ ?_
  · exact c_Ep_answerWhenSynSent_b43 d q a1 v1 hq ha1
  · refine sv_aload_n d_Ep_answerWhenSynSent_9 rfl ?_
    refine sv_geti d_Ep_answerWhenSynSent_10 (gf_Ep_183 mc_93) ha1 (sd_6_5 ha1) ?_
    refine sv_aload_n d_Ep_answerWhenSynSent_13 rfl ?_
    refine sv_getr d_Ep_answerWhenSynSent_14 (gf_Ep_31 mc_93) hq (sr_7_4 hq) ?_
    refine sv_geti d_Ep_answerWhenSynSent_17 (gf_Ep_94 mc_93) (st_7_4 hq) (sd_8_4 (st_7_4 hq)) ?_
    refine sv_icmp_eq 43 d_Ep_answerWhenSynSent_20 rfl ?_ ?_
    · exact c_Ep_answerWhenSynSent_b43 d q a1 v1 hq ha1
    · refine sv_aload_n d_Ep_answerWhenSynSent_23 rfl ?_
      refine sv_iconst (x := (4 : Int32)) d_Ep_answerWhenSynSent_24 (by decide) ?_
      refine sv_callVi (d := d + 3) (as := [.int (4 : Int32)]) d_Ep_answerWhenSynSent_25 (wv_Ep_179 mc_93) ha1 ⟨_, rfl, rfl⟩ rfl (Nat.le_of_ble_eq_true rfl) rfl (c_Seg_has (d + 3) a1 (4 : Int32) v1 ha1) (fun x21 v20 => ?_)
      refine sv_if_ne 151 d_Ep_answerWhenSynSent_28 rfl ?_ ?_
      · exact sv_vret rfl d_Ep_answerWhenSynSent_151
      · refine sv_aload_n d_Ep_answerWhenSynSent_31 rfl ?_
        refine sv_iconst (x := (4 : Int32)) d_Ep_answerWhenSynSent_32 (by decide) ?_
        refine sv_aload_n d_Ep_answerWhenSynSent_33 rfl ?_
        refine sv_geti d_Ep_answerWhenSynSent_34 (gf_Ep_183 mc_93) ha1 (sd_6_5 ha1) ?_
        refine sv_callVv (d := d + 3) (as := [.int (4 : Int32), .int (v20 a1 5)]) d_Ep_answerWhenSynSent_37 (wv_Ep_57 mc_93) hq ⟨_, rfl, rfl⟩ rfl (Nat.le_of_ble_eq_true rfl) rfl (c_Ep_emit (d + 0) q (4 : Int32) (v20 a1 5) v20 hq) (fun v22 => ?_)
        refine sv_goto 151 d_Ep_answerWhenSynSent_40 rfl ?_
        exact sv_vret rfl d_Ep_answerWhenSynSent_151
def f_Ep_isAdmitted_b23 (r0 : Nat) (v : sv_T) : Option (Int32 × sv_T) :=
  if (v r0 6) = (10 : Int32) then
  sv_ls (sv_up v r0 7 (8 : Int32)) fun v14 =>
  some ((0 : Int32), v14)
  else
  some ((0 : Int32), v)
def f_Ep_isAdmitted (q : Nat) (a1 : Nat) (v : sv_T) : Option (Int32 × sv_T) :=
  sv_bi (f_Rcv_fits (sv_ref (sg q) 5) a1 v) fun x2 v1 =>
  if x2 = 0 then
  sv_bi (f_Seg_has a1 (4 : Int32) v1) fun x13 v12 =>
  if x13 = 0 then
  sv_bv (f_Ep_emitAck q v12) fun v15 =>
  f_Ep_isAdmitted_b23 q v15
  else
  f_Ep_isAdmitted_b23 q v12
  else
  sv_bi (f_Seg_has a1 (4 : Int32) v1) fun x4 v3 =>
  if x4 = 0 then
  sv_bi (f_Seg_has a1 (2 : Int32) v3) fun x6 v5 =>
  if x6 = 0 then
  sv_bi (f_Seg_has a1 (16 : Int32) v5) fun x8 v7 =>
  sv_bl x8 (some (x8, v7))
  else
  sv_bv (f_Ep_emit q (4 : Int32) (v5 (sv_ref (sg q) 4) 4) v5) fun v9 =>
  sv_bv (f_Ep_shut q v9) fun v10 =>
  some ((0 : Int32), v10)
  else
  sv_bv (f_Ep_shut q v3) fun v11 =>
  some ((0 : Int32), v11)
set_option maxHeartbeats 4000000 in
set_option maxRecDepth 100000 in
theorem c_Ep_isAdmitted_b23 (d : Nat) (r0 : Nat) (v : sv_T) (hr0 : sv_isO (sg r0) 7 = true) : sv_Ref (d + 4) 96 23 [some (.ref r0), none] [] v (f_Ep_isAdmitted_b23 r0 v) (sv_Zi) := by
  unfold f_Ep_isAdmitted_b23
  refine sv_aload_n d_Ep_isAdmitted_23 rfl ?_
  refine sv_geti d_Ep_isAdmitted_24 (gf_Ep_45 mc_96) hr0 (sd_7_6 hr0) ?_
  refine sv_bipush (x := (10 : Int32)) d_Ep_isAdmitted_27 (by decide) ?_
  refine sv_icmp_ne 38 d_Ep_isAdmitted_29 rfl ?_ ?_
  · refine sv_iconst (x := (0 : Int32)) d_Ep_isAdmitted_38 (by decide) ?_
    exact sv_zretc rfl (by decide) d_Ep_isAdmitted_39
  · refine sv_aload_n d_Ep_isAdmitted_32 rfl ?_
    refine sv_bipush (x := (8 : Int32)) d_Ep_isAdmitted_33 (by decide) ?_
    refine sv_puti d_Ep_isAdmitted_35 (pf_Ep_97 mc_96) hr0 (sd_7_7 hr0) (fun v14 => ?_)
    refine sv_iconst (x := (0 : Int32)) d_Ep_isAdmitted_38 (by decide) ?_
    exact sv_zretc rfl (by decide) d_Ep_isAdmitted_39
set_option maxHeartbeats 4000000 in
set_option maxRecDepth 100000 in
theorem c_Ep_isAdmitted (d : Nat) (q : Nat) (a1 : Nat) (v : sv_T) (hq : sv_isO (sg q) 7 = true) (ha1 : sv_isO (sg a1) 6 = true) : sv_Cl (d + 4) 96 [.ref q, .ref a1] v (f_Ep_isAdmitted q a1 v) sv_Zi := by
  refine sv_spec (ls0 := [some (.ref q), some (.ref a1)]) mp_96 (Nat.le_of_ble_eq_true rfl) rfl ?_
  unfold f_Ep_isAdmitted
  refine sv_aload_n d_Ep_isAdmitted_0 rfl ?_
  refine sv_getr d_Ep_isAdmitted_1 (gf_Ep_38 mc_96) hq (sr_7_5 hq) ?_
  refine sv_aload_n d_Ep_isAdmitted_4 rfl ?_
  refine sv_callVi (d := d + 3) (as := [.ref a1]) d_Ep_isAdmitted_5 (wv_Ep_202 mc_96) (st_7_5 hq) ⟨_, rfl, rfl⟩ rfl (Nat.le_of_ble_eq_true rfl) rfl (c_Rcv_fits (d + 1) (sv_ref (sg q) 5) a1 v (st_7_5 hq) ha1) (fun x2 v1 => ?_)
  refine sv_if_ne 40 d_Ep_isAdmitted_8 rfl ?_ ?_
  · refine sv_aload_n d_Ep_isAdmitted_40 rfl ?_
    refine sv_iconst (x := (4 : Int32)) d_Ep_isAdmitted_41 (by decide) ?_
    refine sv_callVi (d := d + 3) (as := [.int (4 : Int32)]) d_Ep_isAdmitted_42 (wv_Ep_179 mc_96) ha1 ⟨_, rfl, rfl⟩ rfl (Nat.le_of_ble_eq_true rfl) rfl (c_Seg_has (d + 3) a1 (4 : Int32) v1 ha1) (fun x4 v3 => ?_)
    refine sv_if_eq 54 d_Ep_isAdmitted_45 rfl ?_ ?_
    · refine sv_aload_n d_Ep_isAdmitted_54 rfl ?_
      refine sv_iconst (x := (2 : Int32)) d_Ep_isAdmitted_55 (by decide) ?_
      refine sv_callVi (d := d + 3) (as := [.int (2 : Int32)]) d_Ep_isAdmitted_56 (wv_Ep_179 mc_96) ha1 ⟨_, rfl, rfl⟩ rfl (Nat.le_of_ble_eq_true rfl) rfl (c_Seg_has (d + 3) a1 (2 : Int32) v3 ha1) (fun x6 v5 => ?_)
      refine sv_if_eq 80 d_Ep_isAdmitted_59 rfl ?_ ?_
      · refine sv_aload_n d_Ep_isAdmitted_80 rfl ?_
        refine sv_bipush (x := (16 : Int32)) d_Ep_isAdmitted_81 (by decide) ?_
        refine sv_callVi (d := d + 3) (as := [.int (16 : Int32)]) d_Ep_isAdmitted_83 (wv_Ep_179 mc_96) ha1 ⟨_, rfl, rfl⟩ rfl (Nat.le_of_ble_eq_true rfl) rfl (c_Seg_has (d + 3) a1 (16 : Int32) v5 ha1) (fun x8 v7 => ?_)
        exact sv_zret rfl d_Ep_isAdmitted_86
      · refine sv_aload_n d_Ep_isAdmitted_62 rfl ?_
        refine sv_iconst (x := (4 : Int32)) d_Ep_isAdmitted_63 (by decide) ?_
        refine sv_aload_n d_Ep_isAdmitted_64 rfl ?_
        refine sv_getr d_Ep_isAdmitted_65 (gf_Ep_31 mc_96) hq (sr_7_4 hq) ?_
        refine sv_geti d_Ep_isAdmitted_68 (gf_Ep_94 mc_96) (st_7_4 hq) (sd_8_4 (st_7_4 hq)) ?_
        refine sv_callVv (d := d + 3) (as := [.int (4 : Int32), .int (v5 (sv_ref (sg q) 4) 4)]) d_Ep_isAdmitted_71 (wv_Ep_57 mc_96) hq ⟨_, rfl, rfl⟩ rfl (Nat.le_of_ble_eq_true rfl) rfl (c_Ep_emit (d + 0) q (4 : Int32) (v5 (sv_ref (sg q) 4) 4) v5 hq) (fun v9 => ?_)
        refine sv_aload_n d_Ep_isAdmitted_74 rfl ?_
        refine sv_callVv (d := d + 3) (as := []) d_Ep_isAdmitted_75 (wv_Ep_91 mc_96) hq ⟨_, rfl, rfl⟩ rfl (Nat.le_of_ble_eq_true rfl) rfl (c_Ep_shut (d + 1) q v9 hq) (fun v10 => ?_)
        refine sv_iconst (x := (0 : Int32)) d_Ep_isAdmitted_78 (by decide) ?_
        exact sv_zretc rfl (by decide) d_Ep_isAdmitted_79
    · refine sv_aload_n d_Ep_isAdmitted_48 rfl ?_
      refine sv_callVv (d := d + 3) (as := []) d_Ep_isAdmitted_49 (wv_Ep_91 mc_96) hq ⟨_, rfl, rfl⟩ rfl (Nat.le_of_ble_eq_true rfl) rfl (c_Ep_shut (d + 1) q v3 hq) (fun v11 => ?_)
      refine sv_iconst (x := (0 : Int32)) d_Ep_isAdmitted_52 (by decide) ?_
      exact sv_zretc rfl (by decide) d_Ep_isAdmitted_53
  · refine sv_aload_n d_Ep_isAdmitted_11 rfl ?_
    refine sv_iconst (x := (4 : Int32)) d_Ep_isAdmitted_12 (by decide) ?_
    refine sv_callVi (d := d + 3) (as := [.int (4 : Int32)]) d_Ep_isAdmitted_13 (wv_Ep_179 mc_96) ha1 ⟨_, rfl, rfl⟩ rfl (Nat.le_of_ble_eq_true rfl) rfl (c_Seg_has (d + 3) a1 (4 : Int32) v1 ha1) (fun x13 v12 => ?_)
    refine sv_if_ne 23 d_Ep_isAdmitted_16 rfl ?_ ?_
    · refine sv_kill (ls' := [some (.ref q), none]) ⟨rfl, trivial⟩ ?_
      exact c_Ep_isAdmitted_b23 d q v12 hq
    · refine sv_aload_n d_Ep_isAdmitted_19 rfl ?_
      refine sv_callVv (d := d + 3) (as := []) d_Ep_isAdmitted_20 (wv_Ep_88 mc_96) hq ⟨_, rfl, rfl⟩ rfl (Nat.le_of_ble_eq_true rfl) rfl (c_Ep_emitAck (d + 0) q v12 hq) (fun v15 => ?_)
      refine sv_kill (ls' := [some (.ref q), none]) ⟨rfl, trivial⟩ ?_
      exact c_Ep_isAdmitted_b23 d q v15 hq
def f_Ep_isOpenFor (q : Nat) (a1 : Nat) (v : sv_T) : Option (Int32 × sv_T) :=
  if (v q 6) = (3 : Int32) then
  if (v a1 5) = (v (sv_ref (sg q) 4) 4) then
  sv_ls (sv_up v q 6 (4 : Int32)) fun v1 =>
  some ((1 : Int32), v1)
  else
  sv_bv (f_Ep_emit q (4 : Int32) (v a1 5) v) fun v2 =>
  some ((0 : Int32), v2)
  else
  some ((1 : Int32), v)
set_option maxHeartbeats 4000000 in
set_option maxRecDepth 100000 in
theorem c_Ep_isOpenFor (d : Nat) (q : Nat) (a1 : Nat) (v : sv_T) (hq : sv_isO (sg q) 7 = true) (ha1 : sv_isO (sg a1) 6 = true) : sv_Cl (d + 4) 99 [.ref q, .ref a1] v (f_Ep_isOpenFor q a1 v) sv_Zi := by
  refine sv_spec (ls0 := [some (.ref q), some (.ref a1)]) mp_99 (Nat.le_of_ble_eq_true rfl) rfl ?_
  unfold f_Ep_isOpenFor
  refine sv_aload_n d_Ep_isOpenFor_0 rfl ?_
  refine sv_geti d_Ep_isOpenFor_1 (gf_Ep_45 mc_99) hq (sd_7_6 hq) ?_
  refine sv_iconst (x := (3 : Int32)) d_Ep_isOpenFor_4 (by decide) ?_
  refine sv_icmp_eq 10 d_Ep_isOpenFor_5 rfl ?_ ?_
  · refine sv_aload_n d_Ep_isOpenFor_10 rfl ?_
    refine sv_geti d_Ep_isOpenFor_11 (gf_Ep_183 mc_99) ha1 (sd_6_5 ha1) ?_
    refine sv_aload_n d_Ep_isOpenFor_14 rfl ?_
    refine sv_getr d_Ep_isOpenFor_15 (gf_Ep_31 mc_99) hq (sr_7_4 hq) ?_
    refine sv_geti d_Ep_isOpenFor_18 (gf_Ep_94 mc_99) (st_7_4 hq) (sd_8_4 (st_7_4 hq)) ?_
    refine sv_icmp_eq 35 d_Ep_isOpenFor_21 rfl ?_ ?_
    · refine sv_aload_n d_Ep_isOpenFor_35 rfl ?_
      refine sv_iconst (x := (4 : Int32)) d_Ep_isOpenFor_36 (by decide) ?_
      refine sv_puti d_Ep_isOpenFor_37 (pf_Ep_45 mc_99) hq (sd_7_6 hq) (fun v1 => ?_)
      refine sv_iconst (x := (1 : Int32)) d_Ep_isOpenFor_40 (by decide) ?_
      exact sv_zretc rfl (by decide) d_Ep_isOpenFor_41
    · refine sv_aload_n d_Ep_isOpenFor_24 rfl ?_
      refine sv_iconst (x := (4 : Int32)) d_Ep_isOpenFor_25 (by decide) ?_
      refine sv_aload_n d_Ep_isOpenFor_26 rfl ?_
      refine sv_geti d_Ep_isOpenFor_27 (gf_Ep_183 mc_99) ha1 (sd_6_5 ha1) ?_
      refine sv_callVv (d := d + 3) (as := [.int (4 : Int32), .int (v a1 5)]) d_Ep_isOpenFor_30 (wv_Ep_57 mc_99) hq ⟨_, rfl, rfl⟩ rfl (Nat.le_of_ble_eq_true rfl) rfl (c_Ep_emit (d + 0) q (4 : Int32) (v a1 5) v hq) (fun v2 => ?_)
      refine sv_iconst (x := (0 : Int32)) d_Ep_isOpenFor_33 (by decide) ?_
      exact sv_zretc rfl (by decide) d_Ep_isOpenFor_34
  · refine sv_iconst (x := (1 : Int32)) d_Ep_isOpenFor_8 (by decide) ?_
    exact sv_zretc rfl (by decide) d_Ep_isOpenFor_9
def f_Ep_startTime (q : Nat) (v : sv_T) : Option (sv_T) :=
  sv_ls (sv_up v q 6 (10 : Int32)) fun v1 =>
  sv_ls (sv_up v1 q 7 (8 : Int32)) fun v2 =>
  some v2
set_option maxHeartbeats 4000000 in
set_option maxRecDepth 100000 in
theorem c_Ep_startTime (d : Nat) (q : Nat) (v : sv_T) (hq : sv_isO (sg q) 7 = true) : sv_Cl (d + 0) 104 [.ref q] v (f_Ep_startTime q v) sv_Zv := by
  refine sv_spec (ls0 := [some (.ref q)]) mp_104 (Nat.le_of_ble_eq_true rfl) rfl ?_
  unfold f_Ep_startTime
  refine sv_aload_n d_Ep_startTime_0 rfl ?_
  refine sv_bipush (x := (10 : Int32)) d_Ep_startTime_1 (by decide) ?_
  refine sv_puti d_Ep_startTime_3 (pf_Ep_45 mc_104) hq (sd_7_6 hq) (fun v1 => ?_)
  refine sv_aload_n d_Ep_startTime_6 rfl ?_
  refine sv_bipush (x := (8 : Int32)) d_Ep_startTime_7 (by decide) ?_
  refine sv_puti d_Ep_startTime_9 (pf_Ep_97 mc_104) hq (sd_7_7 hq) (fun v2 => ?_)
  exact sv_vret rfl d_Ep_startTime_12
def f_Ep_allIsConfirmed (q : Nat) (v : sv_T) : Option (sv_T) :=
  if (v q 6) = (5 : Int32) then
  sv_ls (sv_up v q 6 (6 : Int32)) fun v3 =>
  some v3
  else
  if (v q 6) = (8 : Int32) then
  sv_bv (f_Ep_startTime q v) fun v2 =>
  some v2
  else
  if (v q 6) = (9 : Int32) then
  sv_bv (f_Ep_shut q v) fun v1 =>
  some v1
  else
  some v
set_option maxHeartbeats 4000000 in
set_option maxRecDepth 100000 in
theorem c_Ep_allIsConfirmed (d : Nat) (q : Nat) (v : sv_T) (hq : sv_isO (sg q) 7 = true) : sv_Cl (d + 3) 103 [.ref q] v (f_Ep_allIsConfirmed q v) sv_Zv := by
  refine sv_spec (ls0 := [some (.ref q)]) mp_103 (Nat.le_of_ble_eq_true rfl) rfl ?_
  unfold f_Ep_allIsConfirmed
  refine sv_aload_n d_Ep_allIsConfirmed_0 rfl ?_
  refine sv_geti d_Ep_allIsConfirmed_1 (gf_Ep_45 mc_103) hq (sd_7_6 hq) ?_
  refine sv_iconst (x := (5 : Int32)) d_Ep_allIsConfirmed_4 (by decide) ?_
  refine sv_icmp_ne 17 d_Ep_allIsConfirmed_5 rfl ?_ ?_
  · refine sv_aload_n d_Ep_allIsConfirmed_17 rfl ?_
    refine sv_geti d_Ep_allIsConfirmed_18 (gf_Ep_45 mc_103) hq (sd_7_6 hq) ?_
    refine sv_bipush (x := (8 : Int32)) d_Ep_allIsConfirmed_21 (by decide) ?_
    refine sv_icmp_ne 33 d_Ep_allIsConfirmed_23 rfl ?_ ?_
    · refine sv_aload_n d_Ep_allIsConfirmed_33 rfl ?_
      refine sv_geti d_Ep_allIsConfirmed_34 (gf_Ep_45 mc_103) hq (sd_7_6 hq) ?_
      refine sv_bipush (x := (9 : Int32)) d_Ep_allIsConfirmed_37 (by decide) ?_
      refine sv_icmp_ne 46 d_Ep_allIsConfirmed_39 rfl ?_ ?_
      · exact sv_vret rfl d_Ep_allIsConfirmed_46
      · refine sv_aload_n d_Ep_allIsConfirmed_42 rfl ?_
        refine sv_callVv (d := d + 2) (as := []) d_Ep_allIsConfirmed_43 (wv_Ep_91 mc_103) hq ⟨_, rfl, rfl⟩ rfl (Nat.le_of_ble_eq_true rfl) rfl (c_Ep_shut (d + 0) q v hq) (fun v1 => ?_)
        exact sv_vret rfl d_Ep_allIsConfirmed_46
    · refine sv_aload_n d_Ep_allIsConfirmed_26 rfl ?_
      refine sv_callVv (d := d + 2) (as := []) d_Ep_allIsConfirmed_27 (wv_Ep_214 mc_103) hq ⟨_, rfl, rfl⟩ rfl (Nat.le_of_ble_eq_true rfl) rfl (c_Ep_startTime (d + 2) q v hq) (fun v2 => ?_)
      refine sv_goto 46 d_Ep_allIsConfirmed_30 rfl ?_
      exact sv_vret rfl d_Ep_allIsConfirmed_46
  · refine sv_aload_n d_Ep_allIsConfirmed_8 rfl ?_
    refine sv_bipush (x := (6 : Int32)) d_Ep_allIsConfirmed_9 (by decide) ?_
    refine sv_puti d_Ep_allIsConfirmed_11 (pf_Ep_45 mc_103) hq (sd_7_6 hq) (fun v3 => ?_)
    refine sv_goto 46 d_Ep_allIsConfirmed_14 rfl ?_
    exact sv_vret rfl d_Ep_allIsConfirmed_46
def f_Ep_takeConfirmation_b77 (r0 : Nat) (v : sv_T) : Option (Int32 × sv_T) :=
  if (v r0 6) = 0 then
  some ((0 : Int32), v)
  else
  some ((1 : Int32), v)
def f_Ep_takeConfirmation_b52 (r0 : Nat) (r1 : Nat) (v : sv_T) : Option (Int32 × sv_T) :=
  sv_ls (sv_up v (sv_ref (sg r0) 4) 5 (v r1 6)) fun v5 =>
  sv_bi (f_Snd_isAllConfirmed (sv_ref (sg r0) 4) v5) fun x7 v6 =>
  if x7 = 0 then
  f_Ep_takeConfirmation_b77 r0 v6
  else
  sv_bv (f_Ep_allIsConfirmed r0 v6) fun v8 =>
  f_Ep_takeConfirmation_b77 r0 v8
def f_Ep_takeConfirmation (q : Nat) (a1 : Nat) (v : sv_T) : Option (Int32 × sv_T) :=
  sv_bi (f_Snd_confirms (sv_ref (sg q) 4) (v a1 5) v) fun x2 v1 =>
  if x2 = 0 then
  sv_bi (f_Snd_isAhead (sv_ref (sg q) 4) (v1 a1 5) v1) fun x4 v3 =>
  if x4 = 0 then
  f_Ep_takeConfirmation_b52 q a1 v3
  else
  sv_bv (f_Ep_emitAck q v3) fun v9 =>
  some ((0 : Int32), v9)
  else
  sv_bv (f_Snd_confirm (sv_ref (sg q) 4) (v1 a1 5) v1) fun v10 =>
  sv_bv (f_Ep_restartTimer q v10) fun v11 =>
  f_Ep_takeConfirmation_b52 q a1 v11
set_option maxHeartbeats 4000000 in
set_option maxRecDepth 100000 in
theorem c_Ep_takeConfirmation_b77 (d : Nat) (r0 : Nat) (v : sv_T) (hr0 : sv_isO (sg r0) 7 = true) : sv_Ref (d + 4) 100 77 [some (.ref r0), none] [] v (f_Ep_takeConfirmation_b77 r0 v) (sv_Zi) := by
  unfold f_Ep_takeConfirmation_b77
  refine sv_aload_n d_Ep_takeConfirmation_77 rfl ?_
  refine sv_geti d_Ep_takeConfirmation_78 (gf_Ep_45 mc_100) hr0 (sd_7_6 hr0) ?_
  refine sv_if_eq 88 d_Ep_takeConfirmation_81 rfl ?_ ?_
  · refine sv_iconst (x := (0 : Int32)) d_Ep_takeConfirmation_88 (by decide) ?_
    exact sv_zretc rfl (by decide) d_Ep_takeConfirmation_89
  · refine sv_iconst (x := (1 : Int32)) d_Ep_takeConfirmation_84 (by decide) ?_
    refine sv_goto 89 d_Ep_takeConfirmation_85 rfl ?_
    exact sv_zretc rfl (by decide) d_Ep_takeConfirmation_89
set_option maxHeartbeats 4000000 in
set_option maxRecDepth 100000 in
theorem c_Ep_takeConfirmation_b52 (d : Nat) (r0 : Nat) (r1 : Nat) (v : sv_T) (hr0 : sv_isO (sg r0) 7 = true) (hr1 : sv_isO (sg r1) 6 = true) : sv_Ref (d + 4) 100 52 [some (.ref r0), some (.ref r1)] [] v (f_Ep_takeConfirmation_b52 r0 r1 v) (sv_Zi) := by
  unfold f_Ep_takeConfirmation_b52
  refine sv_aload_n d_Ep_takeConfirmation_52 rfl ?_
  refine sv_getr d_Ep_takeConfirmation_53 (gf_Ep_31 mc_100) hr0 (sr_7_4 hr0) ?_
  refine sv_aload_n d_Ep_takeConfirmation_56 rfl ?_
  refine sv_geti d_Ep_takeConfirmation_57 (gf_Ep_195 mc_100) hr1 (sd_6_6 hr1) ?_
  refine sv_puti d_Ep_takeConfirmation_60 (pf_Ep_133 mc_100) (st_7_4 hr0) (sd_8_5 (st_7_4 hr0)) (fun v5 => ?_)
  refine sv_aload_n d_Ep_takeConfirmation_63 rfl ?_
  refine sv_getr d_Ep_takeConfirmation_64 (gf_Ep_31 mc_100) hr0 (sr_7_4 hr0) ?_
  refine sv_callVi (d := d + 3) (as := []) d_Ep_takeConfirmation_67 (wv_Ep_157 mc_100) (st_7_4 hr0) ⟨_, rfl, rfl⟩ rfl (Nat.le_of_ble_eq_true rfl) rfl (c_Snd_isAllConfirmed (d + 3) (sv_ref (sg r0) 4) v5 (st_7_4 hr0)) (fun x7 v6 => ?_)
  refine sv_if_eq 77 d_Ep_takeConfirmation_70 rfl ?_ ?_
  · refine sv_kill (ls' := [some (.ref r0), none]) ⟨rfl, trivial⟩ ?_
    exact c_Ep_takeConfirmation_b77 d r0 v6 hr0
  · refine sv_aload_n d_Ep_takeConfirmation_73 rfl ?_
    refine sv_callVv (d := d + 3) (as := []) d_Ep_takeConfirmation_74 (wv_Ep_211 mc_100) hr0 ⟨_, rfl, rfl⟩ rfl (Nat.le_of_ble_eq_true rfl) rfl (c_Ep_allIsConfirmed (d + 0) r0 v6 hr0) (fun v8 => ?_)
    refine sv_kill (ls' := [some (.ref r0), none]) ⟨rfl, trivial⟩ ?_
    exact c_Ep_takeConfirmation_b77 d r0 v8 hr0
set_option maxHeartbeats 4000000 in
set_option maxRecDepth 100000 in
theorem c_Ep_takeConfirmation (d : Nat) (q : Nat) (a1 : Nat) (v : sv_T) (hq : sv_isO (sg q) 7 = true) (ha1 : sv_isO (sg a1) 6 = true) : sv_Cl (d + 4) 100 [.ref q, .ref a1] v (f_Ep_takeConfirmation q a1 v) sv_Zi := by
  refine sv_spec (ls0 := [some (.ref q), some (.ref a1)]) mp_100 (Nat.le_of_ble_eq_true rfl) rfl ?_
  unfold f_Ep_takeConfirmation
  refine sv_aload_n d_Ep_takeConfirmation_0 rfl ?_
  refine sv_getr d_Ep_takeConfirmation_1 (gf_Ep_31 mc_100) hq (sr_7_4 hq) ?_
  refine sv_aload_n d_Ep_takeConfirmation_4 rfl ?_
  refine sv_geti d_Ep_takeConfirmation_5 (gf_Ep_183 mc_100) ha1 (sd_6_5 ha1) ?_
  refine sv_callVi (d := d + 3) (as := [.int (v a1 5)]) d_Ep_takeConfirmation_8 (wv_Ep_205 mc_100) (st_7_4 hq) ⟨_, rfl, rfl⟩ rfl (Nat.le_of_ble_eq_true rfl) rfl (c_Snd_confirms (d + 3) (sv_ref (sg q) 4) (v a1 5) v (st_7_4 hq)) (fun x2 v1 => ?_)
  refine sv_if_eq 32 d_Ep_takeConfirmation_11 rfl ?_ ?_
  · refine sv_aload_n d_Ep_takeConfirmation_32 rfl ?_
    refine sv_getr d_Ep_takeConfirmation_33 (gf_Ep_31 mc_100) hq (sr_7_4 hq) ?_
    refine sv_aload_n d_Ep_takeConfirmation_36 rfl ?_
    refine sv_geti d_Ep_takeConfirmation_37 (gf_Ep_183 mc_100) ha1 (sd_6_5 ha1) ?_
    refine sv_callVi (d := d + 3) (as := [.int (v1 a1 5)]) d_Ep_takeConfirmation_40 (wv_Ep_208 mc_100) (st_7_4 hq) ⟨_, rfl, rfl⟩ rfl (Nat.le_of_ble_eq_true rfl) rfl (c_Snd_isAhead (d + 3) (sv_ref (sg q) 4) (v1 a1 5) v1 (st_7_4 hq)) (fun x4 v3 => ?_)
    refine sv_if_eq 52 d_Ep_takeConfirmation_43 rfl ?_ ?_
    · exact c_Ep_takeConfirmation_b52 d q a1 v3 hq ha1
    · refine sv_aload_n d_Ep_takeConfirmation_46 rfl ?_
      refine sv_callVv (d := d + 3) (as := []) d_Ep_takeConfirmation_47 (wv_Ep_88 mc_100) hq ⟨_, rfl, rfl⟩ rfl (Nat.le_of_ble_eq_true rfl) rfl (c_Ep_emitAck (d + 0) q v3 hq) (fun v9 => ?_)
      refine sv_iconst (x := (0 : Int32)) d_Ep_takeConfirmation_50 (by decide) ?_
      exact sv_zretc rfl (by decide) d_Ep_takeConfirmation_51
  · refine sv_aload_n d_Ep_takeConfirmation_14 rfl ?_
    refine sv_getr d_Ep_takeConfirmation_15 (gf_Ep_31 mc_100) hq (sr_7_4 hq) ?_
    refine sv_aload_n d_Ep_takeConfirmation_18 rfl ?_
    refine sv_geti d_Ep_takeConfirmation_19 (gf_Ep_183 mc_100) ha1 (sd_6_5 ha1) ?_
    refine sv_callVv (d := d + 3) (as := [.int (v1 a1 5)]) d_Ep_takeConfirmation_22 (wv_Ep_196 mc_100) (st_7_4 hq) ⟨_, rfl, rfl⟩ rfl (Nat.le_of_ble_eq_true rfl) rfl (c_Snd_confirm (d + 2) (sv_ref (sg q) 4) (v1 a1 5) v1 (st_7_4 hq)) (fun v10 => ?_)
    refine sv_aload_n d_Ep_takeConfirmation_25 rfl ?_
    refine sv_callVv (d := d + 3) (as := []) d_Ep_takeConfirmation_26 (wv_Ep_199 mc_100) hq ⟨_, rfl, rfl⟩ rfl (Nat.le_of_ble_eq_true rfl) rfl (c_Ep_restartTimer (d + 2) q v10 hq) (fun v11 => ?_)
    refine sv_goto 52 d_Ep_takeConfirmation_29 rfl ?_
    exact c_Ep_takeConfirmation_b52 d q a1 v11 hq ha1
def f_Ep_otherIsAtEnd (q : Nat) (v : sv_T) : Option (sv_T) :=
  if (v q 6) = (4 : Int32) then
  sv_ls (sv_up v q 6 (7 : Int32)) fun v3 =>
  some v3
  else
  if (v q 6) = (5 : Int32) then
  sv_ls (sv_up v q 6 (8 : Int32)) fun v2 =>
  some v2
  else
  sv_bv (f_Ep_startTime q v) fun v1 =>
  some v1
set_option maxHeartbeats 4000000 in
set_option maxRecDepth 100000 in
theorem c_Ep_otherIsAtEnd (d : Nat) (q : Nat) (v : sv_T) (hq : sv_isO (sg q) 7 = true) : sv_Cl (d + 1) 109 [.ref q] v (f_Ep_otherIsAtEnd q v) sv_Zv := by
  refine sv_spec (ls0 := [some (.ref q)]) mp_109 (Nat.le_of_ble_eq_true rfl) rfl ?_
  unfold f_Ep_otherIsAtEnd
  refine sv_aload_n d_Ep_otherIsAtEnd_0 rfl ?_
  refine sv_geti d_Ep_otherIsAtEnd_1 (gf_Ep_45 mc_109) hq (sd_7_6 hq) ?_
  refine sv_iconst (x := (4 : Int32)) d_Ep_otherIsAtEnd_4 (by decide) ?_
  refine sv_icmp_ne 17 d_Ep_otherIsAtEnd_5 rfl ?_ ?_
  · refine sv_aload_n d_Ep_otherIsAtEnd_17 rfl ?_
    refine sv_geti d_Ep_otherIsAtEnd_18 (gf_Ep_45 mc_109) hq (sd_7_6 hq) ?_
    refine sv_iconst (x := (5 : Int32)) d_Ep_otherIsAtEnd_21 (by decide) ?_
    refine sv_icmp_ne 34 d_Ep_otherIsAtEnd_22 rfl ?_ ?_
    · refine sv_aload_n d_Ep_otherIsAtEnd_34 rfl ?_
      refine sv_callVv (d := d + 0) (as := []) d_Ep_otherIsAtEnd_35 (wv_Ep_214 mc_109) hq ⟨_, rfl, rfl⟩ rfl (Nat.le_of_ble_eq_true rfl) rfl (c_Ep_startTime (d + 0) q v hq) (fun v1 => ?_)
      exact sv_vret rfl d_Ep_otherIsAtEnd_38
    · refine sv_aload_n d_Ep_otherIsAtEnd_25 rfl ?_
      refine sv_bipush (x := (8 : Int32)) d_Ep_otherIsAtEnd_26 (by decide) ?_
      refine sv_puti d_Ep_otherIsAtEnd_28 (pf_Ep_45 mc_109) hq (sd_7_6 hq) (fun v2 => ?_)
      refine sv_goto 38 d_Ep_otherIsAtEnd_31 rfl ?_
      exact sv_vret rfl d_Ep_otherIsAtEnd_38
  · refine sv_aload_n d_Ep_otherIsAtEnd_8 rfl ?_
    refine sv_bipush (x := (7 : Int32)) d_Ep_otherIsAtEnd_9 (by decide) ?_
    refine sv_puti d_Ep_otherIsAtEnd_11 (pf_Ep_45 mc_109) hq (sd_7_6 hq) (fun v3 => ?_)
    refine sv_goto 38 d_Ep_otherIsAtEnd_14 rfl ?_
    exact sv_vret rfl d_Ep_otherIsAtEnd_38
def f_Ep_takeContents_b54 (r0 : Nat) (r1 : Nat) (v : sv_T) : Option (sv_T) :=
  sv_bi (f_Seg_length r1 v) fun x4 v3 =>
  if 0 < x4 then
  sv_bv (f_Ep_emitAck r0 v3) fun v5 =>
  some v5
  else
  some v3
def f_Ep_takeContents (q : Nat) (a1 : Nat) (v : sv_T) : Option (sv_T) :=
  sv_bi (f_Ep_isReceivingState q v) fun x2 v1 =>
  if x2 = 0 then
  if (v1 q 6) = (10 : Int32) then
  sv_bi (f_Seg_length a1 v1) fun x7 v6 =>
  if 0 < x7 then
  sv_ls (sv_up v6 q 7 (8 : Int32)) fun v8 =>
  f_Ep_takeContents_b54 q a1 v8
  else
  f_Ep_takeContents_b54 q a1 v6
  else
  f_Ep_takeContents_b54 q a1 v1
  else
  sv_bv (f_Rcv_keep (sv_ref (sg q) 5) a1 v1) fun v9 =>
  sv_bi (f_Rcv_advance (sv_ref (sg q) 5) v9) fun x11 v10 =>
  if x11 = 0 then
  f_Ep_takeContents_b54 q a1 v10
  else
  sv_bv (f_Ep_otherIsAtEnd q v10) fun v12 =>
  f_Ep_takeContents_b54 q a1 v12
set_option maxHeartbeats 4000000 in
set_option maxRecDepth 100000 in
theorem c_Ep_takeContents_b54 (d : Nat) (r0 : Nat) (r1 : Nat) (v : sv_T) (hr0 : sv_isO (sg r0) 7 = true) (hr1 : sv_isO (sg r1) 6 = true) : sv_Ref (d + 4) 105 54 [some (.ref r0), some (.ref r1)] [] v (f_Ep_takeContents_b54 r0 r1 v) (sv_Zv) := by
  unfold f_Ep_takeContents_b54
  refine sv_aload_n d_Ep_takeContents_54 rfl ?_
  refine sv_callVi (d := d + 3) (as := []) d_Ep_takeContents_55 (wv_Ep_189 mc_105) hr1 ⟨_, rfl, rfl⟩ rfl (Nat.le_of_ble_eq_true rfl) rfl (c_Seg_length (d + 2) r1 v hr1) (fun x4 v3 => ?_)
  refine sv_if_le 65 d_Ep_takeContents_58 rfl ?_ ?_
  · exact sv_vret rfl d_Ep_takeContents_65
  · refine sv_aload_n d_Ep_takeContents_61 rfl ?_
    refine sv_callVv (d := d + 3) (as := []) d_Ep_takeContents_62 (wv_Ep_88 mc_105) hr0 ⟨_, rfl, rfl⟩ rfl (Nat.le_of_ble_eq_true rfl) rfl (c_Ep_emitAck (d + 0) r0 v3 hr0) (fun v5 => ?_)
    exact sv_vret rfl d_Ep_takeContents_65
set_option maxHeartbeats 4000000 in
set_option maxRecDepth 100000 in
theorem c_Ep_takeContents (d : Nat) (q : Nat) (a1 : Nat) (v : sv_T) (hq : sv_isO (sg q) 7 = true) (ha1 : sv_isO (sg a1) 6 = true) : sv_Cl (d + 4) 105 [.ref q, .ref a1] v (f_Ep_takeContents q a1 v) sv_Zv := by
  refine sv_spec (ls0 := [some (.ref q), some (.ref a1)]) mp_105 (Nat.le_of_ble_eq_true rfl) rfl ?_
  unfold f_Ep_takeContents
  refine sv_aload_n d_Ep_takeContents_0 rfl ?_
  refine sv_callVi (d := d + 3) (as := []) d_Ep_takeContents_1 (wv_Ep_85 mc_105) hq ⟨_, rfl, rfl⟩ rfl (Nat.le_of_ble_eq_true rfl) rfl (c_Ep_isReceivingState (d + 3) q v hq) (fun x2 v1 => ?_)
  refine sv_if_eq 32 d_Ep_takeContents_4 rfl ?_ ?_
  · refine sv_aload_n d_Ep_takeContents_32 rfl ?_
    refine sv_geti d_Ep_takeContents_33 (gf_Ep_45 mc_105) hq (sd_7_6 hq) ?_
    refine sv_bipush (x := (10 : Int32)) d_Ep_takeContents_36 (by decide) ?_
    refine sv_icmp_ne 54 d_Ep_takeContents_38 rfl ?_ ?_
    · exact c_Ep_takeContents_b54 d q a1 v1 hq ha1
    · refine sv_aload_n d_Ep_takeContents_41 rfl ?_
      refine sv_callVi (d := d + 3) (as := []) d_Ep_takeContents_42 (wv_Ep_189 mc_105) ha1 ⟨_, rfl, rfl⟩ rfl (Nat.le_of_ble_eq_true rfl) rfl (c_Seg_length (d + 2) a1 v1 ha1) (fun x7 v6 => ?_)
      refine sv_if_le 54 d_Ep_takeContents_45 rfl ?_ ?_
      · exact c_Ep_takeContents_b54 d q a1 v6 hq ha1
      · refine sv_aload_n d_Ep_takeContents_48 rfl ?_
        refine sv_bipush (x := (8 : Int32)) d_Ep_takeContents_49 (by decide) ?_
        refine sv_puti d_Ep_takeContents_51 (pf_Ep_97 mc_105) hq (sd_7_7 hq) (fun v8 => ?_)
        exact c_Ep_takeContents_b54 d q a1 v8 hq ha1
  · refine sv_aload_n d_Ep_takeContents_7 rfl ?_
    refine sv_getr d_Ep_takeContents_8 (gf_Ep_38 mc_105) hq (sr_7_5 hq) ?_
    refine sv_aload_n d_Ep_takeContents_11 rfl ?_
    refine sv_callVv (d := d + 3) (as := [.ref a1]) d_Ep_takeContents_12 (wv_Ep_217 mc_105) (st_7_5 hq) ⟨_, rfl, rfl⟩ rfl (Nat.le_of_ble_eq_true rfl) rfl (c_Rcv_keep (d + 2) (sv_ref (sg q) 5) a1 v1 (st_7_5 hq) ha1) (fun v9 => ?_)
    refine sv_aload_n d_Ep_takeContents_15 rfl ?_
    refine sv_getr d_Ep_takeContents_16 (gf_Ep_38 mc_105) hq (sr_7_5 hq) ?_
    refine sv_callVi (d := d + 3) (as := []) d_Ep_takeContents_19 (wv_Ep_220 mc_105) (st_7_5 hq) ⟨_, rfl, rfl⟩ rfl (Nat.le_of_ble_eq_true rfl) rfl (c_Rcv_advance (d + 3) (sv_ref (sg q) 5) v9 (st_7_5 hq)) (fun x11 v10 => ?_)
    refine sv_if_eq 54 d_Ep_takeContents_22 rfl ?_ ?_
    · exact c_Ep_takeContents_b54 d q a1 v10 hq ha1
    · refine sv_aload_n d_Ep_takeContents_25 rfl ?_
      refine sv_callVv (d := d + 3) (as := []) d_Ep_takeContents_26 (wv_Ep_223 mc_105) hq ⟨_, rfl, rfl⟩ rfl (Nat.le_of_ble_eq_true rfl) rfl (c_Ep_otherIsAtEnd (d + 2) q v10 hq) (fun v12 => ?_)
      refine sv_goto 54 d_Ep_takeContents_29 rfl ?_
      exact c_Ep_takeContents_b54 d q a1 v12 hq ha1
def f_Ep_takeSegment (q : Nat) (a1 : Nat) (a2 : Int32) (v : sv_T) : Option (sv_T) :=
  if (v q 6) = 0 then
  sv_bv (f_Ep_answerWhenClosed q a1 v) fun v12 =>
  some v12
  else
  if (v q 6) = (1 : Int32) then
  sv_bv (f_Ep_answerWhenListening q a1 a2 v) fun v11 =>
  some v11
  else
  if (v q 6) = (2 : Int32) then
  sv_bv (f_Ep_answerWhenSynSent q a1 v) fun v9 =>
  sv_bv (f_Ep_push q v9) fun v10 =>
  some v10
  else
  sv_bi (f_Ep_isAdmitted q a1 v) fun x2 v1 =>
  if x2 = 0 then
  some v1
  else
  sv_bi (f_Ep_isOpenFor q a1 v1) fun x4 v3 =>
  if x4 = 0 then
  some v3
  else
  sv_bi (f_Ep_takeConfirmation q a1 v3) fun x6 v5 =>
  if x6 = 0 then
  some v5
  else
  sv_bv (f_Ep_takeContents q a1 v5) fun v7 =>
  sv_bv (f_Ep_push q v7) fun v8 =>
  some v8
set_option maxHeartbeats 4000000 in
set_option maxRecDepth 100000 in
theorem c_Ep_takeSegment (d : Nat) (q : Nat) (a1 : Nat) (a2 : Int32) (v : sv_T) (hq : sv_isO (sg q) 7 = true) (ha1 : sv_isO (sg a1) 6 = true) : sv_Cl (d + 5) 87 [.ref q, .ref a1, .int a2] v (f_Ep_takeSegment q a1 a2 v) sv_Zv := by
  refine sv_spec (ls0 := [some (.ref q), some (.ref a1), some (.int a2)]) mp_87 (Nat.le_of_ble_eq_true rfl) rfl ?_
  unfold f_Ep_takeSegment
  refine sv_aload_n d_Ep_takeSegment_0 rfl ?_
  refine sv_geti d_Ep_takeSegment_1 (gf_Ep_45 mc_87) hq (sd_7_6 hq) ?_
  refine sv_if_ne 15 d_Ep_takeSegment_4 rfl ?_ ?_
  · refine sv_aload_n d_Ep_takeSegment_15 rfl ?_
    refine sv_geti d_Ep_takeSegment_16 (gf_Ep_45 mc_87) hq (sd_7_6 hq) ?_
    refine sv_iconst (x := (1 : Int32)) d_Ep_takeSegment_19 (by decide) ?_
    refine sv_icmp_ne 32 d_Ep_takeSegment_20 rfl ?_ ?_
    · refine sv_aload_n d_Ep_takeSegment_32 rfl ?_
      refine sv_geti d_Ep_takeSegment_33 (gf_Ep_45 mc_87) hq (sd_7_6 hq) ?_
      refine sv_iconst (x := (2 : Int32)) d_Ep_takeSegment_36 (by decide) ?_
      refine sv_icmp_ne 52 d_Ep_takeSegment_37 rfl ?_ ?_
      · refine sv_aload_n d_Ep_takeSegment_52 rfl ?_
        refine sv_aload_n d_Ep_takeSegment_53 rfl ?_
        refine sv_callVi (d := d + 4) (as := [.ref a1]) d_Ep_takeSegment_54 (wv_Ep_114 mc_87) hq ⟨_, rfl, rfl⟩ rfl (Nat.le_of_ble_eq_true rfl) rfl (c_Ep_isAdmitted (d + 0) q a1 v hq ha1) (fun x2 v1 => ?_)
        refine sv_if_eq 85 d_Ep_takeSegment_57 rfl ?_ ?_
        · exact sv_vret rfl d_Ep_takeSegment_85
        · refine sv_aload_n d_Ep_takeSegment_60 rfl ?_
          refine sv_aload_n d_Ep_takeSegment_61 rfl ?_
          refine sv_callVi (d := d + 4) (as := [.ref a1]) d_Ep_takeSegment_62 (wv_Ep_118 mc_87) hq ⟨_, rfl, rfl⟩ rfl (Nat.le_of_ble_eq_true rfl) rfl (c_Ep_isOpenFor (d + 0) q a1 v1 hq ha1) (fun x4 v3 => ?_)
          refine sv_if_eq 85 d_Ep_takeSegment_65 rfl ?_ ?_
          · exact sv_vret rfl d_Ep_takeSegment_85
          · refine sv_aload_n d_Ep_takeSegment_68 rfl ?_
            refine sv_aload_n d_Ep_takeSegment_69 rfl ?_
            refine sv_callVi (d := d + 4) (as := [.ref a1]) d_Ep_takeSegment_70 (wv_Ep_121 mc_87) hq ⟨_, rfl, rfl⟩ rfl (Nat.le_of_ble_eq_true rfl) rfl (c_Ep_takeConfirmation (d + 0) q a1 v3 hq ha1) (fun x6 v5 => ?_)
            refine sv_if_eq 85 d_Ep_takeSegment_73 rfl ?_ ?_
            · exact sv_vret rfl d_Ep_takeSegment_85
            · refine sv_aload_n d_Ep_takeSegment_76 rfl ?_
              refine sv_aload_n d_Ep_takeSegment_77 rfl ?_
              refine sv_callVv (d := d + 4) (as := [.ref a1]) d_Ep_takeSegment_78 (wv_Ep_124 mc_87) hq ⟨_, rfl, rfl⟩ rfl (Nat.le_of_ble_eq_true rfl) rfl (c_Ep_takeContents (d + 0) q a1 v5 hq ha1) (fun v7 => ?_)
              refine sv_aload_n d_Ep_takeSegment_81 rfl ?_
              refine sv_callVv (d := d + 4) (as := []) d_Ep_takeSegment_82 (wv_Ep_75 mc_87) hq ⟨_, rfl, rfl⟩ rfl (Nat.le_of_ble_eq_true rfl) rfl (c_Ep_push (d + 0) q v7 hq) (fun v8 => ?_)
              exact sv_vret rfl d_Ep_takeSegment_85
      · refine sv_aload_n d_Ep_takeSegment_40 rfl ?_
        refine sv_aload_n d_Ep_takeSegment_41 rfl ?_
        refine sv_callVv (d := d + 4) (as := [.ref a1]) d_Ep_takeSegment_42 (wv_Ep_111 mc_87) hq ⟨_, rfl, rfl⟩ rfl (Nat.le_of_ble_eq_true rfl) rfl (c_Ep_answerWhenSynSent (d + 0) q a1 v hq ha1) (fun v9 => ?_)
        refine sv_aload_n d_Ep_takeSegment_45 rfl ?_
        refine sv_callVv (d := d + 4) (as := []) d_Ep_takeSegment_46 (wv_Ep_75 mc_87) hq ⟨_, rfl, rfl⟩ rfl (Nat.le_of_ble_eq_true rfl) rfl (c_Ep_push (d + 0) q v9 hq) (fun v10 => ?_)
        refine sv_goto 85 d_Ep_takeSegment_49 rfl ?_
        exact sv_vret rfl d_Ep_takeSegment_85
    · refine sv_aload_n d_Ep_takeSegment_23 rfl ?_
      refine sv_aload_n d_Ep_takeSegment_24 rfl ?_
      refine sv_iload_n d_Ep_takeSegment_25 rfl ?_
      refine sv_callVv (d := d + 4) (as := [.ref a1, .int a2]) d_Ep_takeSegment_26 (wv_Ep_107 mc_87) hq ⟨_, rfl, rfl⟩ rfl (Nat.le_of_ble_eq_true rfl) rfl (c_Ep_answerWhenListening (d + 0) q a1 a2 v hq ha1) (fun v11 => ?_)
      refine sv_goto 85 d_Ep_takeSegment_29 rfl ?_
      exact sv_vret rfl d_Ep_takeSegment_85
  · refine sv_aload_n d_Ep_takeSegment_7 rfl ?_
    refine sv_aload_n d_Ep_takeSegment_8 rfl ?_
    refine sv_callVv (d := d + 4) (as := [.ref a1]) d_Ep_takeSegment_9 (wv_Ep_103 mc_87) hq ⟨_, rfl, rfl⟩ rfl (Nat.le_of_ble_eq_true rfl) rfl (c_Ep_answerWhenClosed (d + 1) q a1 v hq ha1) (fun v12 => ?_)
    refine sv_goto 85 d_Ep_takeSegment_12 rfl ?_
    exact sv_vret rfl d_Ep_takeSegment_85
def f_Ep_sendAgain (q : Nat) (v : sv_T) : Option (sv_T) :=
  sv_bi (f_Snd_sentCount (sv_ref (sg q) 4) v) fun x2 v1 =>
  if 0 < x2 then
  sv_bv (f_Ep_emitWhole q (16 : Int32) (v1 (sv_ref (sg q) 4) 3) (v1 (sv_ref (sg q) 5) 3) (0 : Int32) (sv_min x2 (32 : Int32)) v1) fun v6 =>
  some v6
  else
  if 0 < (v1 (sv_ref (sg q) 4) 1) then
  sv_bv (f_Ep_emitWhole q (16 : Int32) (v1 (sv_ref (sg q) 4) 3) (v1 (sv_ref (sg q) 5) 3) (0 : Int32) (1 : Int32) v1) fun v4 =>
  sv_bv (f_Snd_countSent (sv_ref (sg q) 4) (1 : Int32) v4) fun v5 =>
  some v5
  else
  sv_bv (f_Ep_emitWhole q (17 : Int32) (v1 (sv_ref (sg q) 4) 3) (v1 (sv_ref (sg q) 5) 3) (0 : Int32) (0 : Int32) v1) fun v3 =>
  some v3
set_option maxHeartbeats 4000000 in
set_option maxRecDepth 100000 in
theorem c_Ep_sendAgain (d : Nat) (q : Nat) (v : sv_T) (hq : sv_isO (sg q) 7 = true) : sv_Cl (d + 3) 123 [.ref q] v (f_Ep_sendAgain q v) sv_Zv := by
  refine sv_spec (ls0 := [some (.ref q), none]) mp_123 (Nat.le_of_ble_eq_true rfl) rfl ?_
  unfold f_Ep_sendAgain
  refine sv_aload_n d_Ep_sendAgain_0 rfl ?_
  refine sv_getr d_Ep_sendAgain_1 (gf_Ep_31 mc_123) hq (sr_7_4 hq) ?_
  refine sv_callVi (d := d + 2) (as := []) d_Ep_sendAgain_4 (wv_Ep_163 mc_123) (st_7_4 hq) ⟨_, rfl, rfl⟩ rfl (Nat.le_of_ble_eq_true rfl) rfl (c_Snd_sentCount (d + 1) (sv_ref (sg q) 4) v (st_7_4 hq)) (fun x2 v1 => ?_)
  refine sv_istore_n (ls' := [some (.ref q), some (.int x2)]) d_Ep_sendAgain_7 (by decide) rfl ?_
  refine sv_iload_n d_Ep_sendAgain_8 rfl ?_
  refine sv_if_le 42 d_Ep_sendAgain_9 rfl ?_ ?_
  · refine sv_aload_n d_Ep_sendAgain_42 rfl ?_
    refine sv_getr d_Ep_sendAgain_43 (gf_Ep_31 mc_123) hq (sr_7_4 hq) ?_
    refine sv_geti d_Ep_sendAgain_46 (gf_Ep_136 mc_123) (st_7_4 hq) (sd_8_1 (st_7_4 hq)) ?_
    refine sv_if_le 85 d_Ep_sendAgain_49 rfl ?_ ?_
    · refine sv_aload_n d_Ep_sendAgain_85 rfl ?_
      refine sv_bipush (x := (17 : Int32)) d_Ep_sendAgain_86 (by decide) ?_
      refine sv_aload_n d_Ep_sendAgain_88 rfl ?_
      refine sv_getr d_Ep_sendAgain_89 (gf_Ep_31 mc_123) hq (sr_7_4 hq) ?_
      refine sv_geti d_Ep_sendAgain_92 (gf_Ep_127 mc_123) (st_7_4 hq) (sd_8_3 (st_7_4 hq)) ?_
      refine sv_aload_n d_Ep_sendAgain_95 rfl ?_
      refine sv_getr d_Ep_sendAgain_96 (gf_Ep_38 mc_123) hq (sr_7_5 hq) ?_
      refine sv_geti d_Ep_sendAgain_99 (gf_Ep_130 mc_123) (st_7_5 hq) (sd_9_3 (st_7_5 hq)) ?_
      refine sv_iconst (x := (0 : Int32)) d_Ep_sendAgain_102 (by decide) ?_
      refine sv_iconst (x := (0 : Int32)) d_Ep_sendAgain_103 (by decide) ?_
      refine sv_callVv (d := d + 2) (as := [.int (17 : Int32), .int (v1 (sv_ref (sg q) 4) 3), .int (v1 (sv_ref (sg q) 5) 3), .int (0 : Int32), .int (0 : Int32)]) d_Ep_sendAgain_104 (wv_Ep_166 mc_123) hq ⟨_, rfl, rfl⟩ rfl (Nat.le_of_ble_eq_true rfl) rfl (c_Ep_emitWhole (d + 0) q (17 : Int32) (v1 (sv_ref (sg q) 4) 3) (v1 (sv_ref (sg q) 5) 3) (0 : Int32) (0 : Int32) v1 hq) (fun v3 => ?_)
      exact sv_vret rfl d_Ep_sendAgain_107
    · refine sv_aload_n d_Ep_sendAgain_52 rfl ?_
      refine sv_bipush (x := (16 : Int32)) d_Ep_sendAgain_53 (by decide) ?_
      refine sv_aload_n d_Ep_sendAgain_55 rfl ?_
      refine sv_getr d_Ep_sendAgain_56 (gf_Ep_31 mc_123) hq (sr_7_4 hq) ?_
      refine sv_geti d_Ep_sendAgain_59 (gf_Ep_127 mc_123) (st_7_4 hq) (sd_8_3 (st_7_4 hq)) ?_
      refine sv_aload_n d_Ep_sendAgain_62 rfl ?_
      refine sv_getr d_Ep_sendAgain_63 (gf_Ep_38 mc_123) hq (sr_7_5 hq) ?_
      refine sv_geti d_Ep_sendAgain_66 (gf_Ep_130 mc_123) (st_7_5 hq) (sd_9_3 (st_7_5 hq)) ?_
      refine sv_iconst (x := (0 : Int32)) d_Ep_sendAgain_69 (by decide) ?_
      refine sv_iconst (x := (1 : Int32)) d_Ep_sendAgain_70 (by decide) ?_
      refine sv_callVv (d := d + 2) (as := [.int (16 : Int32), .int (v1 (sv_ref (sg q) 4) 3), .int (v1 (sv_ref (sg q) 5) 3), .int (0 : Int32), .int (1 : Int32)]) d_Ep_sendAgain_71 (wv_Ep_166 mc_123) hq ⟨_, rfl, rfl⟩ rfl (Nat.le_of_ble_eq_true rfl) rfl (c_Ep_emitWhole (d + 0) q (16 : Int32) (v1 (sv_ref (sg q) 4) 3) (v1 (sv_ref (sg q) 5) 3) (0 : Int32) (1 : Int32) v1 hq) (fun v4 => ?_)
      refine sv_aload_n d_Ep_sendAgain_74 rfl ?_
      refine sv_getr d_Ep_sendAgain_75 (gf_Ep_31 mc_123) hq (sr_7_4 hq) ?_
      refine sv_iconst (x := (1 : Int32)) d_Ep_sendAgain_78 (by decide) ?_
      refine sv_callVv (d := d + 2) (as := [.int (1 : Int32)]) d_Ep_sendAgain_79 (wv_Ep_154 mc_123) (st_7_4 hq) ⟨_, rfl, rfl⟩ rfl (Nat.le_of_ble_eq_true rfl) rfl (c_Snd_countSent (d + 2) (sv_ref (sg q) 4) (1 : Int32) v4 (st_7_4 hq)) (fun v5 => ?_)
      refine sv_goto 107 d_Ep_sendAgain_82 rfl ?_
      exact sv_vret rfl d_Ep_sendAgain_107
  · refine sv_aload_n d_Ep_sendAgain_12 rfl ?_
    refine sv_bipush (x := (16 : Int32)) d_Ep_sendAgain_13 (by decide) ?_
    refine sv_aload_n d_Ep_sendAgain_15 rfl ?_
    refine sv_getr d_Ep_sendAgain_16 (gf_Ep_31 mc_123) hq (sr_7_4 hq) ?_
    refine sv_geti d_Ep_sendAgain_19 (gf_Ep_127 mc_123) (st_7_4 hq) (sd_8_3 (st_7_4 hq)) ?_
    refine sv_aload_n d_Ep_sendAgain_22 rfl ?_
    refine sv_getr d_Ep_sendAgain_23 (gf_Ep_38 mc_123) hq (sr_7_5 hq) ?_
    refine sv_geti d_Ep_sendAgain_26 (gf_Ep_130 mc_123) (st_7_5 hq) (sd_9_3 (st_7_5 hq)) ?_
    refine sv_iconst (x := (0 : Int32)) d_Ep_sendAgain_29 (by decide) ?_
    refine sv_iload_n d_Ep_sendAgain_30 rfl ?_
    refine sv_bipush (x := (32 : Int32)) d_Ep_sendAgain_31 (by decide) ?_
    refine sv_mmin (d := d + 2) d_Ep_sendAgain_33 (wm_Ep_170 mc_123) (Nat.le_of_ble_eq_true rfl) ?_
    refine sv_callVv (d := d + 2) (as := [.int (16 : Int32), .int (v1 (sv_ref (sg q) 4) 3), .int (v1 (sv_ref (sg q) 5) 3), .int (0 : Int32), .int (sv_min x2 (32 : Int32))]) d_Ep_sendAgain_36 (wv_Ep_166 mc_123) hq ⟨_, rfl, rfl⟩ rfl (Nat.le_of_ble_eq_true rfl) rfl (c_Ep_emitWhole (d + 0) q (16 : Int32) (v1 (sv_ref (sg q) 4) 3) (v1 (sv_ref (sg q) 5) 3) (0 : Int32) (sv_min x2 (32 : Int32)) v1 hq) (fun v6 => ?_)
    refine sv_goto 107 d_Ep_sendAgain_39 rfl ?_
    exact sv_vret rfl d_Ep_sendAgain_107
def f_Ep_timeIsOver (q : Nat) (v : sv_T) : Option (sv_T) :=
  if (v q 6) = (10 : Int32) then
  sv_bv (f_Ep_shut q v) fun v9 =>
  some v9
  else
  sv_ls (sv_up v q 9 ((v q 9) + (1 : Int32))) fun v1 =>
  if (v1 q 9) < (7 : Int32) then
  sv_ls (sv_up v1 q 8 (sv_min ((2 : Int32) * (v1 q 8)) (32 : Int32))) fun v2 =>
  sv_ls (sv_up v2 q 7 (v2 q 8)) fun v3 =>
  if (v3 q 6) = (2 : Int32) then
  sv_bv (f_Ep_emit q (2 : Int32) (v3 (sv_ref (sg q) 4) 2) v3) fun v6 =>
  some v6
  else
  if (v3 q 6) = (3 : Int32) then
  sv_bv (f_Ep_emit q (18 : Int32) (v3 (sv_ref (sg q) 4) 2) v3) fun v5 =>
  some v5
  else
  sv_bv (f_Ep_sendAgain q v3) fun v4 =>
  some v4
  else
  sv_bv (f_Ep_emit q (4 : Int32) (v1 (sv_ref (sg q) 4) 4) v1) fun v7 =>
  sv_bv (f_Ep_shut q v7) fun v8 =>
  some v8
set_option maxHeartbeats 4000000 in
set_option maxRecDepth 100000 in
theorem c_Ep_timeIsOver (d : Nat) (q : Nat) (v : sv_T) (hq : sv_isO (sg q) 7 = true) : sv_Cl (d + 4) 122 [.ref q] v (f_Ep_timeIsOver q v) sv_Zv := by
  refine sv_spec (ls0 := [some (.ref q)]) mp_122 (Nat.le_of_ble_eq_true rfl) rfl ?_
  unfold f_Ep_timeIsOver
  refine sv_aload_n d_Ep_timeIsOver_0 rfl ?_
  refine sv_geti d_Ep_timeIsOver_1 (gf_Ep_45 mc_122) hq (sd_7_6 hq) ?_
  refine sv_bipush (x := (10 : Int32)) d_Ep_timeIsOver_4 (by decide) ?_
  refine sv_icmp_ne 14 d_Ep_timeIsOver_6 rfl ?_ ?_
  · refine sv_aload_n d_Ep_timeIsOver_14 rfl ?_
    refine sv_dup d_Ep_timeIsOver_15 ?_
    refine sv_geti d_Ep_timeIsOver_16 (gf_Ep_140 mc_122) hq (sd_7_9 hq) ?_
    refine sv_iconst (x := (1 : Int32)) d_Ep_timeIsOver_19 (by decide) ?_
    refine sv_iadd d_Ep_timeIsOver_20 ?_
    refine sv_puti d_Ep_timeIsOver_21 (pf_Ep_140 mc_122) hq (sd_7_9 hq) (fun v1 => ?_)
    refine sv_aload_n d_Ep_timeIsOver_24 rfl ?_
    refine sv_geti d_Ep_timeIsOver_25 (gf_Ep_140 mc_122) hq (sd_7_9 hq) ?_
    refine sv_bipush (x := (7 : Int32)) d_Ep_timeIsOver_28 (by decide) ?_
    refine sv_icmp_lt 50 d_Ep_timeIsOver_30 rfl ?_ ?_
    · refine sv_aload_n d_Ep_timeIsOver_50 rfl ?_
      refine sv_iconst (x := (2 : Int32)) d_Ep_timeIsOver_51 (by decide) ?_
      refine sv_aload_n d_Ep_timeIsOver_52 rfl ?_
      refine sv_geti d_Ep_timeIsOver_53 (gf_Ep_42 mc_122) hq (sd_7_8 hq) ?_
      refine sv_imul d_Ep_timeIsOver_56 ?_
      refine sv_bipush (x := (32 : Int32)) d_Ep_timeIsOver_57 (by decide) ?_
      refine sv_mmin (d := d + 3) d_Ep_timeIsOver_59 (wm_Ep_170 mc_122) (Nat.le_of_ble_eq_true rfl) ?_
      refine sv_puti d_Ep_timeIsOver_62 (pf_Ep_42 mc_122) hq (sd_7_8 hq) (fun v2 => ?_)
      refine sv_aload_n d_Ep_timeIsOver_65 rfl ?_
      refine sv_aload_n d_Ep_timeIsOver_66 rfl ?_
      refine sv_geti d_Ep_timeIsOver_67 (gf_Ep_42 mc_122) hq (sd_7_8 hq) ?_
      refine sv_puti d_Ep_timeIsOver_70 (pf_Ep_97 mc_122) hq (sd_7_7 hq) (fun v3 => ?_)
      refine sv_aload_n d_Ep_timeIsOver_73 rfl ?_
      refine sv_geti d_Ep_timeIsOver_74 (gf_Ep_45 mc_122) hq (sd_7_6 hq) ?_
      refine sv_iconst (x := (2 : Int32)) d_Ep_timeIsOver_77 (by decide) ?_
      refine sv_icmp_ne 96 d_Ep_timeIsOver_78 rfl ?_ ?_
      · refine sv_aload_n d_Ep_timeIsOver_96 rfl ?_
        refine sv_geti d_Ep_timeIsOver_97 (gf_Ep_45 mc_122) hq (sd_7_6 hq) ?_
        refine sv_iconst (x := (3 : Int32)) d_Ep_timeIsOver_100 (by decide) ?_
        refine sv_icmp_ne 120 d_Ep_timeIsOver_101 rfl ?_ ?_
        · refine sv_aload_n d_Ep_timeIsOver_120 rfl ?_
          refine sv_callVv (d := d + 3) (as := []) d_Ep_timeIsOver_121 (wv_Ep_176 mc_122) hq ⟨_, rfl, rfl⟩ rfl (Nat.le_of_ble_eq_true rfl) rfl (c_Ep_sendAgain (d + 0) q v3 hq) (fun v4 => ?_)
          exact sv_vret rfl d_Ep_timeIsOver_124
        · refine sv_aload_n d_Ep_timeIsOver_104 rfl ?_
          refine sv_bipush (x := (18 : Int32)) d_Ep_timeIsOver_105 (by decide) ?_
          refine sv_aload_n d_Ep_timeIsOver_107 rfl ?_
          refine sv_getr d_Ep_timeIsOver_108 (gf_Ep_31 mc_122) hq (sr_7_4 hq) ?_
          refine sv_geti d_Ep_timeIsOver_111 (gf_Ep_54 mc_122) (st_7_4 hq) (sd_8_2 (st_7_4 hq)) ?_
          refine sv_callVv (d := d + 3) (as := [.int (18 : Int32), .int (v3 (sv_ref (sg q) 4) 2)]) d_Ep_timeIsOver_114 (wv_Ep_57 mc_122) hq ⟨_, rfl, rfl⟩ rfl (Nat.le_of_ble_eq_true rfl) rfl (c_Ep_emit (d + 0) q (18 : Int32) (v3 (sv_ref (sg q) 4) 2) v3 hq) (fun v5 => ?_)
          refine sv_goto 124 d_Ep_timeIsOver_117 rfl ?_
          exact sv_vret rfl d_Ep_timeIsOver_124
      · refine sv_aload_n d_Ep_timeIsOver_81 rfl ?_
        refine sv_iconst (x := (2 : Int32)) d_Ep_timeIsOver_82 (by decide) ?_
        refine sv_aload_n d_Ep_timeIsOver_83 rfl ?_
        refine sv_getr d_Ep_timeIsOver_84 (gf_Ep_31 mc_122) hq (sr_7_4 hq) ?_
        refine sv_geti d_Ep_timeIsOver_87 (gf_Ep_54 mc_122) (st_7_4 hq) (sd_8_2 (st_7_4 hq)) ?_
        refine sv_callVv (d := d + 3) (as := [.int (2 : Int32), .int (v3 (sv_ref (sg q) 4) 2)]) d_Ep_timeIsOver_90 (wv_Ep_57 mc_122) hq ⟨_, rfl, rfl⟩ rfl (Nat.le_of_ble_eq_true rfl) rfl (c_Ep_emit (d + 0) q (2 : Int32) (v3 (sv_ref (sg q) 4) 2) v3 hq) (fun v6 => ?_)
        refine sv_goto 124 d_Ep_timeIsOver_93 rfl ?_
        exact sv_vret rfl d_Ep_timeIsOver_124
    · refine sv_aload_n d_Ep_timeIsOver_33 rfl ?_
      refine sv_iconst (x := (4 : Int32)) d_Ep_timeIsOver_34 (by decide) ?_
      refine sv_aload_n d_Ep_timeIsOver_35 rfl ?_
      refine sv_getr d_Ep_timeIsOver_36 (gf_Ep_31 mc_122) hq (sr_7_4 hq) ?_
      refine sv_geti d_Ep_timeIsOver_39 (gf_Ep_94 mc_122) (st_7_4 hq) (sd_8_4 (st_7_4 hq)) ?_
      refine sv_callVv (d := d + 3) (as := [.int (4 : Int32), .int (v1 (sv_ref (sg q) 4) 4)]) d_Ep_timeIsOver_42 (wv_Ep_57 mc_122) hq ⟨_, rfl, rfl⟩ rfl (Nat.le_of_ble_eq_true rfl) rfl (c_Ep_emit (d + 0) q (4 : Int32) (v1 (sv_ref (sg q) 4) 4) v1 hq) (fun v7 => ?_)
      refine sv_aload_n d_Ep_timeIsOver_45 rfl ?_
      refine sv_callVv (d := d + 3) (as := []) d_Ep_timeIsOver_46 (wv_Ep_91 mc_122) hq ⟨_, rfl, rfl⟩ rfl (Nat.le_of_ble_eq_true rfl) rfl (c_Ep_shut (d + 1) q v7 hq) (fun v8 => ?_)
      exact sv_vret rfl d_Ep_timeIsOver_49
  · refine sv_aload_n d_Ep_timeIsOver_9 rfl ?_
    refine sv_callVv (d := d + 3) (as := []) d_Ep_timeIsOver_10 (wv_Ep_91 mc_122) hq ⟨_, rfl, rfl⟩ rfl (Nat.le_of_ble_eq_true rfl) rfl (c_Ep_shut (d + 1) q v hq) (fun v9 => ?_)
    exact sv_vret rfl d_Ep_timeIsOver_13
def f_Ep_passTick (q : Nat) (v : sv_T) : Option (sv_T) :=
  if (v q 7) = 0 then
  some v
  else
  sv_ls (sv_up v q 7 ((v q 7) - (1 : Int32))) fun v1 =>
  if (v1 q 7) = 0 then
  sv_bv (f_Ep_timeIsOver q v1) fun v2 =>
  some v2
  else
  some v1
set_option maxHeartbeats 4000000 in
set_option maxRecDepth 100000 in
theorem c_Ep_passTick (d : Nat) (q : Nat) (v : sv_T) (hq : sv_isO (sg q) 7 = true) : sv_Cl (d + 5) 121 [.ref q] v (f_Ep_passTick q v) sv_Zv := by
  refine sv_spec (ls0 := [some (.ref q)]) mp_121 (Nat.le_of_ble_eq_true rfl) rfl ?_
  unfold f_Ep_passTick
  refine sv_aload_n d_Ep_passTick_0 rfl ?_
  refine sv_geti d_Ep_passTick_1 (gf_Ep_97 mc_121) hq (sd_7_7 hq) ?_
  refine sv_if_ne 8 d_Ep_passTick_4 rfl ?_ ?_
  · refine sv_aload_n d_Ep_passTick_8 rfl ?_
    refine sv_dup d_Ep_passTick_9 ?_
    refine sv_geti d_Ep_passTick_10 (gf_Ep_97 mc_121) hq (sd_7_7 hq) ?_
    refine sv_iconst (x := (1 : Int32)) d_Ep_passTick_13 (by decide) ?_
    refine sv_isub d_Ep_passTick_14 ?_
    refine sv_puti d_Ep_passTick_15 (pf_Ep_97 mc_121) hq (sd_7_7 hq) (fun v1 => ?_)
    refine sv_aload_n d_Ep_passTick_18 rfl ?_
    refine sv_geti d_Ep_passTick_19 (gf_Ep_97 mc_121) hq (sd_7_7 hq) ?_
    refine sv_if_ne 29 d_Ep_passTick_22 rfl ?_ ?_
    · exact sv_vret rfl d_Ep_passTick_29
    · refine sv_aload_n d_Ep_passTick_25 rfl ?_
      refine sv_callVv (d := d + 4) (as := []) d_Ep_passTick_26 (wv_Ep_100 mc_121) hq ⟨_, rfl, rfl⟩ rfl (Nat.le_of_ble_eq_true rfl) rfl (c_Ep_timeIsOver (d + 0) q v1 hq) (fun v2 => ?_)
      exact sv_vret rfl d_Ep_passTick_29
  · exact sv_vret rfl d_Ep_passTick_7
def f_Ep_about (q : Nat) (a1 : Int32) (v : sv_T) : Option (Int32 × sv_T) :=
  if a1 = (0 : Int32) then
  some ((v q 6), v)
  else
  if a1 = (1 : Int32) then
  some ((v (sv_ref (sg q) 4) 3), v)
  else
  if a1 = (2 : Int32) then
  some ((v (sv_ref (sg q) 4) 4), v)
  else
  if a1 = (3 : Int32) then
  some ((v (sv_ref (sg q) 5) 3), v)
  else
  if a1 = (4 : Int32) then
  some ((v (sv_ref (sg q) 4) 5), v)
  else
  if a1 = (5 : Int32) then
  some ((v (sv_ref (sg q) 4) 1), v)
  else
  if a1 = (6 : Int32) then
  some ((v (sv_ref (sg q) 5) 2), v)
  else
  if a1 = (7 : Int32) then
  some ((v q 7), v)
  else
  if a1 = (8 : Int32) then
  some ((v q 8), v)
  else
  if a1 = (9 : Int32) then
  some ((v q 9), v)
  else
  if a1 = (10 : Int32) then
  if (v (sv_ref (sg q) 4) 6) = 0 then
  some ((0 : Int32), v)
  else
  some ((1 : Int32), v)
  else
  some ((-1 : Int32), v)
set_option maxHeartbeats 4000000 in
set_option maxRecDepth 100000 in
theorem c_Ep_about (d : Nat) (q : Nat) (a1 : Int32) (v : sv_T) (hq : sv_isO (sg q) 7 = true) : sv_Cl (d + 0) 126 [.ref q, .int a1] v (f_Ep_about q a1 v) sv_Zi := by
  refine sv_spec (ls0 := [some (.ref q), some (.int a1)]) mp_126 (Nat.le_of_ble_eq_true rfl) rfl ?_
  unfold f_Ep_about
  refine sv_iload_n d_Ep_about_0 rfl ?_
  refine sv_if (fun c1_0 => ?_) (fun c1_0 => ?_)
  · refine sv_tableIn 60 d_Ep_about_1 (0 : Int32) c1_0 (by decide) rfl rfl ?_
    refine sv_aload_n d_Ep_about_60 rfl ?_
    refine sv_geti d_Ep_about_61 (gf_Ep_45 mc_126) hq (sd_7_6 hq) ?_
    exact sv_iret rfl d_Ep_about_64
  · refine sv_if (fun c1_1 => ?_) (fun c1_1 => ?_)
    · refine sv_tableIn 65 d_Ep_about_1 (1 : Int32) c1_1 (by decide) rfl rfl ?_
      refine sv_aload_n d_Ep_about_65 rfl ?_
      refine sv_getr d_Ep_about_66 (gf_Ep_31 mc_126) hq (sr_7_4 hq) ?_
      refine sv_geti d_Ep_about_69 (gf_Ep_127 mc_126) (st_7_4 hq) (sd_8_3 (st_7_4 hq)) ?_
      exact sv_iret rfl d_Ep_about_72
    · refine sv_if (fun c1_2 => ?_) (fun c1_2 => ?_)
      · refine sv_tableIn 73 d_Ep_about_1 (2 : Int32) c1_2 (by decide) rfl rfl ?_
        refine sv_aload_n d_Ep_about_73 rfl ?_
        refine sv_getr d_Ep_about_74 (gf_Ep_31 mc_126) hq (sr_7_4 hq) ?_
        refine sv_geti d_Ep_about_77 (gf_Ep_94 mc_126) (st_7_4 hq) (sd_8_4 (st_7_4 hq)) ?_
        exact sv_iret rfl d_Ep_about_80
      · refine sv_if (fun c1_3 => ?_) (fun c1_3 => ?_)
        · refine sv_tableIn 81 d_Ep_about_1 (3 : Int32) c1_3 (by decide) rfl rfl ?_
          refine sv_aload_n d_Ep_about_81 rfl ?_
          refine sv_getr d_Ep_about_82 (gf_Ep_38 mc_126) hq (sr_7_5 hq) ?_
          refine sv_geti d_Ep_about_85 (gf_Ep_130 mc_126) (st_7_5 hq) (sd_9_3 (st_7_5 hq)) ?_
          exact sv_iret rfl d_Ep_about_88
        · refine sv_if (fun c1_4 => ?_) (fun c1_4 => ?_)
          · refine sv_tableIn 89 d_Ep_about_1 (4 : Int32) c1_4 (by decide) rfl rfl ?_
            refine sv_aload_n d_Ep_about_89 rfl ?_
            refine sv_getr d_Ep_about_90 (gf_Ep_31 mc_126) hq (sr_7_4 hq) ?_
            refine sv_geti d_Ep_about_93 (gf_Ep_133 mc_126) (st_7_4 hq) (sd_8_5 (st_7_4 hq)) ?_
            exact sv_iret rfl d_Ep_about_96
          · refine sv_if (fun c1_5 => ?_) (fun c1_5 => ?_)
            · refine sv_tableIn 97 d_Ep_about_1 (5 : Int32) c1_5 (by decide) rfl rfl ?_
              refine sv_aload_n d_Ep_about_97 rfl ?_
              refine sv_getr d_Ep_about_98 (gf_Ep_31 mc_126) hq (sr_7_4 hq) ?_
              refine sv_geti d_Ep_about_101 (gf_Ep_136 mc_126) (st_7_4 hq) (sd_8_1 (st_7_4 hq)) ?_
              exact sv_iret rfl d_Ep_about_104
            · refine sv_if (fun c1_6 => ?_) (fun c1_6 => ?_)
              · refine sv_tableIn 105 d_Ep_about_1 (6 : Int32) c1_6 (by decide) rfl rfl ?_
                refine sv_aload_n d_Ep_about_105 rfl ?_
                refine sv_getr d_Ep_about_106 (gf_Ep_38 mc_126) hq (sr_7_5 hq) ?_
                refine sv_geti d_Ep_about_109 (gf_Ep_139 mc_126) (st_7_5 hq) (sd_9_2 (st_7_5 hq)) ?_
                exact sv_iret rfl d_Ep_about_112
              · refine sv_if (fun c1_7 => ?_) (fun c1_7 => ?_)
                · refine sv_tableIn 113 d_Ep_about_1 (7 : Int32) c1_7 (by decide) rfl rfl ?_
                  refine sv_aload_n d_Ep_about_113 rfl ?_
                  refine sv_geti d_Ep_about_114 (gf_Ep_97 mc_126) hq (sd_7_7 hq) ?_
                  exact sv_iret rfl d_Ep_about_117
                · refine sv_if (fun c1_8 => ?_) (fun c1_8 => ?_)
                  · refine sv_tableIn 118 d_Ep_about_1 (8 : Int32) c1_8 (by decide) rfl rfl ?_
                    refine sv_aload_n d_Ep_about_118 rfl ?_
                    refine sv_geti d_Ep_about_119 (gf_Ep_42 mc_126) hq (sd_7_8 hq) ?_
                    exact sv_iret rfl d_Ep_about_122
                  · refine sv_if (fun c1_9 => ?_) (fun c1_9 => ?_)
                    · refine sv_tableIn 123 d_Ep_about_1 (9 : Int32) c1_9 (by decide) rfl rfl ?_
                      refine sv_aload_n d_Ep_about_123 rfl ?_
                      refine sv_geti d_Ep_about_124 (gf_Ep_140 mc_126) hq (sd_7_9 hq) ?_
                      exact sv_iret rfl d_Ep_about_127
                    · refine sv_if (fun c1_10 => ?_) (fun c1_10 => ?_)
                      · refine sv_tableIn 128 d_Ep_about_1 (10 : Int32) c1_10 (by decide) rfl rfl ?_
                        refine sv_aload_n d_Ep_about_128 rfl ?_
                        refine sv_getr d_Ep_about_129 (gf_Ep_31 mc_126) hq (sr_7_4 hq) ?_
                        refine sv_geti d_Ep_about_132 (gf_Ep_65 mc_126) (st_7_4 hq) (sd_8_6 (st_7_4 hq)) ?_
                        refine sv_if_eq 142 d_Ep_about_135 rfl ?_ ?_
                        · refine sv_iconst (x := (0 : Int32)) d_Ep_about_142 (by decide) ?_
                          exact sv_iret rfl d_Ep_about_143
                        · refine sv_iconst (x := (1 : Int32)) d_Ep_about_138 (by decide) ?_
                          refine sv_goto 143 d_Ep_about_139 rfl ?_
                          exact sv_iret rfl d_Ep_about_143
                      · refine sv_tableOut 144 d_Ep_about_1 (sv_out (fun k h1 h2 => by
                          rcases (show k = 0 ∨ k = 1 ∨ k = 2 ∨ k = 3 ∨ k = 4 ∨ k = 5 ∨ k = 6 ∨ k = 7 ∨ k = 8 ∨ k = 9 ∨ k = 10 by omega) with rfl | rfl | rfl | rfl | rfl | rfl | rfl | rfl | rfl | rfl | rfl
                          · exact c1_0
                          · exact c1_1
                          · exact c1_2
                          · exact c1_3
                          · exact c1_4
                          · exact c1_5
                          · exact c1_6
                          · exact c1_7
                          · exact c1_8
                          · exact c1_9
                          · exact c1_10
                          )) rfl ?_
                        refine sv_iconst (x := (-1 : Int32)) d_Ep_about_144 (by decide) ?_
                        exact sv_iret rfl d_Ep_about_145
