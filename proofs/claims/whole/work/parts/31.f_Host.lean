def f_Host_endpointAt (q : Nat) (a1 : Int32) (v : sv_T) : Option (Option Nat × sv_T) :=
  if a1 = (1 : Int32) then
  some (some (sv_ref (sg q) 4), v)
  else
  if a1 = (2 : Int32) then
  some (some (sv_ref (sg q) 5), v)
  else
  some (none, v)
set_option maxHeartbeats 4000000 in
set_option maxRecDepth 100000 in
theorem c_Host_endpointAt (d : Nat) (q : Nat) (a1 : Int32) (v : sv_T) (hq : sv_isO (sg q) 2 = true) : sv_Cl (d + 0) 15 [.ref q, .int a1] v (f_Host_endpointAt q a1 v) sv_Zr := by
  refine sv_spec (ls0 := [some (.ref q), some (.int a1)]) mp_15 (Nat.le_of_ble_eq_true rfl) rfl ?_
  unfold f_Host_endpointAt
  refine sv_iload_n d_Host_endpointAt_0 rfl ?_
  refine sv_iconst (x := (1 : Int32)) d_Host_endpointAt_1 (by decide) ?_
  refine sv_icmp_ne 12 d_Host_endpointAt_2 rfl ?_ ?_
  · refine sv_iload_n d_Host_endpointAt_12 rfl ?_
    refine sv_iconst (x := (2 : Int32)) d_Host_endpointAt_13 (by decide) ?_
    refine sv_icmp_ne 24 d_Host_endpointAt_14 rfl ?_ ?_
    · refine sv_null d_Host_endpointAt_24 ?_
      exact sv_aretN rfl d_Host_endpointAt_25
    · refine sv_aload_n d_Host_endpointAt_17 rfl ?_
      refine sv_getr d_Host_endpointAt_18 (gf_Host_54 mc_15) hq (sr_2_5 hq) ?_
      refine sv_goto 25 d_Host_endpointAt_21 rfl ?_
      exact sv_aret rfl d_Host_endpointAt_25
  · refine sv_aload_n d_Host_endpointAt_5 rfl ?_
    refine sv_getr d_Host_endpointAt_6 (gf_Host_50 mc_15) hq (sr_2_4 hq) ?_
    refine sv_goto 25 d_Host_endpointAt_9 rfl ?_
    exact sv_aret rfl d_Host_endpointAt_25
def f_Host_sendPacket_b39 (r0 : Nat) (l1 : Int32) (l2 : Int32) (s0 : Int32) (s1 : Int32) (s2 : Int32) (t3 : Nat) (v : sv_T) : Option (sv_T) :=
  sv_ck s2 34 <| sv_ls (sv_up v t3 s2.toNatClampNeg (s1 + s0)) fun v3 =>
  sv_ls (sv_up v3 (sv_ref (sg r0) 9) 3 (64 : Int32)) fun v4 =>
  sv_ls (sv_up v4 (sv_ref (sg r0) 9) 4 (v4 (sv_ref (sg r0) 10) 0)) fun v5 =>
  sv_ls (sv_up v5 (sv_ref (sg r0) 9) 5 (0 : Int32)) fun v6 =>
  sv_bv (f_Num_putPair (sv_ref (sg r0) 9) (6 : Int32) (0 : Int32) v6) fun v7 =>
  sv_bi (f_Link_addressOf (sv_int (sg r0) 0) v7) fun x9 v8 =>
  sv_ls (sv_up v8 (sv_ref (sg r0) 9) 8 x9) fun v10 =>
  sv_bi (f_Link_addressOf ((1 : Int32) - (sv_int (sg r0) 0)) v10) fun x12 v11 =>
  sv_ls (sv_up v11 (sv_ref (sg r0) 9) 9 x12) fun v13 =>
  sv_bi (f_Num_check (0 : Int32) (sv_ref (sg r0) 9) (0 : Int32) (10 : Int32) v13) fun x15 v14 =>
  sv_bv (f_Num_putPair (sv_ref (sg r0) 9) (6 : Int32) x15 v14) fun v16 =>
  sv_cc ((1 : Int32) + l1) (10 : Int32) l2 49 34 <| sv_ls (sv_cp v16 (sv_ref (sg r0) 10) ((1 : Int32) + l1).toNatClampNeg (sv_ref (sg r0) 9) (10 : Int32).toNatClampNeg l2.toNatClampNeg) fun v17 =>
  sv_bv (f_Link_sendPacket (sv_ref (sg r0) 1) (sv_ref (sg r0) 9) ((10 : Int32) + l2) v17) fun v18 =>
  some v18
def f_Host_sendPacket (q : Nat) (a1 : Int32) (a2 : Int32) (a3 : Int32) (v : sv_T) : Option (sv_T) :=
  sv_ls (sv_up v (sv_ref (sg q) 9) 0 ((10 : Int32) + a2)) fun v1 =>
  sv_ls (sv_up v1 (sv_ref (sg q) 9) 1 (v1 q 11)) fun v2 =>
  if a3 = 0 then
  f_Host_sendPacket_b39 q a1 a2 (0 : Int32) (a1 / (4 : Int32)) (2 : Int32) (sv_ref (sg q) 9) v2
  else
  f_Host_sendPacket_b39 q a1 a2 (128 : Int32) (a1 / (4 : Int32)) (2 : Int32) (sv_ref (sg q) 9) v2
set_option maxHeartbeats 4000000 in
set_option maxRecDepth 100000 in
theorem c_Host_sendPacket_b39 (d : Nat) (r0 : Nat) (l1 : Int32) (l2 : Int32) (s0 : Int32) (s1 : Int32) (s2 : Int32) (t3 : Nat) (v : sv_T) (hr0 : sv_isO (sg r0) 2 = true) (ht3 : sv_isA (sg t3) 0 34 = true) : sv_Ref (d + 5) 35 39 [some (.ref r0), some (.int l1), some (.int l2), none] [.int s0, .int s1, .int s2, .ref t3] v (f_Host_sendPacket_b39 r0 l1 l2 s0 s1 s2 t3 v) (sv_Zv) := by
  unfold f_Host_sendPacket_b39
  refine sv_iadd d_Host_sendPacket_39 ?_
  refine sv_iast d_Host_sendPacket_40 ht3 (fun v3 => ?_)
  refine sv_aload_n d_Host_sendPacket_41 rfl ?_
  refine sv_getr d_Host_sendPacket_42 (gf_Host_68 mc_35) hr0 (sr_2_9 hr0) ?_
  refine sv_iconst (x := (3 : Int32)) d_Host_sendPacket_45 (by decide) ?_
  refine sv_bipush (x := (64 : Int32)) d_Host_sendPacket_46 (by decide) ?_
  refine sv_iastc (m := 3) d_Host_sendPacket_48 (st_2_9 hr0) (by decide) rfl (fun v4 => ?_)
  refine sv_aload_n d_Host_sendPacket_49 rfl ?_
  refine sv_getr d_Host_sendPacket_50 (gf_Host_68 mc_35) hr0 (sr_2_9 hr0) ?_
  refine sv_iconst (x := (4 : Int32)) d_Host_sendPacket_53 (by decide) ?_
  refine sv_aload_n d_Host_sendPacket_54 rfl ?_
  refine sv_getr d_Host_sendPacket_55 (gf_Host_71 mc_35) hr0 (sr_2_10 hr0) ?_
  refine sv_iconst (x := (0 : Int32)) d_Host_sendPacket_58 (by decide) ?_
  refine sv_ialdc (m := 0) d_Host_sendPacket_59 (st_2_10 hr0) (by decide) rfl ?_
  refine sv_iastc (m := 4) d_Host_sendPacket_60 (st_2_9 hr0) (by decide) rfl (fun v5 => ?_)
  refine sv_aload_n d_Host_sendPacket_61 rfl ?_
  refine sv_getr d_Host_sendPacket_62 (gf_Host_68 mc_35) hr0 (sr_2_9 hr0) ?_
  refine sv_iconst (x := (5 : Int32)) d_Host_sendPacket_65 (by decide) ?_
  refine sv_iconst (x := (0 : Int32)) d_Host_sendPacket_66 (by decide) ?_
  refine sv_iastc (m := 5) d_Host_sendPacket_67 (st_2_9 hr0) (by decide) rfl (fun v6 => ?_)
  refine sv_aload_n d_Host_sendPacket_68 rfl ?_
  refine sv_getr d_Host_sendPacket_69 (gf_Host_68 mc_35) hr0 (sr_2_9 hr0) ?_
  refine sv_bipush (x := (6 : Int32)) d_Host_sendPacket_72 (by decide) ?_
  refine sv_iconst (x := (0 : Int32)) d_Host_sendPacket_74 (by decide) ?_
  refine sv_callSv (d := d + 4) (as := [.ref (sv_ref (sg r0) 9), .int (6 : Int32), .int (0 : Int32)]) d_Host_sendPacket_75 (ws_Host_177 mc_35)  rfl (Nat.le_of_ble_eq_true rfl) rfl (c_Num_putPair (d + 4) (sv_ref (sg r0) 9) (6 : Int32) (0 : Int32) v6 (sv_isAl (st_2_9 hr0))) (fun v7 => ?_)
  refine sv_aload_n d_Host_sendPacket_78 rfl ?_
  refine sv_getr d_Host_sendPacket_79 (gf_Host_68 mc_35) hr0 (sr_2_9 hr0) ?_
  refine sv_bipush (x := (8 : Int32)) d_Host_sendPacket_82 (by decide) ?_
  refine sv_aload_n d_Host_sendPacket_84 rfl ?_
  refine sv_gets d_Host_sendPacket_85 (gf_Host_18 mc_35) hr0 (si_2_0 hr0) ?_
  refine sv_callSi (d := d + 4) (as := [.int (sv_int (sg r0) 0)]) d_Host_sendPacket_88 (ws_Host_105 mc_35)  rfl (Nat.le_of_ble_eq_true rfl) rfl (c_Link_addressOf (d + 4) (sv_int (sg r0) 0) v7 ) (fun x9 v8 => ?_)
  refine sv_iastc (m := 8) d_Host_sendPacket_91 (st_2_9 hr0) (by decide) rfl (fun v10 => ?_)
  refine sv_aload_n d_Host_sendPacket_92 rfl ?_
  refine sv_getr d_Host_sendPacket_93 (gf_Host_68 mc_35) hr0 (sr_2_9 hr0) ?_
  refine sv_bipush (x := (9 : Int32)) d_Host_sendPacket_96 (by decide) ?_
  refine sv_iconst (x := (1 : Int32)) d_Host_sendPacket_98 (by decide) ?_
  refine sv_aload_n d_Host_sendPacket_99 rfl ?_
  refine sv_gets d_Host_sendPacket_100 (gf_Host_18 mc_35) hr0 (si_2_0 hr0) ?_
  refine sv_isub d_Host_sendPacket_103 ?_
  refine sv_callSi (d := d + 4) (as := [.int ((1 : Int32) - (sv_int (sg r0) 0))]) d_Host_sendPacket_104 (ws_Host_105 mc_35)  rfl (Nat.le_of_ble_eq_true rfl) rfl (c_Link_addressOf (d + 4) ((1 : Int32) - (sv_int (sg r0) 0)) v10 ) (fun x12 v11 => ?_)
  refine sv_iastc (m := 9) d_Host_sendPacket_107 (st_2_9 hr0) (by decide) rfl (fun v13 => ?_)
  refine sv_aload_n d_Host_sendPacket_108 rfl ?_
  refine sv_getr d_Host_sendPacket_109 (gf_Host_68 mc_35) hr0 (sr_2_9 hr0) ?_
  refine sv_bipush (x := (6 : Int32)) d_Host_sendPacket_112 (by decide) ?_
  refine sv_iconst (x := (0 : Int32)) d_Host_sendPacket_114 (by decide) ?_
  refine sv_aload_n d_Host_sendPacket_115 rfl ?_
  refine sv_getr d_Host_sendPacket_116 (gf_Host_68 mc_35) hr0 (sr_2_9 hr0) ?_
  refine sv_iconst (x := (0 : Int32)) d_Host_sendPacket_119 (by decide) ?_
  refine sv_bipush (x := (10 : Int32)) d_Host_sendPacket_120 (by decide) ?_
  refine sv_callSi (d := d + 4) (as := [.int (0 : Int32), .ref (sv_ref (sg r0) 9), .int (0 : Int32), .int (10 : Int32)]) d_Host_sendPacket_122 (ws_Host_168 mc_35)  rfl (Nat.le_of_ble_eq_true rfl) rfl (c_Num_check (d + 4) (0 : Int32) (sv_ref (sg r0) 9) (0 : Int32) (10 : Int32) v13 (sv_isAl (st_2_9 hr0))) (fun x15 v14 => ?_)
  refine sv_callSv (d := d + 4) (as := [.ref (sv_ref (sg r0) 9), .int (6 : Int32), .int x15]) d_Host_sendPacket_125 (ws_Host_177 mc_35)  rfl (Nat.le_of_ble_eq_true rfl) rfl (c_Num_putPair (d + 4) (sv_ref (sg r0) 9) (6 : Int32) x15 v14 (sv_isAl (st_2_9 hr0))) (fun v16 => ?_)
  refine sv_aload_n d_Host_sendPacket_128 rfl ?_
  refine sv_getr d_Host_sendPacket_129 (gf_Host_71 mc_35) hr0 (sr_2_10 hr0) ?_
  refine sv_iconst (x := (1 : Int32)) d_Host_sendPacket_132 (by decide) ?_
  refine sv_iload_n d_Host_sendPacket_133 rfl ?_
  refine sv_iadd d_Host_sendPacket_134 ?_
  refine sv_aload_n d_Host_sendPacket_135 rfl ?_
  refine sv_getr d_Host_sendPacket_136 (gf_Host_68 mc_35) hr0 (sr_2_9 hr0) ?_
  refine sv_bipush (x := (10 : Int32)) d_Host_sendPacket_139 (by decide) ?_
  refine sv_iload_n d_Host_sendPacket_141 rfl ?_
  refine sv_copy (d := d + 4) d_Host_sendPacket_142 (wc_Host_162 mc_35) (Nat.le_of_ble_eq_true rfl) (st_2_10 hr0) (st_2_9 hr0) (fun v17 => ?_)
  refine sv_aload_n d_Host_sendPacket_145 rfl ?_
  refine sv_getr d_Host_sendPacket_146 (gf_Host_27 mc_35) hr0 (sr_2_1 hr0) ?_
  refine sv_aload_n d_Host_sendPacket_149 rfl ?_
  refine sv_getr d_Host_sendPacket_150 (gf_Host_68 mc_35) hr0 (sr_2_9 hr0) ?_
  refine sv_bipush (x := (10 : Int32)) d_Host_sendPacket_153 (by decide) ?_
  refine sv_iload_n d_Host_sendPacket_155 rfl ?_
  refine sv_iadd d_Host_sendPacket_156 ?_
  refine sv_callVv (d := d + 4) (as := [.ref (sv_ref (sg r0) 9), .int ((10 : Int32) + l2)]) d_Host_sendPacket_157 (wv_Host_184 mc_35) (st_2_1 hr0) ⟨_, rfl, rfl⟩ rfl (Nat.le_of_ble_eq_true rfl) rfl (c_Link_sendPacket (d + 0) (sv_ref (sg r0) 1) (sv_ref (sg r0) 9) ((10 : Int32) + l2) v17 (st_2_1 hr0) (sv_isAl (st_2_9 hr0))) (fun v18 => ?_)
  exact sv_vret rfl d_Host_sendPacket_160
set_option maxHeartbeats 4000000 in
set_option maxRecDepth 100000 in
theorem c_Host_sendPacket (d : Nat) (q : Nat) (a1 : Int32) (a2 : Int32) (a3 : Int32) (v : sv_T) (hq : sv_isO (sg q) 2 = true) : sv_Cl (d + 5) 35 [.ref q, .int a1, .int a2, .int a3] v (f_Host_sendPacket q a1 a2 a3 v) sv_Zv := by
  refine sv_spec (ls0 := [some (.ref q), some (.int a1), some (.int a2), some (.int a3)]) mp_35 (Nat.le_of_ble_eq_true rfl) rfl ?_
  unfold f_Host_sendPacket
  refine sv_aload_n d_Host_sendPacket_0 rfl ?_
  refine sv_getr d_Host_sendPacket_1 (gf_Host_68 mc_35) hq (sr_2_9 hq) ?_
  refine sv_iconst (x := (0 : Int32)) d_Host_sendPacket_4 (by decide) ?_
  refine sv_bipush (x := (10 : Int32)) d_Host_sendPacket_5 (by decide) ?_
  refine sv_iload_n d_Host_sendPacket_7 rfl ?_
  refine sv_iadd d_Host_sendPacket_8 ?_
  refine sv_iastc (m := 0) d_Host_sendPacket_9 (st_2_9 hq) (by decide) rfl (fun v1 => ?_)
  refine sv_aload_n d_Host_sendPacket_10 rfl ?_
  refine sv_getr d_Host_sendPacket_11 (gf_Host_68 mc_35) hq (sr_2_9 hq) ?_
  refine sv_iconst (x := (1 : Int32)) d_Host_sendPacket_14 (by decide) ?_
  refine sv_aload_n d_Host_sendPacket_15 rfl ?_
  refine sv_geti d_Host_sendPacket_16 (gf_Host_136 mc_35) hq (sd_2_11 hq) ?_
  refine sv_iastc (m := 1) d_Host_sendPacket_19 (st_2_9 hq) (by decide) rfl (fun v2 => ?_)
  refine sv_aload_n d_Host_sendPacket_20 rfl ?_
  refine sv_getr d_Host_sendPacket_21 (gf_Host_68 mc_35) hq (sr_2_9 hq) ?_
  refine sv_iconst (x := (2 : Int32)) d_Host_sendPacket_24 (by decide) ?_
  refine sv_iload_n d_Host_sendPacket_25 rfl ?_
  refine sv_iconst (x := (4 : Int32)) d_Host_sendPacket_26 (by decide) ?_
  refine sv_idiv d_Host_sendPacket_27 (by decide) ?_
  refine sv_iload_n d_Host_sendPacket_28 rfl ?_
  refine sv_if_eq 38 d_Host_sendPacket_29 rfl ?_ ?_
  · refine sv_iconst (x := (0 : Int32)) d_Host_sendPacket_38 (by decide) ?_
    refine sv_kill (ls' := [some (.ref q), some (.int a1), some (.int a2), none]) ⟨rfl, rfl, rfl, trivial⟩ ?_
    exact c_Host_sendPacket_b39 d q a1 a2 (0 : Int32) (a1 / (4 : Int32)) (2 : Int32) (sv_ref (sg q) 9) v2 hq (st_2_9 hq)
  · refine sv_sipush (x := (128 : Int32)) d_Host_sendPacket_32 (by decide) ?_
    refine sv_goto 39 d_Host_sendPacket_35 rfl ?_
    refine sv_kill (ls' := [some (.ref q), some (.int a1), some (.int a2), none]) ⟨rfl, rfl, rfl, trivial⟩ ?_
    exact c_Host_sendPacket_b39 d q a1 a2 (128 : Int32) (a1 / (4 : Int32)) (2 : Int32) (sv_ref (sg q) 9) v2 hq (st_2_9 hq)
def f_Host_sendOut_b68 (r0 : Nat) (l1 : Int32) (v : sv_T) : Option ((Int32 × sv_T) ⊕ (sv_T)) :=
  sv_ls (sv_up v r0 11 (((v r0 11) + (1 : Int32)) &&& (255 : Int32))) fun v9 =>
  sv_le (l1 + (-1 : Int32)) fun x10 =>
  some (.inl (x10, v9))
def f_Host_sendOut_b52 (r0 : Nat) (l1 : Int32) (l3 : Int32) (l4 : Int32) (s0 : Int32) (s1 : Int32) (s2 : Int32) (t3 : Nat) (v : sv_T) : Option ((Int32 × sv_T) ⊕ (sv_T)) :=
  sv_bv (f_Host_sendPacket t3 s2 s1 s0 v) fun v8 =>
  if 0 < l4 then
  sv_bv (f_Host_sendPacket r0 l3 l4 (0 : Int32) v8) fun v11 =>
  f_Host_sendOut_b68 r0 l1 v11
  else
  f_Host_sendOut_b68 r0 l1 v8
def f_Host_sendOut_l8 (r0 : Nat) (l1 : Int32) (v : sv_T) : Option ((Int32 × sv_T) ⊕ (sv_T)) :=
  if 0 < l1 then
  sv_bi (f_Rows_takeFirst (sv_ref (sg r0) 6) (sv_ref (sg r0) 10) (0 : Int32) v) fun x4 v3 =>
  sv_le ((x4 - (1 : Int32))) fun x5 =>
  sv_le ((sv_min x5 (24 : Int32))) fun x6 =>
  sv_le ((x5 - x6)) fun x7 =>
  if 0 < x7 then
  f_Host_sendOut_b52 r0 l1 x6 x7 (1 : Int32) x6 (0 : Int32) r0 v3
  else
  f_Host_sendOut_b52 r0 l1 x6 x7 (0 : Int32) x6 (0 : Int32) r0 v3
  else
  some (.inr v)
def f_Host_sendOut_x88  (v : sv_T) : Option (Int32 × sv_T) :=
  some ((1 : Int32), v)
def f_Host_sendOut (q : Nat) (v : sv_T) : Option (Int32 × sv_T) :=
  sv_bi (f_Rows_count (sv_ref (sg q) 6) v) fun x2 v1 =>
  Option.bind (sv_loop (fun (s : Int32 × sv_T) => f_Host_sendOut_l8 q s.1 (s.2)) 100000 (x2, v1)) (fun (s : sv_T) => f_Host_sendOut_x88  s)
set_option maxHeartbeats 4000000 in
set_option maxRecDepth 100000 in
theorem c_Host_sendOut_b68 (d : Nat) (r0 : Nat) (l1 : Int32) (v : sv_T) (hr0 : sv_isO (sg r0) 2 = true) : sv_Ref (d + 6) 30 68 [some (.ref r0), some (.int l1), none, none, none] [] v (f_Host_sendOut_b68 r0 l1 v) (sv_Zl (d + 6) 30 8 (fun (s : Int32 × sv_T) => [some (.ref r0), some (.int s.1), none, none, none]) (fun (s : Int32 × sv_T) => s.2) (sv_Zt (d + 6) 30 88 (fun (s : sv_T) => [none, none, none, none, none]) (fun (s : sv_T) => s))) := by
  unfold f_Host_sendOut_b68
  refine sv_aload_n d_Host_sendOut_68 rfl ?_
  refine sv_aload_n d_Host_sendOut_69 rfl ?_
  refine sv_geti d_Host_sendOut_70 (gf_Host_136 mc_30) hr0 (sd_2_11 hr0) ?_
  refine sv_iconst (x := (1 : Int32)) d_Host_sendOut_73 (by decide) ?_
  refine sv_iadd d_Host_sendOut_74 ?_
  refine sv_sipush (x := (255 : Int32)) d_Host_sendOut_75 (by decide) ?_
  refine sv_iand d_Host_sendOut_78 ?_
  refine sv_puti d_Host_sendOut_79 (pf_Host_136 mc_30) hr0 (sd_2_11 hr0) (fun v9 => ?_)
  refine sv_iinc (ls' := fun x10 => [some (.ref r0), some (.int x10), none, none, none]) (y := (-1 : Int32)) d_Host_sendOut_82 rfl (by decide) (fun _ => rfl) (fun x10 => ?_)
  refine sv_goto 8 d_Host_sendOut_85 rfl ?_
  exact sv_next (x10, v9) ⟨rfl, rfl, trivial⟩ rfl
set_option maxHeartbeats 4000000 in
set_option maxRecDepth 100000 in
theorem c_Host_sendOut_b52 (d : Nat) (r0 : Nat) (l1 : Int32) (l3 : Int32) (l4 : Int32) (s0 : Int32) (s1 : Int32) (s2 : Int32) (t3 : Nat) (v : sv_T) (hr0 : sv_isO (sg r0) 2 = true) (ht3 : sv_isO (sg t3) 2 = true) : sv_Ref (d + 6) 30 52 [some (.ref r0), some (.int l1), none, some (.int l3), some (.int l4)] [.int s0, .int s1, .int s2, .ref t3] v (f_Host_sendOut_b52 r0 l1 l3 l4 s0 s1 s2 t3 v) (sv_Zl (d + 6) 30 8 (fun (s : Int32 × sv_T) => [some (.ref r0), some (.int s.1), none, none, none]) (fun (s : Int32 × sv_T) => s.2) (sv_Zt (d + 6) 30 88 (fun (s : sv_T) => [none, none, none, none, none]) (fun (s : sv_T) => s))) := by
  unfold f_Host_sendOut_b52
  refine sv_callVv (d := d + 5) (as := [.int s2, .int s1, .int s0]) d_Host_sendOut_52 (wv_Host_132 mc_30) ht3 ⟨_, rfl, rfl⟩ rfl (Nat.le_of_ble_eq_true rfl) rfl (c_Host_sendPacket (d + 0) t3 s2 s1 s0 v ht3) (fun v8 => ?_)
  refine sv_iload d_Host_sendOut_55 rfl ?_
  refine sv_if_le 68 d_Host_sendOut_57 rfl ?_ ?_
  · refine sv_kill (ls' := [some (.ref r0), some (.int l1), none, none, none]) ⟨rfl, rfl, trivial⟩ ?_
    exact c_Host_sendOut_b68 d r0 l1 v8 hr0
  · refine sv_aload_n d_Host_sendOut_60 rfl ?_
    refine sv_iload_n d_Host_sendOut_61 rfl ?_
    refine sv_iload d_Host_sendOut_62 rfl ?_
    refine sv_iconst (x := (0 : Int32)) d_Host_sendOut_64 (by decide) ?_
    refine sv_callVv (d := d + 5) (as := [.int l3, .int l4, .int (0 : Int32)]) d_Host_sendOut_65 (wv_Host_132 mc_30) hr0 ⟨_, rfl, rfl⟩ rfl (Nat.le_of_ble_eq_true rfl) rfl (c_Host_sendPacket (d + 0) r0 l3 l4 (0 : Int32) v8 hr0) (fun v11 => ?_)
    refine sv_kill (ls' := [some (.ref r0), some (.int l1), none, none, none]) ⟨rfl, rfl, trivial⟩ ?_
    exact c_Host_sendOut_b68 d r0 l1 v11 hr0
set_option maxHeartbeats 4000000 in
set_option maxRecDepth 100000 in
theorem c_Host_sendOut_l8 (d : Nat) (r0 : Nat) (l1 : Int32) (v : sv_T) (hr0 : sv_isO (sg r0) 2 = true) : sv_Ref (d + 6) 30 8 [some (.ref r0), some (.int l1), none, none, none] [] v (f_Host_sendOut_l8 r0 l1 v) (sv_Zl (d + 6) 30 8 (fun (s : Int32 × sv_T) => [some (.ref r0), some (.int s.1), none, none, none]) (fun (s : Int32 × sv_T) => s.2) (sv_Zt (d + 6) 30 88 (fun (s : sv_T) => [none, none, none, none, none]) (fun (s : sv_T) => s))) := by
  unfold f_Host_sendOut_l8
  refine sv_iload_n d_Host_sendOut_8 rfl ?_
  refine sv_if_le 88 d_Host_sendOut_9 rfl ?_ ?_
  · exact sv_leave v rfl trivial rfl
  · refine sv_aload_n d_Host_sendOut_12 rfl ?_
    refine sv_getr d_Host_sendOut_13 (gf_Host_57 mc_30) hr0 (sr_2_6 hr0) ?_
    refine sv_aload_n d_Host_sendOut_16 rfl ?_
    refine sv_getr d_Host_sendOut_17 (gf_Host_71 mc_30) hr0 (sr_2_10 hr0) ?_
    refine sv_iconst (x := (0 : Int32)) d_Host_sendOut_20 (by decide) ?_
    refine sv_callVi (d := d + 5) (as := [.ref (sv_ref (sg r0) 10), .int (0 : Int32)]) d_Host_sendOut_21 (wv_Host_81 mc_30) (st_2_6 hr0) ⟨_, rfl, rfl⟩ rfl (Nat.le_of_ble_eq_true rfl) rfl (c_Rows_takeFirst (d + 3) (sv_ref (sg r0) 6) (sv_ref (sg r0) 10) (0 : Int32) v (st_2_6 hr0) (sv_isAl (st_2_10 hr0))) (fun x4 v3 => ?_)
    refine sv_iconst (x := (1 : Int32)) d_Host_sendOut_24 (by decide) ?_
    refine sv_isub d_Host_sendOut_25 ?_
    refine sv_leR (fun x5 => ?_)
    refine sv_istore_n (ls' := [some (.ref r0), some (.int l1), some (.int x5), none, none]) d_Host_sendOut_26 (by decide) rfl ?_
    refine sv_iload_n d_Host_sendOut_27 rfl ?_
    refine sv_bipush (x := (24 : Int32)) d_Host_sendOut_28 (by decide) ?_
    refine sv_mmin (d := d + 5) d_Host_sendOut_30 (wm_Host_126 mc_30) (Nat.le_of_ble_eq_true rfl) ?_
    refine sv_leR (fun x6 => ?_)
    refine sv_istore_n (ls' := [some (.ref r0), some (.int l1), some (.int x5), some (.int x6), none]) d_Host_sendOut_33 (by decide) rfl ?_
    refine sv_iload_n d_Host_sendOut_34 rfl ?_
    refine sv_iload_n d_Host_sendOut_35 rfl ?_
    refine sv_isub d_Host_sendOut_36 ?_
    refine sv_leR (fun x7 => ?_)
    refine sv_istore (ls' := [some (.ref r0), some (.int l1), some (.int x5), some (.int x6), some (.int x7)]) d_Host_sendOut_37 (by decide) rfl ?_
    refine sv_aload_n d_Host_sendOut_39 rfl ?_
    refine sv_iconst (x := (0 : Int32)) d_Host_sendOut_40 (by decide) ?_
    refine sv_iload_n d_Host_sendOut_41 rfl ?_
    refine sv_iload d_Host_sendOut_42 rfl ?_
    refine sv_if_le 51 d_Host_sendOut_44 rfl ?_ ?_
    · refine sv_iconst (x := (0 : Int32)) d_Host_sendOut_51 (by decide) ?_
      refine sv_kill (ls' := [some (.ref r0), some (.int l1), none, some (.int x6), some (.int x7)]) ⟨rfl, rfl, rfl, rfl, trivial⟩ ?_
      exact c_Host_sendOut_b52 d r0 l1 x6 x7 (0 : Int32) x6 (0 : Int32) r0 v3 hr0 hr0
    · refine sv_iconst (x := (1 : Int32)) d_Host_sendOut_47 (by decide) ?_
      refine sv_goto 52 d_Host_sendOut_48 rfl ?_
      refine sv_kill (ls' := [some (.ref r0), some (.int l1), none, some (.int x6), some (.int x7)]) ⟨rfl, rfl, rfl, rfl, trivial⟩ ?_
      exact c_Host_sendOut_b52 d r0 l1 x6 x7 (1 : Int32) x6 (0 : Int32) r0 v3 hr0 hr0
set_option maxHeartbeats 4000000 in
set_option maxRecDepth 100000 in
theorem c_Host_sendOut_x88 (d : Nat)  (v : sv_T)  : sv_Ref (d + 6) 30 88 [none, none, none, none, none] [] v (f_Host_sendOut_x88  v) (sv_Zi) := by
  unfold f_Host_sendOut_x88
  refine sv_iconst (x := (1 : Int32)) d_Host_sendOut_88 (by decide) ?_
  exact sv_zretc rfl (by decide) d_Host_sendOut_89
set_option maxHeartbeats 4000000 in
set_option maxRecDepth 100000 in
theorem c_Host_sendOut (d : Nat) (q : Nat) (v : sv_T) (hq : sv_isO (sg q) 2 = true) : sv_Cl (d + 6) 30 [.ref q] v (f_Host_sendOut q v) sv_Zi := by
  refine sv_spec (ls0 := [some (.ref q), none, none, none, none]) mp_30 (Nat.le_of_ble_eq_true rfl) rfl ?_
  unfold f_Host_sendOut
  refine sv_aload_n d_Host_sendOut_0 rfl ?_
  refine sv_getr d_Host_sendOut_1 (gf_Host_57 mc_30) hq (sr_2_6 hq) ?_
  refine sv_callVi (d := d + 5) (as := []) d_Host_sendOut_4 (wv_Host_122 mc_30) (st_2_6 hq) ⟨_, rfl, rfl⟩ rfl (Nat.le_of_ble_eq_true rfl) rfl (c_Rows_count (d + 5) (sv_ref (sg q) 6) v (st_2_6 hq)) (fun x2 v1 => ?_)
  refine sv_istore_n (ls' := [some (.ref q), some (.int x2), none, none, none]) d_Host_sendOut_7 (by decide) rfl ?_
  exact sv_seq (xt := 88) (L := (fun (s : sv_T) => [none, none, none, none, none])) (S := (fun (s : sv_T) => s)) (sv_loopR (L := (fun (s : Int32 × sv_T) => [some (.ref q), some (.int s.1), none, none, none])) (S := (fun (s : Int32 × sv_T) => s.2)) (fun s => c_Host_sendOut_l8 d q s.1 (s.2) hq) 100000 (x2, v1)) (fun s => c_Host_sendOut_x88 d  s )
def f_Host_leaveEcho (q : Nat) (a1 : Int32) (v : sv_T) : Option (sv_T) :=
  sv_ls (sv_up v (sv_ref (sg q) 10) 0 (1 : Int32)) fun v1 =>
  sv_bv (f_Num_putPair (sv_ref (sg q) 10) (3 : Int32) (0 : Int32) v1) fun v2 =>
  sv_bi (f_Num_check (0 : Int32) (sv_ref (sg q) 10) (1 : Int32) a1 v2) fun x4 v3 =>
  sv_bv (f_Num_putPair (sv_ref (sg q) 10) (3 : Int32) x4 v3) fun v5 =>
  sv_bv (f_Rows_add (sv_ref (sg q) 6) (sv_ref (sg q) 10) ((1 : Int32) + a1) v5) fun v6 =>
  some v6
set_option maxHeartbeats 4000000 in
set_option maxRecDepth 100000 in
theorem c_Host_leaveEcho (d : Nat) (q : Nat) (a1 : Int32) (v : sv_T) (hq : sv_isO (sg q) 2 = true) : sv_Cl (d + 2) 65 [.ref q, .int a1] v (f_Host_leaveEcho q a1 v) sv_Zv := by
  refine sv_spec (ls0 := [some (.ref q), some (.int a1)]) mp_65 (Nat.le_of_ble_eq_true rfl) rfl ?_
  unfold f_Host_leaveEcho
  refine sv_aload_n d_Host_leaveEcho_0 rfl ?_
  refine sv_getr d_Host_leaveEcho_1 (gf_Host_71 mc_65) hq (sr_2_10 hq) ?_
  refine sv_iconst (x := (0 : Int32)) d_Host_leaveEcho_4 (by decide) ?_
  refine sv_iconst (x := (1 : Int32)) d_Host_leaveEcho_5 (by decide) ?_
  refine sv_iastc (m := 0) d_Host_leaveEcho_6 (st_2_10 hq) (by decide) rfl (fun v1 => ?_)
  refine sv_aload_n d_Host_leaveEcho_7 rfl ?_
  refine sv_getr d_Host_leaveEcho_8 (gf_Host_71 mc_65) hq (sr_2_10 hq) ?_
  refine sv_iconst (x := (3 : Int32)) d_Host_leaveEcho_11 (by decide) ?_
  refine sv_iconst (x := (0 : Int32)) d_Host_leaveEcho_12 (by decide) ?_
  refine sv_callSv (d := d + 1) (as := [.ref (sv_ref (sg q) 10), .int (3 : Int32), .int (0 : Int32)]) d_Host_leaveEcho_13 (ws_Host_177 mc_65)  rfl (Nat.le_of_ble_eq_true rfl) rfl (c_Num_putPair (d + 1) (sv_ref (sg q) 10) (3 : Int32) (0 : Int32) v1 (sv_isAl (st_2_10 hq))) (fun v2 => ?_)
  refine sv_aload_n d_Host_leaveEcho_16 rfl ?_
  refine sv_getr d_Host_leaveEcho_17 (gf_Host_71 mc_65) hq (sr_2_10 hq) ?_
  refine sv_iconst (x := (3 : Int32)) d_Host_leaveEcho_20 (by decide) ?_
  refine sv_iconst (x := (0 : Int32)) d_Host_leaveEcho_21 (by decide) ?_
  refine sv_aload_n d_Host_leaveEcho_22 rfl ?_
  refine sv_getr d_Host_leaveEcho_23 (gf_Host_71 mc_65) hq (sr_2_10 hq) ?_
  refine sv_iconst (x := (1 : Int32)) d_Host_leaveEcho_26 (by decide) ?_
  refine sv_iload_n d_Host_leaveEcho_27 rfl ?_
  refine sv_callSi (d := d + 1) (as := [.int (0 : Int32), .ref (sv_ref (sg q) 10), .int (1 : Int32), .int a1]) d_Host_leaveEcho_28 (ws_Host_168 mc_65)  rfl (Nat.le_of_ble_eq_true rfl) rfl (c_Num_check (d + 1) (0 : Int32) (sv_ref (sg q) 10) (1 : Int32) a1 v2 (sv_isAl (st_2_10 hq))) (fun x4 v3 => ?_)
  refine sv_callSv (d := d + 1) (as := [.ref (sv_ref (sg q) 10), .int (3 : Int32), .int x4]) d_Host_leaveEcho_31 (ws_Host_177 mc_65)  rfl (Nat.le_of_ble_eq_true rfl) rfl (c_Num_putPair (d + 1) (sv_ref (sg q) 10) (3 : Int32) x4 v3 (sv_isAl (st_2_10 hq))) (fun v5 => ?_)
  refine sv_aload_n d_Host_leaveEcho_34 rfl ?_
  refine sv_getr d_Host_leaveEcho_35 (gf_Host_57 mc_65) hq (sr_2_6 hq) ?_
  refine sv_aload_n d_Host_leaveEcho_38 rfl ?_
  refine sv_getr d_Host_leaveEcho_39 (gf_Host_71 mc_65) hq (sr_2_10 hq) ?_
  refine sv_iconst (x := (1 : Int32)) d_Host_leaveEcho_42 (by decide) ?_
  refine sv_iload_n d_Host_leaveEcho_43 rfl ?_
  refine sv_iadd d_Host_leaveEcho_44 ?_
  refine sv_callVv (d := d + 1) (as := [.ref (sv_ref (sg q) 10), .int ((1 : Int32) + a1)]) d_Host_leaveEcho_45 (wv_Host_181 mc_65) (st_2_6 hq) ⟨_, rfl, rfl⟩ rfl (Nat.le_of_ble_eq_true rfl) rfl (c_Rows_add (d + 0) (sv_ref (sg q) 6) (sv_ref (sg q) 10) ((1 : Int32) + a1) v5 (st_2_6 hq) (sv_isAl (st_2_10 hq))) (fun v6 => ?_)
  exact sv_vret rfl d_Host_leaveEcho_48
def f_Host_askEcho_l47 (r0 : Nat) (l1 : Int32) (l2 : Int32) (l3 : Int32) (v : sv_T) : Option ((Int32 × sv_T) ⊕ (sv_T)) :=
  if l3 < l2 then
  sv_ck ((6 : Int32) + l3) 49 <| sv_ls (sv_up v (sv_ref (sg r0) 10) ((6 : Int32) + l3).toNatClampNeg ((l1 + l3) &&& (255 : Int32))) fun v4 =>
  sv_le (l3 + (1 : Int32)) fun x5 =>
  some (.inl (x5, v4))
  else
  some (.inr v)
def f_Host_askEcho_x74 (r0 : Nat) (l2 : Int32) (v : sv_T) : Option (Int32 × sv_T) :=
  sv_bv (f_Host_leaveEcho r0 ((5 : Int32) + l2) v) fun v6 =>
  some ((1 : Int32), v6)
def f_Host_askEcho (q : Nat) (a1 : Int32) (a2 : Int32) (v : sv_T) : Option (Int32 × sv_T) :=
  if a1 < 0 then
  some ((0 : Int32), v)
  else
  if a1 ≤ (255 : Int32) then
  if a2 < 0 then
  some ((0 : Int32), v)
  else
  if (43 : Int32) < a2 then
  some ((0 : Int32), v)
  else
  sv_ls (sv_up v (sv_ref (sg q) 10) 1 (8 : Int32)) fun v1 =>
  sv_ls (sv_up v1 (sv_ref (sg q) 10) 2 (0 : Int32)) fun v2 =>
  sv_ls (sv_up v2 (sv_ref (sg q) 10) 5 a1) fun v3 =>
  Option.bind (sv_loop (fun (s : Int32 × sv_T) => f_Host_askEcho_l47 q a1 a2 s.1 (s.2)) 100000 ((0 : Int32), v3)) (fun (s : sv_T) => f_Host_askEcho_x74 q a2 s)
  else
  some ((0 : Int32), v)
set_option maxHeartbeats 4000000 in
set_option maxRecDepth 100000 in
theorem c_Host_askEcho_l47 (d : Nat) (r0 : Nat) (l1 : Int32) (l2 : Int32) (l3 : Int32) (v : sv_T) (hr0 : sv_isO (sg r0) 2 = true) : sv_Ref (d + 3) 64 47 [some (.ref r0), some (.int l1), some (.int l2), some (.int l3)] [] v (f_Host_askEcho_l47 r0 l1 l2 l3 v) (sv_Zl (d + 3) 64 47 (fun (s : Int32 × sv_T) => [some (.ref r0), some (.int l1), some (.int l2), some (.int s.1)]) (fun (s : Int32 × sv_T) => s.2) (sv_Zt (d + 3) 64 74 (fun (s : sv_T) => [some (.ref r0), none, some (.int l2), none]) (fun (s : sv_T) => s))) := by
  unfold f_Host_askEcho_l47
  refine sv_iload_n d_Host_askEcho_47 rfl ?_
  refine sv_iload_n d_Host_askEcho_48 rfl ?_
  refine sv_icmp_ge 74 d_Host_askEcho_49 rfl ?_ ?_
  · exact sv_leave v rfl ⟨rfl, rfl, trivial⟩ rfl
  · refine sv_aload_n d_Host_askEcho_52 rfl ?_
    refine sv_getr d_Host_askEcho_53 (gf_Host_71 mc_64) hr0 (sr_2_10 hr0) ?_
    refine sv_bipush (x := (6 : Int32)) d_Host_askEcho_56 (by decide) ?_
    refine sv_iload_n d_Host_askEcho_58 rfl ?_
    refine sv_iadd d_Host_askEcho_59 ?_
    refine sv_iload_n d_Host_askEcho_60 rfl ?_
    refine sv_iload_n d_Host_askEcho_61 rfl ?_
    refine sv_iadd d_Host_askEcho_62 ?_
    refine sv_sipush (x := (255 : Int32)) d_Host_askEcho_63 (by decide) ?_
    refine sv_iand d_Host_askEcho_66 ?_
    refine sv_iast d_Host_askEcho_67 (st_2_10 hr0) (fun v4 => ?_)
    refine sv_iinc (ls' := fun x5 => [some (.ref r0), some (.int l1), some (.int l2), some (.int x5)]) (y := (1 : Int32)) d_Host_askEcho_68 rfl (by decide) (fun _ => rfl) (fun x5 => ?_)
    refine sv_goto 47 d_Host_askEcho_71 rfl ?_
    exact sv_next (x5, v4) ⟨rfl, rfl, rfl, rfl, trivial⟩ rfl
set_option maxHeartbeats 4000000 in
set_option maxRecDepth 100000 in
theorem c_Host_askEcho_x74 (d : Nat) (r0 : Nat) (l2 : Int32) (v : sv_T) (hr0 : sv_isO (sg r0) 2 = true) : sv_Ref (d + 3) 64 74 [some (.ref r0), none, some (.int l2), none] [] v (f_Host_askEcho_x74 r0 l2 v) (sv_Zi) := by
  unfold f_Host_askEcho_x74
  refine sv_aload_n d_Host_askEcho_74 rfl ?_
  refine sv_iconst (x := (5 : Int32)) d_Host_askEcho_75 (by decide) ?_
  refine sv_iload_n d_Host_askEcho_76 rfl ?_
  refine sv_iadd d_Host_askEcho_77 ?_
  refine sv_callVv (d := d + 2) (as := [.int ((5 : Int32) + l2)]) d_Host_askEcho_78 (wv_Host_77 mc_64) hr0 ⟨_, rfl, rfl⟩ rfl (Nat.le_of_ble_eq_true rfl) rfl (c_Host_leaveEcho (d + 0) r0 ((5 : Int32) + l2) v hr0) (fun v6 => ?_)
  refine sv_iconst (x := (1 : Int32)) d_Host_askEcho_81 (by decide) ?_
  exact sv_zretc rfl (by decide) d_Host_askEcho_82
set_option maxHeartbeats 4000000 in
set_option maxRecDepth 100000 in
theorem c_Host_askEcho (d : Nat) (q : Nat) (a1 : Int32) (a2 : Int32) (v : sv_T) (hq : sv_isO (sg q) 2 = true) : sv_Cl (d + 3) 64 [.ref q, .int a1, .int a2] v (f_Host_askEcho q a1 a2 v) sv_Zi := by
  refine sv_spec (ls0 := [some (.ref q), some (.int a1), some (.int a2), none]) mp_64 (Nat.le_of_ble_eq_true rfl) rfl ?_
  unfold f_Host_askEcho
  refine sv_iload_n d_Host_askEcho_0 rfl ?_
  refine sv_if_lt 21 d_Host_askEcho_1 rfl ?_ ?_
  · refine sv_iconst (x := (0 : Int32)) d_Host_askEcho_21 (by decide) ?_
    exact sv_zretc rfl (by decide) d_Host_askEcho_22
  · refine sv_iload_n d_Host_askEcho_4 rfl ?_
    refine sv_sipush (x := (255 : Int32)) d_Host_askEcho_5 (by decide) ?_
    refine sv_icmp_gt 21 d_Host_askEcho_8 rfl ?_ ?_
    · refine sv_iconst (x := (0 : Int32)) d_Host_askEcho_21 (by decide) ?_
      exact sv_zretc rfl (by decide) d_Host_askEcho_22
    · refine sv_iload_n d_Host_askEcho_11 rfl ?_
      refine sv_if_lt 21 d_Host_askEcho_12 rfl ?_ ?_
      · refine sv_iconst (x := (0 : Int32)) d_Host_askEcho_21 (by decide) ?_
        exact sv_zretc rfl (by decide) d_Host_askEcho_22
      · refine sv_iload_n d_Host_askEcho_15 rfl ?_
        refine sv_bipush (x := (43 : Int32)) d_Host_askEcho_16 (by decide) ?_
        refine sv_icmp_le 23 d_Host_askEcho_18 rfl ?_ ?_
        · refine sv_aload_n d_Host_askEcho_23 rfl ?_
          refine sv_getr d_Host_askEcho_24 (gf_Host_71 mc_64) hq (sr_2_10 hq) ?_
          refine sv_iconst (x := (1 : Int32)) d_Host_askEcho_27 (by decide) ?_
          refine sv_bipush (x := (8 : Int32)) d_Host_askEcho_28 (by decide) ?_
          refine sv_iastc (m := 1) d_Host_askEcho_30 (st_2_10 hq) (by decide) rfl (fun v1 => ?_)
          refine sv_aload_n d_Host_askEcho_31 rfl ?_
          refine sv_getr d_Host_askEcho_32 (gf_Host_71 mc_64) hq (sr_2_10 hq) ?_
          refine sv_iconst (x := (2 : Int32)) d_Host_askEcho_35 (by decide) ?_
          refine sv_iconst (x := (0 : Int32)) d_Host_askEcho_36 (by decide) ?_
          refine sv_iastc (m := 2) d_Host_askEcho_37 (st_2_10 hq) (by decide) rfl (fun v2 => ?_)
          refine sv_aload_n d_Host_askEcho_38 rfl ?_
          refine sv_getr d_Host_askEcho_39 (gf_Host_71 mc_64) hq (sr_2_10 hq) ?_
          refine sv_iconst (x := (5 : Int32)) d_Host_askEcho_42 (by decide) ?_
          refine sv_iload_n d_Host_askEcho_43 rfl ?_
          refine sv_iastc (m := 5) d_Host_askEcho_44 (st_2_10 hq) (by decide) rfl (fun v3 => ?_)
          refine sv_iconst (x := (0 : Int32)) d_Host_askEcho_45 (by decide) ?_
          refine sv_istore_n (ls' := [some (.ref q), some (.int a1), some (.int a2), some (.int (0 : Int32))]) d_Host_askEcho_46 (by decide) rfl ?_
          exact sv_seq (xt := 74) (L := (fun (s : sv_T) => [some (.ref q), none, some (.int a2), none])) (S := (fun (s : sv_T) => s)) (sv_loopR (L := (fun (s : Int32 × sv_T) => [some (.ref q), some (.int a1), some (.int a2), some (.int s.1)])) (S := (fun (s : Int32 × sv_T) => s.2)) (fun s => c_Host_askEcho_l47 d q a1 a2 s.1 (s.2) hq) 100000 ((0 : Int32), v3)) (fun s => c_Host_askEcho_x74 d q a2 s hq)
        · refine sv_iconst (x := (0 : Int32)) d_Host_askEcho_21 (by decide) ?_
          exact sv_zretc rfl (by decide) d_Host_askEcho_22
def f_Host_takePacket (q : Nat) (a1 : Int32) (v : sv_T) : Option (Int32 × sv_T) :=
  if a1 ≤ (10 : Int32) then
  some ((0 : Int32), v)
  else
  sv_cc (3 : Int32) (0 : Int32) a1 37 34 <| sv_ls (sv_cp v (sv_ref (sg q) 8) (3 : Int32).toNatClampNeg (sv_ref (sg q) 9) (0 : Int32).toNatClampNeg a1.toNatClampNeg) fun v1 =>
  if (v1 (sv_ref (sg q) 9) 0) = a1 then
  sv_bi (f_Num_check (0 : Int32) (sv_ref (sg q) 9) (0 : Int32) (10 : Int32) v1) fun x3 v2 =>
  if x3 = 0 then
  sv_bi (f_Link_addressOf ((1 : Int32) - (sv_int (sg q) 0)) v2) fun x5 v4 =>
  if (v2 (sv_ref (sg q) 9) 8) = x5 then
  sv_bi (f_Link_addressOf (sv_int (sg q) 0) v4) fun x7 v6 =>
  if (v4 (sv_ref (sg q) 9) 9) = x7 then
  sv_bi (f_Pieces_takePacket (sv_ref (sg q) 2) (sv_ref (sg q) 9) a1 v6) fun x9 v8 =>
  if x9 = 0 then
  some ((0 : Int32), v8)
  else
  some ((1 : Int32), v8)
  else
  some ((0 : Int32), v6)
  else
  some ((0 : Int32), v4)
  else
  some ((0 : Int32), v2)
  else
  some ((0 : Int32), v1)
set_option maxHeartbeats 4000000 in
set_option maxRecDepth 100000 in
theorem c_Host_takePacket (d : Nat) (q : Nat) (a1 : Int32) (v : sv_T) (hq : sv_isO (sg q) 2 = true) : sv_Cl (d + 4) 74 [.ref q, .int a1] v (f_Host_takePacket q a1 v) sv_Zi := by
  refine sv_spec (ls0 := [some (.ref q), some (.int a1)]) mp_74 (Nat.le_of_ble_eq_true rfl) rfl ?_
  unfold f_Host_takePacket
  refine sv_iload_n d_Host_takePacket_0 rfl ?_
  refine sv_bipush (x := (10 : Int32)) d_Host_takePacket_1 (by decide) ?_
  refine sv_icmp_gt 8 d_Host_takePacket_3 rfl ?_ ?_
  · refine sv_aload_n d_Host_takePacket_8 rfl ?_
    refine sv_getr d_Host_takePacket_9 (gf_Host_65 mc_74) hq (sr_2_8 hq) ?_
    refine sv_iconst (x := (3 : Int32)) d_Host_takePacket_12 (by decide) ?_
    refine sv_aload_n d_Host_takePacket_13 rfl ?_
    refine sv_getr d_Host_takePacket_14 (gf_Host_68 mc_74) hq (sr_2_9 hq) ?_
    refine sv_iconst (x := (0 : Int32)) d_Host_takePacket_17 (by decide) ?_
    refine sv_iload_n d_Host_takePacket_18 rfl ?_
    refine sv_copy (d := d + 3) d_Host_takePacket_19 (wc_Host_162 mc_74) (Nat.le_of_ble_eq_true rfl) (st_2_8 hq) (st_2_9 hq) (fun v1 => ?_)
    refine sv_aload_n d_Host_takePacket_22 rfl ?_
    refine sv_getr d_Host_takePacket_23 (gf_Host_68 mc_74) hq (sr_2_9 hq) ?_
    refine sv_iconst (x := (0 : Int32)) d_Host_takePacket_26 (by decide) ?_
    refine sv_ialdc (m := 0) d_Host_takePacket_27 (st_2_9 hq) (by decide) rfl ?_
    refine sv_iload_n d_Host_takePacket_28 rfl ?_
    refine sv_icmp_ne 101 d_Host_takePacket_29 rfl ?_ ?_
    · refine sv_iconst (x := (0 : Int32)) d_Host_takePacket_101 (by decide) ?_
      exact sv_zretc rfl (by decide) d_Host_takePacket_102
    · refine sv_iconst (x := (0 : Int32)) d_Host_takePacket_32 (by decide) ?_
      refine sv_aload_n d_Host_takePacket_33 rfl ?_
      refine sv_getr d_Host_takePacket_34 (gf_Host_68 mc_74) hq (sr_2_9 hq) ?_
      refine sv_iconst (x := (0 : Int32)) d_Host_takePacket_37 (by decide) ?_
      refine sv_bipush (x := (10 : Int32)) d_Host_takePacket_38 (by decide) ?_
      refine sv_callSi (d := d + 3) (as := [.int (0 : Int32), .ref (sv_ref (sg q) 9), .int (0 : Int32), .int (10 : Int32)]) d_Host_takePacket_40 (ws_Host_168 mc_74)  rfl (Nat.le_of_ble_eq_true rfl) rfl (c_Num_check (d + 3) (0 : Int32) (sv_ref (sg q) 9) (0 : Int32) (10 : Int32) v1 (sv_isAl (st_2_9 hq))) (fun x3 v2 => ?_)
      refine sv_if_ne 101 d_Host_takePacket_43 rfl ?_ ?_
      · refine sv_iconst (x := (0 : Int32)) d_Host_takePacket_101 (by decide) ?_
        exact sv_zretc rfl (by decide) d_Host_takePacket_102
      · refine sv_aload_n d_Host_takePacket_46 rfl ?_
        refine sv_getr d_Host_takePacket_47 (gf_Host_68 mc_74) hq (sr_2_9 hq) ?_
        refine sv_bipush (x := (8 : Int32)) d_Host_takePacket_50 (by decide) ?_
        refine sv_ialdc (m := 8) d_Host_takePacket_52 (st_2_9 hq) (by decide) rfl ?_
        refine sv_iconst (x := (1 : Int32)) d_Host_takePacket_53 (by decide) ?_
        refine sv_aload_n d_Host_takePacket_54 rfl ?_
        refine sv_gets d_Host_takePacket_55 (gf_Host_18 mc_74) hq (si_2_0 hq) ?_
        refine sv_isub d_Host_takePacket_58 ?_
        refine sv_callSi (d := d + 3) (as := [.int ((1 : Int32) - (sv_int (sg q) 0))]) d_Host_takePacket_59 (ws_Host_105 mc_74)  rfl (Nat.le_of_ble_eq_true rfl) rfl (c_Link_addressOf (d + 3) ((1 : Int32) - (sv_int (sg q) 0)) v2 ) (fun x5 v4 => ?_)
        refine sv_icmp_ne 101 d_Host_takePacket_62 rfl ?_ ?_
        · refine sv_iconst (x := (0 : Int32)) d_Host_takePacket_101 (by decide) ?_
          exact sv_zretc rfl (by decide) d_Host_takePacket_102
        · refine sv_aload_n d_Host_takePacket_65 rfl ?_
          refine sv_getr d_Host_takePacket_66 (gf_Host_68 mc_74) hq (sr_2_9 hq) ?_
          refine sv_bipush (x := (9 : Int32)) d_Host_takePacket_69 (by decide) ?_
          refine sv_ialdc (m := 9) d_Host_takePacket_71 (st_2_9 hq) (by decide) rfl ?_
          refine sv_aload_n d_Host_takePacket_72 rfl ?_
          refine sv_gets d_Host_takePacket_73 (gf_Host_18 mc_74) hq (si_2_0 hq) ?_
          refine sv_callSi (d := d + 3) (as := [.int (sv_int (sg q) 0)]) d_Host_takePacket_76 (ws_Host_105 mc_74)  rfl (Nat.le_of_ble_eq_true rfl) rfl (c_Link_addressOf (d + 3) (sv_int (sg q) 0) v4 ) (fun x7 v6 => ?_)
          refine sv_icmp_ne 101 d_Host_takePacket_79 rfl ?_ ?_
          · refine sv_iconst (x := (0 : Int32)) d_Host_takePacket_101 (by decide) ?_
            exact sv_zretc rfl (by decide) d_Host_takePacket_102
          · refine sv_aload_n d_Host_takePacket_82 rfl ?_
            refine sv_getr d_Host_takePacket_83 (gf_Host_34 mc_74) hq (sr_2_2 hq) ?_
            refine sv_aload_n d_Host_takePacket_86 rfl ?_
            refine sv_getr d_Host_takePacket_87 (gf_Host_68 mc_74) hq (sr_2_9 hq) ?_
            refine sv_iload_n d_Host_takePacket_90 rfl ?_
            refine sv_callVi (d := d + 3) (as := [.ref (sv_ref (sg q) 9), .int a1]) d_Host_takePacket_91 (wv_Host_174 mc_74) (st_2_2 hq) ⟨_, rfl, rfl⟩ rfl (Nat.le_of_ble_eq_true rfl) rfl (c_Pieces_takePacket (d + 0) (sv_ref (sg q) 2) (sv_ref (sg q) 9) a1 v6 (st_2_2 hq) (sv_isAl (st_2_9 hq))) (fun x9 v8 => ?_)
            refine sv_if_eq 101 d_Host_takePacket_94 rfl ?_ ?_
            · refine sv_iconst (x := (0 : Int32)) d_Host_takePacket_101 (by decide) ?_
              exact sv_zretc rfl (by decide) d_Host_takePacket_102
            · refine sv_iconst (x := (1 : Int32)) d_Host_takePacket_97 (by decide) ?_
              refine sv_goto 102 d_Host_takePacket_98 rfl ?_
              exact sv_zretc rfl (by decide) d_Host_takePacket_102
  · refine sv_iconst (x := (0 : Int32)) d_Host_takePacket_6 (by decide) ?_
    exact sv_zretc rfl (by decide) d_Host_takePacket_7
def f_Host_takeFrame_b51 (r0 : Nat) (l2 : Int32) (v : sv_T) : Option (Int32 × sv_T) :=
  if (v (sv_ref (sg r0) 8) 2) = (8 : Int32) then
  sv_bi (f_Host_takePacket r0 (l2 - (3 : Int32)) v) fun x6 v5 =>
  if x6 = 0 then
  some ((0 : Int32), v5)
  else
  some ((1 : Int32), v5)
  else
  some ((0 : Int32), v)
def f_Host_takeFrame (q : Nat) (a1 : Nat) (v : sv_T) : Option (Int32 × sv_T) :=
  sv_bi (f_Rows_takeFirst a1 (sv_ref (sg q) 8) (0 : Int32) v) fun x2 v1 =>
  sv_bi (f_Link_isForMe (sv_ref (sg q) 1) (v1 (sv_ref (sg q) 8) 0) v1) fun x4 v3 =>
  if x4 = 0 then
  some ((0 : Int32), v3)
  else
  if (v3 (sv_ref (sg q) 8) 2) = (6 : Int32) then
  sv_bv (f_Link_takeAsk (sv_ref (sg q) 1) (sv_ref (sg q) 8) x2 v3) fun v7 =>
  f_Host_takeFrame_b51 q x2 v7
  else
  f_Host_takeFrame_b51 q x2 v3
set_option maxHeartbeats 4000000 in
set_option maxRecDepth 100000 in
theorem c_Host_takeFrame_b51 (d : Nat) (r0 : Nat) (l2 : Int32) (v : sv_T) (hr0 : sv_isO (sg r0) 2 = true) : sv_Ref (d + 5) 70 51 [some (.ref r0), none, some (.int l2)] [] v (f_Host_takeFrame_b51 r0 l2 v) (sv_Zi) := by
  unfold f_Host_takeFrame_b51
  refine sv_aload_n d_Host_takeFrame_51 rfl ?_
  refine sv_getr d_Host_takeFrame_52 (gf_Host_65 mc_70) hr0 (sr_2_8 hr0) ?_
  refine sv_iconst (x := (2 : Int32)) d_Host_takeFrame_55 (by decide) ?_
  refine sv_ialdc (m := 2) d_Host_takeFrame_56 (st_2_8 hr0) (by decide) rfl ?_
  refine sv_bipush (x := (8 : Int32)) d_Host_takeFrame_57 (by decide) ?_
  refine sv_icmp_ne 76 d_Host_takeFrame_59 rfl ?_ ?_
  · refine sv_iconst (x := (0 : Int32)) d_Host_takeFrame_76 (by decide) ?_
    exact sv_zretc rfl (by decide) d_Host_takeFrame_77
  · refine sv_aload_n d_Host_takeFrame_62 rfl ?_
    refine sv_iload_n d_Host_takeFrame_63 rfl ?_
    refine sv_iconst (x := (3 : Int32)) d_Host_takeFrame_64 (by decide) ?_
    refine sv_isub d_Host_takeFrame_65 ?_
    refine sv_callVi (d := d + 4) (as := [.int (l2 - (3 : Int32))]) d_Host_takeFrame_66 (wv_Host_93 mc_70) hr0 ⟨_, rfl, rfl⟩ rfl (Nat.le_of_ble_eq_true rfl) rfl (c_Host_takePacket (d + 0) r0 (l2 - (3 : Int32)) v hr0) (fun x6 v5 => ?_)
    refine sv_if_eq 76 d_Host_takeFrame_69 rfl ?_ ?_
    · refine sv_iconst (x := (0 : Int32)) d_Host_takeFrame_76 (by decide) ?_
      exact sv_zretc rfl (by decide) d_Host_takeFrame_77
    · refine sv_iconst (x := (1 : Int32)) d_Host_takeFrame_72 (by decide) ?_
      refine sv_goto 77 d_Host_takeFrame_73 rfl ?_
      exact sv_zretc rfl (by decide) d_Host_takeFrame_77
set_option maxHeartbeats 4000000 in
set_option maxRecDepth 100000 in
theorem c_Host_takeFrame (d : Nat) (q : Nat) (a1 : Nat) (v : sv_T) (hq : sv_isO (sg q) 2 = true) (ha1 : sv_isO (sg a1) 1 = true) : sv_Cl (d + 5) 70 [.ref q, .ref a1] v (f_Host_takeFrame q a1 v) sv_Zi := by
  refine sv_spec (ls0 := [some (.ref q), some (.ref a1), none]) mp_70 (Nat.le_of_ble_eq_true rfl) rfl ?_
  unfold f_Host_takeFrame
  refine sv_aload_n d_Host_takeFrame_0 rfl ?_
  refine sv_aload_n d_Host_takeFrame_1 rfl ?_
  refine sv_getr d_Host_takeFrame_2 (gf_Host_65 mc_70) hq (sr_2_8 hq) ?_
  refine sv_iconst (x := (0 : Int32)) d_Host_takeFrame_5 (by decide) ?_
  refine sv_callVi (d := d + 4) (as := [.ref (sv_ref (sg q) 8), .int (0 : Int32)]) d_Host_takeFrame_6 (wv_Host_81 mc_70) ha1 ⟨_, rfl, rfl⟩ rfl (Nat.le_of_ble_eq_true rfl) rfl (c_Rows_takeFirst (d + 2) a1 (sv_ref (sg q) 8) (0 : Int32) v ha1 (sv_isAl (st_2_8 hq))) (fun x2 v1 => ?_)
  refine sv_istore_n (ls' := [some (.ref q), some (.ref a1), some (.int x2)]) d_Host_takeFrame_9 (by decide) rfl ?_
  refine sv_aload_n d_Host_takeFrame_10 rfl ?_
  refine sv_getr d_Host_takeFrame_11 (gf_Host_27 mc_70) hq (sr_2_1 hq) ?_
  refine sv_aload_n d_Host_takeFrame_14 rfl ?_
  refine sv_getr d_Host_takeFrame_15 (gf_Host_65 mc_70) hq (sr_2_8 hq) ?_
  refine sv_iconst (x := (0 : Int32)) d_Host_takeFrame_18 (by decide) ?_
  refine sv_ialdc (m := 0) d_Host_takeFrame_19 (st_2_8 hq) (by decide) rfl ?_
  refine sv_callVi (d := d + 4) (as := [.int (v1 (sv_ref (sg q) 8) 0)]) d_Host_takeFrame_20 (wv_Host_85 mc_70) (st_2_1 hq) ⟨_, rfl, rfl⟩ rfl (Nat.le_of_ble_eq_true rfl) rfl (c_Link_isForMe (d + 4) (sv_ref (sg q) 1) (v1 (sv_ref (sg q) 8) 0) v1 (st_2_1 hq)) (fun x4 v3 => ?_)
  refine sv_if_ne 28 d_Host_takeFrame_23 rfl ?_ ?_
  · refine sv_aload_n d_Host_takeFrame_28 rfl ?_
    refine sv_getr d_Host_takeFrame_29 (gf_Host_65 mc_70) hq (sr_2_8 hq) ?_
    refine sv_iconst (x := (2 : Int32)) d_Host_takeFrame_32 (by decide) ?_
    refine sv_ialdc (m := 2) d_Host_takeFrame_33 (st_2_8 hq) (by decide) rfl ?_
    refine sv_bipush (x := (6 : Int32)) d_Host_takeFrame_34 (by decide) ?_
    refine sv_icmp_ne 51 d_Host_takeFrame_36 rfl ?_ ?_
    · refine sv_kill (ls' := [some (.ref q), none, some (.int x2)]) ⟨rfl, rfl, trivial⟩ ?_
      exact c_Host_takeFrame_b51 d q x2 v3 hq
    · refine sv_aload_n d_Host_takeFrame_39 rfl ?_
      refine sv_getr d_Host_takeFrame_40 (gf_Host_27 mc_70) hq (sr_2_1 hq) ?_
      refine sv_aload_n d_Host_takeFrame_43 rfl ?_
      refine sv_getr d_Host_takeFrame_44 (gf_Host_65 mc_70) hq (sr_2_8 hq) ?_
      refine sv_iload_n d_Host_takeFrame_47 rfl ?_
      refine sv_callVv (d := d + 4) (as := [.ref (sv_ref (sg q) 8), .int x2]) d_Host_takeFrame_48 (wv_Host_89 mc_70) (st_2_1 hq) ⟨_, rfl, rfl⟩ rfl (Nat.le_of_ble_eq_true rfl) rfl (c_Link_takeAsk (d + 0) (sv_ref (sg q) 1) (sv_ref (sg q) 8) x2 v3 (st_2_1 hq) (sv_isAl (st_2_8 hq))) (fun v7 => ?_)
      refine sv_kill (ls' := [some (.ref q), none, some (.int x2)]) ⟨rfl, rfl, trivial⟩ ?_
      exact c_Host_takeFrame_b51 d q x2 v7 hq
  · refine sv_iconst (x := (0 : Int32)) d_Host_takeFrame_26 (by decide) ?_
    exact sv_zretc rfl (by decide) d_Host_takeFrame_27
def f_Host_takeEcho (q : Nat) (a1 : Int32) (v : sv_T) : Option (sv_T) :=
  if a1 < (5 : Int32) then
  some v
  else
  if (v (sv_ref (sg q) 7) 1) = 0 then
  sv_bi (f_Num_check (0 : Int32) (sv_ref (sg q) 7) (0 : Int32) a1 v) fun x2 v1 =>
  if x2 = 0 then
  if (v1 (sv_ref (sg q) 7) 0) = (8 : Int32) then
  sv_cc (0 : Int32) (1 : Int32) a1 48 49 <| sv_ls (sv_cp v1 (sv_ref (sg q) 7) (0 : Int32).toNatClampNeg (sv_ref (sg q) 10) (1 : Int32).toNatClampNeg a1.toNatClampNeg) fun v5 =>
  sv_ls (sv_up v5 (sv_ref (sg q) 10) 1 (0 : Int32)) fun v6 =>
  sv_bv (f_Host_leaveEcho q a1 v6) fun v7 =>
  some v7
  else
  if (v1 (sv_ref (sg q) 7) 0) = 0 then
  sv_ls (sv_up v1 q 12 ((v1 q 12) + (1 : Int32))) fun v3 =>
  sv_ls (sv_up v3 q 13 (v3 (sv_ref (sg q) 7) 4)) fun v4 =>
  some v4
  else
  some v1
  else
  some v1
  else
  some v
set_option maxHeartbeats 4000000 in
set_option maxRecDepth 100000 in
theorem c_Host_takeEcho (d : Nat) (q : Nat) (a1 : Int32) (v : sv_T) (hq : sv_isO (sg q) 2 = true) : sv_Cl (d + 3) 84 [.ref q, .int a1] v (f_Host_takeEcho q a1 v) sv_Zv := by
  refine sv_spec (ls0 := [some (.ref q), some (.int a1)]) mp_84 (Nat.le_of_ble_eq_true rfl) rfl ?_
  unfold f_Host_takeEcho
  refine sv_iload_n d_Host_takeEcho_0 rfl ?_
  refine sv_iconst (x := (5 : Int32)) d_Host_takeEcho_1 (by decide) ?_
  refine sv_icmp_lt 27 d_Host_takeEcho_2 rfl ?_ ?_
  · exact sv_vret rfl d_Host_takeEcho_27
  · refine sv_aload_n d_Host_takeEcho_5 rfl ?_
    refine sv_getr d_Host_takeEcho_6 (gf_Host_61 mc_84) hq (sr_2_7 hq) ?_
    refine sv_iconst (x := (1 : Int32)) d_Host_takeEcho_9 (by decide) ?_
    refine sv_ialdc (m := 1) d_Host_takeEcho_10 (st_2_7 hq) (by decide) rfl ?_
    refine sv_if_ne 27 d_Host_takeEcho_11 rfl ?_ ?_
    · exact sv_vret rfl d_Host_takeEcho_27
    · refine sv_iconst (x := (0 : Int32)) d_Host_takeEcho_14 (by decide) ?_
      refine sv_aload_n d_Host_takeEcho_15 rfl ?_
      refine sv_getr d_Host_takeEcho_16 (gf_Host_61 mc_84) hq (sr_2_7 hq) ?_
      refine sv_iconst (x := (0 : Int32)) d_Host_takeEcho_19 (by decide) ?_
      refine sv_iload_n d_Host_takeEcho_20 rfl ?_
      refine sv_callSi (d := d + 2) (as := [.int (0 : Int32), .ref (sv_ref (sg q) 7), .int (0 : Int32), .int a1]) d_Host_takeEcho_21 (ws_Host_168 mc_84)  rfl (Nat.le_of_ble_eq_true rfl) rfl (c_Num_check (d + 2) (0 : Int32) (sv_ref (sg q) 7) (0 : Int32) a1 v (sv_isAl (st_2_7 hq))) (fun x2 v1 => ?_)
      refine sv_if_eq 28 d_Host_takeEcho_24 rfl ?_ ?_
      · refine sv_aload_n d_Host_takeEcho_28 rfl ?_
        refine sv_getr d_Host_takeEcho_29 (gf_Host_61 mc_84) hq (sr_2_7 hq) ?_
        refine sv_iconst (x := (0 : Int32)) d_Host_takeEcho_32 (by decide) ?_
        refine sv_ialdc (m := 0) d_Host_takeEcho_33 (st_2_7 hq) (by decide) rfl ?_
        refine sv_bipush (x := (8 : Int32)) d_Host_takeEcho_34 (by decide) ?_
        refine sv_icmp_ne 68 d_Host_takeEcho_36 rfl ?_ ?_
        · refine sv_aload_n d_Host_takeEcho_68 rfl ?_
          refine sv_getr d_Host_takeEcho_69 (gf_Host_61 mc_84) hq (sr_2_7 hq) ?_
          refine sv_iconst (x := (0 : Int32)) d_Host_takeEcho_72 (by decide) ?_
          refine sv_ialdc (m := 0) d_Host_takeEcho_73 (st_2_7 hq) (by decide) rfl ?_
          refine sv_if_ne 97 d_Host_takeEcho_74 rfl ?_ ?_
          · exact sv_vret rfl d_Host_takeEcho_97
          · refine sv_aload_n d_Host_takeEcho_77 rfl ?_
            refine sv_dup d_Host_takeEcho_78 ?_
            refine sv_geti d_Host_takeEcho_79 (gf_Host_150 mc_84) hq (sd_2_12 hq) ?_
            refine sv_iconst (x := (1 : Int32)) d_Host_takeEcho_82 (by decide) ?_
            refine sv_iadd d_Host_takeEcho_83 ?_
            refine sv_puti d_Host_takeEcho_84 (pf_Host_150 mc_84) hq (sd_2_12 hq) (fun v3 => ?_)
            refine sv_aload_n d_Host_takeEcho_87 rfl ?_
            refine sv_aload_n d_Host_takeEcho_88 rfl ?_
            refine sv_getr d_Host_takeEcho_89 (gf_Host_61 mc_84) hq (sr_2_7 hq) ?_
            refine sv_iconst (x := (4 : Int32)) d_Host_takeEcho_92 (by decide) ?_
            refine sv_ialdc (m := 4) d_Host_takeEcho_93 (st_2_7 hq) (by decide) rfl ?_
            refine sv_puti d_Host_takeEcho_94 (pf_Host_74 mc_84) hq (sd_2_13 hq) (fun v4 => ?_)
            exact sv_vret rfl d_Host_takeEcho_97
        · refine sv_aload_n d_Host_takeEcho_39 rfl ?_
          refine sv_getr d_Host_takeEcho_40 (gf_Host_61 mc_84) hq (sr_2_7 hq) ?_
          refine sv_iconst (x := (0 : Int32)) d_Host_takeEcho_43 (by decide) ?_
          refine sv_aload_n d_Host_takeEcho_44 rfl ?_
          refine sv_getr d_Host_takeEcho_45 (gf_Host_71 mc_84) hq (sr_2_10 hq) ?_
          refine sv_iconst (x := (1 : Int32)) d_Host_takeEcho_48 (by decide) ?_
          refine sv_iload_n d_Host_takeEcho_49 rfl ?_
          refine sv_copy (d := d + 2) d_Host_takeEcho_50 (wc_Host_162 mc_84) (Nat.le_of_ble_eq_true rfl) (st_2_7 hq) (st_2_10 hq) (fun v5 => ?_)
          refine sv_aload_n d_Host_takeEcho_53 rfl ?_
          refine sv_getr d_Host_takeEcho_54 (gf_Host_71 mc_84) hq (sr_2_10 hq) ?_
          refine sv_iconst (x := (1 : Int32)) d_Host_takeEcho_57 (by decide) ?_
          refine sv_iconst (x := (0 : Int32)) d_Host_takeEcho_58 (by decide) ?_
          refine sv_iastc (m := 1) d_Host_takeEcho_59 (st_2_10 hq) (by decide) rfl (fun v6 => ?_)
          refine sv_aload_n d_Host_takeEcho_60 rfl ?_
          refine sv_iload_n d_Host_takeEcho_61 rfl ?_
          refine sv_callVv (d := d + 2) (as := [.int a1]) d_Host_takeEcho_62 (wv_Host_77 mc_84) hq ⟨_, rfl, rfl⟩ rfl (Nat.le_of_ble_eq_true rfl) rfl (c_Host_leaveEcho (d + 0) q a1 v6 hq) (fun v7 => ?_)
          refine sv_goto 97 d_Host_takeEcho_65 rfl ?_
          exact sv_vret rfl d_Host_takeEcho_97
      · exact sv_vret rfl d_Host_takeEcho_27
def f_Host_takeMessage (q : Nat) (a1 : Int32) (v : sv_T) : Option (sv_T) :=
  if (v (sv_ref (sg q) 2) 4) = (1 : Int32) then
  sv_bv (f_Host_takeEcho q (v (sv_ref (sg q) 2) 3) v) fun v11 =>
  some v11
  else
  if (v (sv_ref (sg q) 2) 4) = (6 : Int32) then
  sv_bi (f_Link_addressOf ((1 : Int32) - (sv_int (sg q) 0)) v) fun x2 v1 =>
  sv_bi (f_Link_addressOf (sv_int (sg q) 0) v1) fun x4 v3 =>
  sv_bi (f_Seg_isRight (sv_ref (sg q) 3) (v (sv_ref (sg q) 2) 3) x2 x4 v3) fun x6 v5 =>
  if x6 = 0 then
  some v5
  else
  sv_bo (f_Host_endpointAt q (v5 (sv_ref (sg q) 3) 2) v5) (fun v7 =>
  some v7) (fun r9 v8 =>
  sv_to r9 7 <|
  sv_bv (f_Ep_takeSegment r9 (sv_ref (sg q) 3) a1 v8) fun v10 =>
  some v10)
  else
  some v
set_option maxHeartbeats 4000000 in
set_option maxRecDepth 100000 in
theorem c_Host_takeMessage (d : Nat) (q : Nat) (a1 : Int32) (v : sv_T) (hq : sv_isO (sg q) 2 = true) : sv_Cl (d + 6) 83 [.ref q, .int a1] v (f_Host_takeMessage q a1 v) sv_Zv := by
  refine sv_spec (ls0 := [some (.ref q), some (.int a1), none]) mp_83 (Nat.le_of_ble_eq_true rfl) rfl ?_
  unfold f_Host_takeMessage
  refine sv_aload_n d_Host_takeMessage_0 rfl ?_
  refine sv_getr d_Host_takeMessage_1 (gf_Host_34 mc_83) hq (sr_2_2 hq) ?_
  refine sv_geti d_Host_takeMessage_4 (gf_Host_96 mc_83) (st_2_2 hq) (sd_4_4 (st_2_2 hq)) ?_
  refine sv_iconst (x := (1 : Int32)) d_Host_takeMessage_7 (by decide) ?_
  refine sv_icmp_ne 25 d_Host_takeMessage_8 rfl ?_ ?_
  · refine sv_aload_n d_Host_takeMessage_25 rfl ?_
    refine sv_getr d_Host_takeMessage_26 (gf_Host_34 mc_83) hq (sr_2_2 hq) ?_
    refine sv_geti d_Host_takeMessage_29 (gf_Host_96 mc_83) (st_2_2 hq) (sd_4_4 (st_2_2 hq)) ?_
    refine sv_bipush (x := (6 : Int32)) d_Host_takeMessage_32 (by decide) ?_
    refine sv_icmp_ne 95 d_Host_takeMessage_34 rfl ?_ ?_
    · exact sv_vret rfl d_Host_takeMessage_95
    · refine sv_aload_n d_Host_takeMessage_37 rfl ?_
      refine sv_getr d_Host_takeMessage_38 (gf_Host_41 mc_83) hq (sr_2_3 hq) ?_
      refine sv_aload_n d_Host_takeMessage_41 rfl ?_
      refine sv_getr d_Host_takeMessage_42 (gf_Host_34 mc_83) hq (sr_2_2 hq) ?_
      refine sv_geti d_Host_takeMessage_45 (gf_Host_99 mc_83) (st_2_2 hq) (sd_4_3 (st_2_2 hq)) ?_
      refine sv_iconst (x := (1 : Int32)) d_Host_takeMessage_48 (by decide) ?_
      refine sv_aload_n d_Host_takeMessage_49 rfl ?_
      refine sv_gets d_Host_takeMessage_50 (gf_Host_18 mc_83) hq (si_2_0 hq) ?_
      refine sv_isub d_Host_takeMessage_53 ?_
      refine sv_callSi (d := d + 5) (as := [.int ((1 : Int32) - (sv_int (sg q) 0))]) d_Host_takeMessage_54 (ws_Host_105 mc_83)  rfl (Nat.le_of_ble_eq_true rfl) rfl (c_Link_addressOf (d + 5) ((1 : Int32) - (sv_int (sg q) 0)) v ) (fun x2 v1 => ?_)
      refine sv_aload_n d_Host_takeMessage_57 rfl ?_
      refine sv_gets d_Host_takeMessage_58 (gf_Host_18 mc_83) hq (si_2_0 hq) ?_
      refine sv_callSi (d := d + 5) (as := [.int (sv_int (sg q) 0)]) d_Host_takeMessage_61 (ws_Host_105 mc_83)  rfl (Nat.le_of_ble_eq_true rfl) rfl (c_Link_addressOf (d + 5) (sv_int (sg q) 0) v1 ) (fun x4 v3 => ?_)
      refine sv_callVi (d := d + 5) (as := [.int (v (sv_ref (sg q) 2) 3), .int x2, .int x4]) d_Host_takeMessage_64 (wv_Host_109 mc_83) (st_2_3 hq) ⟨_, rfl, rfl⟩ rfl (Nat.le_of_ble_eq_true rfl) rfl (c_Seg_isRight (d + 4) (sv_ref (sg q) 3) (v (sv_ref (sg q) 2) 3) x2 x4 v3 (st_2_3 hq)) (fun x6 v5 => ?_)
      refine sv_if_eq 95 d_Host_takeMessage_67 rfl ?_ ?_
      · exact sv_vret rfl d_Host_takeMessage_95
      · refine sv_aload_n d_Host_takeMessage_70 rfl ?_
        refine sv_aload_n d_Host_takeMessage_71 rfl ?_
        refine sv_getr d_Host_takeMessage_72 (gf_Host_41 mc_83) hq (sr_2_3 hq) ?_
        refine sv_geti d_Host_takeMessage_75 (gf_Host_113 mc_83) (st_2_3 hq) (sd_6_2 (st_2_3 hq)) ?_
        refine sv_callVr (d := d + 5) (as := [.int (v5 (sv_ref (sg q) 3) 2)]) d_Host_takeMessage_78 (wv_Host_114 mc_83) hq ⟨_, rfl, rfl⟩ rfl (Nat.le_of_ble_eq_true rfl) rfl (c_Host_endpointAt (d + 5) q (v5 (sv_ref (sg q) 3) 2) v5 hq) (fun v7 => ?_) (fun r9 v8 => ?_)
        · refine sv_astore_nN (ls' := [some (.ref q), some (.int a1), some (.null)]) d_Host_takeMessage_81 (by decide) rfl ?_
          refine sv_aload_nN d_Host_takeMessage_82 rfl ?_
          refine sv_ifnullN 95 d_Host_takeMessage_83 rfl ?_
          exact sv_vret rfl d_Host_takeMessage_95
        · refine sv_toR (fun hr9 => ?_)
          refine sv_astore_n (ls' := [some (.ref q), some (.int a1), some (.ref r9)]) d_Host_takeMessage_81 (by decide) rfl ?_
          refine sv_aload_n d_Host_takeMessage_82 rfl ?_
          refine sv_ifnull d_Host_takeMessage_83 ?_
          refine sv_aload_n d_Host_takeMessage_86 rfl ?_
          refine sv_aload_n d_Host_takeMessage_87 rfl ?_
          refine sv_getr d_Host_takeMessage_88 (gf_Host_41 mc_83) hq (sr_2_3 hq) ?_
          refine sv_iload_n d_Host_takeMessage_91 rfl ?_
          refine sv_callVv (d := d + 5) (as := [.ref (sv_ref (sg q) 3), .int a1]) d_Host_takeMessage_92 (wv_Host_118 mc_83) hr9 ⟨_, rfl, rfl⟩ rfl (Nat.le_of_ble_eq_true rfl) rfl (c_Ep_takeSegment (d + 0) r9 (sv_ref (sg q) 3) a1 v8 hr9 (st_2_3 hq)) (fun v10 => ?_)
          exact sv_vret rfl d_Host_takeMessage_95
  · refine sv_aload_n d_Host_takeMessage_11 rfl ?_
    refine sv_aload_n d_Host_takeMessage_12 rfl ?_
    refine sv_getr d_Host_takeMessage_13 (gf_Host_34 mc_83) hq (sr_2_2 hq) ?_
    refine sv_geti d_Host_takeMessage_16 (gf_Host_99 mc_83) (st_2_2 hq) (sd_4_3 (st_2_2 hq)) ?_
    refine sv_callVv (d := d + 5) (as := [.int (v (sv_ref (sg q) 2) 3)]) d_Host_takeMessage_19 (wv_Host_102 mc_83) hq ⟨_, rfl, rfl⟩ rfl (Nat.le_of_ble_eq_true rfl) rfl (c_Host_takeEcho (d + 2) q (v (sv_ref (sg q) 2) 3) v hq) (fun v11 => ?_)
    refine sv_goto 95 d_Host_takeMessage_22 rfl ?_
    exact sv_vret rfl d_Host_takeMessage_95
def f_Host_passTick (q : Nat) (v : sv_T) : Option (sv_T) :=
  sv_bv (f_Link_passTick (sv_ref (sg q) 1) v) fun v1 =>
  sv_bv (f_Pieces_passTick (sv_ref (sg q) 2) v1) fun v2 =>
  sv_bv (f_Ep_passTick (sv_ref (sg q) 4) v2) fun v3 =>
  sv_bv (f_Ep_passTick (sv_ref (sg q) 5) v3) fun v4 =>
  some v4
set_option maxHeartbeats 4000000 in
set_option maxRecDepth 100000 in
theorem c_Host_passTick (d : Nat) (q : Nat) (v : sv_T) (hq : sv_isO (sg q) 2 = true) : sv_Cl (d + 6) 117 [.ref q] v (f_Host_passTick q v) sv_Zv := by
  refine sv_spec (ls0 := [some (.ref q)]) mp_117 (Nat.le_of_ble_eq_true rfl) rfl ?_
  unfold f_Host_passTick
  refine sv_aload_n d_Host_passTick_0 rfl ?_
  refine sv_getr d_Host_passTick_1 (gf_Host_27 mc_117) hq (sr_2_1 hq) ?_
  refine sv_callVv (d := d + 5) (as := []) d_Host_passTick_4 (wv_Host_139 mc_117) (st_2_1 hq) ⟨_, rfl, rfl⟩ rfl (Nat.le_of_ble_eq_true rfl) rfl (c_Link_passTick (d + 5) (sv_ref (sg q) 1) v (st_2_1 hq)) (fun v1 => ?_)
  refine sv_aload_n d_Host_passTick_7 rfl ?_
  refine sv_getr d_Host_passTick_8 (gf_Host_34 mc_117) hq (sr_2_2 hq) ?_
  refine sv_callVv (d := d + 5) (as := []) d_Host_passTick_11 (wv_Host_142 mc_117) (st_2_2 hq) ⟨_, rfl, rfl⟩ rfl (Nat.le_of_ble_eq_true rfl) rfl (c_Pieces_passTick (d + 4) (sv_ref (sg q) 2) v1 (st_2_2 hq)) (fun v2 => ?_)
  refine sv_aload_n d_Host_passTick_14 rfl ?_
  refine sv_getr d_Host_passTick_15 (gf_Host_50 mc_117) hq (sr_2_4 hq) ?_
  refine sv_callVv (d := d + 5) (as := []) d_Host_passTick_18 (wv_Host_143 mc_117) (st_2_4 hq) ⟨_, rfl, rfl⟩ rfl (Nat.le_of_ble_eq_true rfl) rfl (c_Ep_passTick (d + 0) (sv_ref (sg q) 4) v2 (st_2_4 hq)) (fun v3 => ?_)
  refine sv_aload_n d_Host_passTick_21 rfl ?_
  refine sv_getr d_Host_passTick_22 (gf_Host_54 mc_117) hq (sr_2_5 hq) ?_
  refine sv_callVv (d := d + 5) (as := []) d_Host_passTick_25 (wv_Host_143 mc_117) (st_2_5 hq) ⟨_, rfl, rfl⟩ rfl (Nat.le_of_ble_eq_true rfl) rfl (c_Ep_passTick (d + 0) (sv_ref (sg q) 5) v3 (st_2_5 hq)) (fun v4 => ?_)
  exact sv_vret rfl d_Host_passTick_28
def f_Host_about (q : Nat) (a1 : Int32) (v : sv_T) : Option (Int32 × sv_T) :=
  if a1 = (0 : Int32) then
  some ((v (sv_ref (sg q) 1) 4), v)
  else
  if a1 = (1 : Int32) then
  sv_bi (f_Rows_count (sv_ref (sg (sv_ref (sg q) 1)) 2) v) fun x4 v3 =>
  some (x4, v3)
  else
  if a1 = (2 : Int32) then
  some ((v q 12), v)
  else
  if a1 = (3 : Int32) then
  some ((v q 13), v)
  else
  if a1 = (4 : Int32) then
  sv_bi (f_Pieces_slotsInUse (sv_ref (sg q) 2) v) fun x2 v1 =>
  some (x2, v1)
  else
  if a1 = (5 : Int32) then
  some ((v q 11), v)
  else
  if a1 = (6 : Int32) then
  some ((v (sv_ref (sg q) 1) 6), v)
  else
  if a1 = (7 : Int32) then
  some ((v (sv_ref (sg q) 1) 5), v)
  else
  some ((-1 : Int32), v)
set_option maxHeartbeats 4000000 in
set_option maxRecDepth 100000 in
theorem c_Host_about (d : Nat) (q : Nat) (a1 : Int32) (v : sv_T) (hq : sv_isO (sg q) 2 = true) : sv_Cl (d + 1) 128 [.ref q, .int a1] v (f_Host_about q a1 v) sv_Zi := by
  refine sv_spec (ls0 := [some (.ref q), some (.int a1)]) mp_128 (Nat.le_of_ble_eq_true rfl) rfl ?_
  unfold f_Host_about
  refine sv_iload_n d_Host_about_0 rfl ?_
  refine sv_if (fun c1_0 => ?_) (fun c1_0 => ?_)
  · refine sv_tableIn 48 d_Host_about_1 (0 : Int32) c1_0 (by decide) rfl rfl ?_
    refine sv_aload_n d_Host_about_48 rfl ?_
    refine sv_getr d_Host_about_49 (gf_Host_27 mc_128) hq (sr_2_1 hq) ?_
    refine sv_geti d_Host_about_52 (gf_Host_144 mc_128) (st_2_1 hq) (sd_3_4 (st_2_1 hq)) ?_
    exact sv_iret rfl d_Host_about_55
  · refine sv_if (fun c1_1 => ?_) (fun c1_1 => ?_)
    · refine sv_tableIn 56 d_Host_about_1 (1 : Int32) c1_1 (by decide) rfl rfl ?_
      refine sv_aload_n d_Host_about_56 rfl ?_
      refine sv_getr d_Host_about_57 (gf_Host_27 mc_128) hq (sr_2_1 hq) ?_
      refine sv_getr d_Host_about_60 (gf_Host_147 mc_128) (st_2_1 hq) (sr_3_2 (st_2_1 hq)) ?_
      refine sv_callVi (d := d + 0) (as := []) d_Host_about_63 (wv_Host_122 mc_128) (st_3_2 (st_2_1 hq)) ⟨_, rfl, rfl⟩ rfl (Nat.le_of_ble_eq_true rfl) rfl (c_Rows_count (d + 0) (sv_ref (sg (sv_ref (sg q) 1)) 2) v (st_3_2 (st_2_1 hq))) (fun x4 v3 => ?_)
      exact sv_iret rfl d_Host_about_66
    · refine sv_if (fun c1_2 => ?_) (fun c1_2 => ?_)
      · refine sv_tableIn 67 d_Host_about_1 (2 : Int32) c1_2 (by decide) rfl rfl ?_
        refine sv_aload_n d_Host_about_67 rfl ?_
        refine sv_geti d_Host_about_68 (gf_Host_150 mc_128) hq (sd_2_12 hq) ?_
        exact sv_iret rfl d_Host_about_71
      · refine sv_if (fun c1_3 => ?_) (fun c1_3 => ?_)
        · refine sv_tableIn 72 d_Host_about_1 (3 : Int32) c1_3 (by decide) rfl rfl ?_
          refine sv_aload_n d_Host_about_72 rfl ?_
          refine sv_geti d_Host_about_73 (gf_Host_74 mc_128) hq (sd_2_13 hq) ?_
          exact sv_iret rfl d_Host_about_76
        · refine sv_if (fun c1_4 => ?_) (fun c1_4 => ?_)
          · refine sv_tableIn 77 d_Host_about_1 (4 : Int32) c1_4 (by decide) rfl rfl ?_
            refine sv_aload_n d_Host_about_77 rfl ?_
            refine sv_getr d_Host_about_78 (gf_Host_34 mc_128) hq (sr_2_2 hq) ?_
            refine sv_callVi (d := d + 0) (as := []) d_Host_about_81 (wv_Host_153 mc_128) (st_2_2 hq) ⟨_, rfl, rfl⟩ rfl (Nat.le_of_ble_eq_true rfl) rfl (c_Pieces_slotsInUse (d + 0) (sv_ref (sg q) 2) v (st_2_2 hq)) (fun x2 v1 => ?_)
            exact sv_iret rfl d_Host_about_84
          · refine sv_if (fun c1_5 => ?_) (fun c1_5 => ?_)
            · refine sv_tableIn 85 d_Host_about_1 (5 : Int32) c1_5 (by decide) rfl rfl ?_
              refine sv_aload_n d_Host_about_85 rfl ?_
              refine sv_geti d_Host_about_86 (gf_Host_136 mc_128) hq (sd_2_11 hq) ?_
              exact sv_iret rfl d_Host_about_89
            · refine sv_if (fun c1_6 => ?_) (fun c1_6 => ?_)
              · refine sv_tableIn 90 d_Host_about_1 (6 : Int32) c1_6 (by decide) rfl rfl ?_
                refine sv_aload_n d_Host_about_90 rfl ?_
                refine sv_getr d_Host_about_91 (gf_Host_27 mc_128) hq (sr_2_1 hq) ?_
                refine sv_geti d_Host_about_94 (gf_Host_156 mc_128) (st_2_1 hq) (sd_3_6 (st_2_1 hq)) ?_
                exact sv_iret rfl d_Host_about_97
              · refine sv_if (fun c1_7 => ?_) (fun c1_7 => ?_)
                · refine sv_tableIn 98 d_Host_about_1 (7 : Int32) c1_7 (by decide) rfl rfl ?_
                  refine sv_aload_n d_Host_about_98 rfl ?_
                  refine sv_getr d_Host_about_99 (gf_Host_27 mc_128) hq (sr_2_1 hq) ?_
                  refine sv_geti d_Host_about_102 (gf_Host_159 mc_128) (st_2_1 hq) (sd_3_5 (st_2_1 hq)) ?_
                  exact sv_iret rfl d_Host_about_105
                · refine sv_tableOut 106 d_Host_about_1 (sv_out (fun k h1 h2 => by
                    rcases (show k = 0 ∨ k = 1 ∨ k = 2 ∨ k = 3 ∨ k = 4 ∨ k = 5 ∨ k = 6 ∨ k = 7 by omega) with rfl | rfl | rfl | rfl | rfl | rfl | rfl | rfl
                    · exact c1_0
                    · exact c1_1
                    · exact c1_2
                    · exact c1_3
                    · exact c1_4
                    · exact c1_5
                    · exact c1_6
                    · exact c1_7
                    )) rfl ?_
                  refine sv_iconst (x := (-1 : Int32)) d_Host_about_106 (by decide) ?_
                  exact sv_iret rfl d_Host_about_107
