def f_Pieces_keepMessage (q : Nat) (a1 : Nat) (a2 : Int32) (a3 : Int32) (a4 : Int32) (v : sv_T) : Option (sv_T) :=
  sv_cc a2 (0 : Int32) a3 (sv_len (sg a1)) 48 <| sv_ls (sv_cp v a1 a2.toNatClampNeg (sv_ref (sg q) 2) (0 : Int32).toNatClampNeg a3.toNatClampNeg) fun v1 =>
  sv_ls (sv_up v1 q 3 a3) fun v2 =>
  sv_ls (sv_up v2 q 4 a4) fun v3 =>
  some v3
set_option maxHeartbeats 4000000 in
set_option maxRecDepth 100000 in
theorem c_Pieces_keepMessage (d : Nat) (q : Nat) (a1 : Nat) (a2 : Int32) (a3 : Int32) (a4 : Int32) (v : sv_T) (hq : sv_isO (sg q) 4 = true) (ha1 : sv_isA (sg a1) 0 (sv_len (sg a1)) = true) : sv_Cl (d + 1) 76 [.ref q, .ref a1, .int a2, .int a3, .int a4] v (f_Pieces_keepMessage q a1 a2 a3 a4 v) sv_Zv := by
  refine sv_spec (ls0 := [some (.ref q), some (.ref a1), some (.int a2), some (.int a3), some (.int a4)]) mp_76 (Nat.le_of_ble_eq_true rfl) rfl ?_
  unfold f_Pieces_keepMessage
  refine sv_aload_n d_Pieces_keepMessage_0 rfl ?_
  refine sv_iload_n d_Pieces_keepMessage_1 rfl ?_
  refine sv_aload_n d_Pieces_keepMessage_2 rfl ?_
  refine sv_getr d_Pieces_keepMessage_3 (gf_Pieces_11 mc_76) hq (sr_4_2 hq) ?_
  refine sv_iconst (x := (0 : Int32)) d_Pieces_keepMessage_6 (by decide) ?_
  refine sv_iload_n d_Pieces_keepMessage_7 rfl ?_
  refine sv_copy (d := d + 0) d_Pieces_keepMessage_8 (wc_Pieces_58 mc_76) (Nat.le_of_ble_eq_true rfl) ha1 (st_4_2 hq) (fun v1 => ?_)
  refine sv_aload_n d_Pieces_keepMessage_11 rfl ?_
  refine sv_iload_n d_Pieces_keepMessage_12 rfl ?_
  refine sv_puti d_Pieces_keepMessage_13 (pf_Pieces_64 mc_76) hq (sd_4_3 hq) (fun v2 => ?_)
  refine sv_aload_n d_Pieces_keepMessage_16 rfl ?_
  refine sv_iload d_Pieces_keepMessage_17 rfl ?_
  refine sv_puti d_Pieces_keepMessage_19 (pf_Pieces_67 mc_76) hq (sd_4_4 hq) (fun v3 => ?_)
  exact sv_vret rfl d_Pieces_keepMessage_22
def f_Pieces_slotToBegin (q : Nat) (v : sv_T) : Option (Option Nat × sv_T) :=
  if (v (sv_ref (sg q) 0) 1) = 0 then
  some (some (sv_ref (sg q) 0), v)
  else
  if (v (sv_ref (sg q) 1) 1) = 0 then
  some (some (sv_ref (sg q) 1), v)
  else
  if (v (sv_ref (sg q) 0) 4) < (v (sv_ref (sg q) 1) 4) then
  some (some (sv_ref (sg q) 1), v)
  else
  some (some (sv_ref (sg q) 0), v)
set_option maxHeartbeats 4000000 in
set_option maxRecDepth 100000 in
theorem c_Pieces_slotToBegin (d : Nat) (q : Nat) (v : sv_T) (hq : sv_isO (sg q) 4 = true) : sv_Cl (d + 0) 79 [.ref q] v (f_Pieces_slotToBegin q v) sv_Zr := by
  refine sv_spec (ls0 := [some (.ref q)]) mp_79 (Nat.le_of_ble_eq_true rfl) rfl ?_
  unfold f_Pieces_slotToBegin
  refine sv_aload_n d_Pieces_slotToBegin_0 rfl ?_
  refine sv_getr d_Pieces_slotToBegin_1 (gf_Pieces_18 mc_79) hq (sr_4_0 hq) ?_
  refine sv_geti d_Pieces_slotToBegin_4 (gf_Pieces_51 mc_79) (st_4_0 hq) (sd_5_1 (st_4_0 hq)) ?_
  refine sv_if_ne 15 d_Pieces_slotToBegin_7 rfl ?_ ?_
  · refine sv_aload_n d_Pieces_slotToBegin_15 rfl ?_
    refine sv_getr d_Pieces_slotToBegin_16 (gf_Pieces_22 mc_79) hq (sr_4_1 hq) ?_
    refine sv_geti d_Pieces_slotToBegin_19 (gf_Pieces_51 mc_79) (st_4_1 hq) (sd_5_1 (st_4_1 hq)) ?_
    refine sv_if_ne 30 d_Pieces_slotToBegin_22 rfl ?_ ?_
    · refine sv_aload_n d_Pieces_slotToBegin_30 rfl ?_
      refine sv_getr d_Pieces_slotToBegin_31 (gf_Pieces_22 mc_79) hq (sr_4_1 hq) ?_
      refine sv_geti d_Pieces_slotToBegin_34 (gf_Pieces_79 mc_79) (st_4_1 hq) (sd_5_4 (st_4_1 hq)) ?_
      refine sv_aload_n d_Pieces_slotToBegin_37 rfl ?_
      refine sv_getr d_Pieces_slotToBegin_38 (gf_Pieces_18 mc_79) hq (sr_4_0 hq) ?_
      refine sv_geti d_Pieces_slotToBegin_41 (gf_Pieces_79 mc_79) (st_4_0 hq) (sd_5_4 (st_4_0 hq)) ?_
      refine sv_icmp_le 54 d_Pieces_slotToBegin_44 rfl ?_ ?_
      · refine sv_aload_n d_Pieces_slotToBegin_54 rfl ?_
        refine sv_getr d_Pieces_slotToBegin_55 (gf_Pieces_18 mc_79) hq (sr_4_0 hq) ?_
        exact sv_aret rfl d_Pieces_slotToBegin_58
      · refine sv_aload_n d_Pieces_slotToBegin_47 rfl ?_
        refine sv_getr d_Pieces_slotToBegin_48 (gf_Pieces_22 mc_79) hq (sr_4_1 hq) ?_
        refine sv_goto 58 d_Pieces_slotToBegin_51 rfl ?_
        exact sv_aret rfl d_Pieces_slotToBegin_58
    · refine sv_aload_n d_Pieces_slotToBegin_25 rfl ?_
      refine sv_getr d_Pieces_slotToBegin_26 (gf_Pieces_22 mc_79) hq (sr_4_1 hq) ?_
      exact sv_aret rfl d_Pieces_slotToBegin_29
  · refine sv_aload_n d_Pieces_slotToBegin_10 rfl ?_
    refine sv_getr d_Pieces_slotToBegin_11 (gf_Pieces_18 mc_79) hq (sr_4_0 hq) ?_
    exact sv_aret rfl d_Pieces_slotToBegin_14
def f_Pieces_slotFor (q : Nat) (a1 : Int32) (a2 : Int32) (v : sv_T) : Option (Option Nat × sv_T) :=
  sv_bi (f_Slot_holds (sv_ref (sg q) 0) a1 a2 v) fun x2 v1 =>
  if x2 = 0 then
  sv_bi (f_Slot_holds (sv_ref (sg q) 1) a1 a2 v1) fun x4 v3 =>
  if x4 = 0 then
  sv_bo (f_Pieces_slotToBegin q v3) (fun v5 =>
  none) (fun r7 v6 =>
  sv_to r7 5 <|
  sv_bv (f_Slot_begin r7 a1 a2 v6) fun v8 =>
  some (some r7, v8))
  else
  some (some (sv_ref (sg q) 1), v3)
  else
  some (some (sv_ref (sg q) 0), v1)
set_option maxHeartbeats 4000000 in
set_option maxRecDepth 100000 in
theorem c_Pieces_slotFor (d : Nat) (q : Nat) (a1 : Int32) (a2 : Int32) (v : sv_T) (hq : sv_isO (sg q) 4 = true) : sv_Cl (d + 2) 77 [.ref q, .int a1, .int a2] v (f_Pieces_slotFor q a1 a2 v) sv_Zr := by
  refine sv_spec (ls0 := [some (.ref q), some (.int a1), some (.int a2), none]) mp_77 (Nat.le_of_ble_eq_true rfl) rfl ?_
  unfold f_Pieces_slotFor
  refine sv_aload_n d_Pieces_slotFor_0 rfl ?_
  refine sv_getr d_Pieces_slotFor_1 (gf_Pieces_18 mc_77) hq (sr_4_0 hq) ?_
  refine sv_iload_n d_Pieces_slotFor_4 rfl ?_
  refine sv_iload_n d_Pieces_slotFor_5 rfl ?_
  refine sv_callVi (d := d + 1) (as := [.int a1, .int a2]) d_Pieces_slotFor_6 (wv_Pieces_68 mc_77) (st_4_0 hq) ⟨_, rfl, rfl⟩ rfl (Nat.le_of_ble_eq_true rfl) rfl (c_Slot_holds (d + 1) (sv_ref (sg q) 0) a1 a2 v (st_4_0 hq)) (fun x2 v1 => ?_)
  refine sv_if_eq 17 d_Pieces_slotFor_9 rfl ?_ ?_
  · refine sv_aload_n d_Pieces_slotFor_17 rfl ?_
    refine sv_getr d_Pieces_slotFor_18 (gf_Pieces_22 mc_77) hq (sr_4_1 hq) ?_
    refine sv_iload_n d_Pieces_slotFor_21 rfl ?_
    refine sv_iload_n d_Pieces_slotFor_22 rfl ?_
    refine sv_callVi (d := d + 1) (as := [.int a1, .int a2]) d_Pieces_slotFor_23 (wv_Pieces_68 mc_77) (st_4_1 hq) ⟨_, rfl, rfl⟩ rfl (Nat.le_of_ble_eq_true rfl) rfl (c_Slot_holds (d + 1) (sv_ref (sg q) 1) a1 a2 v1 (st_4_1 hq)) (fun x4 v3 => ?_)
    refine sv_if_eq 34 d_Pieces_slotFor_26 rfl ?_ ?_
    · refine sv_aload_n d_Pieces_slotFor_34 rfl ?_
      refine sv_callVr (d := d + 1) (as := []) d_Pieces_slotFor_35 (wv_Pieces_72 mc_77) hq ⟨_, rfl, rfl⟩ rfl (Nat.le_of_ble_eq_true rfl) rfl (c_Pieces_slotToBegin (d + 1) q v3 hq) (fun v5 => ?_) (fun r7 v6 => ?_)
      · exact sv_none
      · refine sv_toR (fun hr7 => ?_)
        refine sv_astore_n (ls' := [some (.ref q), some (.int a1), some (.int a2), some (.ref r7)]) d_Pieces_slotFor_38 (by decide) rfl ?_
        refine sv_aload_n d_Pieces_slotFor_39 rfl ?_
        refine sv_iload_n d_Pieces_slotFor_40 rfl ?_
        refine sv_iload_n d_Pieces_slotFor_41 rfl ?_
        refine sv_callVv (d := d + 1) (as := [.int a1, .int a2]) d_Pieces_slotFor_42 (wv_Pieces_76 mc_77) hr7 ⟨_, rfl, rfl⟩ rfl (Nat.le_of_ble_eq_true rfl) rfl (c_Slot_begin (d + 0) r7 a1 a2 v6 hr7) (fun v8 => ?_)
        refine sv_aload_n d_Pieces_slotFor_45 rfl ?_
        exact sv_aret rfl d_Pieces_slotFor_46
    · refine sv_aload_n d_Pieces_slotFor_29 rfl ?_
      refine sv_getr d_Pieces_slotFor_30 (gf_Pieces_22 mc_77) hq (sr_4_1 hq) ?_
      exact sv_aret rfl d_Pieces_slotFor_33
  · refine sv_aload_n d_Pieces_slotFor_12 rfl ?_
    refine sv_getr d_Pieces_slotFor_13 (gf_Pieces_18 mc_77) hq (sr_4_0 hq) ?_
    exact sv_aret rfl d_Pieces_slotFor_16
def f_Pieces_takePacket_l81 (r0 : Nat) (r1 : Nat) (l3 : Int32) (l4 : Int32) (l5 : Int32) (r6 : Nat) (l7 : Int32) (v : sv_T) : Option ((Int32 × sv_T) ⊕ (sv_T)) :=
  if l7 < l5 then
  sv_ck ((10 : Int32) + l7) (sv_len (sg r1)) <|
  sv_bv (f_Slot_put r6 (l3 + l7) (v r1 ((10 : Int32) + l7).toNatClampNeg) v) fun v6 =>
  sv_le (l7 + (1 : Int32)) fun x7 =>
  some (.inl (x7, v6))
  else
  some (.inr v)
def f_Pieces_takePacket_b124 (r0 : Nat) (r6 : Nat) (v : sv_T) : Option (Int32 × sv_T) :=
  sv_bi (f_Slot_isWhole r6 v) fun x9 v8 =>
  if x9 = 0 then
  some ((0 : Int32), v8)
  else
  sv_bv (f_Pieces_keepMessage r0 (sv_ref (sg r6) 0) (0 : Int32) (v8 r6 5) (v8 r6 3) v8) fun v10 =>
  sv_ls (sv_up v10 r6 1 (0 : Int32)) fun v11 =>
  some ((1 : Int32), v11)
def f_Pieces_takePacket_x110 (r0 : Nat) (l3 : Int32) (l4 : Int32) (l5 : Int32) (r6 : Nat) (v : sv_T) : Option (Int32 × sv_T) :=
  if l4 = 0 then
  sv_ls (sv_up v r6 5 (l3 + l5)) fun v12 =>
  f_Pieces_takePacket_b124 r0 r6 v12
  else
  f_Pieces_takePacket_b124 r0 r6 v
def f_Pieces_takePacket_b55 (r0 : Nat) (r1 : Nat) (l3 : Int32) (l4 : Int32) (l5 : Int32) (v : sv_T) : Option (Int32 × sv_T) :=
  if (48 : Int32) < (l3 + l5) then
  some ((0 : Int32), v)
  else
  sv_ck (1 : Int32) (sv_len (sg r1)) <|
  sv_ck (4 : Int32) (sv_len (sg r1)) <|
  sv_bo (f_Pieces_slotFor r0 (v r1 (1 : Int32).toNatClampNeg) (v r1 (4 : Int32).toNatClampNeg) v) (fun v3 =>
  none) (fun r5 v4 =>
  sv_to r5 5 <|
  Option.bind (sv_loop (fun (s : Int32 × sv_T) => f_Pieces_takePacket_l81 r0 r1 l3 l4 l5 r5 s.1 (s.2)) 100000 ((0 : Int32), v4)) (fun (s : sv_T) => f_Pieces_takePacket_x110 r0 l3 l4 l5 r5 s))
def f_Pieces_takePacket_b24 (r0 : Nat) (r1 : Nat) (l2 : Int32) (l3 : Int32) (s0 : Int32) (v : sv_T) : Option (Int32 × sv_T) :=
  sv_le ((l2 - (10 : Int32))) fun x2 =>
  if l3 = 0 then
  if s0 = 0 then
  sv_ck (4 : Int32) (sv_len (sg r1)) <|
  sv_bv (f_Pieces_keepMessage r0 r1 (10 : Int32) x2 (v r1 (4 : Int32).toNatClampNeg) v) fun v13 =>
  some ((1 : Int32), v13)
  else
  f_Pieces_takePacket_b55 r0 r1 l3 s0 x2 v
  else
  f_Pieces_takePacket_b55 r0 r1 l3 s0 x2 v
def f_Pieces_takePacket (q : Nat) (a1 : Nat) (a2 : Int32) (v : sv_T) : Option (Int32 × sv_T) :=
  sv_ck (2 : Int32) (sv_len (sg a1)) <|
  sv_le ((((v a1 (2 : Int32).toNatClampNeg) &&& (127 : Int32)) * (4 : Int32))) fun x1 =>
  sv_ck (2 : Int32) (sv_len (sg a1)) <|
  if ((v a1 (2 : Int32).toNatClampNeg) &&& (128 : Int32)) = 0 then
  f_Pieces_takePacket_b24 q a1 a2 x1 (0 : Int32) v
  else
  f_Pieces_takePacket_b24 q a1 a2 x1 (1 : Int32) v
set_option maxHeartbeats 4000000 in
set_option maxRecDepth 100000 in
theorem c_Pieces_takePacket_l81 (d : Nat) (r0 : Nat) (r1 : Nat) (l3 : Int32) (l4 : Int32) (l5 : Int32) (r6 : Nat) (l7 : Int32) (v : sv_T) (hr0 : sv_isO (sg r0) 4 = true) (hr1 : sv_isA (sg r1) 0 (sv_len (sg r1)) = true) (hr6 : sv_isO (sg r6) 5 = true) : sv_Ref (d + 3) 75 81 [some (.ref r0), some (.ref r1), none, some (.int l3), some (.int l4), some (.int l5), some (.ref r6), some (.int l7)] [] v (f_Pieces_takePacket_l81 r0 r1 l3 l4 l5 r6 l7 v) (sv_Zl (d + 3) 75 81 (fun (s : Int32 × sv_T) => [some (.ref r0), some (.ref r1), none, some (.int l3), some (.int l4), some (.int l5), some (.ref r6), some (.int s.1)]) (fun (s : Int32 × sv_T) => s.2) (sv_Zt (d + 3) 75 110 (fun (s : sv_T) => [some (.ref r0), none, none, some (.int l3), some (.int l4), some (.int l5), some (.ref r6), none]) (fun (s : sv_T) => s))) := by
  unfold f_Pieces_takePacket_l81
  refine sv_iload d_Pieces_takePacket_81 rfl ?_
  refine sv_iload d_Pieces_takePacket_83 rfl ?_
  refine sv_icmp_ge 110 d_Pieces_takePacket_85 rfl ?_ ?_
  · exact sv_leave v rfl ⟨rfl, rfl, rfl, rfl, rfl, trivial⟩ rfl
  · refine sv_aload d_Pieces_takePacket_88 rfl ?_
    refine sv_iload_n d_Pieces_takePacket_90 rfl ?_
    refine sv_iload d_Pieces_takePacket_91 rfl ?_
    refine sv_iadd d_Pieces_takePacket_93 ?_
    refine sv_aload_n d_Pieces_takePacket_94 rfl ?_
    refine sv_bipush (x := (10 : Int32)) d_Pieces_takePacket_95 (by decide) ?_
    refine sv_iload d_Pieces_takePacket_97 rfl ?_
    refine sv_iadd d_Pieces_takePacket_99 ?_
    refine sv_iald d_Pieces_takePacket_100 hr1 ?_
    refine sv_callVv (d := d + 2) (as := [.int (l3 + l7), .int (v r1 ((10 : Int32) + l7).toNatClampNeg)]) d_Pieces_takePacket_101 (wv_Pieces_33 mc_75) hr6 ⟨_, rfl, rfl⟩ rfl (Nat.le_of_ble_eq_true rfl) rfl (c_Slot_put (d + 2) r6 (l3 + l7) (v r1 ((10 : Int32) + l7).toNatClampNeg) v hr6) (fun v6 => ?_)
    refine sv_iinc (ls' := fun x7 => [some (.ref r0), some (.ref r1), none, some (.int l3), some (.int l4), some (.int l5), some (.ref r6), some (.int x7)]) (y := (1 : Int32)) d_Pieces_takePacket_104 rfl (by decide) (fun _ => rfl) (fun x7 => ?_)
    refine sv_goto 81 d_Pieces_takePacket_107 rfl ?_
    exact sv_next (x7, v6) ⟨rfl, rfl, rfl, rfl, rfl, rfl, rfl, trivial⟩ rfl
set_option maxHeartbeats 4000000 in
set_option maxRecDepth 100000 in
theorem c_Pieces_takePacket_b124 (d : Nat) (r0 : Nat) (r6 : Nat) (v : sv_T) (hr0 : sv_isO (sg r0) 4 = true) (hr6 : sv_isO (sg r6) 5 = true) : sv_Ref (d + 3) 75 124 [some (.ref r0), none, none, none, none, none, some (.ref r6), none] [] v (f_Pieces_takePacket_b124 r0 r6 v) (sv_Zi) := by
  unfold f_Pieces_takePacket_b124
  refine sv_aload d_Pieces_takePacket_124 rfl ?_
  refine sv_callVi (d := d + 2) (as := []) d_Pieces_takePacket_126 (wv_Pieces_41 mc_75) hr6 ⟨_, rfl, rfl⟩ rfl (Nat.le_of_ble_eq_true rfl) rfl (c_Slot_isWhole (d + 2) r6 v hr6) (fun x9 v8 => ?_)
  refine sv_if_ne 134 d_Pieces_takePacket_129 rfl ?_ ?_
  · refine sv_aload_n d_Pieces_takePacket_134 rfl ?_
    refine sv_aload d_Pieces_takePacket_135 rfl ?_
    refine sv_getr d_Pieces_takePacket_137 (gf_Pieces_45 mc_75) hr6 (sr_5_0 hr6) ?_
    refine sv_iconst (x := (0 : Int32)) d_Pieces_takePacket_140 (by decide) ?_
    refine sv_aload d_Pieces_takePacket_141 rfl ?_
    refine sv_geti d_Pieces_takePacket_143 (gf_Pieces_37 mc_75) hr6 (sd_5_5 hr6) ?_
    refine sv_aload d_Pieces_takePacket_146 rfl ?_
    refine sv_geti d_Pieces_takePacket_148 (gf_Pieces_48 mc_75) hr6 (sd_5_3 hr6) ?_
    refine sv_callVv (d := d + 2) (as := [.ref (sv_ref (sg r6) 0), .int (0 : Int32), .int (v8 r6 5), .int (v8 r6 3)]) d_Pieces_takePacket_151 (wv_Pieces_25 mc_75) hr0 ⟨_, rfl, rfl⟩ rfl (Nat.le_of_ble_eq_true rfl) rfl (c_Pieces_keepMessage (d + 1) r0 (sv_ref (sg r6) 0) (0 : Int32) (v8 r6 5) (v8 r6 3) v8 hr0 (sv_isAl (st_5_0 hr6))) (fun v10 => ?_)
    refine sv_aload d_Pieces_takePacket_154 rfl ?_
    refine sv_iconst (x := (0 : Int32)) d_Pieces_takePacket_156 (by decide) ?_
    refine sv_putz d_Pieces_takePacket_157 (pf_Pieces_51 mc_75) hr6 (sd_5_1 hr6) (by decide) (fun v11 => ?_)
    refine sv_iconst (x := (1 : Int32)) d_Pieces_takePacket_160 (by decide) ?_
    exact sv_zretc rfl (by decide) d_Pieces_takePacket_161
  · refine sv_iconst (x := (0 : Int32)) d_Pieces_takePacket_132 (by decide) ?_
    exact sv_zretc rfl (by decide) d_Pieces_takePacket_133
set_option maxHeartbeats 4000000 in
set_option maxRecDepth 100000 in
theorem c_Pieces_takePacket_x110 (d : Nat) (r0 : Nat) (l3 : Int32) (l4 : Int32) (l5 : Int32) (r6 : Nat) (v : sv_T) (hr0 : sv_isO (sg r0) 4 = true) (hr6 : sv_isO (sg r6) 5 = true) : sv_Ref (d + 3) 75 110 [some (.ref r0), none, none, some (.int l3), some (.int l4), some (.int l5), some (.ref r6), none] [] v (f_Pieces_takePacket_x110 r0 l3 l4 l5 r6 v) (sv_Zi) := by
  unfold f_Pieces_takePacket_x110
  refine sv_iload d_Pieces_takePacket_110 rfl ?_
  refine sv_if_ne 124 d_Pieces_takePacket_112 rfl ?_ ?_
  · refine sv_kill (ls' := [some (.ref r0), none, none, none, none, none, some (.ref r6), none]) ⟨rfl, rfl, trivial⟩ ?_
    exact c_Pieces_takePacket_b124 d r0 r6 v hr0 hr6
  · refine sv_aload d_Pieces_takePacket_115 rfl ?_
    refine sv_iload_n d_Pieces_takePacket_117 rfl ?_
    refine sv_iload d_Pieces_takePacket_118 rfl ?_
    refine sv_iadd d_Pieces_takePacket_120 ?_
    refine sv_puti d_Pieces_takePacket_121 (pf_Pieces_37 mc_75) hr6 (sd_5_5 hr6) (fun v12 => ?_)
    refine sv_kill (ls' := [some (.ref r0), none, none, none, none, none, some (.ref r6), none]) ⟨rfl, rfl, trivial⟩ ?_
    exact c_Pieces_takePacket_b124 d r0 r6 v12 hr0 hr6
set_option maxHeartbeats 4000000 in
set_option maxRecDepth 100000 in
theorem c_Pieces_takePacket_b55 (d : Nat) (r0 : Nat) (r1 : Nat) (l3 : Int32) (l4 : Int32) (l5 : Int32) (v : sv_T) (hr0 : sv_isO (sg r0) 4 = true) (hr1 : sv_isA (sg r1) 0 (sv_len (sg r1)) = true) : sv_Ref (d + 3) 75 55 [some (.ref r0), some (.ref r1), none, some (.int l3), some (.int l4), some (.int l5), none, none] [] v (f_Pieces_takePacket_b55 r0 r1 l3 l4 l5 v) (sv_Zi) := by
  unfold f_Pieces_takePacket_b55
  refine sv_iload_n d_Pieces_takePacket_55 rfl ?_
  refine sv_iload d_Pieces_takePacket_56 rfl ?_
  refine sv_iadd d_Pieces_takePacket_58 ?_
  refine sv_bipush (x := (48 : Int32)) d_Pieces_takePacket_59 (by decide) ?_
  refine sv_icmp_le 66 d_Pieces_takePacket_61 rfl ?_ ?_
  · refine sv_aload_n d_Pieces_takePacket_66 rfl ?_
    refine sv_aload_n d_Pieces_takePacket_67 rfl ?_
    refine sv_iconst (x := (1 : Int32)) d_Pieces_takePacket_68 (by decide) ?_
    refine sv_iald d_Pieces_takePacket_69 hr1 ?_
    refine sv_aload_n d_Pieces_takePacket_70 rfl ?_
    refine sv_iconst (x := (4 : Int32)) d_Pieces_takePacket_71 (by decide) ?_
    refine sv_iald d_Pieces_takePacket_72 hr1 ?_
    refine sv_callVr (d := d + 2) (as := [.int (v r1 (1 : Int32).toNatClampNeg), .int (v r1 (4 : Int32).toNatClampNeg)]) d_Pieces_takePacket_73 (wv_Pieces_29 mc_75) hr0 ⟨_, rfl, rfl⟩ rfl (Nat.le_of_ble_eq_true rfl) rfl (c_Pieces_slotFor (d + 0) r0 (v r1 (1 : Int32).toNatClampNeg) (v r1 (4 : Int32).toNatClampNeg) v hr0) (fun v3 => ?_) (fun r5 v4 => ?_)
    · exact sv_none
    · refine sv_toR (fun hr5 => ?_)
      refine sv_astore (ls' := [some (.ref r0), some (.ref r1), none, some (.int l3), some (.int l4), some (.int l5), some (.ref r5), none]) d_Pieces_takePacket_76 (by decide) rfl ?_
      refine sv_iconst (x := (0 : Int32)) d_Pieces_takePacket_78 (by decide) ?_
      refine sv_istore (ls' := [some (.ref r0), some (.ref r1), none, some (.int l3), some (.int l4), some (.int l5), some (.ref r5), some (.int (0 : Int32))]) d_Pieces_takePacket_79 (by decide) rfl ?_
      exact sv_seq (xt := 110) (L := (fun (s : sv_T) => [some (.ref r0), none, none, some (.int l3), some (.int l4), some (.int l5), some (.ref r5), none])) (S := (fun (s : sv_T) => s)) (sv_loopR (L := (fun (s : Int32 × sv_T) => [some (.ref r0), some (.ref r1), none, some (.int l3), some (.int l4), some (.int l5), some (.ref r5), some (.int s.1)])) (S := (fun (s : Int32 × sv_T) => s.2)) (fun s => c_Pieces_takePacket_l81 d r0 r1 l3 l4 l5 r5 s.1 (s.2) hr0 hr1 hr5) 100000 ((0 : Int32), v4)) (fun s => c_Pieces_takePacket_x110 d r0 l3 l4 l5 r5 s hr0 hr5)
  · refine sv_iconst (x := (0 : Int32)) d_Pieces_takePacket_64 (by decide) ?_
    exact sv_zretc rfl (by decide) d_Pieces_takePacket_65
set_option maxHeartbeats 4000000 in
set_option maxRecDepth 100000 in
theorem c_Pieces_takePacket_b24 (d : Nat) (r0 : Nat) (r1 : Nat) (l2 : Int32) (l3 : Int32) (s0 : Int32) (v : sv_T) (hr0 : sv_isO (sg r0) 4 = true) (hr1 : sv_isA (sg r1) 0 (sv_len (sg r1)) = true) : sv_Ref (d + 3) 75 24 [some (.ref r0), some (.ref r1), some (.int l2), some (.int l3), none, none, none, none] [.int s0] v (f_Pieces_takePacket_b24 r0 r1 l2 l3 s0 v) (sv_Zi) := by
  unfold f_Pieces_takePacket_b24
  refine sv_istore (ls' := [some (.ref r0), some (.ref r1), some (.int l2), some (.int l3), some (.int s0), none, none, none]) d_Pieces_takePacket_24 (by decide) rfl ?_
  refine sv_iload_n d_Pieces_takePacket_26 rfl ?_
  refine sv_bipush (x := (10 : Int32)) d_Pieces_takePacket_27 (by decide) ?_
  refine sv_isub d_Pieces_takePacket_29 ?_
  refine sv_leR (fun x2 => ?_)
  refine sv_istore (ls' := [some (.ref r0), some (.ref r1), some (.int l2), some (.int l3), some (.int s0), some (.int x2), none, none]) d_Pieces_takePacket_30 (by decide) rfl ?_
  refine sv_iload_n d_Pieces_takePacket_32 rfl ?_
  refine sv_if_ne 55 d_Pieces_takePacket_33 rfl ?_ ?_
  · refine sv_kill (ls' := [some (.ref r0), some (.ref r1), none, some (.int l3), some (.int s0), some (.int x2), none, none]) ⟨rfl, rfl, rfl, rfl, rfl, trivial⟩ ?_
    exact c_Pieces_takePacket_b55 d r0 r1 l3 s0 x2 v hr0 hr1
  · refine sv_iload d_Pieces_takePacket_36 rfl ?_
    refine sv_if_ne 55 d_Pieces_takePacket_38 rfl ?_ ?_
    · refine sv_kill (ls' := [some (.ref r0), some (.ref r1), none, some (.int l3), some (.int s0), some (.int x2), none, none]) ⟨rfl, rfl, rfl, rfl, rfl, trivial⟩ ?_
      exact c_Pieces_takePacket_b55 d r0 r1 l3 s0 x2 v hr0 hr1
    · refine sv_aload_n d_Pieces_takePacket_41 rfl ?_
      refine sv_aload_n d_Pieces_takePacket_42 rfl ?_
      refine sv_bipush (x := (10 : Int32)) d_Pieces_takePacket_43 (by decide) ?_
      refine sv_iload d_Pieces_takePacket_45 rfl ?_
      refine sv_aload_n d_Pieces_takePacket_47 rfl ?_
      refine sv_iconst (x := (4 : Int32)) d_Pieces_takePacket_48 (by decide) ?_
      refine sv_iald d_Pieces_takePacket_49 hr1 ?_
      refine sv_callVv (d := d + 2) (as := [.ref r1, .int (10 : Int32), .int x2, .int (v r1 (4 : Int32).toNatClampNeg)]) d_Pieces_takePacket_50 (wv_Pieces_25 mc_75) hr0 ⟨_, rfl, rfl⟩ rfl (Nat.le_of_ble_eq_true rfl) rfl (c_Pieces_keepMessage (d + 1) r0 r1 (10 : Int32) x2 (v r1 (4 : Int32).toNatClampNeg) v hr0 hr1) (fun v13 => ?_)
      refine sv_iconst (x := (1 : Int32)) d_Pieces_takePacket_53 (by decide) ?_
      exact sv_zretc rfl (by decide) d_Pieces_takePacket_54
set_option maxHeartbeats 4000000 in
set_option maxRecDepth 100000 in
theorem c_Pieces_takePacket (d : Nat) (q : Nat) (a1 : Nat) (a2 : Int32) (v : sv_T) (hq : sv_isO (sg q) 4 = true) (ha1 : sv_isA (sg a1) 0 (sv_len (sg a1)) = true) : sv_Cl (d + 3) 75 [.ref q, .ref a1, .int a2] v (f_Pieces_takePacket q a1 a2 v) sv_Zi := by
  refine sv_spec (ls0 := [some (.ref q), some (.ref a1), some (.int a2), none, none, none, none, none]) mp_75 (Nat.le_of_ble_eq_true rfl) rfl ?_
  unfold f_Pieces_takePacket
  refine sv_aload_n d_Pieces_takePacket_0 rfl ?_
  refine sv_iconst (x := (2 : Int32)) d_Pieces_takePacket_1 (by decide) ?_
  refine sv_iald d_Pieces_takePacket_2 ha1 ?_
  refine sv_bipush (x := (127 : Int32)) d_Pieces_takePacket_3 (by decide) ?_
  refine sv_iand d_Pieces_takePacket_5 ?_
  refine sv_iconst (x := (4 : Int32)) d_Pieces_takePacket_6 (by decide) ?_
  refine sv_imul d_Pieces_takePacket_7 ?_
  refine sv_leR (fun x1 => ?_)
  refine sv_istore_n (ls' := [some (.ref q), some (.ref a1), some (.int a2), some (.int x1), none, none, none, none]) d_Pieces_takePacket_8 (by decide) rfl ?_
  refine sv_aload_n d_Pieces_takePacket_9 rfl ?_
  refine sv_iconst (x := (2 : Int32)) d_Pieces_takePacket_10 (by decide) ?_
  refine sv_iald d_Pieces_takePacket_11 ha1 ?_
  refine sv_sipush (x := (128 : Int32)) d_Pieces_takePacket_12 (by decide) ?_
  refine sv_iand d_Pieces_takePacket_15 ?_
  refine sv_if_eq 23 d_Pieces_takePacket_16 rfl ?_ ?_
  · refine sv_iconst (x := (0 : Int32)) d_Pieces_takePacket_23 (by decide) ?_
    exact c_Pieces_takePacket_b24 d q a1 a2 x1 (0 : Int32) v hq ha1
  · refine sv_iconst (x := (1 : Int32)) d_Pieces_takePacket_19 (by decide) ?_
    refine sv_goto 24 d_Pieces_takePacket_20 rfl ?_
    exact c_Pieces_takePacket_b24 d q a1 a2 x1 (1 : Int32) v hq ha1
def f_Pieces_passTick (q : Nat) (v : sv_T) : Option (sv_T) :=
  sv_bv (f_Slot_passTick (sv_ref (sg q) 0) v) fun v1 =>
  sv_bv (f_Slot_passTick (sv_ref (sg q) 1) v1) fun v2 =>
  some v2
set_option maxHeartbeats 4000000 in
set_option maxRecDepth 100000 in
theorem c_Pieces_passTick (d : Nat) (q : Nat) (v : sv_T) (hq : sv_isO (sg q) 4 = true) : sv_Cl (d + 1) 119 [.ref q] v (f_Pieces_passTick q v) sv_Zv := by
  refine sv_spec (ls0 := [some (.ref q)]) mp_119 (Nat.le_of_ble_eq_true rfl) rfl ?_
  unfold f_Pieces_passTick
  refine sv_aload_n d_Pieces_passTick_0 rfl ?_
  refine sv_getr d_Pieces_passTick_1 (gf_Pieces_18 mc_119) hq (sr_4_0 hq) ?_
  refine sv_callVv (d := d + 0) (as := []) d_Pieces_passTick_4 (wv_Pieces_55 mc_119) (st_4_0 hq) ⟨_, rfl, rfl⟩ rfl (Nat.le_of_ble_eq_true rfl) rfl (c_Slot_passTick (d + 0) (sv_ref (sg q) 0) v (st_4_0 hq)) (fun v1 => ?_)
  refine sv_aload_n d_Pieces_passTick_7 rfl ?_
  refine sv_getr d_Pieces_passTick_8 (gf_Pieces_22 mc_119) hq (sr_4_1 hq) ?_
  refine sv_callVv (d := d + 0) (as := []) d_Pieces_passTick_11 (wv_Pieces_55 mc_119) (st_4_1 hq) ⟨_, rfl, rfl⟩ rfl (Nat.le_of_ble_eq_true rfl) rfl (c_Slot_passTick (d + 0) (sv_ref (sg q) 1) v1 (st_4_1 hq)) (fun v2 => ?_)
  exact sv_vret rfl d_Pieces_passTick_14
def f_Pieces_slotsInUse_b30 (s0 : Int32) (s1 : Int32) (v : sv_T) : Option (Int32 × sv_T) :=
  some ((s1 + s0), v)
def f_Pieces_slotsInUse_b15 (r0 : Nat) (s0 : Int32) (v : sv_T) : Option (Int32 × sv_T) :=
  if (v (sv_ref (sg r0) 1) 1) = 0 then
  f_Pieces_slotsInUse_b30 (0 : Int32) s0 v
  else
  f_Pieces_slotsInUse_b30 (1 : Int32) s0 v
def f_Pieces_slotsInUse (q : Nat) (v : sv_T) : Option (Int32 × sv_T) :=
  if (v (sv_ref (sg q) 0) 1) = 0 then
  f_Pieces_slotsInUse_b15 q (0 : Int32) v
  else
  f_Pieces_slotsInUse_b15 q (1 : Int32) v
set_option maxHeartbeats 4000000 in
set_option maxRecDepth 100000 in
theorem c_Pieces_slotsInUse_b30 (d : Nat) (s0 : Int32) (s1 : Int32) (v : sv_T)  : sv_Ref (d + 0) 129 30 [none] [.int s0, .int s1] v (f_Pieces_slotsInUse_b30 s0 s1 v) (sv_Zi) := by
  unfold f_Pieces_slotsInUse_b30
  refine sv_iadd d_Pieces_slotsInUse_30 ?_
  exact sv_iret rfl d_Pieces_slotsInUse_31
set_option maxHeartbeats 4000000 in
set_option maxRecDepth 100000 in
theorem c_Pieces_slotsInUse_b15 (d : Nat) (r0 : Nat) (s0 : Int32) (v : sv_T) (hr0 : sv_isO (sg r0) 4 = true) : sv_Ref (d + 0) 129 15 [some (.ref r0)] [.int s0] v (f_Pieces_slotsInUse_b15 r0 s0 v) (sv_Zi) := by
  unfold f_Pieces_slotsInUse_b15
  refine sv_aload_n d_Pieces_slotsInUse_15 rfl ?_
  refine sv_getr d_Pieces_slotsInUse_16 (gf_Pieces_22 mc_129) hr0 (sr_4_1 hr0) ?_
  refine sv_geti d_Pieces_slotsInUse_19 (gf_Pieces_51 mc_129) (st_4_1 hr0) (sd_5_1 (st_4_1 hr0)) ?_
  refine sv_if_eq 29 d_Pieces_slotsInUse_22 rfl ?_ ?_
  · refine sv_iconst (x := (0 : Int32)) d_Pieces_slotsInUse_29 (by decide) ?_
    refine sv_kill (ls' := [none]) trivial ?_
    exact c_Pieces_slotsInUse_b30 d (0 : Int32) s0 v 
  · refine sv_iconst (x := (1 : Int32)) d_Pieces_slotsInUse_25 (by decide) ?_
    refine sv_goto 30 d_Pieces_slotsInUse_26 rfl ?_
    refine sv_kill (ls' := [none]) trivial ?_
    exact c_Pieces_slotsInUse_b30 d (1 : Int32) s0 v 
set_option maxHeartbeats 4000000 in
set_option maxRecDepth 100000 in
theorem c_Pieces_slotsInUse (d : Nat) (q : Nat) (v : sv_T) (hq : sv_isO (sg q) 4 = true) : sv_Cl (d + 0) 129 [.ref q] v (f_Pieces_slotsInUse q v) sv_Zi := by
  refine sv_spec (ls0 := [some (.ref q)]) mp_129 (Nat.le_of_ble_eq_true rfl) rfl ?_
  unfold f_Pieces_slotsInUse
  refine sv_aload_n d_Pieces_slotsInUse_0 rfl ?_
  refine sv_getr d_Pieces_slotsInUse_1 (gf_Pieces_18 mc_129) hq (sr_4_0 hq) ?_
  refine sv_geti d_Pieces_slotsInUse_4 (gf_Pieces_51 mc_129) (st_4_0 hq) (sd_5_1 (st_4_0 hq)) ?_
  refine sv_if_eq 14 d_Pieces_slotsInUse_7 rfl ?_ ?_
  · refine sv_iconst (x := (0 : Int32)) d_Pieces_slotsInUse_14 (by decide) ?_
    exact c_Pieces_slotsInUse_b15 d q (0 : Int32) v hq
  · refine sv_iconst (x := (1 : Int32)) d_Pieces_slotsInUse_10 (by decide) ?_
    refine sv_goto 15 d_Pieces_slotsInUse_11 rfl ?_
    exact c_Pieces_slotsInUse_b15 d q (1 : Int32) v hq
