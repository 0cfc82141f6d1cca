def f_M_isHost (a1 : Int32) (v : sv_T) : Option (Int32 × sv_T) :=
  if a1 = 0 then
  some ((1 : Int32), v)
  else
  if a1 = (1 : Int32) then
  some ((1 : Int32), v)
  else
  some ((0 : Int32), v)
set_option maxHeartbeats 4000000 in
set_option maxRecDepth 100000 in
theorem c_M_isHost (d : Nat) (a1 : Int32) (v : sv_T)  : sv_Cl (d + 0) 132 [.int a1] v (f_M_isHost a1 v) sv_Zi := by
  refine sv_spec (ls0 := [some (.int a1)]) mp_132 (Nat.le_of_ble_eq_true rfl) rfl ?_
  unfold f_M_isHost
  refine sv_iload_n d_M_isHost_0 rfl ?_
  refine sv_if_eq 9 d_M_isHost_1 rfl ?_ ?_
  · refine sv_iconst (x := (1 : Int32)) d_M_isHost_9 (by decide) ?_
    refine sv_goto 14 d_M_isHost_10 rfl ?_
    exact sv_zretc rfl (by decide) d_M_isHost_14
  · refine sv_iload_n d_M_isHost_4 rfl ?_
    refine sv_iconst (x := (1 : Int32)) d_M_isHost_5 (by decide) ?_
    refine sv_icmp_ne 13 d_M_isHost_6 rfl ?_ ?_
    · refine sv_iconst (x := (0 : Int32)) d_M_isHost_13 (by decide) ?_
      exact sv_zretc rfl (by decide) d_M_isHost_14
    · refine sv_iconst (x := (1 : Int32)) d_M_isHost_9 (by decide) ?_
      refine sv_goto 14 d_M_isHost_10 rfl ?_
      exact sv_zretc rfl (by decide) d_M_isHost_14
def f_M_copyRow_l2 (r1 : Nat) (l2 : Int32) (l3 : Int32) (v : sv_T) : Option ((Int32 × sv_T) ⊕ (sv_T)) :=
  if l3 < l2 then
  sv_ck l3 (sv_len (sg r1)) <|
  sv_ck l3 64 <| sv_ls (sv_up v 115 l3.toNatClampNeg (v r1 l3.toNatClampNeg)) fun v1 =>
  sv_le (l3 + (1 : Int32)) fun x2 =>
  some (.inl (x2, v1))
  else
  some (.inr v)
def f_M_copyRow_x22 (l2 : Int32) (v : sv_T) : Option (sv_T) :=
  sv_ls (sv_up v 75 43 l2) fun v3 =>
  some v3
def f_M_copyRow (a1 : Nat) (a2 : Int32) (v : sv_T) : Option (sv_T) :=
  Option.bind (sv_loop (fun (s : Int32 × sv_T) => f_M_copyRow_l2 a1 a2 s.1 (s.2)) 100000 ((0 : Int32), v)) (fun (s : sv_T) => f_M_copyRow_x22 a2 s)
set_option maxHeartbeats 4000000 in
set_option maxRecDepth 100000 in
theorem c_M_copyRow_l2 (d : Nat) (r1 : Nat) (l2 : Int32) (l3 : Int32) (v : sv_T) (hr1 : sv_isA (sg r1) 0 (sv_len (sg r1)) = true) : sv_Ref (d + 0) 134 2 [some (.ref 75), some (.ref r1), some (.int l2), some (.int l3)] [] v (f_M_copyRow_l2 r1 l2 l3 v) (sv_Zl (d + 0) 134 2 (fun (s : Int32 × sv_T) => [some (.ref 75), some (.ref r1), some (.int l2), some (.int s.1)]) (fun (s : Int32 × sv_T) => s.2) (sv_Zt (d + 0) 134 22 (fun (s : sv_T) => [some (.ref 75), none, some (.int l2), none]) (fun (s : sv_T) => s))) := by
  unfold f_M_copyRow_l2
  refine sv_iload_n d_M_copyRow_2 rfl ?_
  refine sv_iload_n d_M_copyRow_3 rfl ?_
  refine sv_icmp_ge 22 d_M_copyRow_4 rfl ?_ ?_
  · exact sv_leave v rfl ⟨rfl, rfl, trivial⟩ rfl
  · refine sv_aload_n d_M_copyRow_7 rfl ?_
    refine sv_getr d_M_copyRow_8 (gf_M_128 mc_134) so_75 sm_75_42 ?_
    refine sv_iload_n d_M_copyRow_11 rfl ?_
    refine sv_aload_n d_M_copyRow_12 rfl ?_
    refine sv_iload_n d_M_copyRow_13 rfl ?_
    refine sv_iald d_M_copyRow_14 hr1 ?_
    refine sv_iast d_M_copyRow_15 sa_115 (fun v1 => ?_)
    refine sv_iinc (ls' := fun x2 => [some (.ref 75), some (.ref r1), some (.int l2), some (.int x2)]) (y := (1 : Int32)) d_M_copyRow_16 rfl (by decide) (fun _ => rfl) (fun x2 => ?_)
    refine sv_goto 2 d_M_copyRow_19 rfl ?_
    exact sv_next (x2, v1) ⟨rfl, rfl, rfl, rfl, trivial⟩ rfl
set_option maxHeartbeats 4000000 in
set_option maxRecDepth 100000 in
theorem c_M_copyRow_x22 (d : Nat) (l2 : Int32) (v : sv_T)  : sv_Ref (d + 0) 134 22 [some (.ref 75), none, some (.int l2), none] [] v (f_M_copyRow_x22 l2 v) (sv_Zv) := by
  unfold f_M_copyRow_x22
  refine sv_aload_n d_M_copyRow_22 rfl ?_
  refine sv_iload_n d_M_copyRow_23 rfl ?_
  refine sv_puti d_M_copyRow_24 (pf_M_134 mc_134) so_75 (sd_10_43 so_75) (fun v3 => ?_)
  exact sv_vret rfl d_M_copyRow_27
set_option maxHeartbeats 4000000 in
set_option maxRecDepth 100000 in
theorem c_M_copyRow (d : Nat) (a1 : Nat) (a2 : Int32) (v : sv_T) (ha1 : sv_isA (sg a1) 0 (sv_len (sg a1)) = true) : sv_Cl (d + 0) 134 [.ref 75, .ref a1, .int a2] v (f_M_copyRow a1 a2 v) sv_Zv := by
  refine sv_spec (ls0 := [some (.ref 75), some (.ref a1), some (.int a2), none]) mp_134 (Nat.le_of_ble_eq_true rfl) rfl ?_
  unfold f_M_copyRow
  refine sv_iconst (x := (0 : Int32)) d_M_copyRow_0 (by decide) ?_
  refine sv_istore_n (ls' := [some (.ref 75), some (.ref a1), some (.int a2), some (.int (0 : Int32))]) d_M_copyRow_1 (by decide) rfl ?_
  exact sv_seq (xt := 22) (L := (fun (s : sv_T) => [some (.ref 75), none, some (.int a2), none])) (S := (fun (s : sv_T) => s)) (sv_loopR (L := (fun (s : Int32 × sv_T) => [some (.ref 75), some (.ref a1), some (.int a2), some (.int s.1)])) (S := (fun (s : Int32 × sv_T) => s.2)) (fun s => c_M_copyRow_l2 d a1 a2 s.1 (s.2) ha1) 100000 ((0 : Int32), v)) (fun s => c_M_copyRow_x22 d a2 s )
def f_M_check_b38 (l2 : Int32) (s0 : Int32) (s1 : Int32) (v : sv_T) : Option ((Int32 × Int32 × sv_T) ⊕ (Int32 × sv_T)) :=
  sv_le ((s1 + s0)) fun x1 =>
  sv_le (l2 + (1 : Int32)) fun x2 =>
  some (.inl (x1, x2, v))
def f_M_check_l4 (l1 : Int32) (l2 : Int32) (v : sv_T) : Option ((Int32 × Int32 × sv_T) ⊕ (Int32 × sv_T)) :=
  if l2 < (v 75 43) then
  if (sv_rem l2 (2 : Int32)) = 0 then
  sv_ck l2 64 <|
  f_M_check_b38 l2 ((256 : Int32) * (v 115 l2.toNatClampNeg)) l1 v
  else
  sv_ck l2 64 <|
  f_M_check_b38 l2 (v 115 l2.toNatClampNeg) l1 v
  else
  some (.inr (l1, v))
def f_M_check_l46 (l1 : Int32) (v : sv_T) : Option ((Int32 × sv_T) ⊕ (Int32 × sv_T)) :=
  if (65535 : Int32) < l1 then
  sv_le (((sv_rem l1 (65536 : Int32)) + (l1 / (65536 : Int32)))) fun x3 =>
  some (.inl (x3, v))
  else
  some (.inr (l1, v))
def f_M_check_x65 (l1 : Int32) (v : sv_T) : Option (Int32 × sv_T) :=
  some (((65535 : Int32) - l1), v)
def f_M_check_x46 (l1 : Int32) (v : sv_T) : Option (Int32 × sv_T) :=
  Option.bind (sv_loop (fun (s : Int32 × sv_T) => f_M_check_l46 s.1 (s.2)) 100000 (l1, v)) (fun (s : Int32 × sv_T) => f_M_check_x65 s.1 (s.2))
def f_M_check  (v : sv_T) : Option (Int32 × sv_T) :=
  Option.bind (sv_loop (fun (s : Int32 × Int32 × sv_T) => f_M_check_l4 s.1 s.2.1 (s.2.2)) 100000 ((0 : Int32), (0 : Int32), v)) (fun (s : Int32 × sv_T) => f_M_check_x46 s.1 (s.2))
set_option maxHeartbeats 4000000 in
set_option maxRecDepth 100000 in
theorem c_M_check_b38 (d : Nat) (l2 : Int32) (s0 : Int32) (s1 : Int32) (v : sv_T)  : sv_Ref (d + 0) 135 38 [some (.ref 75), none, some (.int l2)] [.int s0, .int s1] v (f_M_check_b38 l2 s0 s1 v) (sv_Zl (d + 0) 135 4 (fun (s : Int32 × Int32 × sv_T) => [some (.ref 75), some (.int s.1), some (.int s.2.1)]) (fun (s : Int32 × Int32 × sv_T) => s.2.2) (sv_Zt (d + 0) 135 46 (fun (s : Int32 × sv_T) => [none, some (.int s.1), none]) (fun (s : Int32 × sv_T) => s.2))) := by
  unfold f_M_check_b38
  refine sv_iadd d_M_check_38 ?_
  refine sv_leR (fun x1 => ?_)
  refine sv_istore_n (ls' := [some (.ref 75), some (.int x1), some (.int l2)]) d_M_check_39 (by decide) rfl ?_
  refine sv_iinc (ls' := fun x2 => [some (.ref 75), some (.int x1), some (.int x2)]) (y := (1 : Int32)) d_M_check_40 rfl (by decide) (fun _ => rfl) (fun x2 => ?_)
  refine sv_goto 4 d_M_check_43 rfl ?_
  exact sv_next (x1, x2, v) ⟨rfl, rfl, rfl, trivial⟩ rfl
set_option maxHeartbeats 4000000 in
set_option maxRecDepth 100000 in
theorem c_M_check_l4 (d : Nat) (l1 : Int32) (l2 : Int32) (v : sv_T)  : sv_Ref (d + 0) 135 4 [some (.ref 75), some (.int l1), some (.int l2)] [] v (f_M_check_l4 l1 l2 v) (sv_Zl (d + 0) 135 4 (fun (s : Int32 × Int32 × sv_T) => [some (.ref 75), some (.int s.1), some (.int s.2.1)]) (fun (s : Int32 × Int32 × sv_T) => s.2.2) (sv_Zt (d + 0) 135 46 (fun (s : Int32 × sv_T) => [none, some (.int s.1), none]) (fun (s : Int32 × sv_T) => s.2))) := by
  unfold f_M_check_l4
  refine sv_iload_n d_M_check_4 rfl ?_
  refine sv_aload_n d_M_check_5 rfl ?_
  refine sv_geti d_M_check_6 (gf_M_134 mc_135) so_75 (sd_10_43 so_75) ?_
  refine sv_icmp_ge 46 d_M_check_9 rfl ?_ ?_
  · exact sv_leave (l1, v) rfl ⟨rfl, trivial⟩ rfl
  · refine sv_iload_n d_M_check_12 rfl ?_
    refine sv_iload_n d_M_check_13 rfl ?_
    refine sv_iconst (x := (2 : Int32)) d_M_check_14 (by decide) ?_
    refine sv_irem d_M_check_15 (by decide) ?_
    refine sv_if_ne 32 d_M_check_16 rfl ?_ ?_
    · refine sv_aload_n d_M_check_32 rfl ?_
      refine sv_getr d_M_check_33 (gf_M_128 mc_135) so_75 sm_75_42 ?_
      refine sv_iload_n d_M_check_36 rfl ?_
      refine sv_iald d_M_check_37 sa_115 ?_
      refine sv_kill (ls' := [some (.ref 75), none, some (.int l2)]) ⟨rfl, rfl, trivial⟩ ?_
      exact c_M_check_b38 d l2 (v 115 l2.toNatClampNeg) l1 v 
    · refine sv_sipush (x := (256 : Int32)) d_M_check_19 (by decide) ?_
      refine sv_aload_n d_M_check_22 rfl ?_
      refine sv_getr d_M_check_23 (gf_M_128 mc_135) so_75 sm_75_42 ?_
      refine sv_iload_n d_M_check_26 rfl ?_
      refine sv_iald d_M_check_27 sa_115 ?_
      refine sv_imul d_M_check_28 ?_
      refine sv_goto 38 d_M_check_29 rfl ?_
      refine sv_kill (ls' := [some (.ref 75), none, some (.int l2)]) ⟨rfl, rfl, trivial⟩ ?_
      exact c_M_check_b38 d l2 ((256 : Int32) * (v 115 l2.toNatClampNeg)) l1 v 
set_option maxHeartbeats 4000000 in
set_option maxRecDepth 100000 in
theorem c_M_check_l46 (d : Nat) (l1 : Int32) (v : sv_T)  : sv_Ref (d + 0) 135 46 [none, some (.int l1), none] [] v (f_M_check_l46 l1 v) (sv_Zl (d + 0) 135 46 (fun (s : Int32 × sv_T) => [none, some (.int s.1), none]) (fun (s : Int32 × sv_T) => s.2) (sv_Zt (d + 0) 135 65 (fun (s : Int32 × sv_T) => [none, some (.int s.1), none]) (fun (s : Int32 × sv_T) => s.2))) := by
  unfold f_M_check_l46
  refine sv_iload_n d_M_check_46 rfl ?_
  refine sv_ldc d_M_check_47 tw_1007 ?_
  refine sv_icmp_le 65 d_M_check_49 rfl ?_ ?_
  · exact sv_leave (l1, v) rfl ⟨rfl, trivial⟩ rfl
  · refine sv_iload_n d_M_check_52 rfl ?_
    refine sv_ldc d_M_check_53 tw_1008 ?_
    refine sv_irem d_M_check_55 (by decide) ?_
    refine sv_iload_n d_M_check_56 rfl ?_
    refine sv_ldc d_M_check_57 tw_1008 ?_
    refine sv_idiv d_M_check_59 (by decide) ?_
    refine sv_iadd d_M_check_60 ?_
    refine sv_leR (fun x3 => ?_)
    refine sv_istore_n (ls' := [none, some (.int x3), none]) d_M_check_61 (by decide) rfl ?_
    refine sv_goto 46 d_M_check_62 rfl ?_
    exact sv_next (x3, v) ⟨rfl, trivial⟩ rfl
set_option maxHeartbeats 4000000 in
set_option maxRecDepth 100000 in
theorem c_M_check_x65 (d : Nat) (l1 : Int32) (v : sv_T)  : sv_Ref (d + 0) 135 65 [none, some (.int l1), none] [] v (f_M_check_x65 l1 v) (sv_Zi) := by
  unfold f_M_check_x65
  refine sv_ldc d_M_check_65 tw_1007 ?_
  refine sv_iload_n d_M_check_67 rfl ?_
  refine sv_isub d_M_check_68 ?_
  exact sv_iret rfl d_M_check_69
set_option maxHeartbeats 4000000 in
set_option maxRecDepth 100000 in
theorem c_M_check_x46 (d : Nat) (l1 : Int32) (v : sv_T)  : sv_Ref (d + 0) 135 46 [none, some (.int l1), none] [] v (f_M_check_x46 l1 v) (sv_Zi) := by
  unfold f_M_check_x46
  exact sv_seq (xt := 65) (L := (fun (s : Int32 × sv_T) => [none, some (.int s.1), none])) (S := (fun (s : Int32 × sv_T) => s.2)) (sv_loopR (L := (fun (s : Int32 × sv_T) => [none, some (.int s.1), none])) (S := (fun (s : Int32 × sv_T) => s.2)) (fun s => c_M_check_l46 d s.1 (s.2) ) 100000 (l1, v)) (fun s => c_M_check_x65 d s.1 (s.2) )
set_option maxHeartbeats 4000000 in
set_option maxRecDepth 100000 in
theorem c_M_check (d : Nat)  (v : sv_T)  : sv_Cl (d + 0) 135 [.ref 75] v (f_M_check  v) sv_Zi := by
  refine sv_spec (ls0 := [some (.ref 75), none, none]) mp_135 (Nat.le_of_ble_eq_true rfl) rfl ?_
  unfold f_M_check
  refine sv_iconst (x := (0 : Int32)) d_M_check_0 (by decide) ?_
  refine sv_istore_n (ls' := [some (.ref 75), some (.int (0 : Int32)), none]) d_M_check_1 (by decide) rfl ?_
  refine sv_iconst (x := (0 : Int32)) d_M_check_2 (by decide) ?_
  refine sv_istore_n (ls' := [some (.ref 75), some (.int (0 : Int32)), some (.int (0 : Int32))]) d_M_check_3 (by decide) rfl ?_
  exact sv_seq (xt := 46) (L := (fun (s : Int32 × sv_T) => [none, some (.int s.1), none])) (S := (fun (s : Int32 × sv_T) => s.2)) (sv_loopR (L := (fun (s : Int32 × Int32 × sv_T) => [some (.ref 75), some (.int s.1), some (.int s.2.1)])) (S := (fun (s : Int32 × Int32 × sv_T) => s.2.2)) (fun s => c_M_check_l4 d s.1 s.2.1 (s.2.2) ) 100000 ((0 : Int32), (0 : Int32), v)) (fun s => c_M_check_x46 d s.1 (s.2) )
def f_M_fly_l41 (l2 : Int32) (l3 : Int32) (l4 : Int32) (v : sv_T) : Option ((Int32 × sv_T) ⊕ (sv_T)) :=
  if l4 < (v 75 39) then
  sv_ck l4 40 <|
  sv_ck (((40 : Int32) * l3) + l4) 1280 <| sv_ls (sv_up v 78 (((40 : Int32) * l3) + l4).toNatClampNeg (v 113 l4.toNatClampNeg)) fun v4 =>
  sv_le (l4 + (1 : Int32)) fun x5 =>
  some (.inl (x5, v4))
  else
  some (.inr v)
def f_M_fly_x75 (l2 : Int32) (v : sv_T) : Option (sv_T) :=
  sv_ck l2 2 <|
  sv_ck l2 2 <| sv_ls (sv_up v 76 l2.toNatClampNeg ((v 76 l2.toNatClampNeg) + (1 : Int32))) fun v6 =>
  some v6
def f_M_fly (a1 : Int32) (v : sv_T) : Option (sv_T) :=
  sv_le (((1 : Int32) - a1)) fun x1 =>
  sv_ck x1 2 <|
  if (v 76 x1.toNatClampNeg) = (16 : Int32) then
  some v
  else
  sv_ck x1 2 <|
  sv_le ((((16 : Int32) * x1) + (v 76 x1.toNatClampNeg))) fun x2 =>
  sv_ck x2 32 <| sv_ls (sv_up v 77 x2.toNatClampNeg (v 75 39)) fun v3 =>
  Option.bind (sv_loop (fun (s : Int32 × sv_T) => f_M_fly_l41 x1 x2 s.1 (s.2)) 100000 ((0 : Int32), v3)) (fun (s : sv_T) => f_M_fly_x75 x1 s)
set_option maxHeartbeats 4000000 in
set_option maxRecDepth 100000 in
theorem c_M_fly_l41 (d : Nat) (l2 : Int32) (l3 : Int32) (l4 : Int32) (v : sv_T)  : sv_Ref (d + 0) 140 41 [some (.ref 75), none, some (.int l2), some (.int l3), some (.int l4)] [] v (f_M_fly_l41 l2 l3 l4 v) (sv_Zl (d + 0) 140 41 (fun (s : Int32 × sv_T) => [some (.ref 75), none, some (.int l2), some (.int l3), some (.int s.1)]) (fun (s : Int32 × sv_T) => s.2) (sv_Zt (d + 0) 140 75 (fun (s : sv_T) => [some (.ref 75), none, some (.int l2), none, none]) (fun (s : sv_T) => s))) := by
  unfold f_M_fly_l41
  refine sv_iload d_M_fly_41 rfl ?_
  refine sv_aload_n d_M_fly_43 rfl ?_
  refine sv_geti d_M_fly_44 (gf_M_144 mc_140) so_75 (sd_10_39 so_75) ?_
  refine sv_icmp_ge 75 d_M_fly_47 rfl ?_ ?_
  · exact sv_leave v rfl ⟨rfl, rfl, trivial⟩ rfl
  · refine sv_aload_n d_M_fly_50 rfl ?_
    refine sv_getr d_M_fly_51 (gf_M_16 mc_140) so_75 sm_75_3 ?_
    refine sv_bipush (x := (40 : Int32)) d_M_fly_54 (by decide) ?_
    refine sv_iload_n d_M_fly_56 rfl ?_
    refine sv_imul d_M_fly_57 ?_
    refine sv_iload d_M_fly_58 rfl ?_
    refine sv_iadd d_M_fly_60 ?_
    refine sv_aload_n d_M_fly_61 rfl ?_
    refine sv_getr d_M_fly_62 (gf_M_122 mc_140) so_75 sm_75_38 ?_
    refine sv_iload d_M_fly_65 rfl ?_
    refine sv_iald d_M_fly_67 sa_113 ?_
    refine sv_iast d_M_fly_68 sa_78 (fun v4 => ?_)
    refine sv_iinc (ls' := fun x5 => [some (.ref 75), none, some (.int l2), some (.int l3), some (.int x5)]) (y := (1 : Int32)) d_M_fly_69 rfl (by decide) (fun _ => rfl) (fun x5 => ?_)
    refine sv_goto 41 d_M_fly_72 rfl ?_
    exact sv_next (x5, v4) ⟨rfl, rfl, rfl, rfl, trivial⟩ rfl
set_option maxHeartbeats 4000000 in
set_option maxRecDepth 100000 in
theorem c_M_fly_x75 (d : Nat) (l2 : Int32) (v : sv_T)  : sv_Ref (d + 0) 140 75 [some (.ref 75), none, some (.int l2), none, none] [] v (f_M_fly_x75 l2 v) (sv_Zv) := by
  unfold f_M_fly_x75
  refine sv_aload_n d_M_fly_75 rfl ?_
  refine sv_getr d_M_fly_76 (gf_M_7 mc_140) so_75 sm_75_1 ?_
  refine sv_iload_n d_M_fly_79 rfl ?_
  refine sv_dup2 d_M_fly_80 ?_
  refine sv_iald d_M_fly_81 sa_76 ?_
  refine sv_iconst (x := (1 : Int32)) d_M_fly_82 (by decide) ?_
  refine sv_iadd d_M_fly_83 ?_
  refine sv_iast d_M_fly_84 sa_76 (fun v6 => ?_)
  exact sv_vret rfl d_M_fly_85
set_option maxHeartbeats 4000000 in
set_option maxRecDepth 100000 in
theorem c_M_fly (d : Nat) (a1 : Int32) (v : sv_T)  : sv_Cl (d + 0) 140 [.ref 75, .int a1] v (f_M_fly a1 v) sv_Zv := by
  refine sv_spec (ls0 := [some (.ref 75), some (.int a1), none, none, none]) mp_140 (Nat.le_of_ble_eq_true rfl) rfl ?_
  unfold f_M_fly
  refine sv_iconst (x := (1 : Int32)) d_M_fly_0 (by decide) ?_
  refine sv_iload_n d_M_fly_1 rfl ?_
  refine sv_isub d_M_fly_2 ?_
  refine sv_leR (fun x1 => ?_)
  refine sv_istore_n (ls' := [some (.ref 75), some (.int a1), some (.int x1), none, none]) d_M_fly_3 (by decide) rfl ?_
  refine sv_aload_n d_M_fly_4 rfl ?_
  refine sv_getr d_M_fly_5 (gf_M_7 mc_140) so_75 sm_75_1 ?_
  refine sv_iload_n d_M_fly_8 rfl ?_
  refine sv_iald d_M_fly_9 sa_76 ?_
  refine sv_bipush (x := (16 : Int32)) d_M_fly_10 (by decide) ?_
  refine sv_icmp_ne 16 d_M_fly_12 rfl ?_ ?_
  · refine sv_bipush (x := (16 : Int32)) d_M_fly_16 (by decide) ?_
    refine sv_iload_n d_M_fly_18 rfl ?_
    refine sv_imul d_M_fly_19 ?_
    refine sv_aload_n d_M_fly_20 rfl ?_
    refine sv_getr d_M_fly_21 (gf_M_7 mc_140) so_75 sm_75_1 ?_
    refine sv_iload_n d_M_fly_24 rfl ?_
    refine sv_iald d_M_fly_25 sa_76 ?_
    refine sv_iadd d_M_fly_26 ?_
    refine sv_leR (fun x2 => ?_)
    refine sv_istore_n (ls' := [some (.ref 75), some (.int a1), some (.int x1), some (.int x2), none]) d_M_fly_27 (by decide) rfl ?_
    refine sv_aload_n d_M_fly_28 rfl ?_
    refine sv_getr d_M_fly_29 (gf_M_13 mc_140) so_75 sm_75_2 ?_
    refine sv_iload_n d_M_fly_32 rfl ?_
    refine sv_aload_n d_M_fly_33 rfl ?_
    refine sv_geti d_M_fly_34 (gf_M_144 mc_140) so_75 (sd_10_39 so_75) ?_
    refine sv_iast d_M_fly_37 sa_77 (fun v3 => ?_)
    refine sv_iconst (x := (0 : Int32)) d_M_fly_38 (by decide) ?_
    refine sv_istore (ls' := [some (.ref 75), some (.int a1), some (.int x1), some (.int x2), some (.int (0 : Int32))]) d_M_fly_39 (by decide) rfl ?_
    refine sv_kill (ls' := [some (.ref 75), none, some (.int x1), some (.int x2), some (.int (0 : Int32))]) ⟨rfl, rfl, rfl, rfl, trivial⟩ ?_
    exact sv_seq (xt := 75) (L := (fun (s : sv_T) => [some (.ref 75), none, some (.int x1), none, none])) (S := (fun (s : sv_T) => s)) (sv_loopR (L := (fun (s : Int32 × sv_T) => [some (.ref 75), none, some (.int x1), some (.int x2), some (.int s.1)])) (S := (fun (s : Int32 × sv_T) => s.2)) (fun s => c_M_fly_l41 d x1 x2 s.1 (s.2) ) 100000 ((0 : Int32), v3)) (fun s => c_M_fly_x75 d x1 s )
  · exact sv_vret rfl d_M_fly_15
def f_M_goes_l39 (l1 : Int32) (l2 : Int32) (l3 : Int32) (v : sv_T) : Option ((Int32 × sv_T) ⊕ (sv_T)) :=
  if l3 < l2 then
  sv_ck l3 40 <|
  sv_ck ((3 : Int32) + l3) 40 <| sv_ls (sv_up v 113 ((3 : Int32) + l3).toNatClampNeg (v 116 l3.toNatClampNeg)) fun v5 =>
  sv_le (l3 + (1 : Int32)) fun x6 =>
  some (.inl (x6, v5))
  else
  some (.inr v)
def f_M_goes_x64 (l1 : Int32) (l2 : Int32) (v : sv_T) : Option (sv_T) :=
  sv_ls (sv_up v 75 39 ((3 : Int32) + l2)) fun v7 =>
  sv_bv (f_M_fly l1 v7) fun v8 =>
  some v8
def f_M_goes (a1 : Int32) (v : sv_T) : Option (sv_T) :=
  sv_le ((v 116 0)) fun x1 =>
  sv_ck a1 2 <|
  sv_ls (sv_up v 113 0 (v 84 a1.toNatClampNeg)) fun v2 =>
  sv_ls (sv_up v2 113 1 ((16 : Int32) + a1)) fun v3 =>
  sv_ls (sv_up v3 113 2 (8 : Int32)) fun v4 =>
  Option.bind (sv_loop (fun (s : Int32 × sv_T) => f_M_goes_l39 a1 x1 s.1 (s.2)) 100000 ((0 : Int32), v4)) (fun (s : sv_T) => f_M_goes_x64 a1 x1 s)
set_option maxHeartbeats 4000000 in
set_option maxRecDepth 100000 in
theorem c_M_goes_l39 (d : Nat) (l1 : Int32) (l2 : Int32) (l3 : Int32) (v : sv_T)  : sv_Ref (d + 1) 139 39 [some (.ref 75), some (.int l1), some (.int l2), some (.int l3)] [] v (f_M_goes_l39 l1 l2 l3 v) (sv_Zl (d + 1) 139 39 (fun (s : Int32 × sv_T) => [some (.ref 75), some (.int l1), some (.int l2), some (.int s.1)]) (fun (s : Int32 × sv_T) => s.2) (sv_Zt (d + 1) 139 64 (fun (s : sv_T) => [some (.ref 75), some (.int l1), some (.int l2), none]) (fun (s : sv_T) => s))) := by
  unfold f_M_goes_l39
  refine sv_iload_n d_M_goes_39 rfl ?_
  refine sv_iload_n d_M_goes_40 rfl ?_
  refine sv_icmp_ge 64 d_M_goes_41 rfl ?_ ?_
  · exact sv_leave v rfl ⟨rfl, rfl, rfl, trivial⟩ rfl
  · refine sv_aload_n d_M_goes_44 rfl ?_
    refine sv_getr d_M_goes_45 (gf_M_122 mc_139) so_75 sm_75_38 ?_
    refine sv_iconst (x := (3 : Int32)) d_M_goes_48 (by decide) ?_
    refine sv_iload_n d_M_goes_49 rfl ?_
    refine sv_iadd d_M_goes_50 ?_
    refine sv_aload_n d_M_goes_51 rfl ?_
    refine sv_getr d_M_goes_52 (gf_M_131 mc_139) so_75 sm_75_44 ?_
    refine sv_iload_n d_M_goes_55 rfl ?_
    refine sv_iald d_M_goes_56 sa_116 ?_
    refine sv_iast d_M_goes_57 sa_113 (fun v5 => ?_)
    refine sv_iinc (ls' := fun x6 => [some (.ref 75), some (.int l1), some (.int l2), some (.int x6)]) (y := (1 : Int32)) d_M_goes_58 rfl (by decide) (fun _ => rfl) (fun x6 => ?_)
    refine sv_goto 39 d_M_goes_61 rfl ?_
    exact sv_next (x6, v5) ⟨rfl, rfl, rfl, rfl, trivial⟩ rfl
set_option maxHeartbeats 4000000 in
set_option maxRecDepth 100000 in
theorem c_M_goes_x64 (d : Nat) (l1 : Int32) (l2 : Int32) (v : sv_T)  : sv_Ref (d + 1) 139 64 [some (.ref 75), some (.int l1), some (.int l2), none] [] v (f_M_goes_x64 l1 l2 v) (sv_Zv) := by
  unfold f_M_goes_x64
  refine sv_aload_n d_M_goes_64 rfl ?_
  refine sv_iconst (x := (3 : Int32)) d_M_goes_65 (by decide) ?_
  refine sv_iload_n d_M_goes_66 rfl ?_
  refine sv_iadd d_M_goes_67 ?_
  refine sv_puti d_M_goes_68 (pf_M_144 mc_139) so_75 (sd_10_39 so_75) (fun v7 => ?_)
  refine sv_aload_n d_M_goes_71 rfl ?_
  refine sv_iload_n d_M_goes_72 rfl ?_
  refine sv_callVv (d := d + 0) (as := [.int l1]) d_M_goes_73 (wv_M_147 mc_139) so_75 ⟨_, rfl, rfl⟩ rfl (Nat.le_of_ble_eq_true rfl) rfl (c_M_fly (d + 0) l1 v7 ) (fun v8 => ?_)
  exact sv_vret rfl d_M_goes_76
set_option maxHeartbeats 4000000 in
set_option maxRecDepth 100000 in
theorem c_M_goes (d : Nat) (a1 : Int32) (v : sv_T)  : sv_Cl (d + 1) 139 [.ref 75, .int a1] v (f_M_goes a1 v) sv_Zv := by
  refine sv_spec (ls0 := [some (.ref 75), some (.int a1), none, none]) mp_139 (Nat.le_of_ble_eq_true rfl) rfl ?_
  unfold f_M_goes
  refine sv_aload_n d_M_goes_0 rfl ?_
  refine sv_getr d_M_goes_1 (gf_M_131 mc_139) so_75 sm_75_44 ?_
  refine sv_iconst (x := (0 : Int32)) d_M_goes_4 (by decide) ?_
  refine sv_ialdc (m := 0) d_M_goes_5 sa_116 (by decide) rfl ?_
  refine sv_leR (fun x1 => ?_)
  refine sv_istore_n (ls' := [some (.ref 75), some (.int a1), some (.int x1), none]) d_M_goes_6 (by decide) rfl ?_
  refine sv_aload_n d_M_goes_7 rfl ?_
  refine sv_getr d_M_goes_8 (gf_M_122 mc_139) so_75 sm_75_38 ?_
  refine sv_iconst (x := (0 : Int32)) d_M_goes_11 (by decide) ?_
  refine sv_aload_n d_M_goes_12 rfl ?_
  refine sv_getr d_M_goes_13 (gf_M_34 mc_139) so_75 sm_75_9 ?_
  refine sv_iload_n d_M_goes_16 rfl ?_
  refine sv_iald d_M_goes_17 sa_84 ?_
  refine sv_iastc (m := 0) d_M_goes_18 sa_113 (by decide) rfl (fun v2 => ?_)
  refine sv_aload_n d_M_goes_19 rfl ?_
  refine sv_getr d_M_goes_20 (gf_M_122 mc_139) so_75 sm_75_38 ?_
  refine sv_iconst (x := (1 : Int32)) d_M_goes_23 (by decide) ?_
  refine sv_bipush (x := (16 : Int32)) d_M_goes_24 (by decide) ?_
  refine sv_iload_n d_M_goes_26 rfl ?_
  refine sv_iadd d_M_goes_27 ?_
  refine sv_iastc (m := 1) d_M_goes_28 sa_113 (by decide) rfl (fun v3 => ?_)
  refine sv_aload_n d_M_goes_29 rfl ?_
  refine sv_getr d_M_goes_30 (gf_M_122 mc_139) so_75 sm_75_38 ?_
  refine sv_iconst (x := (2 : Int32)) d_M_goes_33 (by decide) ?_
  refine sv_bipush (x := (8 : Int32)) d_M_goes_34 (by decide) ?_
  refine sv_iastc (m := 2) d_M_goes_36 sa_113 (by decide) rfl (fun v4 => ?_)
  refine sv_iconst (x := (0 : Int32)) d_M_goes_37 (by decide) ?_
  refine sv_istore_n (ls' := [some (.ref 75), some (.int a1), some (.int x1), some (.int (0 : Int32))]) d_M_goes_38 (by decide) rfl ?_
  exact sv_seq (xt := 64) (L := (fun (s : sv_T) => [some (.ref 75), some (.int a1), some (.int x1), none])) (S := (fun (s : sv_T) => s)) (sv_loopR (L := (fun (s : Int32 × sv_T) => [some (.ref 75), some (.int a1), some (.int x1), some (.int s.1)])) (S := (fun (s : Int32 × sv_T) => s.2)) (fun s => c_M_goes_l39 d a1 x1 s.1 (s.2) ) 100000 ((0 : Int32), v4)) (fun s => c_M_goes_x64 d a1 x1 s )
def f_M_asks (a1 : Int32) (a2 : Int32) (a3 : Int32) (v : sv_T) : Option (sv_T) :=
  sv_ls (sv_up v 113 0 a2) fun v1 =>
  sv_ls (sv_up v1 113 1 ((16 : Int32) + a1)) fun v2 =>
  sv_ls (sv_up v2 113 2 (6 : Int32)) fun v3 =>
  sv_ls (sv_up v3 113 3 a3) fun v4 =>
  sv_ls (sv_up v4 113 4 ((16 : Int32) + a1)) fun v5 =>
  sv_ls (sv_up v5 113 5 ((1 : Int32) + a1)) fun v6 =>
  sv_ls (sv_up v6 113 6 ((2 : Int32) - a1)) fun v7 =>
  sv_ls (sv_up v7 75 39 (7 : Int32)) fun v8 =>
  sv_bv (f_M_fly a1 v8) fun v9 =>
  some v9
set_option maxHeartbeats 4000000 in
set_option maxRecDepth 100000 in
theorem c_M_asks (d : Nat) (a1 : Int32) (a2 : Int32) (a3 : Int32) (v : sv_T)  : sv_Cl (d + 1) 141 [.ref 75, .int a1, .int a2, .int a3] v (f_M_asks a1 a2 a3 v) sv_Zv := by
  refine sv_spec (ls0 := [some (.ref 75), some (.int a1), some (.int a2), some (.int a3)]) mp_141 (Nat.le_of_ble_eq_true rfl) rfl ?_
  unfold f_M_asks
  refine sv_aload_n d_M_asks_0 rfl ?_
  refine sv_getr d_M_asks_1 (gf_M_122 mc_141) so_75 sm_75_38 ?_
  refine sv_iconst (x := (0 : Int32)) d_M_asks_4 (by decide) ?_
  refine sv_iload_n d_M_asks_5 rfl ?_
  refine sv_iastc (m := 0) d_M_asks_6 sa_113 (by decide) rfl (fun v1 => ?_)
  refine sv_aload_n d_M_asks_7 rfl ?_
  refine sv_getr d_M_asks_8 (gf_M_122 mc_141) so_75 sm_75_38 ?_
  refine sv_iconst (x := (1 : Int32)) d_M_asks_11 (by decide) ?_
  refine sv_bipush (x := (16 : Int32)) d_M_asks_12 (by decide) ?_
  refine sv_iload_n d_M_asks_14 rfl ?_
  refine sv_iadd d_M_asks_15 ?_
  refine sv_iastc (m := 1) d_M_asks_16 sa_113 (by decide) rfl (fun v2 => ?_)
  refine sv_aload_n d_M_asks_17 rfl ?_
  refine sv_getr d_M_asks_18 (gf_M_122 mc_141) so_75 sm_75_38 ?_
  refine sv_iconst (x := (2 : Int32)) d_M_asks_21 (by decide) ?_
  refine sv_bipush (x := (6 : Int32)) d_M_asks_22 (by decide) ?_
  refine sv_iastc (m := 2) d_M_asks_24 sa_113 (by decide) rfl (fun v3 => ?_)
  refine sv_aload_n d_M_asks_25 rfl ?_
  refine sv_getr d_M_asks_26 (gf_M_122 mc_141) so_75 sm_75_38 ?_
  refine sv_iconst (x := (3 : Int32)) d_M_asks_29 (by decide) ?_
  refine sv_iload_n d_M_asks_30 rfl ?_
  refine sv_iastc (m := 3) d_M_asks_31 sa_113 (by decide) rfl (fun v4 => ?_)
  refine sv_aload_n d_M_asks_32 rfl ?_
  refine sv_getr d_M_asks_33 (gf_M_122 mc_141) so_75 sm_75_38 ?_
  refine sv_iconst (x := (4 : Int32)) d_M_asks_36 (by decide) ?_
  refine sv_bipush (x := (16 : Int32)) d_M_asks_37 (by decide) ?_
  refine sv_iload_n d_M_asks_39 rfl ?_
  refine sv_iadd d_M_asks_40 ?_
  refine sv_iastc (m := 4) d_M_asks_41 sa_113 (by decide) rfl (fun v5 => ?_)
  refine sv_aload_n d_M_asks_42 rfl ?_
  refine sv_getr d_M_asks_43 (gf_M_122 mc_141) so_75 sm_75_38 ?_
  refine sv_iconst (x := (5 : Int32)) d_M_asks_46 (by decide) ?_
  refine sv_iconst (x := (1 : Int32)) d_M_asks_47 (by decide) ?_
  refine sv_iload_n d_M_asks_48 rfl ?_
  refine sv_iadd d_M_asks_49 ?_
  refine sv_iastc (m := 5) d_M_asks_50 sa_113 (by decide) rfl (fun v6 => ?_)
  refine sv_aload_n d_M_asks_51 rfl ?_
  refine sv_getr d_M_asks_52 (gf_M_122 mc_141) so_75 sm_75_38 ?_
  refine sv_bipush (x := (6 : Int32)) d_M_asks_55 (by decide) ?_
  refine sv_iconst (x := (2 : Int32)) d_M_asks_57 (by decide) ?_
  refine sv_iload_n d_M_asks_58 rfl ?_
  refine sv_isub d_M_asks_59 ?_
  refine sv_iastc (m := 6) d_M_asks_60 sa_113 (by decide) rfl (fun v7 => ?_)
  refine sv_aload_n d_M_asks_61 rfl ?_
  refine sv_bipush (x := (7 : Int32)) d_M_asks_62 (by decide) ?_
  refine sv_puti d_M_asks_64 (pf_M_144 mc_141) so_75 (sd_10_39 so_75) (fun v8 => ?_)
  refine sv_aload_n d_M_asks_67 rfl ?_
  refine sv_iload_n d_M_asks_68 rfl ?_
  refine sv_callVv (d := d + 0) (as := [.int a1]) d_M_asks_69 (wv_M_147 mc_141) so_75 ⟨_, rfl, rfl⟩ rfl (Nat.le_of_ble_eq_true rfl) rfl (c_M_fly (d + 0) a1 v8 ) (fun v9 => ?_)
  exact sv_vret rfl d_M_asks_72
def f_M_sendPacket_b93 (l1 : Int32) (v : sv_T) : Option (sv_T) :=
  sv_ck l1 2 <|
  if (v 82 l1.toNatClampNeg) = 0 then
  sv_ck l1 2 <| sv_ls (sv_up v 82 l1.toNatClampNeg (4 : Int32)) fun v1 =>
  sv_bv (f_M_asks l1 (255 : Int32) (1 : Int32) v1) fun v2 =>
  some v2
  else
  some v
def f_M_sendPacket_l50 (l1 : Int32) (l2 : Int32) (l3 : Int32) (v : sv_T) : Option ((Int32 × sv_T) ⊕ (sv_T)) :=
  if l3 < (v 116 0) then
  sv_ck l3 40 <|
  sv_ck (((40 : Int32) * l2) + l3) 320 <| sv_ls (sv_up v 81 (((40 : Int32) * l2) + l3).toNatClampNeg (v 116 l3.toNatClampNeg)) fun v5 =>
  sv_le (l3 + (1 : Int32)) fun x6 =>
  some (.inl (x6, v5))
  else
  some (.inr v)
def f_M_sendPacket_x83 (l1 : Int32) (v : sv_T) : Option (sv_T) :=
  sv_ck l1 2 <|
  sv_ck l1 2 <| sv_ls (sv_up v 79 l1.toNatClampNeg ((v 79 l1.toNatClampNeg) + (1 : Int32))) fun v7 =>
  f_M_sendPacket_b93 l1 v7
def f_M_sendPacket (a1 : Int32) (v : sv_T) : Option (sv_T) :=
  sv_ck a1 2 <|
  if 0 < (v 83 a1.toNatClampNeg) then
  sv_bv (f_M_goes a1 v) fun v8 =>
  some v8
  else
  sv_ck a1 2 <|
  if (v 79 a1.toNatClampNeg) < (4 : Int32) then
  sv_ck a1 2 <|
  sv_le ((((4 : Int32) * a1) + (v 79 a1.toNatClampNeg))) fun x3 =>
  sv_ck x3 8 <| sv_ls (sv_up v 80 x3.toNatClampNeg (v 116 0)) fun v4 =>
  Option.bind (sv_loop (fun (s : Int32 × sv_T) => f_M_sendPacket_l50 a1 x3 s.1 (s.2)) 100000 ((0 : Int32), v4)) (fun (s : sv_T) => f_M_sendPacket_x83 a1 s)
  else
  f_M_sendPacket_b93 a1 v
set_option maxHeartbeats 4000000 in
set_option maxRecDepth 100000 in
theorem c_M_sendPacket_b93 (d : Nat) (l1 : Int32) (v : sv_T)  : sv_Ref (d + 2) 138 93 [some (.ref 75), some (.int l1), none, none] [] v (f_M_sendPacket_b93 l1 v) (sv_Zv) := by
  unfold f_M_sendPacket_b93
  refine sv_aload_n d_M_sendPacket_93 rfl ?_
  refine sv_getr d_M_sendPacket_94 (gf_M_28 mc_138) so_75 sm_75_7 ?_
  refine sv_iload_n d_M_sendPacket_97 rfl ?_
  refine sv_iald d_M_sendPacket_98 sa_82 ?_
  refine sv_if_ne 118 d_M_sendPacket_99 rfl ?_ ?_
  · exact sv_vret rfl d_M_sendPacket_118
  · refine sv_aload_n d_M_sendPacket_102 rfl ?_
    refine sv_getr d_M_sendPacket_103 (gf_M_28 mc_138) so_75 sm_75_7 ?_
    refine sv_iload_n d_M_sendPacket_106 rfl ?_
    refine sv_iconst (x := (4 : Int32)) d_M_sendPacket_107 (by decide) ?_
    refine sv_iast d_M_sendPacket_108 sa_82 (fun v1 => ?_)
    refine sv_aload_n d_M_sendPacket_109 rfl ?_
    refine sv_iload_n d_M_sendPacket_110 rfl ?_
    refine sv_sipush (x := (255 : Int32)) d_M_sendPacket_111 (by decide) ?_
    refine sv_iconst (x := (1 : Int32)) d_M_sendPacket_114 (by decide) ?_
    refine sv_callVv (d := d + 1) (as := [.int l1, .int (255 : Int32), .int (1 : Int32)]) d_M_sendPacket_115 (wv_M_154 mc_138) so_75 ⟨_, rfl, rfl⟩ rfl (Nat.le_of_ble_eq_true rfl) rfl (c_M_asks (d + 0) l1 (255 : Int32) (1 : Int32) v1 ) (fun v2 => ?_)
    exact sv_vret rfl d_M_sendPacket_118
set_option maxHeartbeats 4000000 in
set_option maxRecDepth 100000 in
theorem c_M_sendPacket_l50 (d : Nat) (l1 : Int32) (l2 : Int32) (l3 : Int32) (v : sv_T)  : sv_Ref (d + 2) 138 50 [some (.ref 75), some (.int l1), some (.int l2), some (.int l3)] [] v (f_M_sendPacket_l50 l1 l2 l3 v) (sv_Zl (d + 2) 138 50 (fun (s : Int32 × sv_T) => [some (.ref 75), some (.int l1), some (.int l2), some (.int s.1)]) (fun (s : Int32 × sv_T) => s.2) (sv_Zt (d + 2) 138 83 (fun (s : sv_T) => [some (.ref 75), some (.int l1), none, none]) (fun (s : sv_T) => s))) := by
  unfold f_M_sendPacket_l50
  refine sv_iload_n d_M_sendPacket_50 rfl ?_
  refine sv_aload_n d_M_sendPacket_51 rfl ?_
  refine sv_getr d_M_sendPacket_52 (gf_M_131 mc_138) so_75 sm_75_44 ?_
  refine sv_iconst (x := (0 : Int32)) d_M_sendPacket_55 (by decide) ?_
  refine sv_ialdc (m := 0) d_M_sendPacket_56 sa_116 (by decide) rfl ?_
  refine sv_icmp_ge 83 d_M_sendPacket_57 rfl ?_ ?_
  · exact sv_leave v rfl ⟨rfl, rfl, trivial⟩ rfl
  · refine sv_aload_n d_M_sendPacket_60 rfl ?_
    refine sv_getr d_M_sendPacket_61 (gf_M_25 mc_138) so_75 sm_75_6 ?_
    refine sv_bipush (x := (40 : Int32)) d_M_sendPacket_64 (by decide) ?_
    refine sv_iload_n d_M_sendPacket_66 rfl ?_
    refine sv_imul d_M_sendPacket_67 ?_
    refine sv_iload_n d_M_sendPacket_68 rfl ?_
    refine sv_iadd d_M_sendPacket_69 ?_
    refine sv_aload_n d_M_sendPacket_70 rfl ?_
    refine sv_getr d_M_sendPacket_71 (gf_M_131 mc_138) so_75 sm_75_44 ?_
    refine sv_iload_n d_M_sendPacket_74 rfl ?_
    refine sv_iald d_M_sendPacket_75 sa_116 ?_
    refine sv_iast d_M_sendPacket_76 sa_81 (fun v5 => ?_)
    refine sv_iinc (ls' := fun x6 => [some (.ref 75), some (.int l1), some (.int l2), some (.int x6)]) (y := (1 : Int32)) d_M_sendPacket_77 rfl (by decide) (fun _ => rfl) (fun x6 => ?_)
    refine sv_goto 50 d_M_sendPacket_80 rfl ?_
    exact sv_next (x6, v5) ⟨rfl, rfl, rfl, rfl, trivial⟩ rfl
set_option maxHeartbeats 4000000 in
set_option maxRecDepth 100000 in
theorem c_M_sendPacket_x83 (d : Nat) (l1 : Int32) (v : sv_T)  : sv_Ref (d + 2) 138 83 [some (.ref 75), some (.int l1), none, none] [] v (f_M_sendPacket_x83 l1 v) (sv_Zv) := by
  unfold f_M_sendPacket_x83
  refine sv_aload_n d_M_sendPacket_83 rfl ?_
  refine sv_getr d_M_sendPacket_84 (gf_M_19 mc_138) so_75 sm_75_4 ?_
  refine sv_iload_n d_M_sendPacket_87 rfl ?_
  refine sv_dup2 d_M_sendPacket_88 ?_
  refine sv_iald d_M_sendPacket_89 sa_79 ?_
  refine sv_iconst (x := (1 : Int32)) d_M_sendPacket_90 (by decide) ?_
  refine sv_iadd d_M_sendPacket_91 ?_
  refine sv_iast d_M_sendPacket_92 sa_79 (fun v7 => ?_)
  exact c_M_sendPacket_b93 d l1 v7 
set_option maxHeartbeats 4000000 in
set_option maxRecDepth 100000 in
theorem c_M_sendPacket (d : Nat) (a1 : Int32) (v : sv_T)  : sv_Cl (d + 2) 138 [.ref 75, .int a1] v (f_M_sendPacket a1 v) sv_Zv := by
  refine sv_spec (ls0 := [some (.ref 75), some (.int a1), none, none]) mp_138 (Nat.le_of_ble_eq_true rfl) rfl ?_
  unfold f_M_sendPacket
  refine sv_aload_n d_M_sendPacket_0 rfl ?_
  refine sv_getr d_M_sendPacket_1 (gf_M_31 mc_138) so_75 sm_75_8 ?_
  refine sv_iload_n d_M_sendPacket_4 rfl ?_
  refine sv_iald d_M_sendPacket_5 sa_83 ?_
  refine sv_if_le 15 d_M_sendPacket_6 rfl ?_ ?_
  · refine sv_aload_n d_M_sendPacket_15 rfl ?_
    refine sv_getr d_M_sendPacket_16 (gf_M_19 mc_138) so_75 sm_75_4 ?_
    refine sv_iload_n d_M_sendPacket_19 rfl ?_
    refine sv_iald d_M_sendPacket_20 sa_79 ?_
    refine sv_iconst (x := (4 : Int32)) d_M_sendPacket_21 (by decide) ?_
    refine sv_icmp_ge 93 d_M_sendPacket_22 rfl ?_ ?_
    · exact c_M_sendPacket_b93 d a1 v 
    · refine sv_iconst (x := (4 : Int32)) d_M_sendPacket_25 (by decide) ?_
      refine sv_iload_n d_M_sendPacket_26 rfl ?_
      refine sv_imul d_M_sendPacket_27 ?_
      refine sv_aload_n d_M_sendPacket_28 rfl ?_
      refine sv_getr d_M_sendPacket_29 (gf_M_19 mc_138) so_75 sm_75_4 ?_
      refine sv_iload_n d_M_sendPacket_32 rfl ?_
      refine sv_iald d_M_sendPacket_33 sa_79 ?_
      refine sv_iadd d_M_sendPacket_34 ?_
      refine sv_leR (fun x3 => ?_)
      refine sv_istore_n (ls' := [some (.ref 75), some (.int a1), some (.int x3), none]) d_M_sendPacket_35 (by decide) rfl ?_
      refine sv_aload_n d_M_sendPacket_36 rfl ?_
      refine sv_getr d_M_sendPacket_37 (gf_M_22 mc_138) so_75 sm_75_5 ?_
      refine sv_iload_n d_M_sendPacket_40 rfl ?_
      refine sv_aload_n d_M_sendPacket_41 rfl ?_
      refine sv_getr d_M_sendPacket_42 (gf_M_131 mc_138) so_75 sm_75_44 ?_
      refine sv_iconst (x := (0 : Int32)) d_M_sendPacket_45 (by decide) ?_
      refine sv_ialdc (m := 0) d_M_sendPacket_46 sa_116 (by decide) rfl ?_
      refine sv_iast d_M_sendPacket_47 sa_80 (fun v4 => ?_)
      refine sv_iconst (x := (0 : Int32)) d_M_sendPacket_48 (by decide) ?_
      refine sv_istore_n (ls' := [some (.ref 75), some (.int a1), some (.int x3), some (.int (0 : Int32))]) d_M_sendPacket_49 (by decide) rfl ?_
      exact sv_seq (xt := 83) (L := (fun (s : sv_T) => [some (.ref 75), some (.int a1), none, none])) (S := (fun (s : sv_T) => s)) (sv_loopR (L := (fun (s : Int32 × sv_T) => [some (.ref 75), some (.int a1), some (.int x3), some (.int s.1)])) (S := (fun (s : Int32 × sv_T) => s.2)) (fun s => c_M_sendPacket_l50 d a1 x3 s.1 (s.2) ) 100000 ((0 : Int32), v4)) (fun s => c_M_sendPacket_x83 d a1 s )
  · refine sv_aload_n d_M_sendPacket_9 rfl ?_
    refine sv_iload_n d_M_sendPacket_10 rfl ?_
    refine sv_callVv (d := d + 1) (as := [.int a1]) d_M_sendPacket_11 (wv_M_151 mc_138) so_75 ⟨_, rfl, rfl⟩ rfl (Nat.le_of_ble_eq_true rfl) rfl (c_M_goes (d + 0) a1 v ) (fun v8 => ?_)
    exact sv_vret rfl d_M_sendPacket_14
def f_M_part_l148 (l1 : Int32) (l3 : Int32) (l4 : Int32) (l7 : Int32) (v : sv_T) : Option ((Int32 × sv_T) ⊕ (sv_T)) :=
  if l7 < l4 then
  sv_ck (l3 + l7) 64 <|
  sv_ck ((10 : Int32) + l7) 40 <| sv_ls (sv_up v 116 ((10 : Int32) + l7).toNatClampNeg (v 114 (l3 + l7).toNatClampNeg)) fun v16 =>
  sv_le (l7 + (1 : Int32)) fun x17 =>
  some (.inl (x17, v16))
  else
  some (.inr v)
def f_M_part_x180 (l1 : Int32) (v : sv_T) : Option (sv_T) :=
  sv_bv (f_M_sendPacket l1 v) fun v18 =>
  some v18
def f_M_part_b43 (l1 : Int32) (l2 : Int32) (l3 : Int32) (l4 : Int32) (s0 : Int32) (s1 : Int32) (s2 : Int32) (v : sv_T) : Option (sv_T) :=
  sv_ck s2 40 <| sv_ls (sv_up v 116 s2.toNatClampNeg (s1 + s0)) fun v3 =>
  sv_ls (sv_up v3 116 3 (64 : Int32)) fun v4 =>
  sv_ls (sv_up v4 116 4 l2) fun v5 =>
  sv_ls (sv_up v5 116 5 (0 : Int32)) fun v6 =>
  sv_ls (sv_up v6 116 6 (0 : Int32)) fun v7 =>
  sv_ls (sv_up v7 116 7 (0 : Int32)) fun v8 =>
  sv_ls (sv_up v8 116 8 ((1 : Int32) + l1)) fun v9 =>
  sv_ls (sv_up v9 116 9 ((2 : Int32) - l1)) fun v10 =>
  sv_bv (f_M_copyRow 116 (10 : Int32) v10) fun v11 =>
  sv_bi (f_M_check  v11) fun x13 v12 =>
  sv_ls (sv_up v12 116 6 (x13 / (256 : Int32))) fun v14 =>
  sv_ls (sv_up v14 116 7 (sv_rem x13 (256 : Int32))) fun v15 =>
  Option.bind (sv_loop (fun (s : Int32 × sv_T) => f_M_part_l148 l1 l3 l4 s.1 (s.2)) 100000 ((0 : Int32), v15)) (fun (s : sv_T) => f_M_part_x180 l1 s)
def f_M_part (a1 : Int32) (a2 : Int32) (a3 : Int32) (a4 : Int32) (a5 : Int32) (v : sv_T) : Option (sv_T) :=
  sv_ls (sv_up v 116 0 ((10 : Int32) + a4)) fun v1 =>
  sv_ck a1 2 <|
  sv_ls (sv_up v1 116 1 (v1 85 a1.toNatClampNeg)) fun v2 =>
  if a5 = 0 then
  f_M_part_b43 a1 a2 a3 a4 (0 : Int32) (a3 / (4 : Int32)) (2 : Int32) v2
  else
  f_M_part_b43 a1 a2 a3 a4 (128 : Int32) (a3 / (4 : Int32)) (2 : Int32) v2
set_option maxHeartbeats 4000000 in
set_option maxRecDepth 100000 in
theorem c_M_part_l148 (d : Nat) (l1 : Int32) (l3 : Int32) (l4 : Int32) (l7 : Int32) (v : sv_T)  : sv_Ref (d + 3) 137 148 [some (.ref 75), some (.int l1), none, some (.int l3), some (.int l4), none, none, some (.int l7)] [] v (f_M_part_l148 l1 l3 l4 l7 v) (sv_Zl (d + 3) 137 148 (fun (s : Int32 × sv_T) => [some (.ref 75), some (.int l1), none, some (.int l3), some (.int l4), none, none, some (.int s.1)]) (fun (s : Int32 × sv_T) => s.2) (sv_Zt (d + 3) 137 180 (fun (s : sv_T) => [some (.ref 75), some (.int l1), none, none, none, none, none, none]) (fun (s : sv_T) => s))) := by
  unfold f_M_part_l148
  refine sv_iload d_M_part_148 rfl ?_
  refine sv_iload d_M_part_150 rfl ?_
  refine sv_icmp_ge 180 d_M_part_152 rfl ?_ ?_
  · exact sv_leave v rfl ⟨rfl, rfl, trivial⟩ rfl
  · refine sv_aload_n d_M_part_155 rfl ?_
    refine sv_getr d_M_part_156 (gf_M_131 mc_137) so_75 sm_75_44 ?_
    refine sv_bipush (x := (10 : Int32)) d_M_part_159 (by decide) ?_
    refine sv_iload d_M_part_161 rfl ?_
    refine sv_iadd d_M_part_163 ?_
    refine sv_aload_n d_M_part_164 rfl ?_
    refine sv_getr d_M_part_165 (gf_M_125 mc_137) so_75 sm_75_40 ?_
    refine sv_iload_n d_M_part_168 rfl ?_
    refine sv_iload d_M_part_169 rfl ?_
    refine sv_iadd d_M_part_171 ?_
    refine sv_iald d_M_part_172 sa_114 ?_
    refine sv_iast d_M_part_173 sa_116 (fun v16 => ?_)
    refine sv_iinc (ls' := fun x17 => [some (.ref 75), some (.int l1), none, some (.int l3), some (.int l4), none, none, some (.int x17)]) (y := (1 : Int32)) d_M_part_174 rfl (by decide) (fun _ => rfl) (fun x17 => ?_)
    refine sv_goto 148 d_M_part_177 rfl ?_
    exact sv_next (x17, v16) ⟨rfl, rfl, rfl, rfl, rfl, trivial⟩ rfl
set_option maxHeartbeats 4000000 in
set_option maxRecDepth 100000 in
theorem c_M_part_x180 (d : Nat) (l1 : Int32) (v : sv_T)  : sv_Ref (d + 3) 137 180 [some (.ref 75), some (.int l1), none, none, none, none, none, none] [] v (f_M_part_x180 l1 v) (sv_Zv) := by
  unfold f_M_part_x180
  refine sv_aload_n d_M_part_180 rfl ?_
  refine sv_iload_n d_M_part_181 rfl ?_
  refine sv_callVv (d := d + 2) (as := [.int l1]) d_M_part_182 (wv_M_166 mc_137) so_75 ⟨_, rfl, rfl⟩ rfl (Nat.le_of_ble_eq_true rfl) rfl (c_M_sendPacket (d + 0) l1 v ) (fun v18 => ?_)
  exact sv_vret rfl d_M_part_185
set_option maxHeartbeats 4000000 in
set_option maxRecDepth 100000 in
theorem c_M_part_b43 (d : Nat) (l1 : Int32) (l2 : Int32) (l3 : Int32) (l4 : Int32) (s0 : Int32) (s1 : Int32) (s2 : Int32) (v : sv_T)  : sv_Ref (d + 3) 137 43 [some (.ref 75), some (.int l1), some (.int l2), some (.int l3), some (.int l4), none, none, none] [.int s0, .int s1, .int s2, .ref 116] v (f_M_part_b43 l1 l2 l3 l4 s0 s1 s2 v) (sv_Zv) := by
  unfold f_M_part_b43
  refine sv_iadd d_M_part_43 ?_
  refine sv_iast d_M_part_44 sa_116 (fun v3 => ?_)
  refine sv_aload_n d_M_part_45 rfl ?_
  refine sv_getr d_M_part_46 (gf_M_131 mc_137) so_75 sm_75_44 ?_
  refine sv_iconst (x := (3 : Int32)) d_M_part_49 (by decide) ?_
  refine sv_bipush (x := (64 : Int32)) d_M_part_50 (by decide) ?_
  refine sv_iastc (m := 3) d_M_part_52 sa_116 (by decide) rfl (fun v4 => ?_)
  refine sv_aload_n d_M_part_53 rfl ?_
  refine sv_getr d_M_part_54 (gf_M_131 mc_137) so_75 sm_75_44 ?_
  refine sv_iconst (x := (4 : Int32)) d_M_part_57 (by decide) ?_
  refine sv_iload_n d_M_part_58 rfl ?_
  refine sv_iastc (m := 4) d_M_part_59 sa_116 (by decide) rfl (fun v5 => ?_)
  refine sv_aload_n d_M_part_60 rfl ?_
  refine sv_getr d_M_part_61 (gf_M_131 mc_137) so_75 sm_75_44 ?_
  refine sv_iconst (x := (5 : Int32)) d_M_part_64 (by decide) ?_
  refine sv_iconst (x := (0 : Int32)) d_M_part_65 (by decide) ?_
  refine sv_iastc (m := 5) d_M_part_66 sa_116 (by decide) rfl (fun v6 => ?_)
  refine sv_aload_n d_M_part_67 rfl ?_
  refine sv_getr d_M_part_68 (gf_M_131 mc_137) so_75 sm_75_44 ?_
  refine sv_bipush (x := (6 : Int32)) d_M_part_71 (by decide) ?_
  refine sv_iconst (x := (0 : Int32)) d_M_part_73 (by decide) ?_
  refine sv_iastc (m := 6) d_M_part_74 sa_116 (by decide) rfl (fun v7 => ?_)
  refine sv_aload_n d_M_part_75 rfl ?_
  refine sv_getr d_M_part_76 (gf_M_131 mc_137) so_75 sm_75_44 ?_
  refine sv_bipush (x := (7 : Int32)) d_M_part_79 (by decide) ?_
  refine sv_iconst (x := (0 : Int32)) d_M_part_81 (by decide) ?_
  refine sv_iastc (m := 7) d_M_part_82 sa_116 (by decide) rfl (fun v8 => ?_)
  refine sv_aload_n d_M_part_83 rfl ?_
  refine sv_getr d_M_part_84 (gf_M_131 mc_137) so_75 sm_75_44 ?_
  refine sv_bipush (x := (8 : Int32)) d_M_part_87 (by decide) ?_
  refine sv_iconst (x := (1 : Int32)) d_M_part_89 (by decide) ?_
  refine sv_iload_n d_M_part_90 rfl ?_
  refine sv_iadd d_M_part_91 ?_
  refine sv_iastc (m := 8) d_M_part_92 sa_116 (by decide) rfl (fun v9 => ?_)
  refine sv_aload_n d_M_part_93 rfl ?_
  refine sv_getr d_M_part_94 (gf_M_131 mc_137) so_75 sm_75_44 ?_
  refine sv_bipush (x := (9 : Int32)) d_M_part_97 (by decide) ?_
  refine sv_iconst (x := (2 : Int32)) d_M_part_99 (by decide) ?_
  refine sv_iload_n d_M_part_100 rfl ?_
  refine sv_isub d_M_part_101 ?_
  refine sv_iastc (m := 9) d_M_part_102 sa_116 (by decide) rfl (fun v10 => ?_)
  refine sv_aload_n d_M_part_103 rfl ?_
  refine sv_aload_n d_M_part_104 rfl ?_
  refine sv_getr d_M_part_105 (gf_M_131 mc_137) so_75 sm_75_44 ?_
  refine sv_bipush (x := (10 : Int32)) d_M_part_108 (by decide) ?_
  refine sv_callVv (d := d + 2) (as := [.ref 116, .int (10 : Int32)]) d_M_part_110 (wv_M_158 mc_137) so_75 ⟨_, rfl, rfl⟩ rfl (Nat.le_of_ble_eq_true rfl) rfl (c_M_copyRow (d + 2) 116 (10 : Int32) v10 (sv_isAl sa_116)) (fun v11 => ?_)
  refine sv_aload_n d_M_part_113 rfl ?_
  refine sv_callVi (d := d + 2) (as := []) d_M_part_114 (wv_M_162 mc_137) so_75 ⟨_, rfl, rfl⟩ rfl (Nat.le_of_ble_eq_true rfl) rfl (c_M_check (d + 2)  v11 ) (fun x13 v12 => ?_)
  refine sv_istore (ls' := [some (.ref 75), some (.int l1), some (.int l2), some (.int l3), some (.int l4), none, some (.int x13), none]) d_M_part_117 (by decide) rfl ?_
  refine sv_aload_n d_M_part_119 rfl ?_
  refine sv_getr d_M_part_120 (gf_M_131 mc_137) so_75 sm_75_44 ?_
  refine sv_bipush (x := (6 : Int32)) d_M_part_123 (by decide) ?_
  refine sv_iload d_M_part_125 rfl ?_
  refine sv_sipush (x := (256 : Int32)) d_M_part_127 (by decide) ?_
  refine sv_idiv d_M_part_130 (by decide) ?_
  refine sv_iastc (m := 6) d_M_part_131 sa_116 (by decide) rfl (fun v14 => ?_)
  refine sv_aload_n d_M_part_132 rfl ?_
  refine sv_getr d_M_part_133 (gf_M_131 mc_137) so_75 sm_75_44 ?_
  refine sv_bipush (x := (7 : Int32)) d_M_part_136 (by decide) ?_
  refine sv_iload d_M_part_138 rfl ?_
  refine sv_sipush (x := (256 : Int32)) d_M_part_140 (by decide) ?_
  refine sv_irem d_M_part_143 (by decide) ?_
  refine sv_iastc (m := 7) d_M_part_144 sa_116 (by decide) rfl (fun v15 => ?_)
  refine sv_iconst (x := (0 : Int32)) d_M_part_145 (by decide) ?_
  refine sv_istore (ls' := [some (.ref 75), some (.int l1), some (.int l2), some (.int l3), some (.int l4), none, some (.int x13), some (.int (0 : Int32))]) d_M_part_146 (by decide) rfl ?_
  refine sv_kill (ls' := [some (.ref 75), some (.int l1), none, some (.int l3), some (.int l4), none, none, some (.int (0 : Int32))]) ⟨rfl, rfl, rfl, rfl, rfl, trivial⟩ ?_
  exact sv_seq (xt := 180) (L := (fun (s : sv_T) => [some (.ref 75), some (.int l1), none, none, none, none, none, none])) (S := (fun (s : sv_T) => s)) (sv_loopR (L := (fun (s : Int32 × sv_T) => [some (.ref 75), some (.int l1), none, some (.int l3), some (.int l4), none, none, some (.int s.1)])) (S := (fun (s : Int32 × sv_T) => s.2)) (fun s => c_M_part_l148 d l1 l3 l4 s.1 (s.2) ) 100000 ((0 : Int32), v15)) (fun s => c_M_part_x180 d l1 s )
set_option maxHeartbeats 4000000 in
set_option maxRecDepth 100000 in
theorem c_M_part (d : Nat) (a1 : Int32) (a2 : Int32) (a3 : Int32) (a4 : Int32) (a5 : Int32) (v : sv_T)  : sv_Cl (d + 3) 137 [.ref 75, .int a1, .int a2, .int a3, .int a4, .int a5] v (f_M_part a1 a2 a3 a4 a5 v) sv_Zv := by
  refine sv_spec (ls0 := [some (.ref 75), some (.int a1), some (.int a2), some (.int a3), some (.int a4), some (.int a5), none, none]) mp_137 (Nat.le_of_ble_eq_true rfl) rfl ?_
  unfold f_M_part
  refine sv_aload_n d_M_part_0 rfl ?_
  refine sv_getr d_M_part_1 (gf_M_131 mc_137) so_75 sm_75_44 ?_
  refine sv_iconst (x := (0 : Int32)) d_M_part_4 (by decide) ?_
  refine sv_bipush (x := (10 : Int32)) d_M_part_5 (by decide) ?_
  refine sv_iload d_M_part_7 rfl ?_
  refine sv_iadd d_M_part_9 ?_
  refine sv_iastc (m := 0) d_M_part_10 sa_116 (by decide) rfl (fun v1 => ?_)
  refine sv_aload_n d_M_part_11 rfl ?_
  refine sv_getr d_M_part_12 (gf_M_131 mc_137) so_75 sm_75_44 ?_
  refine sv_iconst (x := (1 : Int32)) d_M_part_15 (by decide) ?_
  refine sv_aload_n d_M_part_16 rfl ?_
  refine sv_getr d_M_part_17 (gf_M_37 mc_137) so_75 sm_75_10 ?_
  refine sv_iload_n d_M_part_20 rfl ?_
  refine sv_iald d_M_part_21 sa_85 ?_
  refine sv_iastc (m := 1) d_M_part_22 sa_116 (by decide) rfl (fun v2 => ?_)
  refine sv_aload_n d_M_part_23 rfl ?_
  refine sv_getr d_M_part_24 (gf_M_131 mc_137) so_75 sm_75_44 ?_
  refine sv_iconst (x := (2 : Int32)) d_M_part_27 (by decide) ?_
  refine sv_iload_n d_M_part_28 rfl ?_
  refine sv_iconst (x := (4 : Int32)) d_M_part_29 (by decide) ?_
  refine sv_idiv d_M_part_30 (by decide) ?_
  refine sv_iload d_M_part_31 rfl ?_
  refine sv_if_eq 42 d_M_part_33 rfl ?_ ?_
  · refine sv_iconst (x := (0 : Int32)) d_M_part_42 (by decide) ?_
    refine sv_kill (ls' := [some (.ref 75), some (.int a1), some (.int a2), some (.int a3), some (.int a4), none, none, none]) ⟨rfl, rfl, rfl, rfl, rfl, trivial⟩ ?_
    exact c_M_part_b43 d a1 a2 a3 a4 (0 : Int32) (a3 / (4 : Int32)) (2 : Int32) v2 
  · refine sv_sipush (x := (128 : Int32)) d_M_part_36 (by decide) ?_
    refine sv_goto 43 d_M_part_39 rfl ?_
    refine sv_kill (ls' := [some (.ref 75), some (.int a1), some (.int a2), some (.int a3), some (.int a4), none, none, none]) ⟨rfl, rfl, rfl, rfl, rfl, trivial⟩ ?_
    exact c_M_part_b43 d a1 a2 a3 a4 (128 : Int32) (a3 / (4 : Int32)) (2 : Int32) v2 
def f_M_sends_b50 (l1 : Int32) (v : sv_T) : Option (sv_T) :=
  sv_ck l1 2 <|
  sv_ck l1 2 <| sv_ls (sv_up v 85 l1.toNatClampNeg (sv_rem ((v 85 l1.toNatClampNeg) + (1 : Int32)) (256 : Int32))) fun v3 =>
  some v3
def f_M_sends (a1 : Int32) (a2 : Int32) (v : sv_T) : Option (sv_T) :=
  if (v 75 41) ≤ (24 : Int32) then
  sv_bv (f_M_part a1 a2 (0 : Int32) (v 75 41) (0 : Int32) v) fun v4 =>
  f_M_sends_b50 a1 v4
  else
  sv_bv (f_M_part a1 a2 (0 : Int32) (24 : Int32) (1 : Int32) v) fun v1 =>
  sv_bv (f_M_part a1 a2 (24 : Int32) ((v1 75 41) - (24 : Int32)) (0 : Int32) v1) fun v2 =>
  f_M_sends_b50 a1 v2
set_option maxHeartbeats 4000000 in
set_option maxRecDepth 100000 in
theorem c_M_sends_b50 (d : Nat) (l1 : Int32) (v : sv_T)  : sv_Ref (d + 4) 136 50 [some (.ref 75), some (.int l1), none] [] v (f_M_sends_b50 l1 v) (sv_Zv) := by
  unfold f_M_sends_b50
  refine sv_aload_n d_M_sends_50 rfl ?_
  refine sv_getr d_M_sends_51 (gf_M_37 mc_136) so_75 sm_75_10 ?_
  refine sv_iload_n d_M_sends_54 rfl ?_
  refine sv_aload_n d_M_sends_55 rfl ?_
  refine sv_getr d_M_sends_56 (gf_M_37 mc_136) so_75 sm_75_10 ?_
  refine sv_iload_n d_M_sends_59 rfl ?_
  refine sv_iald d_M_sends_60 sa_85 ?_
  refine sv_iconst (x := (1 : Int32)) d_M_sends_61 (by decide) ?_
  refine sv_iadd d_M_sends_62 ?_
  refine sv_sipush (x := (256 : Int32)) d_M_sends_63 (by decide) ?_
  refine sv_irem d_M_sends_66 (by decide) ?_
  refine sv_iast d_M_sends_67 sa_85 (fun v3 => ?_)
  exact sv_vret rfl d_M_sends_68
set_option maxHeartbeats 4000000 in
set_option maxRecDepth 100000 in
theorem c_M_sends (d : Nat) (a1 : Int32) (a2 : Int32) (v : sv_T)  : sv_Cl (d + 4) 136 [.ref 75, .int a1, .int a2] v (f_M_sends a1 a2 v) sv_Zv := by
  refine sv_spec (ls0 := [some (.ref 75), some (.int a1), some (.int a2)]) mp_136 (Nat.le_of_ble_eq_true rfl) rfl ?_
  unfold f_M_sends
  refine sv_aload_n d_M_sends_0 rfl ?_
  refine sv_geti d_M_sends_1 (gf_M_169 mc_136) so_75 (sd_10_41 so_75) ?_
  refine sv_bipush (x := (24 : Int32)) d_M_sends_4 (by decide) ?_
  refine sv_icmp_gt 24 d_M_sends_6 rfl ?_ ?_
  · refine sv_aload_n d_M_sends_24 rfl ?_
    refine sv_iload_n d_M_sends_25 rfl ?_
    refine sv_iload_n d_M_sends_26 rfl ?_
    refine sv_iconst (x := (0 : Int32)) d_M_sends_27 (by decide) ?_
    refine sv_bipush (x := (24 : Int32)) d_M_sends_28 (by decide) ?_
    refine sv_iconst (x := (1 : Int32)) d_M_sends_30 (by decide) ?_
    refine sv_callVv (d := d + 3) (as := [.int a1, .int a2, .int (0 : Int32), .int (24 : Int32), .int (1 : Int32)]) d_M_sends_31 (wv_M_172 mc_136) so_75 ⟨_, rfl, rfl⟩ rfl (Nat.le_of_ble_eq_true rfl) rfl (c_M_part (d + 0) a1 a2 (0 : Int32) (24 : Int32) (1 : Int32) v ) (fun v1 => ?_)
    refine sv_aload_n d_M_sends_34 rfl ?_
    refine sv_iload_n d_M_sends_35 rfl ?_
    refine sv_iload_n d_M_sends_36 rfl ?_
    refine sv_bipush (x := (24 : Int32)) d_M_sends_37 (by decide) ?_
    refine sv_aload_n d_M_sends_39 rfl ?_
    refine sv_geti d_M_sends_40 (gf_M_169 mc_136) so_75 (sd_10_41 so_75) ?_
    refine sv_bipush (x := (24 : Int32)) d_M_sends_43 (by decide) ?_
    refine sv_isub d_M_sends_45 ?_
    refine sv_iconst (x := (0 : Int32)) d_M_sends_46 (by decide) ?_
    refine sv_callVv (d := d + 3) (as := [.int a1, .int a2, .int (24 : Int32), .int ((v1 75 41) - (24 : Int32)), .int (0 : Int32)]) d_M_sends_47 (wv_M_172 mc_136) so_75 ⟨_, rfl, rfl⟩ rfl (Nat.le_of_ble_eq_true rfl) rfl (c_M_part (d + 0) a1 a2 (24 : Int32) ((v1 75 41) - (24 : Int32)) (0 : Int32) v1 ) (fun v2 => ?_)
    refine sv_kill (ls' := [some (.ref 75), some (.int a1), none]) ⟨rfl, rfl, trivial⟩ ?_
    exact c_M_sends_b50 d a1 v2 
  · refine sv_aload_n d_M_sends_9 rfl ?_
    refine sv_iload_n d_M_sends_10 rfl ?_
    refine sv_iload_n d_M_sends_11 rfl ?_
    refine sv_iconst (x := (0 : Int32)) d_M_sends_12 (by decide) ?_
    refine sv_aload_n d_M_sends_13 rfl ?_
    refine sv_geti d_M_sends_14 (gf_M_169 mc_136) so_75 (sd_10_41 so_75) ?_
    refine sv_iconst (x := (0 : Int32)) d_M_sends_17 (by decide) ?_
    refine sv_callVv (d := d + 3) (as := [.int a1, .int a2, .int (0 : Int32), .int (v 75 41), .int (0 : Int32)]) d_M_sends_18 (wv_M_172 mc_136) so_75 ⟨_, rfl, rfl⟩ rfl (Nat.le_of_ble_eq_true rfl) rfl (c_M_part (d + 0) a1 a2 (0 : Int32) (v 75 41) (0 : Int32) v ) (fun v4 => ?_)
    refine sv_goto 50 d_M_sends_21 rfl ?_
    refine sv_kill (ls' := [some (.ref 75), some (.int a1), none]) ⟨rfl, rfl, trivial⟩ ?_
    exact c_M_sends_b50 d a1 v4 
def f_M_sendEcho (a1 : Int32) (a2 : Int32) (v : sv_T) : Option (sv_T) :=
  sv_ls (sv_up v 114 0 a2) fun v1 =>
  sv_ls (sv_up v1 114 2 (0 : Int32)) fun v2 =>
  sv_ls (sv_up v2 114 3 (0 : Int32)) fun v3 =>
  sv_bv (f_M_copyRow 114 (v3 75 41) v3) fun v4 =>
  sv_bi (f_M_check  v4) fun x6 v5 =>
  sv_ls (sv_up v5 114 2 (x6 / (256 : Int32))) fun v7 =>
  sv_ls (sv_up v7 114 3 (sv_rem x6 (256 : Int32))) fun v8 =>
  sv_bv (f_M_sends a1 (1 : Int32) v8) fun v9 =>
  some v9
set_option maxHeartbeats 4000000 in
set_option maxRecDepth 100000 in
theorem c_M_sendEcho (d : Nat) (a1 : Int32) (a2 : Int32) (v : sv_T)  : sv_Cl (d + 5) 133 [.ref 75, .int a1, .int a2] v (f_M_sendEcho a1 a2 v) sv_Zv := by
  refine sv_spec (ls0 := [some (.ref 75), some (.int a1), some (.int a2), none]) mp_133 (Nat.le_of_ble_eq_true rfl) rfl ?_
  unfold f_M_sendEcho
  refine sv_aload_n d_M_sendEcho_0 rfl ?_
  refine sv_getr d_M_sendEcho_1 (gf_M_125 mc_133) so_75 sm_75_40 ?_
  refine sv_iconst (x := (0 : Int32)) d_M_sendEcho_4 (by decide) ?_
  refine sv_iload_n d_M_sendEcho_5 rfl ?_
  refine sv_iastc (m := 0) d_M_sendEcho_6 sa_114 (by decide) rfl (fun v1 => ?_)
  refine sv_aload_n d_M_sendEcho_7 rfl ?_
  refine sv_getr d_M_sendEcho_8 (gf_M_125 mc_133) so_75 sm_75_40 ?_
  refine sv_iconst (x := (2 : Int32)) d_M_sendEcho_11 (by decide) ?_
  refine sv_iconst (x := (0 : Int32)) d_M_sendEcho_12 (by decide) ?_
  refine sv_iastc (m := 2) d_M_sendEcho_13 sa_114 (by decide) rfl (fun v2 => ?_)
  refine sv_aload_n d_M_sendEcho_14 rfl ?_
  refine sv_getr d_M_sendEcho_15 (gf_M_125 mc_133) so_75 sm_75_40 ?_
  refine sv_iconst (x := (3 : Int32)) d_M_sendEcho_18 (by decide) ?_
  refine sv_iconst (x := (0 : Int32)) d_M_sendEcho_19 (by decide) ?_
  refine sv_iastc (m := 3) d_M_sendEcho_20 sa_114 (by decide) rfl (fun v3 => ?_)
  refine sv_aload_n d_M_sendEcho_21 rfl ?_
  refine sv_aload_n d_M_sendEcho_22 rfl ?_
  refine sv_getr d_M_sendEcho_23 (gf_M_125 mc_133) so_75 sm_75_40 ?_
  refine sv_aload_n d_M_sendEcho_26 rfl ?_
  refine sv_geti d_M_sendEcho_27 (gf_M_169 mc_133) so_75 (sd_10_41 so_75) ?_
  refine sv_callVv (d := d + 4) (as := [.ref 114, .int (v3 75 41)]) d_M_sendEcho_30 (wv_M_158 mc_133) so_75 ⟨_, rfl, rfl⟩ rfl (Nat.le_of_ble_eq_true rfl) rfl (c_M_copyRow (d + 4) 114 (v3 75 41) v3 (sv_isAl sa_114)) (fun v4 => ?_)
  refine sv_aload_n d_M_sendEcho_33 rfl ?_
  refine sv_callVi (d := d + 4) (as := []) d_M_sendEcho_34 (wv_M_162 mc_133) so_75 ⟨_, rfl, rfl⟩ rfl (Nat.le_of_ble_eq_true rfl) rfl (c_M_check (d + 4)  v4 ) (fun x6 v5 => ?_)
  refine sv_istore_n (ls' := [some (.ref 75), some (.int a1), some (.int a2), some (.int x6)]) d_M_sendEcho_37 (by decide) rfl ?_
  refine sv_aload_n d_M_sendEcho_38 rfl ?_
  refine sv_getr d_M_sendEcho_39 (gf_M_125 mc_133) so_75 sm_75_40 ?_
  refine sv_iconst (x := (2 : Int32)) d_M_sendEcho_42 (by decide) ?_
  refine sv_iload_n d_M_sendEcho_43 rfl ?_
  refine sv_sipush (x := (256 : Int32)) d_M_sendEcho_44 (by decide) ?_
  refine sv_idiv d_M_sendEcho_47 (by decide) ?_
  refine sv_iastc (m := 2) d_M_sendEcho_48 sa_114 (by decide) rfl (fun v7 => ?_)
  refine sv_aload_n d_M_sendEcho_49 rfl ?_
  refine sv_getr d_M_sendEcho_50 (gf_M_125 mc_133) so_75 sm_75_40 ?_
  refine sv_iconst (x := (3 : Int32)) d_M_sendEcho_53 (by decide) ?_
  refine sv_iload_n d_M_sendEcho_54 rfl ?_
  refine sv_sipush (x := (256 : Int32)) d_M_sendEcho_55 (by decide) ?_
  refine sv_irem d_M_sendEcho_58 (by decide) ?_
  refine sv_iastc (m := 3) d_M_sendEcho_59 sa_114 (by decide) rfl (fun v8 => ?_)
  refine sv_aload_n d_M_sendEcho_60 rfl ?_
  refine sv_iload_n d_M_sendEcho_61 rfl ?_
  refine sv_iconst (x := (1 : Int32)) d_M_sendEcho_62 (by decide) ?_
  refine sv_callVv (d := d + 4) (as := [.int a1, .int (1 : Int32)]) d_M_sendEcho_63 (wv_M_193 mc_133) so_75 ⟨_, rfl, rfl⟩ rfl (Nat.le_of_ble_eq_true rfl) rfl (c_M_sends (d + 0) a1 (1 : Int32) v8 ) (fun v9 => ?_)
  exact sv_vret rfl d_M_sendEcho_66
def f_M_ping_l54 (l1 : Int32) (l2 : Int32) (l3 : Int32) (l4 : Int32) (v : sv_T) : Option ((Int32 × sv_T) ⊕ (sv_T)) :=
  if l4 < l3 then
  sv_ck ((5 : Int32) + l4) 64 <| sv_ls (sv_up v 114 ((5 : Int32) + l4).toNatClampNeg ((l2 + l4) &&& (255 : Int32))) fun v6 =>
  sv_le (l4 + (1 : Int32)) fun x7 =>
  some (.inl (x7, v6))
  else
  some (.inr v)
def f_M_ping_x83 (l1 : Int32) (v : sv_T) : Option (Int32 × sv_T) :=
  sv_bv (f_M_sendEcho l1 (8 : Int32) v) fun v8 =>
  some ((1 : Int32), v8)
def f_M_ping (a1 : Int32) (a2 : Int32) (a3 : Int32) (v : sv_T) : Option (Int32 × sv_T) :=
  sv_bi (f_M_isHost a1 v) fun x2 v1 =>
  if x2 = 0 then
  some ((0 : Int32), v1)
  else
  if a2 < 0 then
  some ((0 : Int32), v1)
  else
  if a2 ≤ (255 : Int32) then
  if a3 < 0 then
  some ((0 : Int32), v1)
  else
  if (43 : Int32) < a3 then
  some ((0 : Int32), v1)
  else
  sv_ls (sv_up v1 75 41 ((5 : Int32) + a3)) fun v3 =>
  sv_ls (sv_up v3 114 1 (0 : Int32)) fun v4 =>
  sv_ls (sv_up v4 114 4 a2) fun v5 =>
  Option.bind (sv_loop (fun (s : Int32 × sv_T) => f_M_ping_l54 a1 a2 a3 s.1 (s.2)) 100000 ((0 : Int32), v5)) (fun (s : sv_T) => f_M_ping_x83 a1 s)
  else
  some ((0 : Int32), v1)
set_option maxHeartbeats 4000000 in
set_option maxRecDepth 100000 in
theorem c_M_ping_l54 (d : Nat) (l1 : Int32) (l2 : Int32) (l3 : Int32) (l4 : Int32) (v : sv_T)  : sv_Ref (d + 6) 131 54 [some (.ref 75), some (.int l1), some (.int l2), some (.int l3), some (.int l4)] [] v (f_M_ping_l54 l1 l2 l3 l4 v) (sv_Zl (d + 6) 131 54 (fun (s : Int32 × sv_T) => [some (.ref 75), some (.int l1), some (.int l2), some (.int l3), some (.int s.1)]) (fun (s : Int32 × sv_T) => s.2) (sv_Zt (d + 6) 131 83 (fun (s : sv_T) => [some (.ref 75), some (.int l1), none, none, none]) (fun (s : sv_T) => s))) := by
  unfold f_M_ping_l54
  refine sv_iload d_M_ping_54 rfl ?_
  refine sv_iload_n d_M_ping_56 rfl ?_
  refine sv_icmp_ge 83 d_M_ping_57 rfl ?_ ?_
  · exact sv_leave v rfl ⟨rfl, rfl, trivial⟩ rfl
  · refine sv_aload_n d_M_ping_60 rfl ?_
    refine sv_getr d_M_ping_61 (gf_M_125 mc_131) so_75 sm_75_40 ?_
    refine sv_iconst (x := (5 : Int32)) d_M_ping_64 (by decide) ?_
    refine sv_iload d_M_ping_65 rfl ?_
    refine sv_iadd d_M_ping_67 ?_
    refine sv_iload_n d_M_ping_68 rfl ?_
    refine sv_iload d_M_ping_69 rfl ?_
    refine sv_iadd d_M_ping_71 ?_
    refine sv_sipush (x := (255 : Int32)) d_M_ping_72 (by decide) ?_
    refine sv_iand d_M_ping_75 ?_
    refine sv_iast d_M_ping_76 sa_114 (fun v6 => ?_)
    refine sv_iinc (ls' := fun x7 => [some (.ref 75), some (.int l1), some (.int l2), some (.int l3), some (.int x7)]) (y := (1 : Int32)) d_M_ping_77 rfl (by decide) (fun _ => rfl) (fun x7 => ?_)
    refine sv_goto 54 d_M_ping_80 rfl ?_
    exact sv_next (x7, v6) ⟨rfl, rfl, rfl, rfl, rfl, trivial⟩ rfl
set_option maxHeartbeats 4000000 in
set_option maxRecDepth 100000 in
theorem c_M_ping_x83 (d : Nat) (l1 : Int32) (v : sv_T)  : sv_Ref (d + 6) 131 83 [some (.ref 75), some (.int l1), none, none, none] [] v (f_M_ping_x83 l1 v) (sv_Zi) := by
  unfold f_M_ping_x83
  refine sv_aload_n d_M_ping_83 rfl ?_
  refine sv_iload_n d_M_ping_84 rfl ?_
  refine sv_bipush (x := (8 : Int32)) d_M_ping_85 (by decide) ?_
  refine sv_callVv (d := d + 5) (as := [.int l1, .int (8 : Int32)]) d_M_ping_87 (wv_M_196 mc_131) so_75 ⟨_, rfl, rfl⟩ rfl (Nat.le_of_ble_eq_true rfl) rfl (c_M_sendEcho (d + 0) l1 (8 : Int32) v ) (fun v8 => ?_)
  refine sv_iconst (x := (1 : Int32)) d_M_ping_90 (by decide) ?_
  exact sv_zretc rfl (by decide) d_M_ping_91
set_option maxHeartbeats 4000000 in
set_option maxRecDepth 100000 in
theorem c_M_ping (d : Nat) (a1 : Int32) (a2 : Int32) (a3 : Int32) (v : sv_T)  : sv_Cl (d + 6) 131 [.ref 75, .int a1, .int a2, .int a3] v (f_M_ping a1 a2 a3 v) sv_Zi := by
  refine sv_spec (ls0 := [some (.ref 75), some (.int a1), some (.int a2), some (.int a3), none]) mp_131 (Nat.le_of_ble_eq_true rfl) rfl ?_
  unfold f_M_ping
  refine sv_iload_n d_M_ping_0 rfl ?_
  refine sv_callSi (d := d + 5) (as := [.int a1]) d_M_ping_1 (ws_M_140 mc_131)  rfl (Nat.le_of_ble_eq_true rfl) rfl (c_M_isHost (d + 5) a1 v ) (fun x2 v1 => ?_)
  refine sv_if_eq 28 d_M_ping_4 rfl ?_ ?_
  · refine sv_iconst (x := (0 : Int32)) d_M_ping_28 (by decide) ?_
    exact sv_zretc rfl (by decide) d_M_ping_29
  · refine sv_iload_n d_M_ping_7 rfl ?_
    refine sv_if_lt 28 d_M_ping_8 rfl ?_ ?_
    · refine sv_iconst (x := (0 : Int32)) d_M_ping_28 (by decide) ?_
      exact sv_zretc rfl (by decide) d_M_ping_29
    · refine sv_iload_n d_M_ping_11 rfl ?_
      refine sv_sipush (x := (255 : Int32)) d_M_ping_12 (by decide) ?_
      refine sv_icmp_gt 28 d_M_ping_15 rfl ?_ ?_
      · refine sv_iconst (x := (0 : Int32)) d_M_ping_28 (by decide) ?_
        exact sv_zretc rfl (by decide) d_M_ping_29
      · refine sv_iload_n d_M_ping_18 rfl ?_
        refine sv_if_lt 28 d_M_ping_19 rfl ?_ ?_
        · refine sv_iconst (x := (0 : Int32)) d_M_ping_28 (by decide) ?_
          exact sv_zretc rfl (by decide) d_M_ping_29
        · refine sv_iload_n d_M_ping_22 rfl ?_
          refine sv_bipush (x := (43 : Int32)) d_M_ping_23 (by decide) ?_
          refine sv_icmp_le 30 d_M_ping_25 rfl ?_ ?_
          · refine sv_aload_n d_M_ping_30 rfl ?_
            refine sv_iconst (x := (5 : Int32)) d_M_ping_31 (by decide) ?_
            refine sv_iload_n d_M_ping_32 rfl ?_
            refine sv_iadd d_M_ping_33 ?_
            refine sv_puti d_M_ping_34 (pf_M_169 mc_131) so_75 (sd_10_41 so_75) (fun v3 => ?_)
            refine sv_aload_n d_M_ping_37 rfl ?_
            refine sv_getr d_M_ping_38 (gf_M_125 mc_131) so_75 sm_75_40 ?_
            refine sv_iconst (x := (1 : Int32)) d_M_ping_41 (by decide) ?_
            refine sv_iconst (x := (0 : Int32)) d_M_ping_42 (by decide) ?_
            refine sv_iastc (m := 1) d_M_ping_43 sa_114 (by decide) rfl (fun v4 => ?_)
            refine sv_aload_n d_M_ping_44 rfl ?_
            refine sv_getr d_M_ping_45 (gf_M_125 mc_131) so_75 sm_75_40 ?_
            refine sv_iconst (x := (4 : Int32)) d_M_ping_48 (by decide) ?_
            refine sv_iload_n d_M_ping_49 rfl ?_
            refine sv_iastc (m := 4) d_M_ping_50 sa_114 (by decide) rfl (fun v5 => ?_)
            refine sv_iconst (x := (0 : Int32)) d_M_ping_51 (by decide) ?_
            refine sv_istore (ls' := [some (.ref 75), some (.int a1), some (.int a2), some (.int a3), some (.int (0 : Int32))]) d_M_ping_52 (by decide) rfl ?_
            exact sv_seq (xt := 83) (L := (fun (s : sv_T) => [some (.ref 75), some (.int a1), none, none, none])) (S := (fun (s : sv_T) => s)) (sv_loopR (L := (fun (s : Int32 × sv_T) => [some (.ref 75), some (.int a1), some (.int a2), some (.int a3), some (.int s.1)])) (S := (fun (s : Int32 × sv_T) => s.2)) (fun s => c_M_ping_l54 d a1 a2 a3 s.1 (s.2) ) 100000 ((0 : Int32), v5)) (fun s => c_M_ping_x83 d a1 s )
          · refine sv_iconst (x := (0 : Int32)) d_M_ping_28 (by decide) ?_
            exact sv_zretc rfl (by decide) d_M_ping_29
def f_M_isSocket (a1 : Int32) (a2 : Int32) (v : sv_T) : Option (Int32 × sv_T) :=
  sv_bi (f_M_isHost a1 v) fun x2 v1 =>
  if x2 = 0 then
  some ((0 : Int32), v1)
  else
  if a2 = (1 : Int32) then
  some ((1 : Int32), v1)
  else
  if a2 = (2 : Int32) then
  some ((1 : Int32), v1)
  else
  some ((0 : Int32), v1)
set_option maxHeartbeats 4000000 in
set_option maxRecDepth 100000 in
theorem c_M_isSocket (d : Nat) (a1 : Int32) (a2 : Int32) (v : sv_T)  : sv_Cl (d + 1) 143 [.int a1, .int a2] v (f_M_isSocket a1 a2 v) sv_Zi := by
  refine sv_spec (ls0 := [some (.int a1), some (.int a2)]) mp_143 (Nat.le_of_ble_eq_true rfl) rfl ?_
  unfold f_M_isSocket
  refine sv_iload_n d_M_isSocket_0 rfl ?_
  refine sv_callSi (d := d + 0) (as := [.int a1]) d_M_isSocket_1 (ws_M_140 mc_143)  rfl (Nat.le_of_ble_eq_true rfl) rfl (c_M_isHost (d + 0) a1 v ) (fun x2 v1 => ?_)
  refine sv_if_eq 21 d_M_isSocket_4 rfl ?_ ?_
  · refine sv_iconst (x := (0 : Int32)) d_M_isSocket_21 (by decide) ?_
    exact sv_zretc rfl (by decide) d_M_isSocket_22
  · refine sv_iload_n d_M_isSocket_7 rfl ?_
    refine sv_iconst (x := (1 : Int32)) d_M_isSocket_8 (by decide) ?_
    refine sv_icmp_eq 17 d_M_isSocket_9 rfl ?_ ?_
    · refine sv_iconst (x := (1 : Int32)) d_M_isSocket_17 (by decide) ?_
      refine sv_goto 22 d_M_isSocket_18 rfl ?_
      exact sv_zretc rfl (by decide) d_M_isSocket_22
    · refine sv_iload_n d_M_isSocket_12 rfl ?_
      refine sv_iconst (x := (2 : Int32)) d_M_isSocket_13 (by decide) ?_
      refine sv_icmp_ne 21 d_M_isSocket_14 rfl ?_ ?_
      · refine sv_iconst (x := (0 : Int32)) d_M_isSocket_21 (by decide) ?_
        exact sv_zretc rfl (by decide) d_M_isSocket_22
      · refine sv_iconst (x := (1 : Int32)) d_M_isSocket_17 (by decide) ?_
        refine sv_goto 22 d_M_isSocket_18 rfl ?_
        exact sv_zretc rfl (by decide) d_M_isSocket_22
def f_M_at (a1 : Int32) (a2 : Int32) (v : sv_T) : Option (Int32 × sv_T) :=
  some (((((2 : Int32) * a1) + a2) - (1 : Int32)), v)
set_option maxHeartbeats 4000000 in
set_option maxRecDepth 100000 in
theorem c_M_at (d : Nat) (a1 : Int32) (a2 : Int32) (v : sv_T)  : sv_Cl (d + 0) 144 [.int a1, .int a2] v (f_M_at a1 a2 v) sv_Zi := by
  refine sv_spec (ls0 := [some (.int a1), some (.int a2)]) mp_144 (Nat.le_of_ble_eq_true rfl) rfl ?_
  unfold f_M_at
  refine sv_iconst (x := (2 : Int32)) d_M_at_0 (by decide) ?_
  refine sv_iload_n d_M_at_1 rfl ?_
  refine sv_imul d_M_at_2 ?_
  refine sv_iload_n d_M_at_3 rfl ?_
  refine sv_iadd d_M_at_4 ?_
  refine sv_iconst (x := (1 : Int32)) d_M_at_5 (by decide) ?_
  refine sv_isub d_M_at_6 ?_
  exact sv_iret rfl d_M_at_7
def f_M_fresh_l68 (l1 : Int32) (l2 : Int32) (v : sv_T) : Option ((Int32 × sv_T) ⊕ (sv_T)) :=
  if l2 < (((32 : Int32) * l1) + (32 : Int32)) then
  sv_ck l2 128 <| sv_ls (sv_up v 107 l2.toNatClampNeg (0 : Int32)) fun v11 =>
  sv_le (l2 + (1 : Int32)) fun x12 =>
  some (.inl (x12, v11))
  else
  some (.inr v)
def f_M_fresh_x92 (l1 : Int32) (v : sv_T) : Option (sv_T) :=
  sv_ck l1 4 <| sv_ls (sv_up v 109 l1.toNatClampNeg (-1 : Int32)) fun v13 =>
  sv_ck l1 4 <| sv_ls (sv_up v13 110 l1.toNatClampNeg (0 : Int32)) fun v14 =>
  sv_ck l1 4 <| sv_ls (sv_up v14 111 l1.toNatClampNeg (4 : Int32)) fun v15 =>
  sv_ck l1 4 <| sv_ls (sv_up v15 112 l1.toNatClampNeg (0 : Int32)) fun v16 =>
  some v16
def f_M_fresh (a1 : Int32) (v : sv_T) : Option (sv_T) :=
  sv_ck a1 4 <| sv_ls (sv_up v 96 a1.toNatClampNeg (0 : Int32)) fun v1 =>
  sv_ck a1 4 <| sv_ls (sv_up v1 97 a1.toNatClampNeg (0 : Int32)) fun v2 =>
  sv_ck a1 4 <| sv_ls (sv_up v2 98 a1.toNatClampNeg (0 : Int32)) fun v3 =>
  sv_ck a1 4 <| sv_ls (sv_up v3 99 a1.toNatClampNeg (0 : Int32)) fun v4 =>
  sv_ck a1 4 <| sv_ls (sv_up v4 100 a1.toNatClampNeg (0 : Int32)) fun v5 =>
  sv_ck a1 4 <| sv_ls (sv_up v5 101 a1.toNatClampNeg (0 : Int32)) fun v6 =>
  sv_ck a1 4 <| sv_ls (sv_up v6 103 a1.toNatClampNeg (0 : Int32)) fun v7 =>
  sv_ck a1 4 <| sv_ls (sv_up v7 104 a1.toNatClampNeg (0 : Int32)) fun v8 =>
  sv_ck a1 4 <| sv_ls (sv_up v8 105 a1.toNatClampNeg (0 : Int32)) fun v9 =>
  sv_le (((32 : Int32) * a1)) fun x10 =>
  Option.bind (sv_loop (fun (s : Int32 × sv_T) => f_M_fresh_l68 a1 s.1 (s.2)) 100000 (x10, v9)) (fun (s : sv_T) => f_M_fresh_x92 a1 s)
set_option maxHeartbeats 4000000 in
set_option maxRecDepth 100000 in
theorem c_M_fresh_l68 (d : Nat) (l1 : Int32) (l2 : Int32) (v : sv_T)  : sv_Ref (d + 0) 145 68 [some (.ref 75), some (.int l1), some (.int l2)] [] v (f_M_fresh_l68 l1 l2 v) (sv_Zl (d + 0) 145 68 (fun (s : Int32 × sv_T) => [some (.ref 75), some (.int l1), some (.int s.1)]) (fun (s : Int32 × sv_T) => s.2) (sv_Zt (d + 0) 145 92 (fun (s : sv_T) => [some (.ref 75), some (.int l1), none]) (fun (s : sv_T) => s))) := by
  unfold f_M_fresh_l68
  refine sv_iload_n d_M_fresh_68 rfl ?_
  refine sv_bipush (x := (32 : Int32)) d_M_fresh_69 (by decide) ?_
  refine sv_iload_n d_M_fresh_71 rfl ?_
  refine sv_imul d_M_fresh_72 ?_
  refine sv_bipush (x := (32 : Int32)) d_M_fresh_73 (by decide) ?_
  refine sv_iadd d_M_fresh_75 ?_
  refine sv_icmp_ge 92 d_M_fresh_76 rfl ?_ ?_
  · exact sv_leave v rfl ⟨rfl, rfl, trivial⟩ rfl
  · refine sv_aload_n d_M_fresh_79 rfl ?_
    refine sv_getr d_M_fresh_80 (gf_M_104 mc_145) so_75 sm_75_32 ?_
    refine sv_iload_n d_M_fresh_83 rfl ?_
    refine sv_iconst (x := (0 : Int32)) d_M_fresh_84 (by decide) ?_
    refine sv_zast (y := (0 : Int32)) d_M_fresh_85 sa_107 (by decide) (fun v11 => ?_)
    refine sv_iinc (ls' := fun x12 => [some (.ref 75), some (.int l1), some (.int x12)]) (y := (1 : Int32)) d_M_fresh_86 rfl (by decide) (fun _ => rfl) (fun x12 => ?_)
    refine sv_goto 68 d_M_fresh_89 rfl ?_
    exact sv_next (x12, v11) ⟨rfl, rfl, rfl, trivial⟩ rfl
set_option maxHeartbeats 4000000 in
set_option maxRecDepth 100000 in
theorem c_M_fresh_x92 (d : Nat) (l1 : Int32) (v : sv_T)  : sv_Ref (d + 0) 145 92 [some (.ref 75), some (.int l1), none] [] v (f_M_fresh_x92 l1 v) (sv_Zv) := by
  unfold f_M_fresh_x92
  refine sv_aload_n d_M_fresh_92 rfl ?_
  refine sv_getr d_M_fresh_93 (gf_M_110 mc_145) so_75 sm_75_34 ?_
  refine sv_iload_n d_M_fresh_96 rfl ?_
  refine sv_iconst (x := (-1 : Int32)) d_M_fresh_97 (by decide) ?_
  refine sv_iast d_M_fresh_98 sa_109 (fun v13 => ?_)
  refine sv_aload_n d_M_fresh_99 rfl ?_
  refine sv_getr d_M_fresh_100 (gf_M_113 mc_145) so_75 sm_75_35 ?_
  refine sv_iload_n d_M_fresh_103 rfl ?_
  refine sv_iconst (x := (0 : Int32)) d_M_fresh_104 (by decide) ?_
  refine sv_iast d_M_fresh_105 sa_110 (fun v14 => ?_)
  refine sv_aload_n d_M_fresh_106 rfl ?_
  refine sv_getr d_M_fresh_107 (gf_M_116 mc_145) so_75 sm_75_36 ?_
  refine sv_iload_n d_M_fresh_110 rfl ?_
  refine sv_iconst (x := (4 : Int32)) d_M_fresh_111 (by decide) ?_
  refine sv_iast d_M_fresh_112 sa_111 (fun v15 => ?_)
  refine sv_aload_n d_M_fresh_113 rfl ?_
  refine sv_getr d_M_fresh_114 (gf_M_119 mc_145) so_75 sm_75_37 ?_
  refine sv_iload_n d_M_fresh_117 rfl ?_
  refine sv_iconst (x := (0 : Int32)) d_M_fresh_118 (by decide) ?_
  refine sv_iast d_M_fresh_119 sa_112 (fun v16 => ?_)
  exact sv_vret rfl d_M_fresh_120
set_option maxHeartbeats 4000000 in
set_option maxRecDepth 100000 in
theorem c_M_fresh (d : Nat) (a1 : Int32) (v : sv_T)  : sv_Cl (d + 0) 145 [.ref 75, .int a1] v (f_M_fresh a1 v) sv_Zv := by
  refine sv_spec (ls0 := [some (.ref 75), some (.int a1), none]) mp_145 (Nat.le_of_ble_eq_true rfl) rfl ?_
  unfold f_M_fresh
  refine sv_aload_n d_M_fresh_0 rfl ?_
  refine sv_getr d_M_fresh_1 (gf_M_71 mc_145) so_75 sm_75_21 ?_
  refine sv_iload_n d_M_fresh_4 rfl ?_
  refine sv_iconst (x := (0 : Int32)) d_M_fresh_5 (by decide) ?_
  refine sv_iast d_M_fresh_6 sa_96 (fun v1 => ?_)
  refine sv_aload_n d_M_fresh_7 rfl ?_
  refine sv_getr d_M_fresh_8 (gf_M_74 mc_145) so_75 sm_75_22 ?_
  refine sv_iload_n d_M_fresh_11 rfl ?_
  refine sv_iconst (x := (0 : Int32)) d_M_fresh_12 (by decide) ?_
  refine sv_iast d_M_fresh_13 sa_97 (fun v2 => ?_)
  refine sv_aload_n d_M_fresh_14 rfl ?_
  refine sv_getr d_M_fresh_15 (gf_M_77 mc_145) so_75 sm_75_23 ?_
  refine sv_iload_n d_M_fresh_18 rfl ?_
  refine sv_iconst (x := (0 : Int32)) d_M_fresh_19 (by decide) ?_
  refine sv_iast d_M_fresh_20 sa_98 (fun v3 => ?_)
  refine sv_aload_n d_M_fresh_21 rfl ?_
  refine sv_getr d_M_fresh_22 (gf_M_80 mc_145) so_75 sm_75_24 ?_
  refine sv_iload_n d_M_fresh_25 rfl ?_
  refine sv_iconst (x := (0 : Int32)) d_M_fresh_26 (by decide) ?_
  refine sv_iast d_M_fresh_27 sa_99 (fun v4 => ?_)
  refine sv_aload_n d_M_fresh_28 rfl ?_
  refine sv_getr d_M_fresh_29 (gf_M_83 mc_145) so_75 sm_75_25 ?_
  refine sv_iload_n d_M_fresh_32 rfl ?_
  refine sv_iconst (x := (0 : Int32)) d_M_fresh_33 (by decide) ?_
  refine sv_iast d_M_fresh_34 sa_100 (fun v5 => ?_)
  refine sv_aload_n d_M_fresh_35 rfl ?_
  refine sv_getr d_M_fresh_36 (gf_M_86 mc_145) so_75 sm_75_26 ?_
  refine sv_iload_n d_M_fresh_39 rfl ?_
  refine sv_iconst (x := (0 : Int32)) d_M_fresh_40 (by decide) ?_
  refine sv_iast d_M_fresh_41 sa_101 (fun v6 => ?_)
  refine sv_aload_n d_M_fresh_42 rfl ?_
  refine sv_getr d_M_fresh_43 (gf_M_92 mc_145) so_75 sm_75_28 ?_
  refine sv_iload_n d_M_fresh_46 rfl ?_
  refine sv_iconst (x := (0 : Int32)) d_M_fresh_47 (by decide) ?_
  refine sv_zast (y := (0 : Int32)) d_M_fresh_48 sa_103 (by decide) (fun v7 => ?_)
  refine sv_aload_n d_M_fresh_49 rfl ?_
  refine sv_getr d_M_fresh_50 (gf_M_95 mc_145) so_75 sm_75_29 ?_
  refine sv_iload_n d_M_fresh_53 rfl ?_
  refine sv_iconst (x := (0 : Int32)) d_M_fresh_54 (by decide) ?_
  refine sv_zast (y := (0 : Int32)) d_M_fresh_55 sa_104 (by decide) (fun v8 => ?_)
  refine sv_aload_n d_M_fresh_56 rfl ?_
  refine sv_getr d_M_fresh_57 (gf_M_98 mc_145) so_75 sm_75_30 ?_
  refine sv_iload_n d_M_fresh_60 rfl ?_
  refine sv_iconst (x := (0 : Int32)) d_M_fresh_61 (by decide) ?_
  refine sv_iast d_M_fresh_62 sa_105 (fun v9 => ?_)
  refine sv_bipush (x := (32 : Int32)) d_M_fresh_63 (by decide) ?_
  refine sv_iload_n d_M_fresh_65 rfl ?_
  refine sv_imul d_M_fresh_66 ?_
  refine sv_leR (fun x10 => ?_)
  refine sv_istore_n (ls' := [some (.ref 75), some (.int a1), some (.int x10)]) d_M_fresh_67 (by decide) rfl ?_
  exact sv_seq (xt := 92) (L := (fun (s : sv_T) => [some (.ref 75), some (.int a1), none])) (S := (fun (s : sv_T) => s)) (sv_loopR (L := (fun (s : Int32 × sv_T) => [some (.ref 75), some (.int a1), some (.int s.1)])) (S := (fun (s : Int32 × sv_T) => s.2)) (fun s => c_M_fresh_l68 d a1 s.1 (s.2) ) 100000 (x10, v9)) (fun s => c_M_fresh_x92 d a1 s )
def f_M_listen (a1 : Int32) (a2 : Int32) (v : sv_T) : Option (Int32 × sv_T) :=
  sv_bi (f_M_isSocket a1 a2 v) fun x2 v1 =>
  if x2 = 0 then
  some ((0 : Int32), v1)
  else
  sv_bi (f_M_at a1 a2 v1) fun x4 v3 =>
  sv_ck x4 4 <|
  if (v3 95 x4.toNatClampNeg) = 0 then
  sv_bi (f_M_at a1 a2 v3) fun x6 v5 =>
  sv_bv (f_M_fresh x6 v5) fun v7 =>
  sv_bi (f_M_at a1 a2 v7) fun x9 v8 =>
  sv_ck x9 4 <| sv_ls (sv_up v8 95 x9.toNatClampNeg (1 : Int32)) fun v10 =>
  some ((1 : Int32), v10)
  else
  some ((0 : Int32), v3)
set_option maxHeartbeats 4000000 in
set_option maxRecDepth 100000 in
theorem c_M_listen (d : Nat) (a1 : Int32) (a2 : Int32) (v : sv_T)  : sv_Cl (d + 2) 142 [.ref 75, .int a1, .int a2] v (f_M_listen a1 a2 v) sv_Zi := by
  refine sv_spec (ls0 := [some (.ref 75), some (.int a1), some (.int a2)]) mp_142 (Nat.le_of_ble_eq_true rfl) rfl ?_
  unfold f_M_listen
  refine sv_iload_n d_M_listen_0 rfl ?_
  refine sv_iload_n d_M_listen_1 rfl ?_
  refine sv_callSi (d := d + 1) (as := [.int a1, .int a2]) d_M_listen_2 (ws_M_282 mc_142)  rfl (Nat.le_of_ble_eq_true rfl) rfl (c_M_isSocket (d + 0) a1 a2 v ) (fun x2 v1 => ?_)
  refine sv_if_eq 21 d_M_listen_5 rfl ?_ ?_
  · refine sv_iconst (x := (0 : Int32)) d_M_listen_21 (by decide) ?_
    exact sv_zretc rfl (by decide) d_M_listen_22
  · refine sv_aload_n d_M_listen_8 rfl ?_
    refine sv_getr d_M_listen_9 (gf_M_68 mc_142) so_75 sm_75_20 ?_
    refine sv_iload_n d_M_listen_12 rfl ?_
    refine sv_iload_n d_M_listen_13 rfl ?_
    refine sv_callSi (d := d + 1) (as := [.int a1, .int a2]) d_M_listen_14 (ws_M_231 mc_142)  rfl (Nat.le_of_ble_eq_true rfl) rfl (c_M_at (d + 1) a1 a2 v1 ) (fun x4 v3 => ?_)
    refine sv_iald d_M_listen_17 sa_95 ?_
    refine sv_if_eq 23 d_M_listen_18 rfl ?_ ?_
    · refine sv_aload_n d_M_listen_23 rfl ?_
      refine sv_iload_n d_M_listen_24 rfl ?_
      refine sv_iload_n d_M_listen_25 rfl ?_
      refine sv_callSi (d := d + 1) (as := [.int a1, .int a2]) d_M_listen_26 (ws_M_231 mc_142)  rfl (Nat.le_of_ble_eq_true rfl) rfl (c_M_at (d + 1) a1 a2 v3 ) (fun x6 v5 => ?_)
      refine sv_callVv (d := d + 1) (as := [.int x6]) d_M_listen_29 (wv_M_212 mc_142) so_75 ⟨_, rfl, rfl⟩ rfl (Nat.le_of_ble_eq_true rfl) rfl (c_M_fresh (d + 1) x6 v5 ) (fun v7 => ?_)
      refine sv_aload_n d_M_listen_32 rfl ?_
      refine sv_getr d_M_listen_33 (gf_M_68 mc_142) so_75 sm_75_20 ?_
      refine sv_iload_n d_M_listen_36 rfl ?_
      refine sv_iload_n d_M_listen_37 rfl ?_
      refine sv_callSi (d := d + 1) (as := [.int a1, .int a2]) d_M_listen_38 (ws_M_231 mc_142)  rfl (Nat.le_of_ble_eq_true rfl) rfl (c_M_at (d + 1) a1 a2 v7 ) (fun x9 v8 => ?_)
      refine sv_iconst (x := (1 : Int32)) d_M_listen_41 (by decide) ?_
      refine sv_iast d_M_listen_42 sa_95 (fun v10 => ?_)
      refine sv_iconst (x := (1 : Int32)) d_M_listen_43 (by decide) ?_
      exact sv_zretc rfl (by decide) d_M_listen_44
    · refine sv_iconst (x := (0 : Int32)) d_M_listen_21 (by decide) ?_
      exact sv_zretc rfl (by decide) d_M_listen_22
def f_M_begins (a1 : Int32) (v : sv_T) : Option (sv_T) :=
  sv_ck a1 4 <| sv_ls (sv_up v 96 a1.toNatClampNeg (((((1000 : Int32) * (a1 / (2 : Int32))) + ((100 : Int32) * ((sv_rem a1 (2 : Int32)) + (1 : Int32)))) + (v 75 0)) &&& (65535 : Int32))) fun v1 =>
  sv_ck a1 4 <|
  sv_ck a1 4 <| sv_ls (sv_up v1 97 a1.toNatClampNeg (v1 96 a1.toNatClampNeg)) fun v2 =>
  sv_ck a1 4 <|
  sv_ck a1 4 <| sv_ls (sv_up v2 98 a1.toNatClampNeg (((v2 96 a1.toNatClampNeg) + (1 : Int32)) &&& (65535 : Int32))) fun v3 =>
  sv_ck a1 4 <|
  sv_ck a1 4 <| sv_ls (sv_up v3 110 a1.toNatClampNeg (v3 111 a1.toNatClampNeg)) fun v4 =>
  some v4
set_option maxHeartbeats 4000000 in
set_option maxRecDepth 100000 in
theorem c_M_begins (d : Nat) (a1 : Int32) (v : sv_T)  : sv_Cl (d + 0) 147 [.ref 75, .int a1] v (f_M_begins a1 v) sv_Zv := by
  refine sv_spec (ls0 := [some (.ref 75), some (.int a1)]) mp_147 (Nat.le_of_ble_eq_true rfl) rfl ?_
  unfold f_M_begins
  refine sv_aload_n d_M_begins_0 rfl ?_
  refine sv_getr d_M_begins_1 (gf_M_71 mc_147) so_75 sm_75_21 ?_
  refine sv_iload_n d_M_begins_4 rfl ?_
  refine sv_sipush (x := (1000 : Int32)) d_M_begins_5 (by decide) ?_
  refine sv_iload_n d_M_begins_8 rfl ?_
  refine sv_iconst (x := (2 : Int32)) d_M_begins_9 (by decide) ?_
  refine sv_idiv d_M_begins_10 (by decide) ?_
  refine sv_imul d_M_begins_11 ?_
  refine sv_bipush (x := (100 : Int32)) d_M_begins_12 (by decide) ?_
  refine sv_iload_n d_M_begins_14 rfl ?_
  refine sv_iconst (x := (2 : Int32)) d_M_begins_15 (by decide) ?_
  refine sv_irem d_M_begins_16 (by decide) ?_
  refine sv_iconst (x := (1 : Int32)) d_M_begins_17 (by decide) ?_
  refine sv_iadd d_M_begins_18 ?_
  refine sv_imul d_M_begins_19 ?_
  refine sv_iadd d_M_begins_20 ?_
  refine sv_aload_n d_M_begins_21 rfl ?_
  refine sv_geti d_M_begins_22 (gf_M_215 mc_147) so_75 (sd_10_0 so_75) ?_
  refine sv_iadd d_M_begins_25 ?_
  refine sv_ldc d_M_begins_26 tw_1007 ?_
  refine sv_iand d_M_begins_28 ?_
  refine sv_iast d_M_begins_29 sa_96 (fun v1 => ?_)
  refine sv_aload_n d_M_begins_30 rfl ?_
  refine sv_getr d_M_begins_31 (gf_M_74 mc_147) so_75 sm_75_22 ?_
  refine sv_iload_n d_M_begins_34 rfl ?_
  refine sv_aload_n d_M_begins_35 rfl ?_
  refine sv_getr d_M_begins_36 (gf_M_71 mc_147) so_75 sm_75_21 ?_
  refine sv_iload_n d_M_begins_39 rfl ?_
  refine sv_iald d_M_begins_40 sa_96 ?_
  refine sv_iast d_M_begins_41 sa_97 (fun v2 => ?_)
  refine sv_aload_n d_M_begins_42 rfl ?_
  refine sv_getr d_M_begins_43 (gf_M_77 mc_147) so_75 sm_75_23 ?_
  refine sv_iload_n d_M_begins_46 rfl ?_
  refine sv_aload_n d_M_begins_47 rfl ?_
  refine sv_getr d_M_begins_48 (gf_M_71 mc_147) so_75 sm_75_21 ?_
  refine sv_iload_n d_M_begins_51 rfl ?_
  refine sv_iald d_M_begins_52 sa_96 ?_
  refine sv_iconst (x := (1 : Int32)) d_M_begins_53 (by decide) ?_
  refine sv_iadd d_M_begins_54 ?_
  refine sv_ldc d_M_begins_55 tw_1007 ?_
  refine sv_iand d_M_begins_57 ?_
  refine sv_iast d_M_begins_58 sa_98 (fun v3 => ?_)
  refine sv_aload_n d_M_begins_59 rfl ?_
  refine sv_getr d_M_begins_60 (gf_M_113 mc_147) so_75 sm_75_35 ?_
  refine sv_iload_n d_M_begins_63 rfl ?_
  refine sv_aload_n d_M_begins_64 rfl ?_
  refine sv_getr d_M_begins_65 (gf_M_116 mc_147) so_75 sm_75_36 ?_
  refine sv_iload_n d_M_begins_68 rfl ?_
  refine sv_iald d_M_begins_69 sa_111 ?_
  refine sv_iast d_M_begins_70 sa_110 (fun v4 => ?_)
  exact sv_vret rfl d_M_begins_71
def f_M_put (a1 : Int32) (a2 : Int32) (v : sv_T) : Option (sv_T) :=
  sv_ck a1 64 <| sv_ls (sv_up v 114 a1.toNatClampNeg ((a2 >>> (8 : Int32)) &&& (255 : Int32))) fun v1 =>
  sv_ck (a1 + (1 : Int32)) 64 <| sv_ls (sv_up v1 114 (a1 + (1 : Int32)).toNatClampNeg (a2 &&& (255 : Int32))) fun v2 =>
  some v2
set_option maxHeartbeats 4000000 in
set_option maxRecDepth 100000 in
theorem c_M_put (d : Nat) (a1 : Int32) (a2 : Int32) (v : sv_T)  : sv_Cl (d + 0) 150 [.ref 75, .int a1, .int a2] v (f_M_put a1 a2 v) sv_Zv := by
  refine sv_spec (ls0 := [some (.ref 75), some (.int a1), some (.int a2)]) mp_150 (Nat.le_of_ble_eq_true rfl) rfl ?_
  unfold f_M_put
  refine sv_aload_n d_M_put_0 rfl ?_
  refine sv_getr d_M_put_1 (gf_M_125 mc_150) so_75 sm_75_40 ?_
  refine sv_iload_n d_M_put_4 rfl ?_
  refine sv_iload_n d_M_put_5 rfl ?_
  refine sv_bipush (x := (8 : Int32)) d_M_put_6 (by decide) ?_
  refine sv_ishr d_M_put_8 (z := (8 : Int32)) (by decide) ?_
  refine sv_sipush (x := (255 : Int32)) d_M_put_9 (by decide) ?_
  refine sv_iand d_M_put_12 ?_
  refine sv_iast d_M_put_13 sa_114 (fun v1 => ?_)
  refine sv_aload_n d_M_put_14 rfl ?_
  refine sv_getr d_M_put_15 (gf_M_125 mc_150) so_75 sm_75_40 ?_
  refine sv_iload_n d_M_put_18 rfl ?_
  refine sv_iconst (x := (1 : Int32)) d_M_put_19 (by decide) ?_
  refine sv_iadd d_M_put_20 ?_
  refine sv_iload_n d_M_put_21 rfl ?_
  refine sv_sipush (x := (255 : Int32)) d_M_put_22 (by decide) ?_
  refine sv_iand d_M_put_25 ?_
  refine sv_iast d_M_put_26 sa_114 (fun v2 => ?_)
  exact sv_vret rfl d_M_put_27
def f_M_room (a1 : Int32) (v : sv_T) : Option (Int32 × sv_T) :=
  sv_ck a1 4 <|
  some (((24 : Int32) - (v 105 a1.toNatClampNeg)), v)
set_option maxHeartbeats 4000000 in
set_option maxRecDepth 100000 in
theorem c_M_room (d : Nat) (a1 : Int32) (v : sv_T)  : sv_Cl (d + 0) 151 [.ref 75, .int a1] v (f_M_room a1 v) sv_Zi := by
  refine sv_spec (ls0 := [some (.ref 75), some (.int a1)]) mp_151 (Nat.le_of_ble_eq_true rfl) rfl ?_
  unfold f_M_room
  refine sv_bipush (x := (24 : Int32)) d_M_room_0 (by decide) ?_
  refine sv_aload_n d_M_room_2 rfl ?_
  refine sv_getr d_M_room_3 (gf_M_98 mc_151) so_75 sm_75_30 ?_
  refine sv_iload_n d_M_room_6 rfl ?_
  refine sv_iald d_M_room_7 sa_105 ?_
  refine sv_isub d_M_room_8 ?_
  exact sv_iret rfl d_M_room_9
def f_M_segmentRow_l34 (l3 : Int32) (v : sv_T) : Option ((Int32 × sv_T) ⊕ (sv_T)) :=
  if l3 < (v 75 41) then
  sv_ck l3 64 <|
  sv_ck ((4 : Int32) + l3) 64 <| sv_ls (sv_up v 115 ((4 : Int32) + l3).toNatClampNeg (v 114 l3.toNatClampNeg)) fun v5 =>
  sv_le (l3 + (1 : Int32)) fun x6 =>
  some (.inl (x6, v5))
  else
  some (.inr v)
def f_M_segmentRow_x62  (v : sv_T) : Option (sv_T) :=
  sv_ls (sv_up v 75 43 ((4 : Int32) + (v 75 41))) fun v7 =>
  some v7
def f_M_segmentRow (a1 : Int32) (a2 : Int32) (v : sv_T) : Option (sv_T) :=
  sv_ls (sv_up v 115 0 a1) fun v1 =>
  sv_ls (sv_up v1 115 1 a2) fun v2 =>
  sv_ls (sv_up v2 115 2 (6 : Int32)) fun v3 =>
  sv_ls (sv_up v3 115 3 (v3 75 41)) fun v4 =>
  Option.bind (sv_loop (fun (s : Int32 × sv_T) => f_M_segmentRow_l34 s.1 (s.2)) 100000 ((0 : Int32), v4)) (fun (s : sv_T) => f_M_segmentRow_x62  s)
set_option maxHeartbeats 4000000 in
set_option maxRecDepth 100000 in
theorem c_M_segmentRow_l34 (d : Nat) (l3 : Int32) (v : sv_T)  : sv_Ref (d + 0) 152 34 [some (.ref 75), none, none, some (.int l3)] [] v (f_M_segmentRow_l34 l3 v) (sv_Zl (d + 0) 152 34 (fun (s : Int32 × sv_T) => [some (.ref 75), none, none, some (.int s.1)]) (fun (s : Int32 × sv_T) => s.2) (sv_Zt (d + 0) 152 62 (fun (s : sv_T) => [some (.ref 75), none, none, none]) (fun (s : sv_T) => s))) := by
  unfold f_M_segmentRow_l34
  refine sv_iload_n d_M_segmentRow_34 rfl ?_
  refine sv_aload_n d_M_segmentRow_35 rfl ?_
  refine sv_geti d_M_segmentRow_36 (gf_M_169 mc_152) so_75 (sd_10_41 so_75) ?_
  refine sv_icmp_ge 62 d_M_segmentRow_39 rfl ?_ ?_
  · exact sv_leave v rfl ⟨rfl, trivial⟩ rfl
  · refine sv_aload_n d_M_segmentRow_42 rfl ?_
    refine sv_getr d_M_segmentRow_43 (gf_M_128 mc_152) so_75 sm_75_42 ?_
    refine sv_iconst (x := (4 : Int32)) d_M_segmentRow_46 (by decide) ?_
    refine sv_iload_n d_M_segmentRow_47 rfl ?_
    refine sv_iadd d_M_segmentRow_48 ?_
    refine sv_aload_n d_M_segmentRow_49 rfl ?_
    refine sv_getr d_M_segmentRow_50 (gf_M_125 mc_152) so_75 sm_75_40 ?_
    refine sv_iload_n d_M_segmentRow_53 rfl ?_
    refine sv_iald d_M_segmentRow_54 sa_114 ?_
    refine sv_iast d_M_segmentRow_55 sa_115 (fun v5 => ?_)
    refine sv_iinc (ls' := fun x6 => [some (.ref 75), none, none, some (.int x6)]) (y := (1 : Int32)) d_M_segmentRow_56 rfl (by decide) (fun _ => rfl) (fun x6 => ?_)
    refine sv_goto 34 d_M_segmentRow_59 rfl ?_
    exact sv_next (x6, v5) ⟨rfl, rfl, trivial⟩ rfl
set_option maxHeartbeats 4000000 in
set_option maxRecDepth 100000 in
theorem c_M_segmentRow_x62 (d : Nat)  (v : sv_T)  : sv_Ref (d + 0) 152 62 [some (.ref 75), none, none, none] [] v (f_M_segmentRow_x62  v) (sv_Zv) := by
  unfold f_M_segmentRow_x62
  refine sv_aload_n d_M_segmentRow_62 rfl ?_
  refine sv_iconst (x := (4 : Int32)) d_M_segmentRow_63 (by decide) ?_
  refine sv_aload_n d_M_segmentRow_64 rfl ?_
  refine sv_geti d_M_segmentRow_65 (gf_M_169 mc_152) so_75 (sd_10_41 so_75) ?_
  refine sv_iadd d_M_segmentRow_68 ?_
  refine sv_puti d_M_segmentRow_69 (pf_M_134 mc_152) so_75 (sd_10_43 so_75) (fun v7 => ?_)
  exact sv_vret rfl d_M_segmentRow_72
set_option maxHeartbeats 4000000 in
set_option maxRecDepth 100000 in
theorem c_M_segmentRow (d : Nat) (a1 : Int32) (a2 : Int32) (v : sv_T)  : sv_Cl (d + 0) 152 [.ref 75, .int a1, .int a2] v (f_M_segmentRow a1 a2 v) sv_Zv := by
  refine sv_spec (ls0 := [some (.ref 75), some (.int a1), some (.int a2), none]) mp_152 (Nat.le_of_ble_eq_true rfl) rfl ?_
  unfold f_M_segmentRow
  refine sv_aload_n d_M_segmentRow_0 rfl ?_
  refine sv_getr d_M_segmentRow_1 (gf_M_128 mc_152) so_75 sm_75_42 ?_
  refine sv_iconst (x := (0 : Int32)) d_M_segmentRow_4 (by decide) ?_
  refine sv_iload_n d_M_segmentRow_5 rfl ?_
  refine sv_iastc (m := 0) d_M_segmentRow_6 sa_115 (by decide) rfl (fun v1 => ?_)
  refine sv_aload_n d_M_segmentRow_7 rfl ?_
  refine sv_getr d_M_segmentRow_8 (gf_M_128 mc_152) so_75 sm_75_42 ?_
  refine sv_iconst (x := (1 : Int32)) d_M_segmentRow_11 (by decide) ?_
  refine sv_iload_n d_M_segmentRow_12 rfl ?_
  refine sv_iastc (m := 1) d_M_segmentRow_13 sa_115 (by decide) rfl (fun v2 => ?_)
  refine sv_aload_n d_M_segmentRow_14 rfl ?_
  refine sv_getr d_M_segmentRow_15 (gf_M_128 mc_152) so_75 sm_75_42 ?_
  refine sv_iconst (x := (2 : Int32)) d_M_segmentRow_18 (by decide) ?_
  refine sv_bipush (x := (6 : Int32)) d_M_segmentRow_19 (by decide) ?_
  refine sv_iastc (m := 2) d_M_segmentRow_21 sa_115 (by decide) rfl (fun v3 => ?_)
  refine sv_aload_n d_M_segmentRow_22 rfl ?_
  refine sv_getr d_M_segmentRow_23 (gf_M_128 mc_152) so_75 sm_75_42 ?_
  refine sv_iconst (x := (3 : Int32)) d_M_segmentRow_26 (by decide) ?_
  refine sv_aload_n d_M_segmentRow_27 rfl ?_
  refine sv_geti d_M_segmentRow_28 (gf_M_169 mc_152) so_75 (sd_10_41 so_75) ?_
  refine sv_iastc (m := 3) d_M_segmentRow_31 sa_115 (by decide) rfl (fun v4 => ?_)
  refine sv_iconst (x := (0 : Int32)) d_M_segmentRow_32 (by decide) ?_
  refine sv_istore_n (ls' := [some (.ref 75), some (.int a1), some (.int a2), some (.int (0 : Int32))]) d_M_segmentRow_33 (by decide) rfl ?_
  refine sv_kill (ls' := [some (.ref 75), none, none, some (.int (0 : Int32))]) ⟨rfl, rfl, trivial⟩ ?_
  exact sv_seq (xt := 62) (L := (fun (s : sv_T) => [some (.ref 75), none, none, none])) (S := (fun (s : sv_T) => s)) (sv_loopR (L := (fun (s : Int32 × sv_T) => [some (.ref 75), none, none, some (.int s.1)])) (S := (fun (s : Int32 × sv_T) => s.2)) (fun s => c_M_segmentRow_l34 d s.1 (s.2) ) 100000 ((0 : Int32), v4)) (fun s => c_M_segmentRow_x62 d  s )
def f_M_segmentGoes_l66 (l1 : Int32) (l5 : Int32) (l6 : Int32) (l7 : Int32) (l8 : Int32) (v : sv_T) : Option ((Int32 × sv_T) ⊕ (sv_T)) :=
  if l8 < l6 then
  sv_ck ((((64 : Int32) * l1) + l5) + l8) 256 <|
  sv_ck ((10 : Int32) + l8) 64 <| sv_ls (sv_up v 114 ((10 : Int32) + l8).toNatClampNeg (v 102 ((((64 : Int32) * l1) + l5) + l8).toNatClampNeg)) fun v11 =>
  sv_le (l8 + (1 : Int32)) fun x12 =>
  some (.inl (x12, v11))
  else
  some (.inr v)
def f_M_segmentGoes_x104 (l6 : Int32) (l7 : Int32) (v : sv_T) : Option (sv_T) :=
  sv_ls (sv_up v 75 41 ((10 : Int32) + l6)) fun v13 =>
  sv_bv (f_M_segmentRow ((1 : Int32) + l7) ((2 : Int32) - l7) v13) fun v14 =>
  sv_bi (f_M_check  v14) fun x16 v15 =>
  sv_bv (f_M_put (8 : Int32) x16 v15) fun v17 =>
  sv_bv (f_M_sends l7 (6 : Int32) v17) fun v18 =>
  some v18
def f_M_segmentGoes (a1 : Int32) (a2 : Int32) (a3 : Int32) (a4 : Int32) (a5 : Int32) (a6 : Int32) (v : sv_T) : Option (sv_T) :=
  sv_le ((a1 / (2 : Int32))) fun x1 =>
  sv_ls (sv_up v 114 0 ((sv_rem a1 (2 : Int32)) + (1 : Int32))) fun v2 =>
  sv_ls (sv_up v2 114 1 a2) fun v3 =>
  sv_bv (f_M_put (2 : Int32) a3 v3) fun v4 =>
  sv_bv (f_M_put (4 : Int32) a4 v4) fun v5 =>
  sv_bi (f_M_room a1 v5) fun x7 v6 =>
  sv_ls (sv_up v6 114 6 x7) fun v8 =>
  sv_ls (sv_up v8 114 7 (0 : Int32)) fun v9 =>
  sv_bv (f_M_put (8 : Int32) (0 : Int32) v9) fun v10 =>
  Option.bind (sv_loop (fun (s : Int32 × sv_T) => f_M_segmentGoes_l66 a1 a5 a6 x1 s.1 (s.2)) 100000 ((0 : Int32), v10)) (fun (s : sv_T) => f_M_segmentGoes_x104 a6 x1 s)
set_option maxHeartbeats 4000000 in
set_option maxRecDepth 100000 in
theorem c_M_segmentGoes_l66 (d : Nat) (l1 : Int32) (l5 : Int32) (l6 : Int32) (l7 : Int32) (l8 : Int32) (v : sv_T)  : sv_Ref (d + 5) 149 66 [some (.ref 75), some (.int l1), none, none, none, some (.int l5), some (.int l6), some (.int l7), some (.int l8)] [] v (f_M_segmentGoes_l66 l1 l5 l6 l7 l8 v) (sv_Zl (d + 5) 149 66 (fun (s : Int32 × sv_T) => [some (.ref 75), some (.int l1), none, none, none, some (.int l5), some (.int l6), some (.int l7), some (.int s.1)]) (fun (s : Int32 × sv_T) => s.2) (sv_Zt (d + 5) 149 104 (fun (s : sv_T) => [some (.ref 75), none, none, none, none, none, some (.int l6), some (.int l7), none]) (fun (s : sv_T) => s))) := by
  unfold f_M_segmentGoes_l66
  refine sv_iload d_M_segmentGoes_66 rfl ?_
  refine sv_iload d_M_segmentGoes_68 rfl ?_
  refine sv_icmp_ge 104 d_M_segmentGoes_70 rfl ?_ ?_
  · exact sv_leave v rfl ⟨rfl, rfl, rfl, trivial⟩ rfl
  · refine sv_aload_n d_M_segmentGoes_73 rfl ?_
    refine sv_getr d_M_segmentGoes_74 (gf_M_125 mc_149) so_75 sm_75_40 ?_
    refine sv_bipush (x := (10 : Int32)) d_M_segmentGoes_77 (by decide) ?_
    refine sv_iload d_M_segmentGoes_79 rfl ?_
    refine sv_iadd d_M_segmentGoes_81 ?_
    refine sv_aload_n d_M_segmentGoes_82 rfl ?_
    refine sv_getr d_M_segmentGoes_83 (gf_M_89 mc_149) so_75 sm_75_27 ?_
    refine sv_bipush (x := (64 : Int32)) d_M_segmentGoes_86 (by decide) ?_
    refine sv_iload_n d_M_segmentGoes_88 rfl ?_
    refine sv_imul d_M_segmentGoes_89 ?_
    refine sv_iload d_M_segmentGoes_90 rfl ?_
    refine sv_iadd d_M_segmentGoes_92 ?_
    refine sv_iload d_M_segmentGoes_93 rfl ?_
    refine sv_iadd d_M_segmentGoes_95 ?_
    refine sv_iald d_M_segmentGoes_96 sa_102 ?_
    refine sv_iast d_M_segmentGoes_97 sa_114 (fun v11 => ?_)
    refine sv_iinc (ls' := fun x12 => [some (.ref 75), some (.int l1), none, none, none, some (.int l5), some (.int l6), some (.int l7), some (.int x12)]) (y := (1 : Int32)) d_M_segmentGoes_98 rfl (by decide) (fun _ => rfl) (fun x12 => ?_)
    refine sv_goto 66 d_M_segmentGoes_101 rfl ?_
    exact sv_next (x12, v11) ⟨rfl, rfl, rfl, rfl, rfl, rfl, trivial⟩ rfl
set_option maxHeartbeats 4000000 in
set_option maxRecDepth 100000 in
theorem c_M_segmentGoes_x104 (d : Nat) (l6 : Int32) (l7 : Int32) (v : sv_T)  : sv_Ref (d + 5) 149 104 [some (.ref 75), none, none, none, none, none, some (.int l6), some (.int l7), none] [] v (f_M_segmentGoes_x104 l6 l7 v) (sv_Zv) := by
  unfold f_M_segmentGoes_x104
  refine sv_aload_n d_M_segmentGoes_104 rfl ?_
  refine sv_bipush (x := (10 : Int32)) d_M_segmentGoes_105 (by decide) ?_
  refine sv_iload d_M_segmentGoes_107 rfl ?_
  refine sv_iadd d_M_segmentGoes_109 ?_
  refine sv_puti d_M_segmentGoes_110 (pf_M_169 mc_149) so_75 (sd_10_41 so_75) (fun v13 => ?_)
  refine sv_aload_n d_M_segmentGoes_113 rfl ?_
  refine sv_iconst (x := (1 : Int32)) d_M_segmentGoes_114 (by decide) ?_
  refine sv_iload d_M_segmentGoes_115 rfl ?_
  refine sv_iadd d_M_segmentGoes_117 ?_
  refine sv_iconst (x := (2 : Int32)) d_M_segmentGoes_118 (by decide) ?_
  refine sv_iload d_M_segmentGoes_119 rfl ?_
  refine sv_isub d_M_segmentGoes_121 ?_
  refine sv_callVv (d := d + 4) (as := [.int ((1 : Int32) + l7), .int ((2 : Int32) - l7)]) d_M_segmentGoes_122 (wv_M_205 mc_149) so_75 ⟨_, rfl, rfl⟩ rfl (Nat.le_of_ble_eq_true rfl) rfl (c_M_segmentRow (d + 4) ((1 : Int32) + l7) ((2 : Int32) - l7) v13 ) (fun v14 => ?_)
  refine sv_aload_n d_M_segmentGoes_125 rfl ?_
  refine sv_callVi (d := d + 4) (as := []) d_M_segmentGoes_126 (wv_M_162 mc_149) so_75 ⟨_, rfl, rfl⟩ rfl (Nat.le_of_ble_eq_true rfl) rfl (c_M_check (d + 4)  v14 ) (fun x16 v15 => ?_)
  refine sv_istore (ls' := [some (.ref 75), none, none, none, none, none, some (.int l6), some (.int l7), some (.int x16)]) d_M_segmentGoes_129 (by decide) rfl ?_
  refine sv_aload_n d_M_segmentGoes_131 rfl ?_
  refine sv_bipush (x := (8 : Int32)) d_M_segmentGoes_132 (by decide) ?_
  refine sv_iload d_M_segmentGoes_134 rfl ?_
  refine sv_callVv (d := d + 4) (as := [.int (8 : Int32), .int x16]) d_M_segmentGoes_136 (wv_M_199 mc_149) so_75 ⟨_, rfl, rfl⟩ rfl (Nat.le_of_ble_eq_true rfl) rfl (c_M_put (d + 4) (8 : Int32) x16 v15 ) (fun v17 => ?_)
  refine sv_aload_n d_M_segmentGoes_139 rfl ?_
  refine sv_iload d_M_segmentGoes_140 rfl ?_
  refine sv_bipush (x := (6 : Int32)) d_M_segmentGoes_142 (by decide) ?_
  refine sv_callVv (d := d + 4) (as := [.int l7, .int (6 : Int32)]) d_M_segmentGoes_144 (wv_M_193 mc_149) so_75 ⟨_, rfl, rfl⟩ rfl (Nat.le_of_ble_eq_true rfl) rfl (c_M_sends (d + 0) l7 (6 : Int32) v17 ) (fun v18 => ?_)
  exact sv_vret rfl d_M_segmentGoes_147
set_option maxHeartbeats 4000000 in
set_option maxRecDepth 100000 in
theorem c_M_segmentGoes (d : Nat) (a1 : Int32) (a2 : Int32) (a3 : Int32) (a4 : Int32) (a5 : Int32) (a6 : Int32) (v : sv_T)  : sv_Cl (d + 5) 149 [.ref 75, .int a1, .int a2, .int a3, .int a4, .int a5, .int a6] v (f_M_segmentGoes a1 a2 a3 a4 a5 a6 v) sv_Zv := by
  refine sv_spec (ls0 := [some (.ref 75), some (.int a1), some (.int a2), some (.int a3), some (.int a4), some (.int a5), some (.int a6), none, none]) mp_149 (Nat.le_of_ble_eq_true rfl) rfl ?_
  unfold f_M_segmentGoes
  refine sv_iload_n d_M_segmentGoes_0 rfl ?_
  refine sv_iconst (x := (2 : Int32)) d_M_segmentGoes_1 (by decide) ?_
  refine sv_idiv d_M_segmentGoes_2 (by decide) ?_
  refine sv_leR (fun x1 => ?_)
  refine sv_istore (ls' := [some (.ref 75), some (.int a1), some (.int a2), some (.int a3), some (.int a4), some (.int a5), some (.int a6), some (.int x1), none]) d_M_segmentGoes_3 (by decide) rfl ?_
  refine sv_aload_n d_M_segmentGoes_5 rfl ?_
  refine sv_getr d_M_segmentGoes_6 (gf_M_125 mc_149) so_75 sm_75_40 ?_
  refine sv_iconst (x := (0 : Int32)) d_M_segmentGoes_9 (by decide) ?_
  refine sv_iload_n d_M_segmentGoes_10 rfl ?_
  refine sv_iconst (x := (2 : Int32)) d_M_segmentGoes_11 (by decide) ?_
  refine sv_irem d_M_segmentGoes_12 (by decide) ?_
  refine sv_iconst (x := (1 : Int32)) d_M_segmentGoes_13 (by decide) ?_
  refine sv_iadd d_M_segmentGoes_14 ?_
  refine sv_iastc (m := 0) d_M_segmentGoes_15 sa_114 (by decide) rfl (fun v2 => ?_)
  refine sv_aload_n d_M_segmentGoes_16 rfl ?_
  refine sv_getr d_M_segmentGoes_17 (gf_M_125 mc_149) so_75 sm_75_40 ?_
  refine sv_iconst (x := (1 : Int32)) d_M_segmentGoes_20 (by decide) ?_
  refine sv_iload_n d_M_segmentGoes_21 rfl ?_
  refine sv_iastc (m := 1) d_M_segmentGoes_22 sa_114 (by decide) rfl (fun v3 => ?_)
  refine sv_aload_n d_M_segmentGoes_23 rfl ?_
  refine sv_iconst (x := (2 : Int32)) d_M_segmentGoes_24 (by decide) ?_
  refine sv_iload_n d_M_segmentGoes_25 rfl ?_
  refine sv_callVv (d := d + 4) (as := [.int (2 : Int32), .int a3]) d_M_segmentGoes_26 (wv_M_199 mc_149) so_75 ⟨_, rfl, rfl⟩ rfl (Nat.le_of_ble_eq_true rfl) rfl (c_M_put (d + 4) (2 : Int32) a3 v3 ) (fun v4 => ?_)
  refine sv_aload_n d_M_segmentGoes_29 rfl ?_
  refine sv_iconst (x := (4 : Int32)) d_M_segmentGoes_30 (by decide) ?_
  refine sv_iload d_M_segmentGoes_31 rfl ?_
  refine sv_callVv (d := d + 4) (as := [.int (4 : Int32), .int a4]) d_M_segmentGoes_33 (wv_M_199 mc_149) so_75 ⟨_, rfl, rfl⟩ rfl (Nat.le_of_ble_eq_true rfl) rfl (c_M_put (d + 4) (4 : Int32) a4 v4 ) (fun v5 => ?_)
  refine sv_aload_n d_M_segmentGoes_36 rfl ?_
  refine sv_getr d_M_segmentGoes_37 (gf_M_125 mc_149) so_75 sm_75_40 ?_
  refine sv_bipush (x := (6 : Int32)) d_M_segmentGoes_40 (by decide) ?_
  refine sv_aload_n d_M_segmentGoes_42 rfl ?_
  refine sv_iload_n d_M_segmentGoes_43 rfl ?_
  refine sv_callVi (d := d + 4) (as := [.int a1]) d_M_segmentGoes_44 (wv_M_202 mc_149) so_75 ⟨_, rfl, rfl⟩ rfl (Nat.le_of_ble_eq_true rfl) rfl (c_M_room (d + 4) a1 v5 ) (fun x7 v6 => ?_)
  refine sv_iastc (m := 6) d_M_segmentGoes_47 sa_114 (by decide) rfl (fun v8 => ?_)
  refine sv_aload_n d_M_segmentGoes_48 rfl ?_
  refine sv_getr d_M_segmentGoes_49 (gf_M_125 mc_149) so_75 sm_75_40 ?_
  refine sv_bipush (x := (7 : Int32)) d_M_segmentGoes_52 (by decide) ?_
  refine sv_iconst (x := (0 : Int32)) d_M_segmentGoes_54 (by decide) ?_
  refine sv_iastc (m := 7) d_M_segmentGoes_55 sa_114 (by decide) rfl (fun v9 => ?_)
  refine sv_aload_n d_M_segmentGoes_56 rfl ?_
  refine sv_bipush (x := (8 : Int32)) d_M_segmentGoes_57 (by decide) ?_
  refine sv_iconst (x := (0 : Int32)) d_M_segmentGoes_59 (by decide) ?_
  refine sv_callVv (d := d + 4) (as := [.int (8 : Int32), .int (0 : Int32)]) d_M_segmentGoes_60 (wv_M_199 mc_149) so_75 ⟨_, rfl, rfl⟩ rfl (Nat.le_of_ble_eq_true rfl) rfl (c_M_put (d + 4) (8 : Int32) (0 : Int32) v9 ) (fun v10 => ?_)
  refine sv_iconst (x := (0 : Int32)) d_M_segmentGoes_63 (by decide) ?_
  refine sv_istore (ls' := [some (.ref 75), some (.int a1), some (.int a2), some (.int a3), some (.int a4), some (.int a5), some (.int a6), some (.int x1), some (.int (0 : Int32))]) d_M_segmentGoes_64 (by decide) rfl ?_
  refine sv_kill (ls' := [some (.ref 75), some (.int a1), none, none, none, some (.int a5), some (.int a6), some (.int x1), some (.int (0 : Int32))]) ⟨rfl, rfl, rfl, rfl, rfl, rfl, trivial⟩ ?_
  exact sv_seq (xt := 104) (L := (fun (s : sv_T) => [some (.ref 75), none, none, none, none, none, some (.int a6), some (.int x1), none])) (S := (fun (s : sv_T) => s)) (sv_loopR (L := (fun (s : Int32 × sv_T) => [some (.ref 75), some (.int a1), none, none, none, some (.int a5), some (.int a6), some (.int x1), some (.int s.1)])) (S := (fun (s : Int32 × sv_T) => s.2)) (fun s => c_M_segmentGoes_l66 d a1 a5 a6 x1 s.1 (s.2) ) 100000 ((0 : Int32), v10)) (fun s => c_M_segmentGoes_x104 d a6 x1 s )
def f_M_go (a1 : Int32) (a2 : Int32) (a3 : Int32) (v : sv_T) : Option (sv_T) :=
  sv_ck a1 4 <|
  sv_bv (f_M_segmentGoes a1 a2 a3 (v 99 a1.toNatClampNeg) (0 : Int32) (0 : Int32) v) fun v1 =>
  some v1
set_option maxHeartbeats 4000000 in
set_option maxRecDepth 100000 in
theorem c_M_go (d : Nat) (a1 : Int32) (a2 : Int32) (a3 : Int32) (v : sv_T)  : sv_Cl (d + 6) 148 [.ref 75, .int a1, .int a2, .int a3] v (f_M_go a1 a2 a3 v) sv_Zv := by
  refine sv_spec (ls0 := [some (.ref 75), some (.int a1), some (.int a2), some (.int a3)]) mp_148 (Nat.le_of_ble_eq_true rfl) rfl ?_
  unfold f_M_go
  refine sv_aload_n d_M_go_0 rfl ?_
  refine sv_iload_n d_M_go_1 rfl ?_
  refine sv_iload_n d_M_go_2 rfl ?_
  refine sv_iload_n d_M_go_3 rfl ?_
  refine sv_aload_n d_M_go_4 rfl ?_
  refine sv_getr d_M_go_5 (gf_M_80 mc_148) so_75 sm_75_24 ?_
  refine sv_iload_n d_M_go_8 rfl ?_
  refine sv_iald d_M_go_9 sa_99 ?_
  refine sv_iconst (x := (0 : Int32)) d_M_go_10 (by decide) ?_
  refine sv_iconst (x := (0 : Int32)) d_M_go_11 (by decide) ?_
  refine sv_callVv (d := d + 5) (as := [.int a1, .int a2, .int a3, .int (v 99 a1.toNatClampNeg), .int (0 : Int32), .int (0 : Int32)]) d_M_go_12 (wv_M_208 mc_148) so_75 ⟨_, rfl, rfl⟩ rfl (Nat.le_of_ble_eq_true rfl) rfl (c_M_segmentGoes (d + 0) a1 a2 a3 (v 99 a1.toNatClampNeg) (0 : Int32) (0 : Int32) v ) (fun v1 => ?_)
  exact sv_vret rfl d_M_go_15
def f_M_connect (a1 : Int32) (a2 : Int32) (v : sv_T) : Option (Int32 × sv_T) :=
  sv_bi (f_M_isSocket a1 a2 v) fun x2 v1 =>
  if x2 = 0 then
  some ((0 : Int32), v1)
  else
  sv_bi (f_M_at a1 a2 v1) fun x4 v3 =>
  sv_ck x4 4 <|
  if (v3 95 x4.toNatClampNeg) = 0 then
  sv_bi (f_M_at a1 a2 v3) fun x6 v5 =>
  sv_bv (f_M_fresh x6 v5) fun v7 =>
  sv_bv (f_M_begins x6 v7) fun v8 =>
  sv_ck x6 4 <| sv_ls (sv_up v8 95 x6.toNatClampNeg (2 : Int32)) fun v9 =>
  sv_ck x6 4 <|
  sv_bv (f_M_go x6 (2 : Int32) (v9 96 x6.toNatClampNeg) v9) fun v10 =>
  some ((1 : Int32), v10)
  else
  some ((0 : Int32), v3)
set_option maxHeartbeats 4000000 in
set_option maxRecDepth 100000 in
theorem c_M_connect (d : Nat) (a1 : Int32) (a2 : Int32) (v : sv_T)  : sv_Cl (d + 7) 146 [.ref 75, .int a1, .int a2] v (f_M_connect a1 a2 v) sv_Zi := by
  refine sv_spec (ls0 := [some (.ref 75), some (.int a1), some (.int a2), none]) mp_146 (Nat.le_of_ble_eq_true rfl) rfl ?_
  unfold f_M_connect
  refine sv_iload_n d_M_connect_0 rfl ?_
  refine sv_iload_n d_M_connect_1 rfl ?_
  refine sv_callSi (d := d + 6) (as := [.int a1, .int a2]) d_M_connect_2 (ws_M_282 mc_146)  rfl (Nat.le_of_ble_eq_true rfl) rfl (c_M_isSocket (d + 5) a1 a2 v ) (fun x2 v1 => ?_)
  refine sv_if_eq 21 d_M_connect_5 rfl ?_ ?_
  · refine sv_iconst (x := (0 : Int32)) d_M_connect_21 (by decide) ?_
    exact sv_zretc rfl (by decide) d_M_connect_22
  · refine sv_aload_n d_M_connect_8 rfl ?_
    refine sv_getr d_M_connect_9 (gf_M_68 mc_146) so_75 sm_75_20 ?_
    refine sv_iload_n d_M_connect_12 rfl ?_
    refine sv_iload_n d_M_connect_13 rfl ?_
    refine sv_callSi (d := d + 6) (as := [.int a1, .int a2]) d_M_connect_14 (ws_M_231 mc_146)  rfl (Nat.le_of_ble_eq_true rfl) rfl (c_M_at (d + 6) a1 a2 v1 ) (fun x4 v3 => ?_)
    refine sv_iald d_M_connect_17 sa_95 ?_
    refine sv_if_eq 23 d_M_connect_18 rfl ?_ ?_
    · refine sv_iload_n d_M_connect_23 rfl ?_
      refine sv_iload_n d_M_connect_24 rfl ?_
      refine sv_callSi (d := d + 6) (as := [.int a1, .int a2]) d_M_connect_25 (ws_M_231 mc_146)  rfl (Nat.le_of_ble_eq_true rfl) rfl (c_M_at (d + 6) a1 a2 v3 ) (fun x6 v5 => ?_)
      refine sv_istore_n (ls' := [some (.ref 75), some (.int a1), some (.int a2), some (.int x6)]) d_M_connect_28 (by decide) rfl ?_
      refine sv_aload_n d_M_connect_29 rfl ?_
      refine sv_iload_n d_M_connect_30 rfl ?_
      refine sv_callVv (d := d + 6) (as := [.int x6]) d_M_connect_31 (wv_M_212 mc_146) so_75 ⟨_, rfl, rfl⟩ rfl (Nat.le_of_ble_eq_true rfl) rfl (c_M_fresh (d + 6) x6 v5 ) (fun v7 => ?_)
      refine sv_aload_n d_M_connect_34 rfl ?_
      refine sv_iload_n d_M_connect_35 rfl ?_
      refine sv_callVv (d := d + 6) (as := [.int x6]) d_M_connect_36 (wv_M_264 mc_146) so_75 ⟨_, rfl, rfl⟩ rfl (Nat.le_of_ble_eq_true rfl) rfl (c_M_begins (d + 6) x6 v7 ) (fun v8 => ?_)
      refine sv_aload_n d_M_connect_39 rfl ?_
      refine sv_getr d_M_connect_40 (gf_M_68 mc_146) so_75 sm_75_20 ?_
      refine sv_iload_n d_M_connect_43 rfl ?_
      refine sv_iconst (x := (2 : Int32)) d_M_connect_44 (by decide) ?_
      refine sv_iast d_M_connect_45 sa_95 (fun v9 => ?_)
      refine sv_aload_n d_M_connect_46 rfl ?_
      refine sv_iload_n d_M_connect_47 rfl ?_
      refine sv_iconst (x := (2 : Int32)) d_M_connect_48 (by decide) ?_
      refine sv_aload_n d_M_connect_49 rfl ?_
      refine sv_getr d_M_connect_50 (gf_M_71 mc_146) so_75 sm_75_21 ?_
      refine sv_iload_n d_M_connect_53 rfl ?_
      refine sv_iald d_M_connect_54 sa_96 ?_
      refine sv_callVv (d := d + 6) (as := [.int x6, .int (2 : Int32), .int (v9 96 x6.toNatClampNeg)]) d_M_connect_55 (wv_M_225 mc_146) so_75 ⟨_, rfl, rfl⟩ rfl (Nat.le_of_ble_eq_true rfl) rfl (c_M_go (d + 0) x6 (2 : Int32) (v9 96 x6.toNatClampNeg) v9 ) (fun v10 => ?_)
      refine sv_iconst (x := (1 : Int32)) d_M_connect_58 (by decide) ?_
      exact sv_zretc rfl (by decide) d_M_connect_59
    · refine sv_iconst (x := (0 : Int32)) d_M_connect_21 (by decide) ?_
      exact sv_zretc rfl (by decide) d_M_connect_22
def f_M_less (a1 : Int32) (a2 : Int32) (v : sv_T) : Option (Int32 × sv_T) :=
  some (((a1 - a2) &&& (65535 : Int32)), v)
set_option maxHeartbeats 4000000 in
set_option maxRecDepth 100000 in
theorem c_M_less (d : Nat) (a1 : Int32) (a2 : Int32) (v : sv_T)  : sv_Cl (d + 0) 156 [.int a1, .int a2] v (f_M_less a1 a2 v) sv_Zi := by
  refine sv_spec (ls0 := [some (.int a1), some (.int a2)]) mp_156 (Nat.le_of_ble_eq_true rfl) rfl ?_
  unfold f_M_less
  refine sv_iload_n d_M_less_0 rfl ?_
  refine sv_iload_n d_M_less_1 rfl ?_
  refine sv_isub d_M_less_2 ?_
  refine sv_ldc d_M_less_3 tw_1007 ?_
  refine sv_iand d_M_less_5 ?_
  exact sv_iret rfl d_M_less_6
def f_M_sent_b29 (l1 : Int32) (s0 : Int32) (s1 : Int32) (v : sv_T) : Option (Int32 × sv_T) :=
  sv_le ((s1 - s0)) fun x3 =>
  if x3 < 0 then
  some ((0 : Int32), v)
  else
  sv_ck l1 4 <|
  if x3 < (v 101 l1.toNatClampNeg) then
  some (x3, v)
  else
  sv_ck l1 4 <|
  some ((v 101 l1.toNatClampNeg), v)
def f_M_sent (a1 : Int32) (v : sv_T) : Option (Int32 × sv_T) :=
  sv_ck a1 4 <|
  sv_ck a1 4 <|
  sv_bi (f_M_less (v 98 a1.toNatClampNeg) (v 97 a1.toNatClampNeg) v) fun x2 v1 =>
  sv_ck a1 4 <|
  if (v1 104 a1.toNatClampNeg) = 0 then
  f_M_sent_b29 a1 (0 : Int32) x2 v1
  else
  f_M_sent_b29 a1 (1 : Int32) x2 v1
set_option maxHeartbeats 4000000 in
set_option maxRecDepth 100000 in
theorem c_M_sent_b29 (d : Nat) (l1 : Int32) (s0 : Int32) (s1 : Int32) (v : sv_T)  : sv_Ref (d + 1) 155 29 [some (.ref 75), some (.int l1), none] [.int s0, .int s1] v (f_M_sent_b29 l1 s0 s1 v) (sv_Zi) := by
  unfold f_M_sent_b29
  refine sv_isub d_M_sent_29 ?_
  refine sv_leR (fun x3 => ?_)
  refine sv_istore_n (ls' := [some (.ref 75), some (.int l1), some (.int x3)]) d_M_sent_30 (by decide) rfl ?_
  refine sv_iload_n d_M_sent_31 rfl ?_
  refine sv_if_ge 39 d_M_sent_32 rfl ?_ ?_
  · refine sv_iload_n d_M_sent_39 rfl ?_
    refine sv_aload_n d_M_sent_40 rfl ?_
    refine sv_getr d_M_sent_41 (gf_M_86 mc_155) so_75 sm_75_26 ?_
    refine sv_iload_n d_M_sent_44 rfl ?_
    refine sv_iald d_M_sent_45 sa_101 ?_
    refine sv_icmp_ge 53 d_M_sent_46 rfl ?_ ?_
    · refine sv_aload_n d_M_sent_53 rfl ?_
      refine sv_getr d_M_sent_54 (gf_M_86 mc_155) so_75 sm_75_26 ?_
      refine sv_iload_n d_M_sent_57 rfl ?_
      refine sv_iald d_M_sent_58 sa_101 ?_
      exact sv_iret rfl d_M_sent_59
    · refine sv_iload_n d_M_sent_49 rfl ?_
      refine sv_goto 59 d_M_sent_50 rfl ?_
      exact sv_iret rfl d_M_sent_59
  · refine sv_iconst (x := (0 : Int32)) d_M_sent_35 (by decide) ?_
    refine sv_goto 59 d_M_sent_36 rfl ?_
    exact sv_iret rfl d_M_sent_59
set_option maxHeartbeats 4000000 in
set_option maxRecDepth 100000 in
theorem c_M_sent (d : Nat) (a1 : Int32) (v : sv_T)  : sv_Cl (d + 1) 155 [.ref 75, .int a1] v (f_M_sent a1 v) sv_Zi := by
  refine sv_spec (ls0 := [some (.ref 75), some (.int a1), none]) mp_155 (Nat.le_of_ble_eq_true rfl) rfl ?_
  unfold f_M_sent
  refine sv_aload_n d_M_sent_0 rfl ?_
  refine sv_getr d_M_sent_1 (gf_M_77 mc_155) so_75 sm_75_23 ?_
  refine sv_iload_n d_M_sent_4 rfl ?_
  refine sv_iald d_M_sent_5 sa_98 ?_
  refine sv_aload_n d_M_sent_6 rfl ?_
  refine sv_getr d_M_sent_7 (gf_M_74 mc_155) so_75 sm_75_22 ?_
  refine sv_iload_n d_M_sent_10 rfl ?_
  refine sv_iald d_M_sent_11 sa_97 ?_
  refine sv_callSi (d := d + 0) (as := [.int (v 98 a1.toNatClampNeg), .int (v 97 a1.toNatClampNeg)]) d_M_sent_12 (ws_M_218 mc_155)  rfl (Nat.le_of_ble_eq_true rfl) rfl (c_M_less (d + 0) (v 98 a1.toNatClampNeg) (v 97 a1.toNatClampNeg) v ) (fun x2 v1 => ?_)
  refine sv_aload_n d_M_sent_15 rfl ?_
  refine sv_getr d_M_sent_16 (gf_M_95 mc_155) so_75 sm_75_29 ?_
  refine sv_iload_n d_M_sent_19 rfl ?_
  refine sv_zald d_M_sent_20 sa_104 ?_
  refine sv_if_eq 28 d_M_sent_21 rfl ?_ ?_
  · refine sv_iconst (x := (0 : Int32)) d_M_sent_28 (by decide) ?_
    exact c_M_sent_b29 d a1 (0 : Int32) x2 v1 
  · refine sv_iconst (x := (1 : Int32)) d_M_sent_24 (by decide) ?_
    refine sv_goto 29 d_M_sent_25 rfl ?_
    exact c_M_sent_b29 d a1 (1 : Int32) x2 v1 
def f_M_push_b135 (l1 : Int32) (l2 : Int32) (s0 : Int32) (v : sv_T) : Option ((sv_T) ⊕ (sv_T)) :=
  sv_ck l1 4 <|
  sv_ck l1 4 <|
  sv_bi (f_M_sent l1 v) fun x12 v11 =>
  sv_bv (f_M_segmentGoes l1 (16 : Int32) (v 98 l1.toNatClampNeg) (v 99 l1.toNatClampNeg) x12 s0 v11) fun v13 =>
  sv_ck l1 4 <|
  sv_ck l1 4 <| sv_ls (sv_up v13 98 l1.toNatClampNeg (((v13 98 l1.toNatClampNeg) + s0) &&& (65535 : Int32))) fun v14 =>
  some (.inl v14)
def f_M_push_b122 (l1 : Int32) (l2 : Int32) (s0 : Int32) (v : sv_T) : Option ((sv_T) ⊕ (sv_T)) :=
  if s0 < (32 : Int32) then
  f_M_push_b135 l1 l2 s0 v
  else
  f_M_push_b135 l1 l2 (32 : Int32) v
def f_M_push_l45 (l1 : Int32) (l2 : Int32) (v : sv_T) : Option ((sv_T) ⊕ (sv_T)) :=
  sv_bi (f_M_sent l1 v) fun x2 v1 =>
  sv_ck l1 4 <|
  if x2 < (v1 101 l1.toNatClampNeg) then
  sv_ck l1 4 <|
  sv_ck l1 4 <|
  sv_bi (f_M_less (v1 98 l1.toNatClampNeg) (v1 97 l1.toNatClampNeg) v1) fun x4 v3 =>
  if x4 < l2 then
  sv_ck l1 4 <|
  sv_bi (f_M_sent l1 v3) fun x6 v5 =>
  sv_le (((v3 101 l1.toNatClampNeg) - x6)) fun x7 =>
  sv_ck l1 4 <|
  sv_ck l1 4 <|
  sv_bi (f_M_less (v5 98 l1.toNatClampNeg) (v5 97 l1.toNatClampNeg) v5) fun x9 v8 =>
  sv_le ((l2 - x9)) fun x10 =>
  if x7 < x10 then
  f_M_push_b122 l1 l2 x7 v8
  else
  f_M_push_b122 l1 l2 x10 v8
  else
  some (.inr v3)
  else
  some (.inr v1)
def f_M_push_b301 (l1 : Int32) (v : sv_T) : Option (sv_T) :=
  sv_ck l1 4 <|
  sv_ck l1 4 <| sv_ls (sv_up v 110 l1.toNatClampNeg (v 111 l1.toNatClampNeg)) fun v15 =>
  some v15
def f_M_push_b263 (l1 : Int32) (v : sv_T) : Option (sv_T) :=
  sv_ck l1 4 <|
  if (v 110 l1.toNatClampNeg) = 0 then
  sv_ck l1 4 <|
  sv_ck l1 4 <|
  if (v 98 l1.toNatClampNeg) = (v 97 l1.toNatClampNeg) then
  sv_bi (f_M_sent l1 v) fun x17 v16 =>
  sv_ck l1 4 <|
  if x17 < (v16 101 l1.toNatClampNeg) then
  f_M_push_b301 l1 v16
  else
  some v16
  else
  f_M_push_b301 l1 v
  else
  some v
def f_M_push_b262 (l1 : Int32) (s0 : Int32) (s1 : Int32) (v : sv_T) : Option (sv_T) :=
  sv_ck s1 4 <| sv_ls (sv_up v 95 s1.toNatClampNeg s0) fun v23 =>
  f_M_push_b263 l1 v23
def f_M_push_x181 (l1 : Int32) (v : sv_T) : Option (sv_T) :=
  sv_ck l1 4 <|
  if (v 103 l1.toNatClampNeg) = 0 then
  f_M_push_b263 l1 v
  else
  sv_bi (f_M_sent l1 v) fun x19 v18 =>
  sv_ck l1 4 <|
  if x19 = (v18 101 l1.toNatClampNeg) then
  sv_ck l1 4 <|
  sv_bv (f_M_go l1 (17 : Int32) (v18 98 l1.toNatClampNeg) v18) fun v20 =>
  sv_ck l1 4 <| sv_ls (sv_up v20 104 l1.toNatClampNeg (1 : Int32)) fun v21 =>
  sv_ck l1 4 <|
  sv_ck l1 4 <| sv_ls (sv_up v21 98 l1.toNatClampNeg (((v21 98 l1.toNatClampNeg) + (1 : Int32)) &&& (65535 : Int32))) fun v22 =>
  sv_ck l1 4 <|
  if (v22 95 l1.toNatClampNeg) = (4 : Int32) then
  f_M_push_b262 l1 (5 : Int32) l1 v22
  else
  f_M_push_b262 l1 (9 : Int32) l1 v22
  else
  f_M_push_b263 l1 v18
def f_M_push_b44 (l1 : Int32) (s0 : Int32) (v : sv_T) : Option (sv_T) :=
  Option.bind (sv_loop (fun (s : sv_T) => f_M_push_l45 l1 s0 s) 100000 v) (fun (s : sv_T) => f_M_push_x181 l1 s)
def f_M_push_b22 (l1 : Int32) (v : sv_T) : Option (sv_T) :=
  sv_ck l1 4 <|
  if (v 100 l1.toNatClampNeg) < (48 : Int32) then
  sv_ck l1 4 <|
  f_M_push_b44 l1 (v 100 l1.toNatClampNeg) v
  else
  f_M_push_b44 l1 (48 : Int32) v
def f_M_push (a1 : Int32) (v : sv_T) : Option (sv_T) :=
  sv_ck a1 4 <|
  if (v 95 a1.toNatClampNeg) = (4 : Int32) then
  f_M_push_b22 a1 v
  else
  sv_ck a1 4 <|
  if (v 95 a1.toNatClampNeg) = (7 : Int32) then
  f_M_push_b22 a1 v
  else
  some v
set_option maxHeartbeats 4000000 in
set_option maxRecDepth 100000 in
theorem c_M_push_b135 (d : Nat) (l1 : Int32) (l2 : Int32) (s0 : Int32) (v : sv_T)  : sv_Ref (d + 7) 154 135 [some (.ref 75), some (.int l1), some (.int l2), none, none] [.int s0] v (f_M_push_b135 l1 l2 s0 v) (sv_Zl (d + 7) 154 45 (fun (s : sv_T) => [some (.ref 75), some (.int l1), some (.int l2), none, none]) (fun (s : sv_T) => s) (sv_Zt (d + 7) 154 181 (fun (s : sv_T) => [some (.ref 75), some (.int l1), none, none, none]) (fun (s : sv_T) => s))) := by
  unfold f_M_push_b135
  refine sv_istore_n (ls' := [some (.ref 75), some (.int l1), some (.int l2), some (.int s0), none]) d_M_push_135 (by decide) rfl ?_
  refine sv_aload_n d_M_push_136 rfl ?_
  refine sv_iload_n d_M_push_137 rfl ?_
  refine sv_bipush (x := (16 : Int32)) d_M_push_138 (by decide) ?_
  refine sv_aload_n d_M_push_140 rfl ?_
  refine sv_getr d_M_push_141 (gf_M_77 mc_154) so_75 sm_75_23 ?_
  refine sv_iload_n d_M_push_144 rfl ?_
  refine sv_iald d_M_push_145 sa_98 ?_
  refine sv_aload_n d_M_push_146 rfl ?_
  refine sv_getr d_M_push_147 (gf_M_80 mc_154) so_75 sm_75_24 ?_
  refine sv_iload_n d_M_push_150 rfl ?_
  refine sv_iald d_M_push_151 sa_99 ?_
  refine sv_aload_n d_M_push_152 rfl ?_
  refine sv_iload_n d_M_push_153 rfl ?_
  refine sv_callVi (d := d + 6) (as := [.int l1]) d_M_push_154 (wv_M_222 mc_154) so_75 ⟨_, rfl, rfl⟩ rfl (Nat.le_of_ble_eq_true rfl) rfl (c_M_sent (d + 5) l1 v ) (fun x12 v11 => ?_)
  refine sv_iload_n d_M_push_157 rfl ?_
  refine sv_callVv (d := d + 6) (as := [.int l1, .int (16 : Int32), .int (v 98 l1.toNatClampNeg), .int (v 99 l1.toNatClampNeg), .int x12, .int s0]) d_M_push_158 (wv_M_208 mc_154) so_75 ⟨_, rfl, rfl⟩ rfl (Nat.le_of_ble_eq_true rfl) rfl (c_M_segmentGoes (d + 1) l1 (16 : Int32) (v 98 l1.toNatClampNeg) (v 99 l1.toNatClampNeg) x12 s0 v11 ) (fun v13 => ?_)
  refine sv_aload_n d_M_push_161 rfl ?_
  refine sv_getr d_M_push_162 (gf_M_77 mc_154) so_75 sm_75_23 ?_
  refine sv_iload_n d_M_push_165 rfl ?_
  refine sv_aload_n d_M_push_166 rfl ?_
  refine sv_getr d_M_push_167 (gf_M_77 mc_154) so_75 sm_75_23 ?_
  refine sv_iload_n d_M_push_170 rfl ?_
  refine sv_iald d_M_push_171 sa_98 ?_
  refine sv_iload_n d_M_push_172 rfl ?_
  refine sv_iadd d_M_push_173 ?_
  refine sv_ldc d_M_push_174 tw_1007 ?_
  refine sv_iand d_M_push_176 ?_
  refine sv_iast d_M_push_177 sa_98 (fun v14 => ?_)
  refine sv_goto 45 d_M_push_178 rfl ?_
  exact sv_next v14 ⟨rfl, rfl, rfl, trivial⟩ rfl
set_option maxHeartbeats 4000000 in
set_option maxRecDepth 100000 in
theorem c_M_push_b122 (d : Nat) (l1 : Int32) (l2 : Int32) (s0 : Int32) (v : sv_T)  : sv_Ref (d + 7) 154 122 [some (.ref 75), some (.int l1), some (.int l2), none, none] [.int s0] v (f_M_push_b122 l1 l2 s0 v) (sv_Zl (d + 7) 154 45 (fun (s : sv_T) => [some (.ref 75), some (.int l1), some (.int l2), none, none]) (fun (s : sv_T) => s) (sv_Zt (d + 7) 154 181 (fun (s : sv_T) => [some (.ref 75), some (.int l1), none, none, none]) (fun (s : sv_T) => s))) := by
  unfold f_M_push_b122
  refine sv_istore_n (ls' := [some (.ref 75), some (.int l1), some (.int l2), some (.int s0), none]) d_M_push_122 (by decide) rfl ?_
  refine sv_iload_n d_M_push_123 rfl ?_
  refine sv_bipush (x := (32 : Int32)) d_M_push_124 (by decide) ?_
  refine sv_icmp_ge 133 d_M_push_126 rfl ?_ ?_
  · refine sv_bipush (x := (32 : Int32)) d_M_push_133 (by decide) ?_
    refine sv_kill (ls' := [some (.ref 75), some (.int l1), some (.int l2), none, none]) ⟨rfl, rfl, rfl, trivial⟩ ?_
    exact c_M_push_b135 d l1 l2 (32 : Int32) v 
  · refine sv_iload_n d_M_push_129 rfl ?_
    refine sv_goto 135 d_M_push_130 rfl ?_
    refine sv_kill (ls' := [some (.ref 75), some (.int l1), some (.int l2), none, none]) ⟨rfl, rfl, rfl, trivial⟩ ?_
    exact c_M_push_b135 d l1 l2 s0 v 
set_option maxHeartbeats 4000000 in
set_option maxRecDepth 100000 in
theorem c_M_push_l45 (d : Nat) (l1 : Int32) (l2 : Int32) (v : sv_T)  : sv_Ref (d + 7) 154 45 [some (.ref 75), some (.int l1), some (.int l2), none, none] [] v (f_M_push_l45 l1 l2 v) (sv_Zl (d + 7) 154 45 (fun (s : sv_T) => [some (.ref 75), some (.int l1), some (.int l2), none, none]) (fun (s : sv_T) => s) (sv_Zt (d + 7) 154 181 (fun (s : sv_T) => [some (.ref 75), some (.int l1), none, none, none]) (fun (s : sv_T) => s))) := by
  unfold f_M_push_l45
  refine sv_aload_n d_M_push_45 rfl ?_
  refine sv_iload_n d_M_push_46 rfl ?_
  refine sv_callVi (d := d + 6) (as := [.int l1]) d_M_push_47 (wv_M_222 mc_154) so_75 ⟨_, rfl, rfl⟩ rfl (Nat.le_of_ble_eq_true rfl) rfl (c_M_sent (d + 5) l1 v ) (fun x2 v1 => ?_)
  refine sv_aload_n d_M_push_50 rfl ?_
  refine sv_getr d_M_push_51 (gf_M_86 mc_154) so_75 sm_75_26 ?_
  refine sv_iload_n d_M_push_54 rfl ?_
  refine sv_iald d_M_push_55 sa_101 ?_
  refine sv_icmp_ge 181 d_M_push_56 rfl ?_ ?_
  · exact sv_leave v1 rfl ⟨rfl, rfl, trivial⟩ rfl
  · refine sv_aload_n d_M_push_59 rfl ?_
    refine sv_getr d_M_push_60 (gf_M_77 mc_154) so_75 sm_75_23 ?_
    refine sv_iload_n d_M_push_63 rfl ?_
    refine sv_iald d_M_push_64 sa_98 ?_
    refine sv_aload_n d_M_push_65 rfl ?_
    refine sv_getr d_M_push_66 (gf_M_74 mc_154) so_75 sm_75_22 ?_
    refine sv_iload_n d_M_push_69 rfl ?_
    refine sv_iald d_M_push_70 sa_97 ?_
    refine sv_callSi (d := d + 6) (as := [.int (v1 98 l1.toNatClampNeg), .int (v1 97 l1.toNatClampNeg)]) d_M_push_71 (ws_M_218 mc_154)  rfl (Nat.le_of_ble_eq_true rfl) rfl (c_M_less (d + 6) (v1 98 l1.toNatClampNeg) (v1 97 l1.toNatClampNeg) v1 ) (fun x4 v3 => ?_)
    refine sv_iload_n d_M_push_74 rfl ?_
    refine sv_icmp_ge 181 d_M_push_75 rfl ?_ ?_
    · exact sv_leave v3 rfl ⟨rfl, rfl, trivial⟩ rfl
    · refine sv_aload_n d_M_push_78 rfl ?_
      refine sv_getr d_M_push_79 (gf_M_86 mc_154) so_75 sm_75_26 ?_
      refine sv_iload_n d_M_push_82 rfl ?_
      refine sv_iald d_M_push_83 sa_101 ?_
      refine sv_aload_n d_M_push_84 rfl ?_
      refine sv_iload_n d_M_push_85 rfl ?_
      refine sv_callVi (d := d + 6) (as := [.int l1]) d_M_push_86 (wv_M_222 mc_154) so_75 ⟨_, rfl, rfl⟩ rfl (Nat.le_of_ble_eq_true rfl) rfl (c_M_sent (d + 5) l1 v3 ) (fun x6 v5 => ?_)
      refine sv_isub d_M_push_89 ?_
      refine sv_leR (fun x7 => ?_)
      refine sv_istore_n (ls' := [some (.ref 75), some (.int l1), some (.int l2), some (.int x7), none]) d_M_push_90 (by decide) rfl ?_
      refine sv_iload_n d_M_push_91 rfl ?_
      refine sv_aload_n d_M_push_92 rfl ?_
      refine sv_getr d_M_push_93 (gf_M_77 mc_154) so_75 sm_75_23 ?_
      refine sv_iload_n d_M_push_96 rfl ?_
      refine sv_iald d_M_push_97 sa_98 ?_
      refine sv_aload_n d_M_push_98 rfl ?_
      refine sv_getr d_M_push_99 (gf_M_74 mc_154) so_75 sm_75_22 ?_
      refine sv_iload_n d_M_push_102 rfl ?_
      refine sv_iald d_M_push_103 sa_97 ?_
      refine sv_callSi (d := d + 6) (as := [.int (v5 98 l1.toNatClampNeg), .int (v5 97 l1.toNatClampNeg)]) d_M_push_104 (ws_M_218 mc_154)  rfl (Nat.le_of_ble_eq_true rfl) rfl (c_M_less (d + 6) (v5 98 l1.toNatClampNeg) (v5 97 l1.toNatClampNeg) v5 ) (fun x9 v8 => ?_)
      refine sv_isub d_M_push_107 ?_
      refine sv_leR (fun x10 => ?_)
      refine sv_istore (ls' := [some (.ref 75), some (.int l1), some (.int l2), some (.int x7), some (.int x10)]) d_M_push_108 (by decide) rfl ?_
      refine sv_iload_n d_M_push_110 rfl ?_
      refine sv_iload d_M_push_111 rfl ?_
      refine sv_icmp_ge 120 d_M_push_113 rfl ?_ ?_
      · refine sv_iload d_M_push_120 rfl ?_
        refine sv_kill (ls' := [some (.ref 75), some (.int l1), some (.int l2), none, none]) ⟨rfl, rfl, rfl, trivial⟩ ?_
        exact c_M_push_b122 d l1 l2 x10 v8 
      · refine sv_iload_n d_M_push_116 rfl ?_
        refine sv_goto 122 d_M_push_117 rfl ?_
        refine sv_kill (ls' := [some (.ref 75), some (.int l1), some (.int l2), none, none]) ⟨rfl, rfl, rfl, trivial⟩ ?_
        exact c_M_push_b122 d l1 l2 x7 v8 
set_option maxHeartbeats 4000000 in
set_option maxRecDepth 100000 in
theorem c_M_push_b301 (d : Nat) (l1 : Int32) (v : sv_T)  : sv_Ref (d + 7) 154 301 [some (.ref 75), some (.int l1), none, none, none] [] v (f_M_push_b301 l1 v) (sv_Zv) := by
  unfold f_M_push_b301
  refine sv_aload_n d_M_push_301 rfl ?_
  refine sv_getr d_M_push_302 (gf_M_113 mc_154) so_75 sm_75_35 ?_
  refine sv_iload_n d_M_push_305 rfl ?_
  refine sv_aload_n d_M_push_306 rfl ?_
  refine sv_getr d_M_push_307 (gf_M_116 mc_154) so_75 sm_75_36 ?_
  refine sv_iload_n d_M_push_310 rfl ?_
  refine sv_iald d_M_push_311 sa_111 ?_
  refine sv_iast d_M_push_312 sa_110 (fun v15 => ?_)
  exact sv_vret rfl d_M_push_313
set_option maxHeartbeats 4000000 in
set_option maxRecDepth 100000 in
theorem c_M_push_b263 (d : Nat) (l1 : Int32) (v : sv_T)  : sv_Ref (d + 7) 154 263 [some (.ref 75), some (.int l1), none, none, none] [] v (f_M_push_b263 l1 v) (sv_Zv) := by
  unfold f_M_push_b263
  refine sv_aload_n d_M_push_263 rfl ?_
  refine sv_getr d_M_push_264 (gf_M_113 mc_154) so_75 sm_75_35 ?_
  refine sv_iload_n d_M_push_267 rfl ?_
  refine sv_iald d_M_push_268 sa_110 ?_
  refine sv_if_ne 313 d_M_push_269 rfl ?_ ?_
  · exact sv_vret rfl d_M_push_313
  · refine sv_aload_n d_M_push_272 rfl ?_
    refine sv_getr d_M_push_273 (gf_M_77 mc_154) so_75 sm_75_23 ?_
    refine sv_iload_n d_M_push_276 rfl ?_
    refine sv_iald d_M_push_277 sa_98 ?_
    refine sv_aload_n d_M_push_278 rfl ?_
    refine sv_getr d_M_push_279 (gf_M_74 mc_154) so_75 sm_75_22 ?_
    refine sv_iload_n d_M_push_282 rfl ?_
    refine sv_iald d_M_push_283 sa_97 ?_
    refine sv_icmp_ne 301 d_M_push_284 rfl ?_ ?_
    · exact c_M_push_b301 d l1 v 
    · refine sv_aload_n d_M_push_287 rfl ?_
      refine sv_iload_n d_M_push_288 rfl ?_
      refine sv_callVi (d := d + 6) (as := [.int l1]) d_M_push_289 (wv_M_222 mc_154) so_75 ⟨_, rfl, rfl⟩ rfl (Nat.le_of_ble_eq_true rfl) rfl (c_M_sent (d + 5) l1 v ) (fun x17 v16 => ?_)
      refine sv_aload_n d_M_push_292 rfl ?_
      refine sv_getr d_M_push_293 (gf_M_86 mc_154) so_75 sm_75_26 ?_
      refine sv_iload_n d_M_push_296 rfl ?_
      refine sv_iald d_M_push_297 sa_101 ?_
      refine sv_icmp_ge 313 d_M_push_298 rfl ?_ ?_
      · exact sv_vret rfl d_M_push_313
      · exact c_M_push_b301 d l1 v16 
set_option maxHeartbeats 4000000 in
set_option maxRecDepth 100000 in
theorem c_M_push_b262 (d : Nat) (l1 : Int32) (s0 : Int32) (s1 : Int32) (v : sv_T)  : sv_Ref (d + 7) 154 262 [some (.ref 75), some (.int l1), none, none, none] [.int s0, .int s1, .ref 95] v (f_M_push_b262 l1 s0 s1 v) (sv_Zv) := by
  unfold f_M_push_b262
  refine sv_iast d_M_push_262 sa_95 (fun v23 => ?_)
  exact c_M_push_b263 d l1 v23 
set_option maxHeartbeats 4000000 in
set_option maxRecDepth 100000 in
theorem c_M_push_x181 (d : Nat) (l1 : Int32) (v : sv_T)  : sv_Ref (d + 7) 154 181 [some (.ref 75), some (.int l1), none, none, none] [] v (f_M_push_x181 l1 v) (sv_Zv) := by
  unfold f_M_push_x181
  refine sv_aload_n d_M_push_181 rfl ?_
  refine sv_getr d_M_push_182 (gf_M_92 mc_154) so_75 sm_75_28 ?_
  refine sv_iload_n d_M_push_185 rfl ?_
  refine sv_zald d_M_push_186 sa_103 ?_
  refine sv_if_eq 263 d_M_push_187 rfl ?_ ?_
  · exact c_M_push_b263 d l1 v 
  · refine sv_aload_n d_M_push_190 rfl ?_
    refine sv_iload_n d_M_push_191 rfl ?_
    refine sv_callVi (d := d + 6) (as := [.int l1]) d_M_push_192 (wv_M_222 mc_154) so_75 ⟨_, rfl, rfl⟩ rfl (Nat.le_of_ble_eq_true rfl) rfl (c_M_sent (d + 5) l1 v ) (fun x19 v18 => ?_)
    refine sv_aload_n d_M_push_195 rfl ?_
    refine sv_getr d_M_push_196 (gf_M_86 mc_154) so_75 sm_75_26 ?_
    refine sv_iload_n d_M_push_199 rfl ?_
    refine sv_iald d_M_push_200 sa_101 ?_
    refine sv_icmp_ne 263 d_M_push_201 rfl ?_ ?_
    · exact c_M_push_b263 d l1 v18 
    · refine sv_aload_n d_M_push_204 rfl ?_
      refine sv_iload_n d_M_push_205 rfl ?_
      refine sv_bipush (x := (17 : Int32)) d_M_push_206 (by decide) ?_
      refine sv_aload_n d_M_push_208 rfl ?_
      refine sv_getr d_M_push_209 (gf_M_77 mc_154) so_75 sm_75_23 ?_
      refine sv_iload_n d_M_push_212 rfl ?_
      refine sv_iald d_M_push_213 sa_98 ?_
      refine sv_callVv (d := d + 6) (as := [.int l1, .int (17 : Int32), .int (v18 98 l1.toNatClampNeg)]) d_M_push_214 (wv_M_225 mc_154) so_75 ⟨_, rfl, rfl⟩ rfl (Nat.le_of_ble_eq_true rfl) rfl (c_M_go (d + 0) l1 (17 : Int32) (v18 98 l1.toNatClampNeg) v18 ) (fun v20 => ?_)
      refine sv_aload_n d_M_push_217 rfl ?_
      refine sv_getr d_M_push_218 (gf_M_95 mc_154) so_75 sm_75_29 ?_
      refine sv_iload_n d_M_push_221 rfl ?_
      refine sv_iconst (x := (1 : Int32)) d_M_push_222 (by decide) ?_
      refine sv_zast (y := (1 : Int32)) d_M_push_223 sa_104 (by decide) (fun v21 => ?_)
      refine sv_aload_n d_M_push_224 rfl ?_
      refine sv_getr d_M_push_225 (gf_M_77 mc_154) so_75 sm_75_23 ?_
      refine sv_iload_n d_M_push_228 rfl ?_
      refine sv_aload_n d_M_push_229 rfl ?_
      refine sv_getr d_M_push_230 (gf_M_77 mc_154) so_75 sm_75_23 ?_
      refine sv_iload_n d_M_push_233 rfl ?_
      refine sv_iald d_M_push_234 sa_98 ?_
      refine sv_iconst (x := (1 : Int32)) d_M_push_235 (by decide) ?_
      refine sv_iadd d_M_push_236 ?_
      refine sv_ldc d_M_push_237 tw_1007 ?_
      refine sv_iand d_M_push_239 ?_
      refine sv_iast d_M_push_240 sa_98 (fun v22 => ?_)
      refine sv_aload_n d_M_push_241 rfl ?_
      refine sv_getr d_M_push_242 (gf_M_68 mc_154) so_75 sm_75_20 ?_
      refine sv_iload_n d_M_push_245 rfl ?_
      refine sv_aload_n d_M_push_246 rfl ?_
      refine sv_getr d_M_push_247 (gf_M_68 mc_154) so_75 sm_75_20 ?_
      refine sv_iload_n d_M_push_250 rfl ?_
      refine sv_iald d_M_push_251 sa_95 ?_
      refine sv_iconst (x := (4 : Int32)) d_M_push_252 (by decide) ?_
      refine sv_icmp_ne 260 d_M_push_253 rfl ?_ ?_
      · refine sv_bipush (x := (9 : Int32)) d_M_push_260 (by decide) ?_
        exact c_M_push_b262 d l1 (9 : Int32) l1 v22 
      · refine sv_iconst (x := (5 : Int32)) d_M_push_256 (by decide) ?_
        refine sv_goto 262 d_M_push_257 rfl ?_
        exact c_M_push_b262 d l1 (5 : Int32) l1 v22 
set_option maxHeartbeats 4000000 in
set_option maxRecDepth 100000 in
theorem c_M_push_b44 (d : Nat) (l1 : Int32) (s0 : Int32) (v : sv_T)  : sv_Ref (d + 7) 154 44 [some (.ref 75), some (.int l1), none, none, none] [.int s0] v (f_M_push_b44 l1 s0 v) (sv_Zv) := by
  unfold f_M_push_b44
  refine sv_istore_n (ls' := [some (.ref 75), some (.int l1), some (.int s0), none, none]) d_M_push_44 (by decide) rfl ?_
  exact sv_seq (xt := 181) (L := (fun (s : sv_T) => [some (.ref 75), some (.int l1), none, none, none])) (S := (fun (s : sv_T) => s)) (sv_loopR (L := (fun (s : sv_T) => [some (.ref 75), some (.int l1), some (.int s0), none, none])) (S := (fun (s : sv_T) => s)) (fun s => c_M_push_l45 d l1 s0 s ) 100000 v) (fun s => c_M_push_x181 d l1 s )
set_option maxHeartbeats 4000000 in
set_option maxRecDepth 100000 in
theorem c_M_push_b22 (d : Nat) (l1 : Int32) (v : sv_T)  : sv_Ref (d + 7) 154 22 [some (.ref 75), some (.int l1), none, none, none] [] v (f_M_push_b22 l1 v) (sv_Zv) := by
  unfold f_M_push_b22
  refine sv_aload_n d_M_push_22 rfl ?_
  refine sv_getr d_M_push_23 (gf_M_83 mc_154) so_75 sm_75_25 ?_
  refine sv_iload_n d_M_push_26 rfl ?_
  refine sv_iald d_M_push_27 sa_100 ?_
  refine sv_bipush (x := (48 : Int32)) d_M_push_28 (by decide) ?_
  refine sv_icmp_ge 42 d_M_push_30 rfl ?_ ?_
  · refine sv_bipush (x := (48 : Int32)) d_M_push_42 (by decide) ?_
    exact c_M_push_b44 d l1 (48 : Int32) v 
  · refine sv_aload_n d_M_push_33 rfl ?_
    refine sv_getr d_M_push_34 (gf_M_83 mc_154) so_75 sm_75_25 ?_
    refine sv_iload_n d_M_push_37 rfl ?_
    refine sv_iald d_M_push_38 sa_100 ?_
    refine sv_goto 44 d_M_push_39 rfl ?_
    exact c_M_push_b44 d l1 (v 100 l1.toNatClampNeg) v 
set_option maxHeartbeats 4000000 in
set_option maxRecDepth 100000 in
theorem c_M_push (d : Nat) (a1 : Int32) (v : sv_T)  : sv_Cl (d + 7) 154 [.ref 75, .int a1] v (f_M_push a1 v) sv_Zv := by
  refine sv_spec (ls0 := [some (.ref 75), some (.int a1), none, none, none]) mp_154 (Nat.le_of_ble_eq_true rfl) rfl ?_
  unfold f_M_push
  refine sv_aload_n d_M_push_0 rfl ?_
  refine sv_getr d_M_push_1 (gf_M_68 mc_154) so_75 sm_75_20 ?_
  refine sv_iload_n d_M_push_4 rfl ?_
  refine sv_iald d_M_push_5 sa_95 ?_
  refine sv_iconst (x := (4 : Int32)) d_M_push_6 (by decide) ?_
  refine sv_icmp_eq 22 d_M_push_7 rfl ?_ ?_
  · exact c_M_push_b22 d a1 v 
  · refine sv_aload_n d_M_push_10 rfl ?_
    refine sv_getr d_M_push_11 (gf_M_68 mc_154) so_75 sm_75_20 ?_
    refine sv_iload_n d_M_push_14 rfl ?_
    refine sv_iald d_M_push_15 sa_95 ?_
    refine sv_bipush (x := (7 : Int32)) d_M_push_16 (by decide) ?_
    refine sv_icmp_eq 22 d_M_push_18 rfl ?_ ?_
    · exact c_M_push_b22 d a1 v 
    · exact sv_vret rfl d_M_push_21
def f_M_send_b51 (l3 : Int32) (l4 : Int32) (v : sv_T) : Option (Int32 × sv_T) :=
  sv_ck l4 4 <|
  if (v 103 l4.toNatClampNeg) = 0 then
  sv_ck l4 4 <|
  if (v 101 l4.toNatClampNeg) = (64 : Int32) then
  some ((0 : Int32), v)
  else
  sv_ck l4 4 <|
  sv_ck (((64 : Int32) * l4) + (v 101 l4.toNatClampNeg)) 256 <| sv_ls (sv_up v 102 (((64 : Int32) * l4) + (v 101 l4.toNatClampNeg)).toNatClampNeg l3) fun v5 =>
  sv_ck l4 4 <|
  sv_ck l4 4 <| sv_ls (sv_up v5 101 l4.toNatClampNeg ((v5 101 l4.toNatClampNeg) + (1 : Int32))) fun v6 =>
  sv_bv (f_M_push l4 v6) fun v7 =>
  some ((1 : Int32), v7)
  else
  some ((0 : Int32), v)
def f_M_send (a1 : Int32) (a2 : Int32) (a3 : Int32) (v : sv_T) : Option (Int32 × sv_T) :=
  sv_bi (f_M_isSocket a1 a2 v) fun x2 v1 =>
  if x2 = 0 then
  some ((0 : Int32), v1)
  else
  if a3 < 0 then
  some ((0 : Int32), v1)
  else
  if (255 : Int32) < a3 then
  some ((0 : Int32), v1)
  else
  sv_bi (f_M_at a1 a2 v1) fun x4 v3 =>
  sv_ck x4 4 <|
  if (v3 95 x4.toNatClampNeg) = (4 : Int32) then
  f_M_send_b51 a3 x4 v3
  else
  sv_ck x4 4 <|
  if (v3 95 x4.toNatClampNeg) = (7 : Int32) then
  f_M_send_b51 a3 x4 v3
  else
  some ((0 : Int32), v3)
set_option maxHeartbeats 4000000 in
set_option maxRecDepth 100000 in
theorem c_M_send_b51 (d : Nat) (l3 : Int32) (l4 : Int32) (v : sv_T)  : sv_Ref (d + 8) 153 51 [some (.ref 75), none, none, some (.int l3), some (.int l4)] [] v (f_M_send_b51 l3 l4 v) (sv_Zi) := by
  unfold f_M_send_b51
  refine sv_aload_n d_M_send_51 rfl ?_
  refine sv_getr d_M_send_52 (gf_M_92 mc_153) so_75 sm_75_28 ?_
  refine sv_iload d_M_send_55 rfl ?_
  refine sv_zald d_M_send_57 sa_103 ?_
  refine sv_if_ne 73 d_M_send_58 rfl ?_ ?_
  · refine sv_iconst (x := (0 : Int32)) d_M_send_73 (by decide) ?_
    exact sv_zretc rfl (by decide) d_M_send_74
  · refine sv_aload_n d_M_send_61 rfl ?_
    refine sv_getr d_M_send_62 (gf_M_86 mc_153) so_75 sm_75_26 ?_
    refine sv_iload d_M_send_65 rfl ?_
    refine sv_iald d_M_send_67 sa_101 ?_
    refine sv_bipush (x := (64 : Int32)) d_M_send_68 (by decide) ?_
    refine sv_icmp_ne 75 d_M_send_70 rfl ?_ ?_
    · refine sv_aload_n d_M_send_75 rfl ?_
      refine sv_getr d_M_send_76 (gf_M_89 mc_153) so_75 sm_75_27 ?_
      refine sv_bipush (x := (64 : Int32)) d_M_send_79 (by decide) ?_
      refine sv_iload d_M_send_81 rfl ?_
      refine sv_imul d_M_send_83 ?_
      refine sv_aload_n d_M_send_84 rfl ?_
      refine sv_getr d_M_send_85 (gf_M_86 mc_153) so_75 sm_75_26 ?_
      refine sv_iload d_M_send_88 rfl ?_
      refine sv_iald d_M_send_90 sa_101 ?_
      refine sv_iadd d_M_send_91 ?_
      refine sv_iload_n d_M_send_92 rfl ?_
      refine sv_iast d_M_send_93 sa_102 (fun v5 => ?_)
      refine sv_aload_n d_M_send_94 rfl ?_
      refine sv_getr d_M_send_95 (gf_M_86 mc_153) so_75 sm_75_26 ?_
      refine sv_iload d_M_send_98 rfl ?_
      refine sv_dup2 d_M_send_100 ?_
      refine sv_iald d_M_send_101 sa_101 ?_
      refine sv_iconst (x := (1 : Int32)) d_M_send_102 (by decide) ?_
      refine sv_iadd d_M_send_103 ?_
      refine sv_iast d_M_send_104 sa_101 (fun v6 => ?_)
      refine sv_aload_n d_M_send_105 rfl ?_
      refine sv_iload d_M_send_106 rfl ?_
      refine sv_callVv (d := d + 7) (as := [.int l4]) d_M_send_108 (wv_M_267 mc_153) so_75 ⟨_, rfl, rfl⟩ rfl (Nat.le_of_ble_eq_true rfl) rfl (c_M_push (d + 0) l4 v6 ) (fun v7 => ?_)
      refine sv_iconst (x := (1 : Int32)) d_M_send_111 (by decide) ?_
      exact sv_zretc rfl (by decide) d_M_send_112
    · refine sv_iconst (x := (0 : Int32)) d_M_send_73 (by decide) ?_
      exact sv_zretc rfl (by decide) d_M_send_74
set_option maxHeartbeats 4000000 in
set_option maxRecDepth 100000 in
theorem c_M_send (d : Nat) (a1 : Int32) (a2 : Int32) (a3 : Int32) (v : sv_T)  : sv_Cl (d + 8) 153 [.ref 75, .int a1, .int a2, .int a3] v (f_M_send a1 a2 a3 v) sv_Zi := by
  refine sv_spec (ls0 := [some (.ref 75), some (.int a1), some (.int a2), some (.int a3), none]) mp_153 (Nat.le_of_ble_eq_true rfl) rfl ?_
  unfold f_M_send
  refine sv_iload_n d_M_send_0 rfl ?_
  refine sv_iload_n d_M_send_1 rfl ?_
  refine sv_callSi (d := d + 7) (as := [.int a1, .int a2]) d_M_send_2 (ws_M_282 mc_153)  rfl (Nat.le_of_ble_eq_true rfl) rfl (c_M_isSocket (d + 6) a1 a2 v ) (fun x2 v1 => ?_)
  refine sv_if_eq 19 d_M_send_5 rfl ?_ ?_
  · refine sv_iconst (x := (0 : Int32)) d_M_send_19 (by decide) ?_
    exact sv_zretc rfl (by decide) d_M_send_20
  · refine sv_iload_n d_M_send_8 rfl ?_
    refine sv_if_lt 19 d_M_send_9 rfl ?_ ?_
    · refine sv_iconst (x := (0 : Int32)) d_M_send_19 (by decide) ?_
      exact sv_zretc rfl (by decide) d_M_send_20
    · refine sv_iload_n d_M_send_12 rfl ?_
      refine sv_sipush (x := (255 : Int32)) d_M_send_13 (by decide) ?_
      refine sv_icmp_le 21 d_M_send_16 rfl ?_ ?_
      · refine sv_iload_n d_M_send_21 rfl ?_
        refine sv_iload_n d_M_send_22 rfl ?_
        refine sv_callSi (d := d + 7) (as := [.int a1, .int a2]) d_M_send_23 (ws_M_231 mc_153)  rfl (Nat.le_of_ble_eq_true rfl) rfl (c_M_at (d + 7) a1 a2 v1 ) (fun x4 v3 => ?_)
        refine sv_istore (ls' := [some (.ref 75), some (.int a1), some (.int a2), some (.int a3), some (.int x4)]) d_M_send_26 (by decide) rfl ?_
        refine sv_aload_n d_M_send_28 rfl ?_
        refine sv_getr d_M_send_29 (gf_M_68 mc_153) so_75 sm_75_20 ?_
        refine sv_iload d_M_send_32 rfl ?_
        refine sv_iald d_M_send_34 sa_95 ?_
        refine sv_iconst (x := (4 : Int32)) d_M_send_35 (by decide) ?_
        refine sv_icmp_eq 51 d_M_send_36 rfl ?_ ?_
        · refine sv_kill (ls' := [some (.ref 75), none, none, some (.int a3), some (.int x4)]) ⟨rfl, rfl, rfl, trivial⟩ ?_
          exact c_M_send_b51 d a3 x4 v3 
        · refine sv_aload_n d_M_send_39 rfl ?_
          refine sv_getr d_M_send_40 (gf_M_68 mc_153) so_75 sm_75_20 ?_
          refine sv_iload d_M_send_43 rfl ?_
          refine sv_iald d_M_send_45 sa_95 ?_
          refine sv_bipush (x := (7 : Int32)) d_M_send_46 (by decide) ?_
          refine sv_icmp_ne 73 d_M_send_48 rfl ?_ ?_
          · refine sv_iconst (x := (0 : Int32)) d_M_send_73 (by decide) ?_
            exact sv_zretc rfl (by decide) d_M_send_74
          · refine sv_kill (ls' := [some (.ref 75), none, none, some (.int a3), some (.int x4)]) ⟨rfl, rfl, rfl, trivial⟩ ?_
            exact c_M_send_b51 d a3 x4 v3 
      · refine sv_iconst (x := (0 : Int32)) d_M_send_19 (by decide) ?_
        exact sv_zretc rfl (by decide) d_M_send_20
def f_M_read_l71 (l3 : Int32) (l4 : Int32) (l5 : Int32) (l6 : Int32) (v : sv_T) : Option ((Int32 × sv_T) ⊕ (sv_T)) :=
  sv_ck l3 4 <|
  if l6 < (((32 : Int32) * l3) + (v 105 l3.toNatClampNeg)) then
  sv_ck (l6 + (1 : Int32)) 128 <|
  sv_ck l6 128 <| sv_ls (sv_up v 106 l6.toNatClampNeg (v 106 (l6 + (1 : Int32)).toNatClampNeg)) fun v12 =>
  sv_le (l6 + (1 : Int32)) fun x13 =>
  some (.inl (x13, v12))
  else
  some (.inr v)
def f_M_read_b145 (l3 : Int32) (l5 : Int32) (v : sv_T) : Option (Int32 × sv_T) :=
  sv_ck l3 4 <|
  sv_bv (f_M_go l3 (16 : Int32) (v 98 l3.toNatClampNeg) v) fun v14 =>
  some (l5, v14)
def f_M_read_x109 (l3 : Int32) (l4 : Int32) (l5 : Int32) (v : sv_T) : Option (Int32 × sv_T) :=
  if l4 = 0 then
  some (l5, v)
  else
  sv_ck l3 4 <|
  if (v 95 l3.toNatClampNeg) = (4 : Int32) then
  f_M_read_b145 l3 l5 v
  else
  sv_ck l3 4 <|
  if (v 95 l3.toNatClampNeg) = (5 : Int32) then
  f_M_read_b145 l3 l5 v
  else
  sv_ck l3 4 <|
  if (v 95 l3.toNatClampNeg) = (6 : Int32) then
  f_M_read_b145 l3 l5 v
  else
  some (l5, v)
def f_M_read_b42 (l3 : Int32) (s0 : Int32) (v : sv_T) : Option (Int32 × sv_T) :=
  sv_ck ((32 : Int32) * l3) 128 <|
  sv_le ((v 106 ((32 : Int32) * l3).toNatClampNeg)) fun x9 =>
  sv_ck l3 4 <|
  sv_ck l3 4 <| sv_ls (sv_up v 105 l3.toNatClampNeg ((v 105 l3.toNatClampNeg) - (1 : Int32))) fun v10 =>
  sv_le (((32 : Int32) * l3)) fun x11 =>
  Option.bind (sv_loop (fun (s : Int32 × sv_T) => f_M_read_l71 l3 s0 x9 s.1 (s.2)) 100000 (x11, v10)) (fun (s : sv_T) => f_M_read_x109 l3 s0 x9 s)
def f_M_read (a1 : Int32) (a2 : Int32) (v : sv_T) : Option (Int32 × sv_T) :=
  sv_bi (f_M_isSocket a1 a2 v) fun x2 v1 =>
  if x2 = 0 then
  some ((-1 : Int32), v1)
  else
  sv_bi (f_M_at a1 a2 v1) fun x4 v3 =>
  sv_ck x4 4 <|
  if (v3 105 x4.toNatClampNeg) = 0 then
  some ((-1 : Int32), v3)
  else
  sv_bi (f_M_at a1 a2 v3) fun x6 v5 =>
  sv_bi (f_M_room x6 v5) fun x8 v7 =>
  if x8 = 0 then
  f_M_read_b42 x6 (1 : Int32) v7
  else
  f_M_read_b42 x6 (0 : Int32) v7
set_option maxHeartbeats 4000000 in
set_option maxRecDepth 100000 in
theorem c_M_read_l71 (d : Nat) (l3 : Int32) (l4 : Int32) (l5 : Int32) (l6 : Int32) (v : sv_T)  : sv_Ref (d + 7) 157 71 [some (.ref 75), none, none, some (.int l3), some (.int l4), some (.int l5), some (.int l6)] [] v (f_M_read_l71 l3 l4 l5 l6 v) (sv_Zl (d + 7) 157 71 (fun (s : Int32 × sv_T) => [some (.ref 75), none, none, some (.int l3), some (.int l4), some (.int l5), some (.int s.1)]) (fun (s : Int32 × sv_T) => s.2) (sv_Zt (d + 7) 157 109 (fun (s : sv_T) => [some (.ref 75), none, none, some (.int l3), some (.int l4), some (.int l5), none]) (fun (s : sv_T) => s))) := by
  unfold f_M_read_l71
  refine sv_iload d_M_read_71 rfl ?_
  refine sv_bipush (x := (32 : Int32)) d_M_read_73 (by decide) ?_
  refine sv_iload_n d_M_read_75 rfl ?_
  refine sv_imul d_M_read_76 ?_
  refine sv_aload_n d_M_read_77 rfl ?_
  refine sv_getr d_M_read_78 (gf_M_98 mc_157) so_75 sm_75_30 ?_
  refine sv_iload_n d_M_read_81 rfl ?_
  refine sv_iald d_M_read_82 sa_105 ?_
  refine sv_iadd d_M_read_83 ?_
  refine sv_icmp_ge 109 d_M_read_84 rfl ?_ ?_
  · exact sv_leave v rfl ⟨rfl, rfl, rfl, rfl, trivial⟩ rfl
  · refine sv_aload_n d_M_read_87 rfl ?_
    refine sv_getr d_M_read_88 (gf_M_101 mc_157) so_75 sm_75_31 ?_
    refine sv_iload d_M_read_91 rfl ?_
    refine sv_aload_n d_M_read_93 rfl ?_
    refine sv_getr d_M_read_94 (gf_M_101 mc_157) so_75 sm_75_31 ?_
    refine sv_iload d_M_read_97 rfl ?_
    refine sv_iconst (x := (1 : Int32)) d_M_read_99 (by decide) ?_
    refine sv_iadd d_M_read_100 ?_
    refine sv_iald d_M_read_101 sa_106 ?_
    refine sv_iast d_M_read_102 sa_106 (fun v12 => ?_)
    refine sv_iinc (ls' := fun x13 => [some (.ref 75), none, none, some (.int l3), some (.int l4), some (.int l5), some (.int x13)]) (y := (1 : Int32)) d_M_read_103 rfl (by decide) (fun _ => rfl) (fun x13 => ?_)
    refine sv_goto 71 d_M_read_106 rfl ?_
    exact sv_next (x13, v12) ⟨rfl, rfl, rfl, rfl, rfl, trivial⟩ rfl
set_option maxHeartbeats 4000000 in
set_option maxRecDepth 100000 in
theorem c_M_read_b145 (d : Nat) (l3 : Int32) (l5 : Int32) (v : sv_T)  : sv_Ref (d + 7) 157 145 [some (.ref 75), none, none, some (.int l3), none, some (.int l5), none] [] v (f_M_read_b145 l3 l5 v) (sv_Zi) := by
  unfold f_M_read_b145
  refine sv_aload_n d_M_read_145 rfl ?_
  refine sv_iload_n d_M_read_146 rfl ?_
  refine sv_bipush (x := (16 : Int32)) d_M_read_147 (by decide) ?_
  refine sv_aload_n d_M_read_149 rfl ?_
  refine sv_getr d_M_read_150 (gf_M_77 mc_157) so_75 sm_75_23 ?_
  refine sv_iload_n d_M_read_153 rfl ?_
  refine sv_iald d_M_read_154 sa_98 ?_
  refine sv_callVv (d := d + 6) (as := [.int l3, .int (16 : Int32), .int (v 98 l3.toNatClampNeg)]) d_M_read_155 (wv_M_225 mc_157) so_75 ⟨_, rfl, rfl⟩ rfl (Nat.le_of_ble_eq_true rfl) rfl (c_M_go (d + 0) l3 (16 : Int32) (v 98 l3.toNatClampNeg) v ) (fun v14 => ?_)
  refine sv_iload d_M_read_158 rfl ?_
  exact sv_iret rfl d_M_read_160
set_option maxHeartbeats 4000000 in
set_option maxRecDepth 100000 in
theorem c_M_read_x109 (d : Nat) (l3 : Int32) (l4 : Int32) (l5 : Int32) (v : sv_T)  : sv_Ref (d + 7) 157 109 [some (.ref 75), none, none, some (.int l3), some (.int l4), some (.int l5), none] [] v (f_M_read_x109 l3 l4 l5 v) (sv_Zi) := by
  unfold f_M_read_x109
  refine sv_iload d_M_read_109 rfl ?_
  refine sv_if_eq 158 d_M_read_111 rfl ?_ ?_
  · refine sv_iload d_M_read_158 rfl ?_
    exact sv_iret rfl d_M_read_160
  · refine sv_aload_n d_M_read_114 rfl ?_
    refine sv_getr d_M_read_115 (gf_M_68 mc_157) so_75 sm_75_20 ?_
    refine sv_iload_n d_M_read_118 rfl ?_
    refine sv_iald d_M_read_119 sa_95 ?_
    refine sv_iconst (x := (4 : Int32)) d_M_read_120 (by decide) ?_
    refine sv_icmp_eq 145 d_M_read_121 rfl ?_ ?_
    · refine sv_kill (ls' := [some (.ref 75), none, none, some (.int l3), none, some (.int l5), none]) ⟨rfl, rfl, rfl, trivial⟩ ?_
      exact c_M_read_b145 d l3 l5 v 
    · refine sv_aload_n d_M_read_124 rfl ?_
      refine sv_getr d_M_read_125 (gf_M_68 mc_157) so_75 sm_75_20 ?_
      refine sv_iload_n d_M_read_128 rfl ?_
      refine sv_iald d_M_read_129 sa_95 ?_
      refine sv_iconst (x := (5 : Int32)) d_M_read_130 (by decide) ?_
      refine sv_icmp_eq 145 d_M_read_131 rfl ?_ ?_
      · refine sv_kill (ls' := [some (.ref 75), none, none, some (.int l3), none, some (.int l5), none]) ⟨rfl, rfl, rfl, trivial⟩ ?_
        exact c_M_read_b145 d l3 l5 v 
      · refine sv_aload_n d_M_read_134 rfl ?_
        refine sv_getr d_M_read_135 (gf_M_68 mc_157) so_75 sm_75_20 ?_
        refine sv_iload_n d_M_read_138 rfl ?_
        refine sv_iald d_M_read_139 sa_95 ?_
        refine sv_bipush (x := (6 : Int32)) d_M_read_140 (by decide) ?_
        refine sv_icmp_ne 158 d_M_read_142 rfl ?_ ?_
        · refine sv_iload d_M_read_158 rfl ?_
          exact sv_iret rfl d_M_read_160
        · refine sv_kill (ls' := [some (.ref 75), none, none, some (.int l3), none, some (.int l5), none]) ⟨rfl, rfl, rfl, trivial⟩ ?_
          exact c_M_read_b145 d l3 l5 v 
set_option maxHeartbeats 4000000 in
set_option maxRecDepth 100000 in
theorem c_M_read_b42 (d : Nat) (l3 : Int32) (s0 : Int32) (v : sv_T)  : sv_Ref (d + 7) 157 42 [some (.ref 75), none, none, some (.int l3), none, none, none] [.int s0] v (f_M_read_b42 l3 s0 v) (sv_Zi) := by
  unfold f_M_read_b42
  refine sv_istore (ls' := [some (.ref 75), none, none, some (.int l3), some (.int s0), none, none]) d_M_read_42 (by decide) rfl ?_
  refine sv_aload_n d_M_read_44 rfl ?_
  refine sv_getr d_M_read_45 (gf_M_101 mc_157) so_75 sm_75_31 ?_
  refine sv_bipush (x := (32 : Int32)) d_M_read_48 (by decide) ?_
  refine sv_iload_n d_M_read_50 rfl ?_
  refine sv_imul d_M_read_51 ?_
  refine sv_iald d_M_read_52 sa_106 ?_
  refine sv_leR (fun x9 => ?_)
  refine sv_istore (ls' := [some (.ref 75), none, none, some (.int l3), some (.int s0), some (.int x9), none]) d_M_read_53 (by decide) rfl ?_
  refine sv_aload_n d_M_read_55 rfl ?_
  refine sv_getr d_M_read_56 (gf_M_98 mc_157) so_75 sm_75_30 ?_
  refine sv_iload_n d_M_read_59 rfl ?_
  refine sv_dup2 d_M_read_60 ?_
  refine sv_iald d_M_read_61 sa_105 ?_
  refine sv_iconst (x := (1 : Int32)) d_M_read_62 (by decide) ?_
  refine sv_isub d_M_read_63 ?_
  refine sv_iast d_M_read_64 sa_105 (fun v10 => ?_)
  refine sv_bipush (x := (32 : Int32)) d_M_read_65 (by decide) ?_
  refine sv_iload_n d_M_read_67 rfl ?_
  refine sv_imul d_M_read_68 ?_
  refine sv_leR (fun x11 => ?_)
  refine sv_istore (ls' := [some (.ref 75), none, none, some (.int l3), some (.int s0), some (.int x9), some (.int x11)]) d_M_read_69 (by decide) rfl ?_
  exact sv_seq (xt := 109) (L := (fun (s : sv_T) => [some (.ref 75), none, none, some (.int l3), some (.int s0), some (.int x9), none])) (S := (fun (s : sv_T) => s)) (sv_loopR (L := (fun (s : Int32 × sv_T) => [some (.ref 75), none, none, some (.int l3), some (.int s0), some (.int x9), some (.int s.1)])) (S := (fun (s : Int32 × sv_T) => s.2)) (fun s => c_M_read_l71 d l3 s0 x9 s.1 (s.2) ) 100000 (x11, v10)) (fun s => c_M_read_x109 d l3 s0 x9 s )
set_option maxHeartbeats 4000000 in
set_option maxRecDepth 100000 in
theorem c_M_read (d : Nat) (a1 : Int32) (a2 : Int32) (v : sv_T)  : sv_Cl (d + 7) 157 [.ref 75, .int a1, .int a2] v (f_M_read a1 a2 v) sv_Zi := by
  refine sv_spec (ls0 := [some (.ref 75), some (.int a1), some (.int a2), none, none, none, none]) mp_157 (Nat.le_of_ble_eq_true rfl) rfl ?_
  unfold f_M_read
  refine sv_iload_n d_M_read_0 rfl ?_
  refine sv_iload_n d_M_read_1 rfl ?_
  refine sv_callSi (d := d + 6) (as := [.int a1, .int a2]) d_M_read_2 (ws_M_282 mc_157)  rfl (Nat.le_of_ble_eq_true rfl) rfl (c_M_isSocket (d + 5) a1 a2 v ) (fun x2 v1 => ?_)
  refine sv_if_eq 21 d_M_read_5 rfl ?_ ?_
  · refine sv_iconst (x := (-1 : Int32)) d_M_read_21 (by decide) ?_
    exact sv_iret rfl d_M_read_22
  · refine sv_aload_n d_M_read_8 rfl ?_
    refine sv_getr d_M_read_9 (gf_M_98 mc_157) so_75 sm_75_30 ?_
    refine sv_iload_n d_M_read_12 rfl ?_
    refine sv_iload_n d_M_read_13 rfl ?_
    refine sv_callSi (d := d + 6) (as := [.int a1, .int a2]) d_M_read_14 (ws_M_231 mc_157)  rfl (Nat.le_of_ble_eq_true rfl) rfl (c_M_at (d + 6) a1 a2 v1 ) (fun x4 v3 => ?_)
    refine sv_iald d_M_read_17 sa_105 ?_
    refine sv_if_ne 23 d_M_read_18 rfl ?_ ?_
    · refine sv_iload_n d_M_read_23 rfl ?_
      refine sv_iload_n d_M_read_24 rfl ?_
      refine sv_callSi (d := d + 6) (as := [.int a1, .int a2]) d_M_read_25 (ws_M_231 mc_157)  rfl (Nat.le_of_ble_eq_true rfl) rfl (c_M_at (d + 6) a1 a2 v3 ) (fun x6 v5 => ?_)
      refine sv_istore_n (ls' := [some (.ref 75), some (.int a1), some (.int a2), some (.int x6), none, none, none]) d_M_read_28 (by decide) rfl ?_
      refine sv_aload_n d_M_read_29 rfl ?_
      refine sv_iload_n d_M_read_30 rfl ?_
      refine sv_callVi (d := d + 6) (as := [.int x6]) d_M_read_31 (wv_M_202 mc_157) so_75 ⟨_, rfl, rfl⟩ rfl (Nat.le_of_ble_eq_true rfl) rfl (c_M_room (d + 6) x6 v5 ) (fun x8 v7 => ?_)
      refine sv_if_ne 41 d_M_read_34 rfl ?_ ?_
      · refine sv_iconst (x := (0 : Int32)) d_M_read_41 (by decide) ?_
        refine sv_kill (ls' := [some (.ref 75), none, none, some (.int x6), none, none, none]) ⟨rfl, rfl, trivial⟩ ?_
        exact c_M_read_b42 d x6 (0 : Int32) v7 
      · refine sv_iconst (x := (1 : Int32)) d_M_read_37 (by decide) ?_
        refine sv_goto 42 d_M_read_38 rfl ?_
        refine sv_kill (ls' := [some (.ref 75), none, none, some (.int x6), none, none, none]) ⟨rfl, rfl, trivial⟩ ?_
        exact c_M_read_b42 d x6 (1 : Int32) v7 
    · refine sv_iconst (x := (-1 : Int32)) d_M_read_21 (by decide) ?_
      exact sv_iret rfl d_M_read_22
def f_M_closes (a1 : Int32) (v : sv_T) : Option (sv_T) :=
  sv_ck a1 4 <| sv_ls (sv_up v 95 a1.toNatClampNeg (0 : Int32)) fun v1 =>
  sv_bv (f_M_fresh a1 v1) fun v2 =>
  some v2
set_option maxHeartbeats 4000000 in
set_option maxRecDepth 100000 in
theorem c_M_closes (d : Nat) (a1 : Int32) (v : sv_T)  : sv_Cl (d + 1) 159 [.ref 75, .int a1] v (f_M_closes a1 v) sv_Zv := by
  refine sv_spec (ls0 := [some (.ref 75), some (.int a1)]) mp_159 (Nat.le_of_ble_eq_true rfl) rfl ?_
  unfold f_M_closes
  refine sv_aload_n d_M_closes_0 rfl ?_
  refine sv_getr d_M_closes_1 (gf_M_68 mc_159) so_75 sm_75_20 ?_
  refine sv_iload_n d_M_closes_4 rfl ?_
  refine sv_iconst (x := (0 : Int32)) d_M_closes_5 (by decide) ?_
  refine sv_iast d_M_closes_6 sa_95 (fun v1 => ?_)
  refine sv_aload_n d_M_closes_7 rfl ?_
  refine sv_iload_n d_M_closes_8 rfl ?_
  refine sv_callVv (d := d + 0) (as := [.int a1]) d_M_closes_9 (wv_M_212 mc_159) so_75 ⟨_, rfl, rfl⟩ rfl (Nat.le_of_ble_eq_true rfl) rfl (c_M_fresh (d + 0) a1 v1 ) (fun v2 => ?_)
  exact sv_vret rfl d_M_closes_12
def f_M_close_b36 (l3 : Int32) (v : sv_T) : Option (Int32 × sv_T) :=
  sv_bv (f_M_closes l3 v) fun v5 =>
  some ((1 : Int32), v5)
def f_M_close_b64 (l3 : Int32) (v : sv_T) : Option (Int32 × sv_T) :=
  sv_ck l3 4 <|
  if (v 103 l3.toNatClampNeg) = 0 then
  sv_ck l3 4 <| sv_ls (sv_up v 103 l3.toNatClampNeg (1 : Int32)) fun v6 =>
  sv_bv (f_M_push l3 v6) fun v7 =>
  some ((1 : Int32), v7)
  else
  some ((0 : Int32), v)
def f_M_close (a1 : Int32) (a2 : Int32) (v : sv_T) : Option (Int32 × sv_T) :=
  sv_bi (f_M_isSocket a1 a2 v) fun x2 v1 =>
  if x2 = 0 then
  some ((0 : Int32), v1)
  else
  sv_bi (f_M_at a1 a2 v1) fun x4 v3 =>
  sv_ck x4 4 <|
  if (v3 95 x4.toNatClampNeg) = (1 : Int32) then
  f_M_close_b36 x4 v3
  else
  sv_ck x4 4 <|
  if (v3 95 x4.toNatClampNeg) = (2 : Int32) then
  f_M_close_b36 x4 v3
  else
  sv_ck x4 4 <|
  if (v3 95 x4.toNatClampNeg) = (4 : Int32) then
  f_M_close_b64 x4 v3
  else
  sv_ck x4 4 <|
  if (v3 95 x4.toNatClampNeg) = (7 : Int32) then
  f_M_close_b64 x4 v3
  else
  some ((0 : Int32), v3)
set_option maxHeartbeats 4000000 in
set_option maxRecDepth 100000 in
theorem c_M_close_b36 (d : Nat) (l3 : Int32) (v : sv_T)  : sv_Ref (d + 8) 158 36 [some (.ref 75), none, none, some (.int l3)] [] v (f_M_close_b36 l3 v) (sv_Zi) := by
  unfold f_M_close_b36
  refine sv_aload_n d_M_close_36 rfl ?_
  refine sv_iload_n d_M_close_37 rfl ?_
  refine sv_callVv (d := d + 7) (as := [.int l3]) d_M_close_38 (wv_M_228 mc_158) so_75 ⟨_, rfl, rfl⟩ rfl (Nat.le_of_ble_eq_true rfl) rfl (c_M_closes (d + 6) l3 v ) (fun v5 => ?_)
  refine sv_iconst (x := (1 : Int32)) d_M_close_41 (by decide) ?_
  exact sv_zretc rfl (by decide) d_M_close_42
set_option maxHeartbeats 4000000 in
set_option maxRecDepth 100000 in
theorem c_M_close_b64 (d : Nat) (l3 : Int32) (v : sv_T)  : sv_Ref (d + 8) 158 64 [some (.ref 75), none, none, some (.int l3)] [] v (f_M_close_b64 l3 v) (sv_Zi) := by
  unfold f_M_close_b64
  refine sv_aload_n d_M_close_64 rfl ?_
  refine sv_getr d_M_close_65 (gf_M_92 mc_158) so_75 sm_75_28 ?_
  refine sv_iload_n d_M_close_68 rfl ?_
  refine sv_zald d_M_close_69 sa_103 ?_
  refine sv_if_eq 75 d_M_close_70 rfl ?_ ?_
  · refine sv_aload_n d_M_close_75 rfl ?_
    refine sv_getr d_M_close_76 (gf_M_92 mc_158) so_75 sm_75_28 ?_
    refine sv_iload_n d_M_close_79 rfl ?_
    refine sv_iconst (x := (1 : Int32)) d_M_close_80 (by decide) ?_
    refine sv_zast (y := (1 : Int32)) d_M_close_81 sa_103 (by decide) (fun v6 => ?_)
    refine sv_aload_n d_M_close_82 rfl ?_
    refine sv_iload_n d_M_close_83 rfl ?_
    refine sv_callVv (d := d + 7) (as := [.int l3]) d_M_close_84 (wv_M_267 mc_158) so_75 ⟨_, rfl, rfl⟩ rfl (Nat.le_of_ble_eq_true rfl) rfl (c_M_push (d + 0) l3 v6 ) (fun v7 => ?_)
    refine sv_iconst (x := (1 : Int32)) d_M_close_87 (by decide) ?_
    exact sv_zretc rfl (by decide) d_M_close_88
  · refine sv_iconst (x := (0 : Int32)) d_M_close_73 (by decide) ?_
    exact sv_zretc rfl (by decide) d_M_close_74
set_option maxHeartbeats 4000000 in
set_option maxRecDepth 100000 in
theorem c_M_close (d : Nat) (a1 : Int32) (a2 : Int32) (v : sv_T)  : sv_Cl (d + 8) 158 [.ref 75, .int a1, .int a2] v (f_M_close a1 a2 v) sv_Zi := by
  refine sv_spec (ls0 := [some (.ref 75), some (.int a1), some (.int a2), none]) mp_158 (Nat.le_of_ble_eq_true rfl) rfl ?_
  unfold f_M_close
  refine sv_iload_n d_M_close_0 rfl ?_
  refine sv_iload_n d_M_close_1 rfl ?_
  refine sv_callSi (d := d + 7) (as := [.int a1, .int a2]) d_M_close_2 (ws_M_282 mc_158)  rfl (Nat.le_of_ble_eq_true rfl) rfl (c_M_isSocket (d + 6) a1 a2 v ) (fun x2 v1 => ?_)
  refine sv_if_ne 10 d_M_close_5 rfl ?_ ?_
  · refine sv_iload_n d_M_close_10 rfl ?_
    refine sv_iload_n d_M_close_11 rfl ?_
    refine sv_callSi (d := d + 7) (as := [.int a1, .int a2]) d_M_close_12 (ws_M_231 mc_158)  rfl (Nat.le_of_ble_eq_true rfl) rfl (c_M_at (d + 7) a1 a2 v1 ) (fun x4 v3 => ?_)
    refine sv_istore_n (ls' := [some (.ref 75), some (.int a1), some (.int a2), some (.int x4)]) d_M_close_15 (by decide) rfl ?_
    refine sv_aload_n d_M_close_16 rfl ?_
    refine sv_getr d_M_close_17 (gf_M_68 mc_158) so_75 sm_75_20 ?_
    refine sv_iload_n d_M_close_20 rfl ?_
    refine sv_iald d_M_close_21 sa_95 ?_
    refine sv_iconst (x := (1 : Int32)) d_M_close_22 (by decide) ?_
    refine sv_icmp_eq 36 d_M_close_23 rfl ?_ ?_
    · refine sv_kill (ls' := [some (.ref 75), none, none, some (.int x4)]) ⟨rfl, rfl, trivial⟩ ?_
      exact c_M_close_b36 d x4 v3 
    · refine sv_aload_n d_M_close_26 rfl ?_
      refine sv_getr d_M_close_27 (gf_M_68 mc_158) so_75 sm_75_20 ?_
      refine sv_iload_n d_M_close_30 rfl ?_
      refine sv_iald d_M_close_31 sa_95 ?_
      refine sv_iconst (x := (2 : Int32)) d_M_close_32 (by decide) ?_
      refine sv_icmp_ne 43 d_M_close_33 rfl ?_ ?_
      · refine sv_aload_n d_M_close_43 rfl ?_
        refine sv_getr d_M_close_44 (gf_M_68 mc_158) so_75 sm_75_20 ?_
        refine sv_iload_n d_M_close_47 rfl ?_
        refine sv_iald d_M_close_48 sa_95 ?_
        refine sv_iconst (x := (4 : Int32)) d_M_close_49 (by decide) ?_
        refine sv_icmp_eq 64 d_M_close_50 rfl ?_ ?_
        · refine sv_kill (ls' := [some (.ref 75), none, none, some (.int x4)]) ⟨rfl, rfl, trivial⟩ ?_
          exact c_M_close_b64 d x4 v3 
        · refine sv_aload_n d_M_close_53 rfl ?_
          refine sv_getr d_M_close_54 (gf_M_68 mc_158) so_75 sm_75_20 ?_
          refine sv_iload_n d_M_close_57 rfl ?_
          refine sv_iald d_M_close_58 sa_95 ?_
          refine sv_bipush (x := (7 : Int32)) d_M_close_59 (by decide) ?_
          refine sv_icmp_ne 73 d_M_close_61 rfl ?_ ?_
          · refine sv_iconst (x := (0 : Int32)) d_M_close_73 (by decide) ?_
            exact sv_zretc rfl (by decide) d_M_close_74
          · refine sv_kill (ls' := [some (.ref 75), none, none, some (.int x4)]) ⟨rfl, rfl, trivial⟩ ?_
            exact c_M_close_b64 d x4 v3 
      · refine sv_kill (ls' := [some (.ref 75), none, none, some (.int x4)]) ⟨rfl, rfl, trivial⟩ ?_
        exact c_M_close_b36 d x4 v3 
  · refine sv_iconst (x := (0 : Int32)) d_M_close_8 (by decide) ?_
    exact sv_zretc rfl (by decide) d_M_close_9
def f_M_abort_b72 (l3 : Int32) (v : sv_T) : Option (Int32 × sv_T) :=
  sv_bv (f_M_closes l3 v) fun v7 =>
  some ((1 : Int32), v7)
def f_M_abort (a1 : Int32) (a2 : Int32) (v : sv_T) : Option (Int32 × sv_T) :=
  sv_bi (f_M_isSocket a1 a2 v) fun x2 v1 =>
  if x2 = 0 then
  some ((0 : Int32), v1)
  else
  sv_bi (f_M_at a1 a2 v1) fun x4 v3 =>
  sv_ck x4 4 <|
  if (v3 95 x4.toNatClampNeg) = 0 then
  some ((0 : Int32), v3)
  else
  sv_bi (f_M_at a1 a2 v3) fun x6 v5 =>
  sv_ck x6 4 <|
  if (v5 95 x6.toNatClampNeg) = (1 : Int32) then
  f_M_abort_b72 x6 v5
  else
  sv_ck x6 4 <|
  if (v5 95 x6.toNatClampNeg) = (2 : Int32) then
  f_M_abort_b72 x6 v5
  else
  sv_ck x6 4 <|
  if (v5 95 x6.toNatClampNeg) = (10 : Int32) then
  f_M_abort_b72 x6 v5
  else
  sv_ck x6 4 <|
  sv_bv (f_M_go x6 (4 : Int32) (v5 98 x6.toNatClampNeg) v5) fun v8 =>
  f_M_abort_b72 x6 v8
set_option maxHeartbeats 4000000 in
set_option maxRecDepth 100000 in
theorem c_M_abort_b72 (d : Nat) (l3 : Int32) (v : sv_T)  : sv_Ref (d + 7) 160 72 [some (.ref 75), none, none, some (.int l3)] [] v (f_M_abort_b72 l3 v) (sv_Zi) := by
  unfold f_M_abort_b72
  refine sv_aload_n d_M_abort_72 rfl ?_
  refine sv_iload_n d_M_abort_73 rfl ?_
  refine sv_callVv (d := d + 6) (as := [.int l3]) d_M_abort_74 (wv_M_228 mc_160) so_75 ⟨_, rfl, rfl⟩ rfl (Nat.le_of_ble_eq_true rfl) rfl (c_M_closes (d + 5) l3 v ) (fun v7 => ?_)
  refine sv_iconst (x := (1 : Int32)) d_M_abort_77 (by decide) ?_
  exact sv_zretc rfl (by decide) d_M_abort_78
set_option maxHeartbeats 4000000 in
set_option maxRecDepth 100000 in
theorem c_M_abort (d : Nat) (a1 : Int32) (a2 : Int32) (v : sv_T)  : sv_Cl (d + 7) 160 [.ref 75, .int a1, .int a2] v (f_M_abort a1 a2 v) sv_Zi := by
  refine sv_spec (ls0 := [some (.ref 75), some (.int a1), some (.int a2), none]) mp_160 (Nat.le_of_ble_eq_true rfl) rfl ?_
  unfold f_M_abort
  refine sv_iload_n d_M_abort_0 rfl ?_
  refine sv_iload_n d_M_abort_1 rfl ?_
  refine sv_callSi (d := d + 6) (as := [.int a1, .int a2]) d_M_abort_2 (ws_M_282 mc_160)  rfl (Nat.le_of_ble_eq_true rfl) rfl (c_M_isSocket (d + 5) a1 a2 v ) (fun x2 v1 => ?_)
  refine sv_if_eq 21 d_M_abort_5 rfl ?_ ?_
  · refine sv_iconst (x := (0 : Int32)) d_M_abort_21 (by decide) ?_
    exact sv_zretc rfl (by decide) d_M_abort_22
  · refine sv_aload_n d_M_abort_8 rfl ?_
    refine sv_getr d_M_abort_9 (gf_M_68 mc_160) so_75 sm_75_20 ?_
    refine sv_iload_n d_M_abort_12 rfl ?_
    refine sv_iload_n d_M_abort_13 rfl ?_
    refine sv_callSi (d := d + 6) (as := [.int a1, .int a2]) d_M_abort_14 (ws_M_231 mc_160)  rfl (Nat.le_of_ble_eq_true rfl) rfl (c_M_at (d + 6) a1 a2 v1 ) (fun x4 v3 => ?_)
    refine sv_iald d_M_abort_17 sa_95 ?_
    refine sv_if_ne 23 d_M_abort_18 rfl ?_ ?_
    · refine sv_iload_n d_M_abort_23 rfl ?_
      refine sv_iload_n d_M_abort_24 rfl ?_
      refine sv_callSi (d := d + 6) (as := [.int a1, .int a2]) d_M_abort_25 (ws_M_231 mc_160)  rfl (Nat.le_of_ble_eq_true rfl) rfl (c_M_at (d + 6) a1 a2 v3 ) (fun x6 v5 => ?_)
      refine sv_istore_n (ls' := [some (.ref 75), some (.int a1), some (.int a2), some (.int x6)]) d_M_abort_28 (by decide) rfl ?_
      refine sv_aload_n d_M_abort_29 rfl ?_
      refine sv_getr d_M_abort_30 (gf_M_68 mc_160) so_75 sm_75_20 ?_
      refine sv_iload_n d_M_abort_33 rfl ?_
      refine sv_iald d_M_abort_34 sa_95 ?_
      refine sv_iconst (x := (1 : Int32)) d_M_abort_35 (by decide) ?_
      refine sv_icmp_eq 72 d_M_abort_36 rfl ?_ ?_
      · refine sv_kill (ls' := [some (.ref 75), none, none, some (.int x6)]) ⟨rfl, rfl, trivial⟩ ?_
        exact c_M_abort_b72 d x6 v5 
      · refine sv_aload_n d_M_abort_39 rfl ?_
        refine sv_getr d_M_abort_40 (gf_M_68 mc_160) so_75 sm_75_20 ?_
        refine sv_iload_n d_M_abort_43 rfl ?_
        refine sv_iald d_M_abort_44 sa_95 ?_
        refine sv_iconst (x := (2 : Int32)) d_M_abort_45 (by decide) ?_
        refine sv_icmp_eq 72 d_M_abort_46 rfl ?_ ?_
        · refine sv_kill (ls' := [some (.ref 75), none, none, some (.int x6)]) ⟨rfl, rfl, trivial⟩ ?_
          exact c_M_abort_b72 d x6 v5 
        · refine sv_aload_n d_M_abort_49 rfl ?_
          refine sv_getr d_M_abort_50 (gf_M_68 mc_160) so_75 sm_75_20 ?_
          refine sv_iload_n d_M_abort_53 rfl ?_
          refine sv_iald d_M_abort_54 sa_95 ?_
          refine sv_bipush (x := (10 : Int32)) d_M_abort_55 (by decide) ?_
          refine sv_icmp_eq 72 d_M_abort_57 rfl ?_ ?_
          · refine sv_kill (ls' := [some (.ref 75), none, none, some (.int x6)]) ⟨rfl, rfl, trivial⟩ ?_
            exact c_M_abort_b72 d x6 v5 
          · refine sv_aload_n d_M_abort_60 rfl ?_
            refine sv_iload_n d_M_abort_61 rfl ?_
            refine sv_iconst (x := (4 : Int32)) d_M_abort_62 (by decide) ?_
            refine sv_aload_n d_M_abort_63 rfl ?_
            refine sv_getr d_M_abort_64 (gf_M_77 mc_160) so_75 sm_75_23 ?_
            refine sv_iload_n d_M_abort_67 rfl ?_
            refine sv_iald d_M_abort_68 sa_98 ?_
            refine sv_callVv (d := d + 6) (as := [.int x6, .int (4 : Int32), .int (v5 98 x6.toNatClampNeg)]) d_M_abort_69 (wv_M_225 mc_160) so_75 ⟨_, rfl, rfl⟩ rfl (Nat.le_of_ble_eq_true rfl) rfl (c_M_go (d + 0) x6 (4 : Int32) (v5 98 x6.toNatClampNeg) v5 ) (fun v8 => ?_)
            refine sv_kill (ls' := [some (.ref 75), none, none, some (.int x6)]) ⟨rfl, rfl, trivial⟩ ?_
            exact c_M_abort_b72 d x6 v8 
    · refine sv_iconst (x := (0 : Int32)) d_M_abort_21 (by decide) ?_
      exact sv_zretc rfl (by decide) d_M_abort_22
def f_M_any (a1 : Int32) (v : sv_T) : Option (Int32 × sv_T) :=
  sv_bi (f_M_isHost a1 v) fun x2 v1 =>
  if x2 = 0 then
  some ((0 : Int32), v1)
  else
  sv_ck a1 2 <|
  if 0 < (v1 76 a1.toNatClampNeg) then
  some ((1 : Int32), v1)
  else
  some ((0 : Int32), v1)
set_option maxHeartbeats 4000000 in
set_option maxRecDepth 100000 in
theorem c_M_any (d : Nat) (a1 : Int32) (v : sv_T)  : sv_Cl (d + 1) 162 [.ref 75, .int a1] v (f_M_any a1 v) sv_Zi := by
  refine sv_spec (ls0 := [some (.ref 75), some (.int a1)]) mp_162 (Nat.le_of_ble_eq_true rfl) rfl ?_
  unfold f_M_any
  refine sv_iload_n d_M_any_0 rfl ?_
  refine sv_callSi (d := d + 0) (as := [.int a1]) d_M_any_1 (ws_M_140 mc_162)  rfl (Nat.le_of_ble_eq_true rfl) rfl (c_M_isHost (d + 0) a1 v ) (fun x2 v1 => ?_)
  refine sv_if_eq 20 d_M_any_4 rfl ?_ ?_
  · refine sv_iconst (x := (0 : Int32)) d_M_any_20 (by decide) ?_
    exact sv_zretc rfl (by decide) d_M_any_21
  · refine sv_aload_n d_M_any_7 rfl ?_
    refine sv_getr d_M_any_8 (gf_M_7 mc_162) so_75 sm_75_1 ?_
    refine sv_iload_n d_M_any_11 rfl ?_
    refine sv_iald d_M_any_12 sa_76 ?_
    refine sv_if_le 20 d_M_any_13 rfl ?_ ?_
    · refine sv_iconst (x := (0 : Int32)) d_M_any_20 (by decide) ?_
      exact sv_zretc rfl (by decide) d_M_any_21
    · refine sv_iconst (x := (1 : Int32)) d_M_any_16 (by decide) ?_
      refine sv_goto 21 d_M_any_17 rfl ?_
      exact sv_zretc rfl (by decide) d_M_any_21
def f_M_land_l46 (l1 : Int32) (l2 : Int32) (l3 : Int32) (v : sv_T) : Option ((Int32 × sv_T) ⊕ (sv_T)) :=
  if l3 < (40 : Int32) then
  sv_ck ((((40 : Int32) * l2) + (40 : Int32)) + l3) 1280 <|
  sv_ck (((40 : Int32) * l2) + l3) 1280 <| sv_ls (sv_up v 78 (((40 : Int32) * l2) + l3).toNatClampNeg (v 78 ((((40 : Int32) * l2) + (40 : Int32)) + l3).toNatClampNeg)) fun v4 =>
  sv_le (l3 + (1 : Int32)) fun x5 =>
  some (.inl (x5, v4))
  else
  some (.inr v)
def f_M_land_x83 (l1 : Int32) (l2 : Int32) (v : sv_T) : Option ((Int32 × sv_T) ⊕ (sv_T)) :=
  sv_le (l2 + (1 : Int32)) fun x6 =>
  some (.inl (x6, v))
def f_M_land_l15 (l1 : Int32) (l2 : Int32) (v : sv_T) : Option ((Int32 × sv_T) ⊕ (sv_T)) :=
  sv_ck l1 2 <|
  if l2 < (((16 : Int32) * l1) + (v 76 l1.toNatClampNeg)) then
  sv_ck (l2 + (1 : Int32)) 32 <|
  sv_ck l2 32 <| sv_ls (sv_up v 77 l2.toNatClampNeg (v 77 (l2 + (1 : Int32)).toNatClampNeg)) fun v3 =>
  Option.bind (sv_loop (fun (s : Int32 × sv_T) => f_M_land_l46 l1 l2 s.1 (s.2)) 100000 ((0 : Int32), v3)) (fun (s : sv_T) => f_M_land_x83 l1 l2 s)
  else
  some (.inr v)
def f_M_land_x89  (v : sv_T) : Option (sv_T) :=
  some v
def f_M_land (a1 : Int32) (v : sv_T) : Option (sv_T) :=
  sv_ck a1 2 <|
  sv_ck a1 2 <| sv_ls (sv_up v 76 a1.toNatClampNeg ((v 76 a1.toNatClampNeg) - (1 : Int32))) fun v1 =>
  sv_le (((16 : Int32) * a1)) fun x2 =>
  Option.bind (sv_loop (fun (s : Int32 × sv_T) => f_M_land_l15 a1 s.1 (s.2)) 100000 (x2, v1)) (fun (s : sv_T) => f_M_land_x89  s)
set_option maxHeartbeats 4000000 in
set_option maxRecDepth 100000 in
theorem c_M_land_l46 (d : Nat) (l1 : Int32) (l2 : Int32) (l3 : Int32) (v : sv_T)  : sv_Ref (d + 0) 163 46 [some (.ref 75), some (.int l1), some (.int l2), some (.int l3)] [] v (f_M_land_l46 l1 l2 l3 v) (sv_Zl (d + 0) 163 46 (fun (s : Int32 × sv_T) => [some (.ref 75), some (.int l1), some (.int l2), some (.int s.1)]) (fun (s : Int32 × sv_T) => s.2) (sv_Zt (d + 0) 163 83 (fun (s : sv_T) => [some (.ref 75), some (.int l1), some (.int l2), none]) (fun (s : sv_T) => s))) := by
  unfold f_M_land_l46
  refine sv_iload_n d_M_land_46 rfl ?_
  refine sv_bipush (x := (40 : Int32)) d_M_land_47 (by decide) ?_
  refine sv_icmp_ge 83 d_M_land_49 rfl ?_ ?_
  · exact sv_leave v rfl ⟨rfl, rfl, rfl, trivial⟩ rfl
  · refine sv_aload_n d_M_land_52 rfl ?_
    refine sv_getr d_M_land_53 (gf_M_16 mc_163) so_75 sm_75_3 ?_
    refine sv_bipush (x := (40 : Int32)) d_M_land_56 (by decide) ?_
    refine sv_iload_n d_M_land_58 rfl ?_
    refine sv_imul d_M_land_59 ?_
    refine sv_iload_n d_M_land_60 rfl ?_
    refine sv_iadd d_M_land_61 ?_
    refine sv_aload_n d_M_land_62 rfl ?_
    refine sv_getr d_M_land_63 (gf_M_16 mc_163) so_75 sm_75_3 ?_
    refine sv_bipush (x := (40 : Int32)) d_M_land_66 (by decide) ?_
    refine sv_iload_n d_M_land_68 rfl ?_
    refine sv_imul d_M_land_69 ?_
    refine sv_bipush (x := (40 : Int32)) d_M_land_70 (by decide) ?_
    refine sv_iadd d_M_land_72 ?_
    refine sv_iload_n d_M_land_73 rfl ?_
    refine sv_iadd d_M_land_74 ?_
    refine sv_iald d_M_land_75 sa_78 ?_
    refine sv_iast d_M_land_76 sa_78 (fun v4 => ?_)
    refine sv_iinc (ls' := fun x5 => [some (.ref 75), some (.int l1), some (.int l2), some (.int x5)]) (y := (1 : Int32)) d_M_land_77 rfl (by decide) (fun _ => rfl) (fun x5 => ?_)
    refine sv_goto 46 d_M_land_80 rfl ?_
    exact sv_next (x5, v4) ⟨rfl, rfl, rfl, rfl, trivial⟩ rfl
set_option maxHeartbeats 4000000 in
set_option maxRecDepth 100000 in
theorem c_M_land_x83 (d : Nat) (l1 : Int32) (l2 : Int32) (v : sv_T)  : sv_Ref (d + 0) 163 83 [some (.ref 75), some (.int l1), some (.int l2), none] [] v (f_M_land_x83 l1 l2 v) (sv_Zl (d + 0) 163 15 (fun (s : Int32 × sv_T) => [some (.ref 75), some (.int l1), some (.int s.1), none]) (fun (s : Int32 × sv_T) => s.2) (sv_Zt (d + 0) 163 89 (fun (s : sv_T) => [none, none, none, none]) (fun (s : sv_T) => s))) := by
  unfold f_M_land_x83
  refine sv_iinc (ls' := fun x6 => [some (.ref 75), some (.int l1), some (.int x6), none]) (y := (1 : Int32)) d_M_land_83 rfl (by decide) (fun _ => rfl) (fun x6 => ?_)
  refine sv_goto 15 d_M_land_86 rfl ?_
  exact sv_next (x6, v) ⟨rfl, rfl, rfl, trivial⟩ rfl
set_option maxHeartbeats 4000000 in
set_option maxRecDepth 100000 in
theorem c_M_land_l15 (d : Nat) (l1 : Int32) (l2 : Int32) (v : sv_T)  : sv_Ref (d + 0) 163 15 [some (.ref 75), some (.int l1), some (.int l2), none] [] v (f_M_land_l15 l1 l2 v) (sv_Zl (d + 0) 163 15 (fun (s : Int32 × sv_T) => [some (.ref 75), some (.int l1), some (.int s.1), none]) (fun (s : Int32 × sv_T) => s.2) (sv_Zt (d + 0) 163 89 (fun (s : sv_T) => [none, none, none, none]) (fun (s : sv_T) => s))) := by
  unfold f_M_land_l15
  refine sv_iload_n d_M_land_15 rfl ?_
  refine sv_bipush (x := (16 : Int32)) d_M_land_16 (by decide) ?_
  refine sv_iload_n d_M_land_18 rfl ?_
  refine sv_imul d_M_land_19 ?_
  refine sv_aload_n d_M_land_20 rfl ?_
  refine sv_getr d_M_land_21 (gf_M_7 mc_163) so_75 sm_75_1 ?_
  refine sv_iload_n d_M_land_24 rfl ?_
  refine sv_iald d_M_land_25 sa_76 ?_
  refine sv_iadd d_M_land_26 ?_
  refine sv_icmp_ge 89 d_M_land_27 rfl ?_ ?_
  · exact sv_leave v rfl trivial rfl
  · refine sv_aload_n d_M_land_30 rfl ?_
    refine sv_getr d_M_land_31 (gf_M_13 mc_163) so_75 sm_75_2 ?_
    refine sv_iload_n d_M_land_34 rfl ?_
    refine sv_aload_n d_M_land_35 rfl ?_
    refine sv_getr d_M_land_36 (gf_M_13 mc_163) so_75 sm_75_2 ?_
    refine sv_iload_n d_M_land_39 rfl ?_
    refine sv_iconst (x := (1 : Int32)) d_M_land_40 (by decide) ?_
    refine sv_iadd d_M_land_41 ?_
    refine sv_iald d_M_land_42 sa_77 ?_
    refine sv_iast d_M_land_43 sa_77 (fun v3 => ?_)
    refine sv_iconst (x := (0 : Int32)) d_M_land_44 (by decide) ?_
    refine sv_istore_n (ls' := [some (.ref 75), some (.int l1), some (.int l2), some (.int (0 : Int32))]) d_M_land_45 (by decide) rfl ?_
    exact sv_seq (xt := 83) (L := (fun (s : sv_T) => [some (.ref 75), some (.int l1), some (.int l2), none])) (S := (fun (s : sv_T) => s)) (sv_loopR (L := (fun (s : Int32 × sv_T) => [some (.ref 75), some (.int l1), some (.int l2), some (.int s.1)])) (S := (fun (s : Int32 × sv_T) => s.2)) (fun s => c_M_land_l46 d l1 l2 s.1 (s.2) ) 100000 ((0 : Int32), v3)) (fun s => c_M_land_x83 d l1 l2 s )
set_option maxHeartbeats 4000000 in
set_option maxRecDepth 100000 in
theorem c_M_land_x89 (d : Nat)  (v : sv_T)  : sv_Ref (d + 0) 163 89 [none, none, none, none] [] v (f_M_land_x89  v) (sv_Zv) := by
  unfold f_M_land_x89
  exact sv_vret rfl d_M_land_89
set_option maxHeartbeats 4000000 in
set_option maxRecDepth 100000 in
theorem c_M_land (d : Nat) (a1 : Int32) (v : sv_T)  : sv_Cl (d + 0) 163 [.ref 75, .int a1] v (f_M_land a1 v) sv_Zv := by
  refine sv_spec (ls0 := [some (.ref 75), some (.int a1), none, none]) mp_163 (Nat.le_of_ble_eq_true rfl) rfl ?_
  unfold f_M_land
  refine sv_aload_n d_M_land_0 rfl ?_
  refine sv_getr d_M_land_1 (gf_M_7 mc_163) so_75 sm_75_1 ?_
  refine sv_iload_n d_M_land_4 rfl ?_
  refine sv_dup2 d_M_land_5 ?_
  refine sv_iald d_M_land_6 sa_76 ?_
  refine sv_iconst (x := (1 : Int32)) d_M_land_7 (by decide) ?_
  refine sv_isub d_M_land_8 ?_
  refine sv_iast d_M_land_9 sa_76 (fun v1 => ?_)
  refine sv_bipush (x := (16 : Int32)) d_M_land_10 (by decide) ?_
  refine sv_iload_n d_M_land_12 rfl ?_
  refine sv_imul d_M_land_13 ?_
  refine sv_leR (fun x2 => ?_)
  refine sv_istore_n (ls' := [some (.ref 75), some (.int a1), some (.int x2), none]) d_M_land_14 (by decide) rfl ?_
  exact sv_seq (xt := 89) (L := (fun (s : sv_T) => [none, none, none, none])) (S := (fun (s : sv_T) => s)) (sv_loopR (L := (fun (s : Int32 × sv_T) => [some (.ref 75), some (.int a1), some (.int s.1), none])) (S := (fun (s : Int32 × sv_T) => s.2)) (fun s => c_M_land_l15 d a1 s.1 (s.2) ) 100000 (x2, v1)) (fun s => c_M_land_x89 d  s )
def f_M_asked_l139 (l1 : Int32) (l3 : Int32) (l4 : Int32) (l5 : Int32) (v : sv_T) : Option ((Int32 × sv_T) ⊕ (sv_T)) :=
  sv_ck l4 8 <|
  if l5 < (v 80 l4.toNatClampNeg) then
  sv_ck (((40 : Int32) * l4) + l5) 320 <|
  sv_ck l5 40 <| sv_ls (sv_up v 116 l5.toNatClampNeg (v 81 (((40 : Int32) * l4) + l5).toNatClampNeg)) fun v6 =>
  sv_le (l5 + (1 : Int32)) fun x7 =>
  some (.inl (x7, v6))
  else
  some (.inr v)
def f_M_asked_x177 (l1 : Int32) (l3 : Int32) (l4 : Int32) (v : sv_T) : Option ((Int32 × sv_T) ⊕ (sv_T)) :=
  sv_bv (f_M_goes l1 v) fun v8 =>
  sv_le (l4 + (1 : Int32)) fun x9 =>
  some (.inl (x9, v8))
def f_M_asked_l126 (l1 : Int32) (l3 : Int32) (l4 : Int32) (v : sv_T) : Option ((Int32 × sv_T) ⊕ (sv_T)) :=
  if l4 < (((4 : Int32) * l1) + l3) then
  Option.bind (sv_loop (fun (s : Int32 × sv_T) => f_M_asked_l139 l1 l3 l4 s.1 (s.2)) 100000 ((0 : Int32), v)) (fun (s : sv_T) => f_M_asked_x177 l1 l3 l4 s)
  else
  some (.inr v)
def f_M_asked_x188  (v : sv_T) : Option (sv_T) :=
  some v
def f_M_asked_b107 (l1 : Int32) (v : sv_T) : Option (sv_T) :=
  sv_ck l1 2 <|
  sv_le ((v 79 l1.toNatClampNeg)) fun x3 =>
  sv_ck l1 2 <| sv_ls (sv_up v 79 l1.toNatClampNeg (0 : Int32)) fun v4 =>
  sv_le (((4 : Int32) * l1)) fun x5 =>
  Option.bind (sv_loop (fun (s : Int32 × sv_T) => f_M_asked_l126 l1 x3 s.1 (s.2)) 100000 (x5, v4)) (fun (s : sv_T) => f_M_asked_x188  s)
def f_M_asked_b70 (l1 : Int32) (s0 : Int32) (v : sv_T) : Option (sv_T) :=
  sv_ck l1 2 <| sv_ls (sv_up v 84 l1.toNatClampNeg (v 113 4)) fun v1 =>
  sv_ck l1 2 <| sv_ls (sv_up v1 83 l1.toNatClampNeg (30 : Int32)) fun v2 =>
  if s0 = 0 then
  f_M_asked_b107 l1 v2
  else
  sv_ck l1 2 <|
  sv_bv (f_M_asks l1 (v2 84 l1.toNatClampNeg) (2 : Int32) v2) fun v10 =>
  f_M_asked_b107 l1 v10
def f_M_asked (a1 : Int32) (v : sv_T) : Option (sv_T) :=
  if (v 75 39) = (7 : Int32) then
  if (v 113 3) < (1 : Int32) then
  some v
  else
  if (v 113 3) ≤ (2 : Int32) then
  if (v 113 5) = ((2 : Int32) - a1) then
  if (v 113 6) = ((1 : Int32) + a1) then
  if (v 113 3) = (1 : Int32) then
  f_M_asked_b70 a1 (1 : Int32) v
  else
  f_M_asked_b70 a1 (0 : Int32) v
  else
  some v
  else
  some v
  else
  some v
  else
  some v
set_option maxHeartbeats 4000000 in
set_option maxRecDepth 100000 in
theorem c_M_asked_l139 (d : Nat) (l1 : Int32) (l3 : Int32) (l4 : Int32) (l5 : Int32) (v : sv_T)  : sv_Ref (d + 2) 164 139 [some (.ref 75), some (.int l1), none, some (.int l3), some (.int l4), some (.int l5)] [] v (f_M_asked_l139 l1 l3 l4 l5 v) (sv_Zl (d + 2) 164 139 (fun (s : Int32 × sv_T) => [some (.ref 75), some (.int l1), none, some (.int l3), some (.int l4), some (.int s.1)]) (fun (s : Int32 × sv_T) => s.2) (sv_Zt (d + 2) 164 177 (fun (s : sv_T) => [some (.ref 75), some (.int l1), none, some (.int l3), some (.int l4), none]) (fun (s : sv_T) => s))) := by
  unfold f_M_asked_l139
  refine sv_iload d_M_asked_139 rfl ?_
  refine sv_aload_n d_M_asked_141 rfl ?_
  refine sv_getr d_M_asked_142 (gf_M_22 mc_164) so_75 sm_75_5 ?_
  refine sv_iload d_M_asked_145 rfl ?_
  refine sv_iald d_M_asked_147 sa_80 ?_
  refine sv_icmp_ge 177 d_M_asked_148 rfl ?_ ?_
  · exact sv_leave v rfl ⟨rfl, rfl, rfl, rfl, trivial⟩ rfl
  · refine sv_aload_n d_M_asked_151 rfl ?_
    refine sv_getr d_M_asked_152 (gf_M_131 mc_164) so_75 sm_75_44 ?_
    refine sv_iload d_M_asked_155 rfl ?_
    refine sv_aload_n d_M_asked_157 rfl ?_
    refine sv_getr d_M_asked_158 (gf_M_25 mc_164) so_75 sm_75_6 ?_
    refine sv_bipush (x := (40 : Int32)) d_M_asked_161 (by decide) ?_
    refine sv_iload d_M_asked_163 rfl ?_
    refine sv_imul d_M_asked_165 ?_
    refine sv_iload d_M_asked_166 rfl ?_
    refine sv_iadd d_M_asked_168 ?_
    refine sv_iald d_M_asked_169 sa_81 ?_
    refine sv_iast d_M_asked_170 sa_116 (fun v6 => ?_)
    refine sv_iinc (ls' := fun x7 => [some (.ref 75), some (.int l1), none, some (.int l3), some (.int l4), some (.int x7)]) (y := (1 : Int32)) d_M_asked_171 rfl (by decide) (fun _ => rfl) (fun x7 => ?_)
    refine sv_goto 139 d_M_asked_174 rfl ?_
    exact sv_next (x7, v6) ⟨rfl, rfl, rfl, rfl, rfl, trivial⟩ rfl
set_option maxHeartbeats 4000000 in
set_option maxRecDepth 100000 in
theorem c_M_asked_x177 (d : Nat) (l1 : Int32) (l3 : Int32) (l4 : Int32) (v : sv_T)  : sv_Ref (d + 2) 164 177 [some (.ref 75), some (.int l1), none, some (.int l3), some (.int l4), none] [] v (f_M_asked_x177 l1 l3 l4 v) (sv_Zl (d + 2) 164 126 (fun (s : Int32 × sv_T) => [some (.ref 75), some (.int l1), none, some (.int l3), some (.int s.1), none]) (fun (s : Int32 × sv_T) => s.2) (sv_Zt (d + 2) 164 188 (fun (s : sv_T) => [none, none, none, none, none, none]) (fun (s : sv_T) => s))) := by
  unfold f_M_asked_x177
  refine sv_aload_n d_M_asked_177 rfl ?_
  refine sv_iload_n d_M_asked_178 rfl ?_
  refine sv_callVv (d := d + 1) (as := [.int l1]) d_M_asked_179 (wv_M_151 mc_164) so_75 ⟨_, rfl, rfl⟩ rfl (Nat.le_of_ble_eq_true rfl) rfl (c_M_goes (d + 0) l1 v ) (fun v8 => ?_)
  refine sv_iinc (ls' := fun x9 => [some (.ref 75), some (.int l1), none, some (.int l3), some (.int x9), none]) (y := (1 : Int32)) d_M_asked_182 rfl (by decide) (fun _ => rfl) (fun x9 => ?_)
  refine sv_goto 126 d_M_asked_185 rfl ?_
  exact sv_next (x9, v8) ⟨rfl, rfl, rfl, rfl, trivial⟩ rfl
set_option maxHeartbeats 4000000 in
set_option maxRecDepth 100000 in
theorem c_M_asked_l126 (d : Nat) (l1 : Int32) (l3 : Int32) (l4 : Int32) (v : sv_T)  : sv_Ref (d + 2) 164 126 [some (.ref 75), some (.int l1), none, some (.int l3), some (.int l4), none] [] v (f_M_asked_l126 l1 l3 l4 v) (sv_Zl (d + 2) 164 126 (fun (s : Int32 × sv_T) => [some (.ref 75), some (.int l1), none, some (.int l3), some (.int s.1), none]) (fun (s : Int32 × sv_T) => s.2) (sv_Zt (d + 2) 164 188 (fun (s : sv_T) => [none, none, none, none, none, none]) (fun (s : sv_T) => s))) := by
  unfold f_M_asked_l126
  refine sv_iload d_M_asked_126 rfl ?_
  refine sv_iconst (x := (4 : Int32)) d_M_asked_128 (by decide) ?_
  refine sv_iload_n d_M_asked_129 rfl ?_
  refine sv_imul d_M_asked_130 ?_
  refine sv_iload_n d_M_asked_131 rfl ?_
  refine sv_iadd d_M_asked_132 ?_
  refine sv_icmp_ge 188 d_M_asked_133 rfl ?_ ?_
  · exact sv_leave v rfl trivial rfl
  · refine sv_iconst (x := (0 : Int32)) d_M_asked_136 (by decide) ?_
    refine sv_istore (ls' := [some (.ref 75), some (.int l1), none, some (.int l3), some (.int l4), some (.int (0 : Int32))]) d_M_asked_137 (by decide) rfl ?_
    exact sv_seq (xt := 177) (L := (fun (s : sv_T) => [some (.ref 75), some (.int l1), none, some (.int l3), some (.int l4), none])) (S := (fun (s : sv_T) => s)) (sv_loopR (L := (fun (s : Int32 × sv_T) => [some (.ref 75), some (.int l1), none, some (.int l3), some (.int l4), some (.int s.1)])) (S := (fun (s : Int32 × sv_T) => s.2)) (fun s => c_M_asked_l139 d l1 l3 l4 s.1 (s.2) ) 100000 ((0 : Int32), v)) (fun s => c_M_asked_x177 d l1 l3 l4 s )
set_option maxHeartbeats 4000000 in
set_option maxRecDepth 100000 in
theorem c_M_asked_x188 (d : Nat)  (v : sv_T)  : sv_Ref (d + 2) 164 188 [none, none, none, none, none, none] [] v (f_M_asked_x188  v) (sv_Zv) := by
  unfold f_M_asked_x188
  exact sv_vret rfl d_M_asked_188
set_option maxHeartbeats 4000000 in
set_option maxRecDepth 100000 in
theorem c_M_asked_b107 (d : Nat) (l1 : Int32) (v : sv_T)  : sv_Ref (d + 2) 164 107 [some (.ref 75), some (.int l1), none, none, none, none] [] v (f_M_asked_b107 l1 v) (sv_Zv) := by
  unfold f_M_asked_b107
  refine sv_aload_n d_M_asked_107 rfl ?_
  refine sv_getr d_M_asked_108 (gf_M_19 mc_164) so_75 sm_75_4 ?_
  refine sv_iload_n d_M_asked_111 rfl ?_
  refine sv_iald d_M_asked_112 sa_79 ?_
  refine sv_leR (fun x3 => ?_)
  refine sv_istore_n (ls' := [some (.ref 75), some (.int l1), none, some (.int x3), none, none]) d_M_asked_113 (by decide) rfl ?_
  refine sv_aload_n d_M_asked_114 rfl ?_
  refine sv_getr d_M_asked_115 (gf_M_19 mc_164) so_75 sm_75_4 ?_
  refine sv_iload_n d_M_asked_118 rfl ?_
  refine sv_iconst (x := (0 : Int32)) d_M_asked_119 (by decide) ?_
  refine sv_iast d_M_asked_120 sa_79 (fun v4 => ?_)
  refine sv_iconst (x := (4 : Int32)) d_M_asked_121 (by decide) ?_
  refine sv_iload_n d_M_asked_122 rfl ?_
  refine sv_imul d_M_asked_123 ?_
  refine sv_leR (fun x5 => ?_)
  refine sv_istore (ls' := [some (.ref 75), some (.int l1), none, some (.int x3), some (.int x5), none]) d_M_asked_124 (by decide) rfl ?_
  exact sv_seq (xt := 188) (L := (fun (s : sv_T) => [none, none, none, none, none, none])) (S := (fun (s : sv_T) => s)) (sv_loopR (L := (fun (s : Int32 × sv_T) => [some (.ref 75), some (.int l1), none, some (.int x3), some (.int s.1), none])) (S := (fun (s : Int32 × sv_T) => s.2)) (fun s => c_M_asked_l126 d l1 x3 s.1 (s.2) ) 100000 (x5, v4)) (fun s => c_M_asked_x188 d  s )
set_option maxHeartbeats 4000000 in
set_option maxRecDepth 100000 in
theorem c_M_asked_b70 (d : Nat) (l1 : Int32) (s0 : Int32) (v : sv_T)  : sv_Ref (d + 2) 164 70 [some (.ref 75), some (.int l1), none, none, none, none] [.int s0] v (f_M_asked_b70 l1 s0 v) (sv_Zv) := by
  unfold f_M_asked_b70
  refine sv_istore_n (ls' := [some (.ref 75), some (.int l1), some (.int s0), none, none, none]) d_M_asked_70 (by decide) rfl ?_
  refine sv_aload_n d_M_asked_71 rfl ?_
  refine sv_getr d_M_asked_72 (gf_M_34 mc_164) so_75 sm_75_9 ?_
  refine sv_iload_n d_M_asked_75 rfl ?_
  refine sv_aload_n d_M_asked_76 rfl ?_
  refine sv_getr d_M_asked_77 (gf_M_122 mc_164) so_75 sm_75_38 ?_
  refine sv_iconst (x := (4 : Int32)) d_M_asked_80 (by decide) ?_
  refine sv_ialdc (m := 4) d_M_asked_81 sa_113 (by decide) rfl ?_
  refine sv_iast d_M_asked_82 sa_84 (fun v1 => ?_)
  refine sv_aload_n d_M_asked_83 rfl ?_
  refine sv_getr d_M_asked_84 (gf_M_31 mc_164) so_75 sm_75_8 ?_
  refine sv_iload_n d_M_asked_87 rfl ?_
  refine sv_bipush (x := (30 : Int32)) d_M_asked_88 (by decide) ?_
  refine sv_iast d_M_asked_90 sa_83 (fun v2 => ?_)
  refine sv_iload_n d_M_asked_91 rfl ?_
  refine sv_if_eq 107 d_M_asked_92 rfl ?_ ?_
  · refine sv_kill (ls' := [some (.ref 75), some (.int l1), none, none, none, none]) ⟨rfl, rfl, trivial⟩ ?_
    exact c_M_asked_b107 d l1 v2 
  · refine sv_aload_n d_M_asked_95 rfl ?_
    refine sv_iload_n d_M_asked_96 rfl ?_
    refine sv_aload_n d_M_asked_97 rfl ?_
    refine sv_getr d_M_asked_98 (gf_M_34 mc_164) so_75 sm_75_9 ?_
    refine sv_iload_n d_M_asked_101 rfl ?_
    refine sv_iald d_M_asked_102 sa_84 ?_
    refine sv_iconst (x := (2 : Int32)) d_M_asked_103 (by decide) ?_
    refine sv_callVv (d := d + 1) (as := [.int l1, .int (v2 84 l1.toNatClampNeg), .int (2 : Int32)]) d_M_asked_104 (wv_M_154 mc_164) so_75 ⟨_, rfl, rfl⟩ rfl (Nat.le_of_ble_eq_true rfl) rfl (c_M_asks (d + 0) l1 (v2 84 l1.toNatClampNeg) (2 : Int32) v2 ) (fun v10 => ?_)
    refine sv_kill (ls' := [some (.ref 75), some (.int l1), none, none, none, none]) ⟨rfl, rfl, trivial⟩ ?_
    exact c_M_asked_b107 d l1 v10 
set_option maxHeartbeats 4000000 in
set_option maxRecDepth 100000 in
theorem c_M_asked (d : Nat) (a1 : Int32) (v : sv_T)  : sv_Cl (d + 2) 164 [.ref 75, .int a1] v (f_M_asked a1 v) sv_Zv := by
  refine sv_spec (ls0 := [some (.ref 75), some (.int a1), none, none, none, none]) mp_164 (Nat.le_of_ble_eq_true rfl) rfl ?_
  unfold f_M_asked
  refine sv_aload_n d_M_asked_0 rfl ?_
  refine sv_geti d_M_asked_1 (gf_M_144 mc_164) so_75 (sd_10_39 so_75) ?_
  refine sv_bipush (x := (7 : Int32)) d_M_asked_4 (by decide) ?_
  refine sv_icmp_ne 54 d_M_asked_6 rfl ?_ ?_
  · exact sv_vret rfl d_M_asked_54
  · refine sv_aload_n d_M_asked_9 rfl ?_
    refine sv_getr d_M_asked_10 (gf_M_122 mc_164) so_75 sm_75_38 ?_
    refine sv_iconst (x := (3 : Int32)) d_M_asked_13 (by decide) ?_
    refine sv_ialdc (m := 3) d_M_asked_14 sa_113 (by decide) rfl ?_
    refine sv_iconst (x := (1 : Int32)) d_M_asked_15 (by decide) ?_
    refine sv_icmp_lt 54 d_M_asked_16 rfl ?_ ?_
    · exact sv_vret rfl d_M_asked_54
    · refine sv_aload_n d_M_asked_19 rfl ?_
      refine sv_getr d_M_asked_20 (gf_M_122 mc_164) so_75 sm_75_38 ?_
      refine sv_iconst (x := (3 : Int32)) d_M_asked_23 (by decide) ?_
      refine sv_ialdc (m := 3) d_M_asked_24 sa_113 (by decide) rfl ?_
      refine sv_iconst (x := (2 : Int32)) d_M_asked_25 (by decide) ?_
      refine sv_icmp_gt 54 d_M_asked_26 rfl ?_ ?_
      · exact sv_vret rfl d_M_asked_54
      · refine sv_aload_n d_M_asked_29 rfl ?_
        refine sv_getr d_M_asked_30 (gf_M_122 mc_164) so_75 sm_75_38 ?_
        refine sv_iconst (x := (5 : Int32)) d_M_asked_33 (by decide) ?_
        refine sv_ialdc (m := 5) d_M_asked_34 sa_113 (by decide) rfl ?_
        refine sv_iconst (x := (2 : Int32)) d_M_asked_35 (by decide) ?_
        refine sv_iload_n d_M_asked_36 rfl ?_
        refine sv_isub d_M_asked_37 ?_
        refine sv_icmp_ne 54 d_M_asked_38 rfl ?_ ?_
        · exact sv_vret rfl d_M_asked_54
        · refine sv_aload_n d_M_asked_41 rfl ?_
          refine sv_getr d_M_asked_42 (gf_M_122 mc_164) so_75 sm_75_38 ?_
          refine sv_bipush (x := (6 : Int32)) d_M_asked_45 (by decide) ?_
          refine sv_ialdc (m := 6) d_M_asked_47 sa_113 (by decide) rfl ?_
          refine sv_iconst (x := (1 : Int32)) d_M_asked_48 (by decide) ?_
          refine sv_iload_n d_M_asked_49 rfl ?_
          refine sv_iadd d_M_asked_50 ?_
          refine sv_icmp_eq 55 d_M_asked_51 rfl ?_ ?_
          · refine sv_aload_n d_M_asked_55 rfl ?_
            refine sv_getr d_M_asked_56 (gf_M_122 mc_164) so_75 sm_75_38 ?_
            refine sv_iconst (x := (3 : Int32)) d_M_asked_59 (by decide) ?_
            refine sv_ialdc (m := 3) d_M_asked_60 sa_113 (by decide) rfl ?_
            refine sv_iconst (x := (1 : Int32)) d_M_asked_61 (by decide) ?_
            refine sv_icmp_ne 69 d_M_asked_62 rfl ?_ ?_
            · refine sv_iconst (x := (0 : Int32)) d_M_asked_69 (by decide) ?_
              exact c_M_asked_b70 d a1 (0 : Int32) v 
            · refine sv_iconst (x := (1 : Int32)) d_M_asked_65 (by decide) ?_
              refine sv_goto 70 d_M_asked_66 rfl ?_
              exact c_M_asked_b70 d a1 (1 : Int32) v 
          · exact sv_vret rfl d_M_asked_54
def f_M_echo (a1 : Int32) (v : sv_T) : Option (sv_T) :=
  sv_bv (f_M_copyRow 114 (v 75 41) v) fun v1 =>
  if (v1 75 41) < (5 : Int32) then
  some v1
  else
  if (v1 114 1) = 0 then
  sv_bi (f_M_check  v1) fun x3 v2 =>
  if x3 = 0 then
  if (v2 114 0) = (8 : Int32) then
  sv_bv (f_M_sendEcho a1 (0 : Int32) v2) fun v6 =>
  some v6
  else
  if (v2 114 0) = 0 then
  sv_ck a1 2 <|
  sv_ck a1 2 <| sv_ls (sv_up v2 86 a1.toNatClampNeg ((v2 86 a1.toNatClampNeg) + (1 : Int32))) fun v4 =>
  sv_ck a1 2 <| sv_ls (sv_up v4 87 a1.toNatClampNeg (v4 114 4)) fun v5 =>
  some v5
  else
  some v2
  else
  some v2
  else
  some v1
set_option maxHeartbeats 4000000 in
set_option maxRecDepth 100000 in
theorem c_M_echo (d : Nat) (a1 : Int32) (v : sv_T)  : sv_Cl (d + 6) 167 [.ref 75, .int a1] v (f_M_echo a1 v) sv_Zv := by
  refine sv_spec (ls0 := [some (.ref 75), some (.int a1)]) mp_167 (Nat.le_of_ble_eq_true rfl) rfl ?_
  unfold f_M_echo
  refine sv_aload_n d_M_echo_0 rfl ?_
  refine sv_aload_n d_M_echo_1 rfl ?_
  refine sv_getr d_M_echo_2 (gf_M_125 mc_167) so_75 sm_75_40 ?_
  refine sv_aload_n d_M_echo_5 rfl ?_
  refine sv_geti d_M_echo_6 (gf_M_169 mc_167) so_75 (sd_10_41 so_75) ?_
  refine sv_callVv (d := d + 5) (as := [.ref 114, .int (v 75 41)]) d_M_echo_9 (wv_M_158 mc_167) so_75 ⟨_, rfl, rfl⟩ rfl (Nat.le_of_ble_eq_true rfl) rfl (c_M_copyRow (d + 5) 114 (v 75 41) v (sv_isAl sa_114)) (fun v1 => ?_)
  refine sv_aload_n d_M_echo_12 rfl ?_
  refine sv_geti d_M_echo_13 (gf_M_169 mc_167) so_75 (sd_10_41 so_75) ?_
  refine sv_iconst (x := (5 : Int32)) d_M_echo_16 (by decide) ?_
  refine sv_icmp_lt 36 d_M_echo_17 rfl ?_ ?_
  · exact sv_vret rfl d_M_echo_36
  · refine sv_aload_n d_M_echo_20 rfl ?_
    refine sv_getr d_M_echo_21 (gf_M_125 mc_167) so_75 sm_75_40 ?_
    refine sv_iconst (x := (1 : Int32)) d_M_echo_24 (by decide) ?_
    refine sv_ialdc (m := 1) d_M_echo_25 sa_114 (by decide) rfl ?_
    refine sv_if_ne 36 d_M_echo_26 rfl ?_ ?_
    · exact sv_vret rfl d_M_echo_36
    · refine sv_aload_n d_M_echo_29 rfl ?_
      refine sv_callVi (d := d + 5) (as := []) d_M_echo_30 (wv_M_162 mc_167) so_75 ⟨_, rfl, rfl⟩ rfl (Nat.le_of_ble_eq_true rfl) rfl (c_M_check (d + 5)  v1 ) (fun x3 v2 => ?_)
      refine sv_if_eq 37 d_M_echo_33 rfl ?_ ?_
      · refine sv_aload_n d_M_echo_37 rfl ?_
        refine sv_getr d_M_echo_38 (gf_M_125 mc_167) so_75 sm_75_40 ?_
        refine sv_iconst (x := (0 : Int32)) d_M_echo_41 (by decide) ?_
        refine sv_ialdc (m := 0) d_M_echo_42 sa_114 (by decide) rfl ?_
        refine sv_bipush (x := (8 : Int32)) d_M_echo_43 (by decide) ?_
        refine sv_icmp_ne 57 d_M_echo_45 rfl ?_ ?_
        · refine sv_aload_n d_M_echo_57 rfl ?_
          refine sv_getr d_M_echo_58 (gf_M_125 mc_167) so_75 sm_75_40 ?_
          refine sv_iconst (x := (0 : Int32)) d_M_echo_61 (by decide) ?_
          refine sv_ialdc (m := 0) d_M_echo_62 sa_114 (by decide) rfl ?_
          refine sv_if_ne 88 d_M_echo_63 rfl ?_ ?_
          · exact sv_vret rfl d_M_echo_88
          · refine sv_aload_n d_M_echo_66 rfl ?_
            refine sv_getr d_M_echo_67 (gf_M_40 mc_167) so_75 sm_75_11 ?_
            refine sv_iload_n d_M_echo_70 rfl ?_
            refine sv_dup2 d_M_echo_71 ?_
            refine sv_iald d_M_echo_72 sa_86 ?_
            refine sv_iconst (x := (1 : Int32)) d_M_echo_73 (by decide) ?_
            refine sv_iadd d_M_echo_74 ?_
            refine sv_iast d_M_echo_75 sa_86 (fun v4 => ?_)
            refine sv_aload_n d_M_echo_76 rfl ?_
            refine sv_getr d_M_echo_77 (gf_M_43 mc_167) so_75 sm_75_12 ?_
            refine sv_iload_n d_M_echo_80 rfl ?_
            refine sv_aload_n d_M_echo_81 rfl ?_
            refine sv_getr d_M_echo_82 (gf_M_125 mc_167) so_75 sm_75_40 ?_
            refine sv_iconst (x := (4 : Int32)) d_M_echo_85 (by decide) ?_
            refine sv_ialdc (m := 4) d_M_echo_86 sa_114 (by decide) rfl ?_
            refine sv_iast d_M_echo_87 sa_87 (fun v5 => ?_)
            exact sv_vret rfl d_M_echo_88
        · refine sv_aload_n d_M_echo_48 rfl ?_
          refine sv_iload_n d_M_echo_49 rfl ?_
          refine sv_iconst (x := (0 : Int32)) d_M_echo_50 (by decide) ?_
          refine sv_callVv (d := d + 5) (as := [.int a1, .int (0 : Int32)]) d_M_echo_51 (wv_M_196 mc_167) so_75 ⟨_, rfl, rfl⟩ rfl (Nat.le_of_ble_eq_true rfl) rfl (c_M_sendEcho (d + 0) a1 (0 : Int32) v2 ) (fun v6 => ?_)
          refine sv_goto 88 d_M_echo_54 rfl ?_
          exact sv_vret rfl d_M_echo_88
      · exact sv_vret rfl d_M_echo_36
def f_M_has (a1 : Int32) (v : sv_T) : Option (Int32 × sv_T) :=
  if ((v 75 45) &&& a1) = 0 then
  some ((0 : Int32), v)
  else
  some ((1 : Int32), v)
set_option maxHeartbeats 4000000 in
set_option maxRecDepth 100000 in
theorem c_M_has (d : Nat) (a1 : Int32) (v : sv_T)  : sv_Cl (d + 0) 169 [.ref 75, .int a1] v (f_M_has a1 v) sv_Zi := by
  refine sv_spec (ls0 := [some (.ref 75), some (.int a1)]) mp_169 (Nat.le_of_ble_eq_true rfl) rfl ?_
  unfold f_M_has
  refine sv_aload_n d_M_has_0 rfl ?_
  refine sv_geti d_M_has_1 (gf_M_234 mc_169) so_75 (sd_10_45 so_75) ?_
  refine sv_iload_n d_M_has_4 rfl ?_
  refine sv_iand d_M_has_5 ?_
  refine sv_if_eq 13 d_M_has_6 rfl ?_ ?_
  · refine sv_iconst (x := (0 : Int32)) d_M_has_13 (by decide) ?_
    exact sv_zretc rfl (by decide) d_M_has_14
  · refine sv_iconst (x := (1 : Int32)) d_M_has_9 (by decide) ?_
    refine sv_goto 14 d_M_has_10 rfl ?_
    exact sv_zretc rfl (by decide) d_M_has_14
def f_M_span_b31 (s0 : Int32) (s1 : Int32) (v : sv_T) : Option (Int32 × sv_T) :=
  some ((s1 + s0), v)
def f_M_span_b17 (s0 : Int32) (s1 : Int32) (v : sv_T) : Option (Int32 × sv_T) :=
  sv_bi (f_M_has (1 : Int32) v) fun x4 v3 =>
  if x4 = 0 then
  f_M_span_b31 (0 : Int32) (s1 + s0) v3
  else
  f_M_span_b31 (1 : Int32) (s1 + s0) v3
def f_M_span  (v : sv_T) : Option (Int32 × sv_T) :=
  sv_bi (f_M_has (2 : Int32) v) fun x2 v1 =>
  if x2 = 0 then
  f_M_span_b17 (0 : Int32) (v 75 49) v1
  else
  f_M_span_b17 (1 : Int32) (v 75 49) v1
set_option maxHeartbeats 4000000 in
set_option maxRecDepth 100000 in
theorem c_M_span_b31 (d : Nat) (s0 : Int32) (s1 : Int32) (v : sv_T)  : sv_Ref (d + 1) 170 31 [none] [.int s0, .int s1] v (f_M_span_b31 s0 s1 v) (sv_Zi) := by
  unfold f_M_span_b31
  refine sv_iadd d_M_span_31 ?_
  exact sv_iret rfl d_M_span_32
set_option maxHeartbeats 4000000 in
set_option maxRecDepth 100000 in
theorem c_M_span_b17 (d : Nat) (s0 : Int32) (s1 : Int32) (v : sv_T)  : sv_Ref (d + 1) 170 17 [some (.ref 75)] [.int s0, .int s1] v (f_M_span_b17 s0 s1 v) (sv_Zi) := by
  unfold f_M_span_b17
  refine sv_iadd d_M_span_17 ?_
  refine sv_aload_n d_M_span_18 rfl ?_
  refine sv_iconst (x := (1 : Int32)) d_M_span_19 (by decide) ?_
  refine sv_callVi (d := d + 0) (as := [.int (1 : Int32)]) d_M_span_20 (wv_M_249 mc_170) so_75 ⟨_, rfl, rfl⟩ rfl (Nat.le_of_ble_eq_true rfl) rfl (c_M_has (d + 0) (1 : Int32) v ) (fun x4 v3 => ?_)
  refine sv_if_eq 30 d_M_span_23 rfl ?_ ?_
  · refine sv_iconst (x := (0 : Int32)) d_M_span_30 (by decide) ?_
    refine sv_kill (ls' := [none]) trivial ?_
    exact c_M_span_b31 d (0 : Int32) (s1 + s0) v3 
  · refine sv_iconst (x := (1 : Int32)) d_M_span_26 (by decide) ?_
    refine sv_goto 31 d_M_span_27 rfl ?_
    refine sv_kill (ls' := [none]) trivial ?_
    exact c_M_span_b31 d (1 : Int32) (s1 + s0) v3 
set_option maxHeartbeats 4000000 in
set_option maxRecDepth 100000 in
theorem c_M_span (d : Nat)  (v : sv_T)  : sv_Cl (d + 1) 170 [.ref 75] v (f_M_span  v) sv_Zi := by
  refine sv_spec (ls0 := [some (.ref 75)]) mp_170 (Nat.le_of_ble_eq_true rfl) rfl ?_
  unfold f_M_span
  refine sv_aload_n d_M_span_0 rfl ?_
  refine sv_geti d_M_span_1 (gf_M_246 mc_170) so_75 (sd_10_49 so_75) ?_
  refine sv_aload_n d_M_span_4 rfl ?_
  refine sv_iconst (x := (2 : Int32)) d_M_span_5 (by decide) ?_
  refine sv_callVi (d := d + 0) (as := [.int (2 : Int32)]) d_M_span_6 (wv_M_249 mc_170) so_75 ⟨_, rfl, rfl⟩ rfl (Nat.le_of_ble_eq_true rfl) rfl (c_M_has (d + 0) (2 : Int32) v ) (fun x2 v1 => ?_)
  refine sv_if_eq 16 d_M_span_9 rfl ?_ ?_
  · refine sv_iconst (x := (0 : Int32)) d_M_span_16 (by decide) ?_
    exact c_M_span_b17 d (0 : Int32) (v 75 49) v1 
  · refine sv_iconst (x := (1 : Int32)) d_M_span_12 (by decide) ?_
    refine sv_goto 17 d_M_span_13 rfl ?_
    exact c_M_span_b17 d (1 : Int32) (v 75 49) v1 
def f_M_listens (a1 : Int32) (v : sv_T) : Option (sv_T) :=
  sv_bi (f_M_has (4 : Int32) v) fun x2 v1 =>
  if x2 = 0 then
  sv_bi (f_M_has (16 : Int32) v1) fun x4 v3 =>
  if x4 = 0 then
  sv_bi (f_M_has (2 : Int32) v3) fun x6 v5 =>
  if x6 = 0 then
  some v5
  else
  sv_bv (f_M_begins a1 v5) fun v7 =>
  sv_ck a1 4 <| sv_ls (sv_up v7 99 a1.toNatClampNeg (((v7 75 46) + (1 : Int32)) &&& (65535 : Int32))) fun v8 =>
  sv_ck a1 4 <| sv_ls (sv_up v8 100 a1.toNatClampNeg (v8 75 48)) fun v9 =>
  sv_ck a1 4 <| sv_ls (sv_up v9 95 a1.toNatClampNeg (3 : Int32)) fun v10 =>
  sv_ck a1 4 <|
  sv_bv (f_M_go a1 (18 : Int32) (v10 96 a1.toNatClampNeg) v10) fun v11 =>
  some v11
  else
  sv_bv (f_M_go a1 (4 : Int32) (v3 75 47) v3) fun v12 =>
  some v12
  else
  some v1
set_option maxHeartbeats 4000000 in
set_option maxRecDepth 100000 in
theorem c_M_listens (d : Nat) (a1 : Int32) (v : sv_T)  : sv_Cl (d + 7) 171 [.ref 75, .int a1] v (f_M_listens a1 v) sv_Zv := by
  refine sv_spec (ls0 := [some (.ref 75), some (.int a1)]) mp_171 (Nat.le_of_ble_eq_true rfl) rfl ?_
  unfold f_M_listens
  refine sv_aload_n d_M_listens_0 rfl ?_
  refine sv_iconst (x := (4 : Int32)) d_M_listens_1 (by decide) ?_
  refine sv_callVi (d := d + 6) (as := [.int (4 : Int32)]) d_M_listens_2 (wv_M_249 mc_171) so_75 ⟨_, rfl, rfl⟩ rfl (Nat.le_of_ble_eq_true rfl) rfl (c_M_has (d + 6) (4 : Int32) v ) (fun x2 v1 => ?_)
  refine sv_if_eq 9 d_M_listens_5 rfl ?_ ?_
  · refine sv_aload_n d_M_listens_9 rfl ?_
    refine sv_bipush (x := (16 : Int32)) d_M_listens_10 (by decide) ?_
    refine sv_callVi (d := d + 6) (as := [.int (16 : Int32)]) d_M_listens_12 (wv_M_249 mc_171) so_75 ⟨_, rfl, rfl⟩ rfl (Nat.le_of_ble_eq_true rfl) rfl (c_M_has (d + 6) (16 : Int32) v1 ) (fun x4 v3 => ?_)
    refine sv_if_eq 31 d_M_listens_15 rfl ?_ ?_
    · refine sv_aload_n d_M_listens_31 rfl ?_
      refine sv_iconst (x := (2 : Int32)) d_M_listens_32 (by decide) ?_
      refine sv_callVi (d := d + 6) (as := [.int (2 : Int32)]) d_M_listens_33 (wv_M_249 mc_171) so_75 ⟨_, rfl, rfl⟩ rfl (Nat.le_of_ble_eq_true rfl) rfl (c_M_has (d + 6) (2 : Int32) v3 ) (fun x6 v5 => ?_)
      refine sv_if_eq 89 d_M_listens_36 rfl ?_ ?_
      · exact sv_vret rfl d_M_listens_89
      · refine sv_aload_n d_M_listens_39 rfl ?_
        refine sv_iload_n d_M_listens_40 rfl ?_
        refine sv_callVv (d := d + 6) (as := [.int a1]) d_M_listens_41 (wv_M_264 mc_171) so_75 ⟨_, rfl, rfl⟩ rfl (Nat.le_of_ble_eq_true rfl) rfl (c_M_begins (d + 6) a1 v5 ) (fun v7 => ?_)
        refine sv_aload_n d_M_listens_44 rfl ?_
        refine sv_getr d_M_listens_45 (gf_M_80 mc_171) so_75 sm_75_24 ?_
        refine sv_iload_n d_M_listens_48 rfl ?_
        refine sv_aload_n d_M_listens_49 rfl ?_
        refine sv_geti d_M_listens_50 (gf_M_237 mc_171) so_75 (sd_10_46 so_75) ?_
        refine sv_iconst (x := (1 : Int32)) d_M_listens_53 (by decide) ?_
        refine sv_iadd d_M_listens_54 ?_
        refine sv_ldc d_M_listens_55 tw_1007 ?_
        refine sv_iand d_M_listens_57 ?_
        refine sv_iast d_M_listens_58 sa_99 (fun v8 => ?_)
        refine sv_aload_n d_M_listens_59 rfl ?_
        refine sv_getr d_M_listens_60 (gf_M_83 mc_171) so_75 sm_75_25 ?_
        refine sv_iload_n d_M_listens_63 rfl ?_
        refine sv_aload_n d_M_listens_64 rfl ?_
        refine sv_geti d_M_listens_65 (gf_M_243 mc_171) so_75 (sd_10_48 so_75) ?_
        refine sv_iast d_M_listens_68 sa_100 (fun v9 => ?_)
        refine sv_aload_n d_M_listens_69 rfl ?_
        refine sv_getr d_M_listens_70 (gf_M_68 mc_171) so_75 sm_75_20 ?_
        refine sv_iload_n d_M_listens_73 rfl ?_
        refine sv_iconst (x := (3 : Int32)) d_M_listens_74 (by decide) ?_
        refine sv_iast d_M_listens_75 sa_95 (fun v10 => ?_)
        refine sv_aload_n d_M_listens_76 rfl ?_
        refine sv_iload_n d_M_listens_77 rfl ?_
        refine sv_bipush (x := (18 : Int32)) d_M_listens_78 (by decide) ?_
        refine sv_aload_n d_M_listens_80 rfl ?_
        refine sv_getr d_M_listens_81 (gf_M_71 mc_171) so_75 sm_75_21 ?_
        refine sv_iload_n d_M_listens_84 rfl ?_
        refine sv_iald d_M_listens_85 sa_96 ?_
        refine sv_callVv (d := d + 6) (as := [.int a1, .int (18 : Int32), .int (v10 96 a1.toNatClampNeg)]) d_M_listens_86 (wv_M_225 mc_171) so_75 ⟨_, rfl, rfl⟩ rfl (Nat.le_of_ble_eq_true rfl) rfl (c_M_go (d + 0) a1 (18 : Int32) (v10 96 a1.toNatClampNeg) v10 ) (fun v11 => ?_)
        exact sv_vret rfl d_M_listens_89
    · refine sv_aload_n d_M_listens_18 rfl ?_
      refine sv_iload_n d_M_listens_19 rfl ?_
      refine sv_iconst (x := (4 : Int32)) d_M_listens_20 (by decide) ?_
      refine sv_aload_n d_M_listens_21 rfl ?_
      refine sv_geti d_M_listens_22 (gf_M_240 mc_171) so_75 (sd_10_47 so_75) ?_
      refine sv_callVv (d := d + 6) (as := [.int a1, .int (4 : Int32), .int (v3 75 47)]) d_M_listens_25 (wv_M_225 mc_171) so_75 ⟨_, rfl, rfl⟩ rfl (Nat.le_of_ble_eq_true rfl) rfl (c_M_go (d + 0) a1 (4 : Int32) (v3 75 47) v3 ) (fun v12 => ?_)
      refine sv_goto 89 d_M_listens_28 rfl ?_
      exact sv_vret rfl d_M_listens_89
  · exact sv_vret rfl d_M_listens_8
def f_M_awaits_b43 (l1 : Int32) (v : sv_T) : Option (sv_T) :=
  sv_bi (f_M_has (4 : Int32) v) fun x4 v3 =>
  if x4 = 0 then
  sv_bi (f_M_has (2 : Int32) v3) fun x6 v5 =>
  if x6 = 0 then
  some v5
  else
  sv_ck l1 4 <| sv_ls (sv_up v5 99 l1.toNatClampNeg (((v5 75 46) + (1 : Int32)) &&& (65535 : Int32))) fun v7 =>
  sv_ck l1 4 <| sv_ls (sv_up v7 100 l1.toNatClampNeg (v7 75 48)) fun v8 =>
  sv_bi (f_M_has (16 : Int32) v8) fun x10 v9 =>
  if x10 = 0 then
  sv_ck l1 4 <| sv_ls (sv_up v9 95 l1.toNatClampNeg (3 : Int32)) fun v11 =>
  sv_ck l1 4 <|
  sv_bv (f_M_go l1 (18 : Int32) (v11 96 l1.toNatClampNeg) v11) fun v12 =>
  some v12
  else
  sv_ck l1 4 <|
  sv_ck l1 4 <| sv_ls (sv_up v9 97 l1.toNatClampNeg (v9 98 l1.toNatClampNeg)) fun v13 =>
  sv_ck l1 4 <| sv_ls (sv_up v13 112 l1.toNatClampNeg (0 : Int32)) fun v14 =>
  sv_ck l1 4 <| sv_ls (sv_up v14 110 l1.toNatClampNeg (0 : Int32)) fun v15 =>
  sv_ck l1 4 <| sv_ls (sv_up v15 111 l1.toNatClampNeg (4 : Int32)) fun v16 =>
  sv_ck l1 4 <| sv_ls (sv_up v16 95 l1.toNatClampNeg (4 : Int32)) fun v17 =>
  sv_ck l1 4 <|
  sv_bv (f_M_go l1 (16 : Int32) (v17 98 l1.toNatClampNeg) v17) fun v18 =>
  sv_bv (f_M_push l1 v18) fun v19 =>
  some v19
  else
  sv_bi (f_M_has (16 : Int32) v3) fun x21 v20 =>
  if x21 = 0 then
  some v20
  else
  sv_bv (f_M_closes l1 v20) fun v22 =>
  some v22
def f_M_awaits (a1 : Int32) (v : sv_T) : Option (sv_T) :=
  sv_bi (f_M_has (16 : Int32) v) fun x2 v1 =>
  if x2 = 0 then
  f_M_awaits_b43 a1 v1
  else
  sv_ck a1 4 <|
  if (v1 75 47) = (v1 98 a1.toNatClampNeg) then
  f_M_awaits_b43 a1 v1
  else
  sv_bi (f_M_has (4 : Int32) v1) fun x24 v23 =>
  if x24 = 0 then
  sv_bv (f_M_go a1 (4 : Int32) (v23 75 47) v23) fun v25 =>
  some v25
  else
  some v23
set_option maxHeartbeats 4000000 in
set_option maxRecDepth 100000 in
theorem c_M_awaits_b43 (d : Nat) (l1 : Int32) (v : sv_T)  : sv_Ref (d + 8) 172 43 [some (.ref 75), some (.int l1)] [] v (f_M_awaits_b43 l1 v) (sv_Zv) := by
  unfold f_M_awaits_b43
  refine sv_aload_n d_M_awaits_43 rfl ?_
  refine sv_iconst (x := (4 : Int32)) d_M_awaits_44 (by decide) ?_
  refine sv_callVi (d := d + 7) (as := [.int (4 : Int32)]) d_M_awaits_45 (wv_M_249 mc_172) so_75 ⟨_, rfl, rfl⟩ rfl (Nat.le_of_ble_eq_true rfl) rfl (c_M_has (d + 7) (4 : Int32) v ) (fun x4 v3 => ?_)
  refine sv_if_eq 68 d_M_awaits_48 rfl ?_ ?_
  · refine sv_aload_n d_M_awaits_68 rfl ?_
    refine sv_iconst (x := (2 : Int32)) d_M_awaits_69 (by decide) ?_
    refine sv_callVi (d := d + 7) (as := [.int (2 : Int32)]) d_M_awaits_70 (wv_M_249 mc_172) so_75 ⟨_, rfl, rfl⟩ rfl (Nat.le_of_ble_eq_true rfl) rfl (c_M_has (d + 7) (2 : Int32) v3 ) (fun x6 v5 => ?_)
    refine sv_if_eq 191 d_M_awaits_73 rfl ?_ ?_
    · exact sv_vret rfl d_M_awaits_191
    · refine sv_aload_n d_M_awaits_76 rfl ?_
      refine sv_getr d_M_awaits_77 (gf_M_80 mc_172) so_75 sm_75_24 ?_
      refine sv_iload_n d_M_awaits_80 rfl ?_
      refine sv_aload_n d_M_awaits_81 rfl ?_
      refine sv_geti d_M_awaits_82 (gf_M_237 mc_172) so_75 (sd_10_46 so_75) ?_
      refine sv_iconst (x := (1 : Int32)) d_M_awaits_85 (by decide) ?_
      refine sv_iadd d_M_awaits_86 ?_
      refine sv_ldc d_M_awaits_87 tw_1007 ?_
      refine sv_iand d_M_awaits_89 ?_
      refine sv_iast d_M_awaits_90 sa_99 (fun v7 => ?_)
      refine sv_aload_n d_M_awaits_91 rfl ?_
      refine sv_getr d_M_awaits_92 (gf_M_83 mc_172) so_75 sm_75_25 ?_
      refine sv_iload_n d_M_awaits_95 rfl ?_
      refine sv_aload_n d_M_awaits_96 rfl ?_
      refine sv_geti d_M_awaits_97 (gf_M_243 mc_172) so_75 (sd_10_48 so_75) ?_
      refine sv_iast d_M_awaits_100 sa_100 (fun v8 => ?_)
      refine sv_aload_n d_M_awaits_101 rfl ?_
      refine sv_bipush (x := (16 : Int32)) d_M_awaits_102 (by decide) ?_
      refine sv_callVi (d := d + 7) (as := [.int (16 : Int32)]) d_M_awaits_104 (wv_M_249 mc_172) so_75 ⟨_, rfl, rfl⟩ rfl (Nat.le_of_ble_eq_true rfl) rfl (c_M_has (d + 7) (16 : Int32) v8 ) (fun x10 v9 => ?_)
      refine sv_if_eq 171 d_M_awaits_107 rfl ?_ ?_
      · refine sv_aload_n d_M_awaits_171 rfl ?_
        refine sv_getr d_M_awaits_172 (gf_M_68 mc_172) so_75 sm_75_20 ?_
        refine sv_iload_n d_M_awaits_175 rfl ?_
        refine sv_iconst (x := (3 : Int32)) d_M_awaits_176 (by decide) ?_
        refine sv_iast d_M_awaits_177 sa_95 (fun v11 => ?_)
        refine sv_aload_n d_M_awaits_178 rfl ?_
        refine sv_iload_n d_M_awaits_179 rfl ?_
        refine sv_bipush (x := (18 : Int32)) d_M_awaits_180 (by decide) ?_
        refine sv_aload_n d_M_awaits_182 rfl ?_
        refine sv_getr d_M_awaits_183 (gf_M_71 mc_172) so_75 sm_75_21 ?_
        refine sv_iload_n d_M_awaits_186 rfl ?_
        refine sv_iald d_M_awaits_187 sa_96 ?_
        refine sv_callVv (d := d + 7) (as := [.int l1, .int (18 : Int32), .int (v11 96 l1.toNatClampNeg)]) d_M_awaits_188 (wv_M_225 mc_172) so_75 ⟨_, rfl, rfl⟩ rfl (Nat.le_of_ble_eq_true rfl) rfl (c_M_go (d + 1) l1 (18 : Int32) (v11 96 l1.toNatClampNeg) v11 ) (fun v12 => ?_)
        exact sv_vret rfl d_M_awaits_191
      · refine sv_aload_n d_M_awaits_110 rfl ?_
        refine sv_getr d_M_awaits_111 (gf_M_74 mc_172) so_75 sm_75_22 ?_
        refine sv_iload_n d_M_awaits_114 rfl ?_
        refine sv_aload_n d_M_awaits_115 rfl ?_
        refine sv_getr d_M_awaits_116 (gf_M_77 mc_172) so_75 sm_75_23 ?_
        refine sv_iload_n d_M_awaits_119 rfl ?_
        refine sv_iald d_M_awaits_120 sa_98 ?_
        refine sv_iast d_M_awaits_121 sa_97 (fun v13 => ?_)
        refine sv_aload_n d_M_awaits_122 rfl ?_
        refine sv_getr d_M_awaits_123 (gf_M_119 mc_172) so_75 sm_75_37 ?_
        refine sv_iload_n d_M_awaits_126 rfl ?_
        refine sv_iconst (x := (0 : Int32)) d_M_awaits_127 (by decide) ?_
        refine sv_iast d_M_awaits_128 sa_112 (fun v14 => ?_)
        refine sv_aload_n d_M_awaits_129 rfl ?_
        refine sv_getr d_M_awaits_130 (gf_M_113 mc_172) so_75 sm_75_35 ?_
        refine sv_iload_n d_M_awaits_133 rfl ?_
        refine sv_iconst (x := (0 : Int32)) d_M_awaits_134 (by decide) ?_
        refine sv_iast d_M_awaits_135 sa_110 (fun v15 => ?_)
        refine sv_aload_n d_M_awaits_136 rfl ?_
        refine sv_getr d_M_awaits_137 (gf_M_116 mc_172) so_75 sm_75_36 ?_
        refine sv_iload_n d_M_awaits_140 rfl ?_
        refine sv_iconst (x := (4 : Int32)) d_M_awaits_141 (by decide) ?_
        refine sv_iast d_M_awaits_142 sa_111 (fun v16 => ?_)
        refine sv_aload_n d_M_awaits_143 rfl ?_
        refine sv_getr d_M_awaits_144 (gf_M_68 mc_172) so_75 sm_75_20 ?_
        refine sv_iload_n d_M_awaits_147 rfl ?_
        refine sv_iconst (x := (4 : Int32)) d_M_awaits_148 (by decide) ?_
        refine sv_iast d_M_awaits_149 sa_95 (fun v17 => ?_)
        refine sv_aload_n d_M_awaits_150 rfl ?_
        refine sv_iload_n d_M_awaits_151 rfl ?_
        refine sv_bipush (x := (16 : Int32)) d_M_awaits_152 (by decide) ?_
        refine sv_aload_n d_M_awaits_154 rfl ?_
        refine sv_getr d_M_awaits_155 (gf_M_77 mc_172) so_75 sm_75_23 ?_
        refine sv_iload_n d_M_awaits_158 rfl ?_
        refine sv_iald d_M_awaits_159 sa_98 ?_
        refine sv_callVv (d := d + 7) (as := [.int l1, .int (16 : Int32), .int (v17 98 l1.toNatClampNeg)]) d_M_awaits_160 (wv_M_225 mc_172) so_75 ⟨_, rfl, rfl⟩ rfl (Nat.le_of_ble_eq_true rfl) rfl (c_M_go (d + 1) l1 (16 : Int32) (v17 98 l1.toNatClampNeg) v17 ) (fun v18 => ?_)
        refine sv_aload_n d_M_awaits_163 rfl ?_
        refine sv_iload_n d_M_awaits_164 rfl ?_
        refine sv_callVv (d := d + 7) (as := [.int l1]) d_M_awaits_165 (wv_M_267 mc_172) so_75 ⟨_, rfl, rfl⟩ rfl (Nat.le_of_ble_eq_true rfl) rfl (c_M_push (d + 0) l1 v18 ) (fun v19 => ?_)
        refine sv_goto 191 d_M_awaits_168 rfl ?_
        exact sv_vret rfl d_M_awaits_191
  · refine sv_aload_n d_M_awaits_51 rfl ?_
    refine sv_bipush (x := (16 : Int32)) d_M_awaits_52 (by decide) ?_
    refine sv_callVi (d := d + 7) (as := [.int (16 : Int32)]) d_M_awaits_54 (wv_M_249 mc_172) so_75 ⟨_, rfl, rfl⟩ rfl (Nat.le_of_ble_eq_true rfl) rfl (c_M_has (d + 7) (16 : Int32) v3 ) (fun x21 v20 => ?_)
    refine sv_if_eq 191 d_M_awaits_57 rfl ?_ ?_
    · exact sv_vret rfl d_M_awaits_191
    · refine sv_aload_n d_M_awaits_60 rfl ?_
      refine sv_iload_n d_M_awaits_61 rfl ?_
      refine sv_callVv (d := d + 7) (as := [.int l1]) d_M_awaits_62 (wv_M_228 mc_172) so_75 ⟨_, rfl, rfl⟩ rfl (Nat.le_of_ble_eq_true rfl) rfl (c_M_closes (d + 6) l1 v20 ) (fun v22 => ?_)
      refine sv_goto 191 d_M_awaits_65 rfl ?_
      exact sv_vret rfl d_M_awaits_191
set_option maxHeartbeats 4000000 in
set_option maxRecDepth 100000 in
theorem c_M_awaits (d : Nat) (a1 : Int32) (v : sv_T)  : sv_Cl (d + 8) 172 [.ref 75, .int a1] v (f_M_awaits a1 v) sv_Zv := by
  refine sv_spec (ls0 := [some (.ref 75), some (.int a1)]) mp_172 (Nat.le_of_ble_eq_true rfl) rfl ?_
  unfold f_M_awaits
  refine sv_aload_n d_M_awaits_0 rfl ?_
  refine sv_bipush (x := (16 : Int32)) d_M_awaits_1 (by decide) ?_
  refine sv_callVi (d := d + 7) (as := [.int (16 : Int32)]) d_M_awaits_3 (wv_M_249 mc_172) so_75 ⟨_, rfl, rfl⟩ rfl (Nat.le_of_ble_eq_true rfl) rfl (c_M_has (d + 7) (16 : Int32) v ) (fun x2 v1 => ?_)
  refine sv_if_eq 43 d_M_awaits_6 rfl ?_ ?_
  · exact c_M_awaits_b43 d a1 v1 
  · refine sv_aload_n d_M_awaits_9 rfl ?_
    refine sv_geti d_M_awaits_10 (gf_M_240 mc_172) so_75 (sd_10_47 so_75) ?_
    refine sv_aload_n d_M_awaits_13 rfl ?_
    refine sv_getr d_M_awaits_14 (gf_M_77 mc_172) so_75 sm_75_23 ?_
    refine sv_iload_n d_M_awaits_17 rfl ?_
    refine sv_iald d_M_awaits_18 sa_98 ?_
    refine sv_icmp_eq 43 d_M_awaits_19 rfl ?_ ?_
    · exact c_M_awaits_b43 d a1 v1 
    · refine sv_aload_n d_M_awaits_22 rfl ?_
      refine sv_iconst (x := (4 : Int32)) d_M_awaits_23 (by decide) ?_
      refine sv_callVi (d := d + 7) (as := [.int (4 : Int32)]) d_M_awaits_24 (wv_M_249 mc_172) so_75 ⟨_, rfl, rfl⟩ rfl (Nat.le_of_ble_eq_true rfl) rfl (c_M_has (d + 7) (4 : Int32) v1 ) (fun x24 v23 => ?_)
      refine sv_if_ne 191 d_M_awaits_27 rfl ?_ ?_
      · exact sv_vret rfl d_M_awaits_191
      · refine sv_aload_n d_M_awaits_30 rfl ?_
        refine sv_iload_n d_M_awaits_31 rfl ?_
        refine sv_iconst (x := (4 : Int32)) d_M_awaits_32 (by decide) ?_
        refine sv_aload_n d_M_awaits_33 rfl ?_
        refine sv_geti d_M_awaits_34 (gf_M_240 mc_172) so_75 (sd_10_47 so_75) ?_
        refine sv_callVv (d := d + 7) (as := [.int a1, .int (4 : Int32), .int (v23 75 47)]) d_M_awaits_37 (wv_M_225 mc_172) so_75 ⟨_, rfl, rfl⟩ rfl (Nat.le_of_ble_eq_true rfl) rfl (c_M_go (d + 1) a1 (4 : Int32) (v23 75 47) v23 ) (fun v25 => ?_)
        refine sv_goto 191 d_M_awaits_40 rfl ?_
        exact sv_vret rfl d_M_awaits_191
def f_M_fits (a1 : Int32) (v : sv_T) : Option (Int32 × sv_T) :=
  sv_ck a1 4 <|
  sv_bi (f_M_less (v 75 46) (v 99 a1.toNatClampNeg) v) fun x2 v1 =>
  sv_bi (f_M_span  v1) fun x4 v3 =>
  if x4 = 0 then
  if x2 = 0 then
  some ((1 : Int32), v3)
  else
  sv_bi (f_M_room a1 v3) fun x16 v15 =>
  if x2 < x16 then
  some ((1 : Int32), v15)
  else
  some ((0 : Int32), v15)
  else
  sv_bi (f_M_room a1 v3) fun x6 v5 =>
  if 0 < x6 then
  sv_bi (f_M_room a1 v5) fun x8 v7 =>
  if x2 < x8 then
  some ((1 : Int32), v7)
  else
  sv_bi (f_M_span  v7) fun x10 v9 =>
  sv_ck a1 4 <|
  sv_bi (f_M_less (((v7 75 46) + x10) - (1 : Int32)) (v9 99 a1.toNatClampNeg) v9) fun x12 v11 =>
  sv_bi (f_M_room a1 v11) fun x14 v13 =>
  if x12 < x14 then
  some ((1 : Int32), v13)
  else
  some ((0 : Int32), v13)
  else
  some ((0 : Int32), v5)
set_option maxHeartbeats 4000000 in
set_option maxRecDepth 100000 in
theorem c_M_fits (d : Nat) (a1 : Int32) (v : sv_T)  : sv_Cl (d + 2) 174 [.ref 75, .int a1] v (f_M_fits a1 v) sv_Zi := by
  refine sv_spec (ls0 := [some (.ref 75), some (.int a1), none]) mp_174 (Nat.le_of_ble_eq_true rfl) rfl ?_
  unfold f_M_fits
  refine sv_aload_n d_M_fits_0 rfl ?_
  refine sv_geti d_M_fits_1 (gf_M_237 mc_174) so_75 (sd_10_46 so_75) ?_
  refine sv_aload_n d_M_fits_4 rfl ?_
  refine sv_getr d_M_fits_5 (gf_M_80 mc_174) so_75 sm_75_24 ?_
  refine sv_iload_n d_M_fits_8 rfl ?_
  refine sv_iald d_M_fits_9 sa_99 ?_
  refine sv_callSi (d := d + 1) (as := [.int (v 75 46), .int (v 99 a1.toNatClampNeg)]) d_M_fits_10 (ws_M_218 mc_174)  rfl (Nat.le_of_ble_eq_true rfl) rfl (c_M_less (d + 1) (v 75 46) (v 99 a1.toNatClampNeg) v ) (fun x2 v1 => ?_)
  refine sv_istore_n (ls' := [some (.ref 75), some (.int a1), some (.int x2)]) d_M_fits_13 (by decide) rfl ?_
  refine sv_aload_n d_M_fits_14 rfl ?_
  refine sv_callVi (d := d + 1) (as := []) d_M_fits_15 (wv_M_252 mc_174) so_75 ⟨_, rfl, rfl⟩ rfl (Nat.le_of_ble_eq_true rfl) rfl (c_M_span (d + 0)  v1 ) (fun x4 v3 => ?_)
  refine sv_if_ne 40 d_M_fits_18 rfl ?_ ?_
  · refine sv_aload_n d_M_fits_40 rfl ?_
    refine sv_iload_n d_M_fits_41 rfl ?_
    refine sv_callVi (d := d + 1) (as := [.int a1]) d_M_fits_42 (wv_M_202 mc_174) so_75 ⟨_, rfl, rfl⟩ rfl (Nat.le_of_ble_eq_true rfl) rfl (c_M_room (d + 1) a1 v3 ) (fun x6 v5 => ?_)
    refine sv_if_le 89 d_M_fits_45 rfl ?_ ?_
    · refine sv_iconst (x := (0 : Int32)) d_M_fits_89 (by decide) ?_
      exact sv_zretc rfl (by decide) d_M_fits_90
    · refine sv_iload_n d_M_fits_48 rfl ?_
      refine sv_aload_n d_M_fits_49 rfl ?_
      refine sv_iload_n d_M_fits_50 rfl ?_
      refine sv_callVi (d := d + 1) (as := [.int a1]) d_M_fits_51 (wv_M_202 mc_174) so_75 ⟨_, rfl, rfl⟩ rfl (Nat.le_of_ble_eq_true rfl) rfl (c_M_room (d + 1) a1 v5 ) (fun x8 v7 => ?_)
      refine sv_icmp_lt 85 d_M_fits_54 rfl ?_ ?_
      · refine sv_iconst (x := (1 : Int32)) d_M_fits_85 (by decide) ?_
        refine sv_goto 90 d_M_fits_86 rfl ?_
        exact sv_zretc rfl (by decide) d_M_fits_90
      · refine sv_aload_n d_M_fits_57 rfl ?_
        refine sv_geti d_M_fits_58 (gf_M_237 mc_174) so_75 (sd_10_46 so_75) ?_
        refine sv_aload_n d_M_fits_61 rfl ?_
        refine sv_callVi (d := d + 1) (as := []) d_M_fits_62 (wv_M_252 mc_174) so_75 ⟨_, rfl, rfl⟩ rfl (Nat.le_of_ble_eq_true rfl) rfl (c_M_span (d + 0)  v7 ) (fun x10 v9 => ?_)
        refine sv_iadd d_M_fits_65 ?_
        refine sv_iconst (x := (1 : Int32)) d_M_fits_66 (by decide) ?_
        refine sv_isub d_M_fits_67 ?_
        refine sv_aload_n d_M_fits_68 rfl ?_
        refine sv_getr d_M_fits_69 (gf_M_80 mc_174) so_75 sm_75_24 ?_
        refine sv_iload_n d_M_fits_72 rfl ?_
        refine sv_iald d_M_fits_73 sa_99 ?_
        refine sv_callSi (d := d + 1) (as := [.int (((v7 75 46) + x10) - (1 : Int32)), .int (v9 99 a1.toNatClampNeg)]) d_M_fits_74 (ws_M_218 mc_174)  rfl (Nat.le_of_ble_eq_true rfl) rfl (c_M_less (d + 1) (((v7 75 46) + x10) - (1 : Int32)) (v9 99 a1.toNatClampNeg) v9 ) (fun x12 v11 => ?_)
        refine sv_aload_n d_M_fits_77 rfl ?_
        refine sv_iload_n d_M_fits_78 rfl ?_
        refine sv_callVi (d := d + 1) (as := [.int a1]) d_M_fits_79 (wv_M_202 mc_174) so_75 ⟨_, rfl, rfl⟩ rfl (Nat.le_of_ble_eq_true rfl) rfl (c_M_room (d + 1) a1 v11 ) (fun x14 v13 => ?_)
        refine sv_icmp_ge 89 d_M_fits_82 rfl ?_ ?_
        · refine sv_iconst (x := (0 : Int32)) d_M_fits_89 (by decide) ?_
          exact sv_zretc rfl (by decide) d_M_fits_90
        · refine sv_iconst (x := (1 : Int32)) d_M_fits_85 (by decide) ?_
          refine sv_goto 90 d_M_fits_86 rfl ?_
          exact sv_zretc rfl (by decide) d_M_fits_90
  · refine sv_iload_n d_M_fits_21 rfl ?_
    refine sv_if_eq 34 d_M_fits_22 rfl ?_ ?_
    · refine sv_iconst (x := (1 : Int32)) d_M_fits_34 (by decide) ?_
      refine sv_goto 39 d_M_fits_35 rfl ?_
      exact sv_zretc rfl (by decide) d_M_fits_39
    · refine sv_iload_n d_M_fits_25 rfl ?_
      refine sv_aload_n d_M_fits_26 rfl ?_
      refine sv_iload_n d_M_fits_27 rfl ?_
      refine sv_callVi (d := d + 1) (as := [.int a1]) d_M_fits_28 (wv_M_202 mc_174) so_75 ⟨_, rfl, rfl⟩ rfl (Nat.le_of_ble_eq_true rfl) rfl (c_M_room (d + 1) a1 v3 ) (fun x16 v15 => ?_)
      refine sv_icmp_ge 38 d_M_fits_31 rfl ?_ ?_
      · refine sv_iconst (x := (0 : Int32)) d_M_fits_38 (by decide) ?_
        exact sv_zretc rfl (by decide) d_M_fits_39
      · refine sv_iconst (x := (1 : Int32)) d_M_fits_34 (by decide) ?_
        refine sv_goto 39 d_M_fits_35 rfl ?_
        exact sv_zretc rfl (by decide) d_M_fits_39
def f_M_confirms_b219 (l1 : Int32) (v : sv_T) : Option (Int32 × sv_T) :=
  sv_ck l1 4 <| sv_ls (sv_up v 100 l1.toNatClampNeg (v 75 48)) fun v5 =>
  some ((1 : Int32), v5)
def f_M_confirms_b171 (l1 : Int32) (l2 : Int32) (v : sv_T) : Option (Int32 × sv_T) :=
  if l2 = 0 then
  f_M_confirms_b219 l1 v
  else
  sv_ck l1 4 <|
  sv_bi (f_M_less (v 75 47) (v 98 l1.toNatClampNeg) v) fun x7 v6 =>
  if x7 < (1 : Int32) then
  f_M_confirms_b219 l1 v6
  else
  if x7 ≤ (32767 : Int32) then
  sv_ck l1 4 <|
  sv_bv (f_M_go l1 (16 : Int32) (v6 98 l1.toNatClampNeg) v6) fun v8 =>
  some ((0 : Int32), v8)
  else
  f_M_confirms_b219 l1 v6
def f_M_confirms_l79 (l1 : Int32) (l4 : Int32) (l5 : Int32) (v : sv_T) : Option ((Int32 × sv_T) ⊕ (sv_T)) :=
  sv_ck l1 4 <|
  if l5 < (((64 : Int32) * l1) + (v 101 l1.toNatClampNeg)) then
  sv_ck (l5 + l4) 256 <|
  sv_ck l5 256 <| sv_ls (sv_up v 102 l5.toNatClampNeg (v 102 (l5 + l4).toNatClampNeg)) fun v11 =>
  sv_le (l5 + (1 : Int32)) fun x12 =>
  some (.inl (x12, v11))
  else
  some (.inr v)
def f_M_confirms_b167 (l1 : Int32) (s0 : Int32) (s1 : Int32) (v : sv_T) : Option (Int32 × sv_T) :=
  sv_ck s1 4 <| sv_ls (sv_up v 110 s1.toNatClampNeg s0) fun v16 =>
  f_M_confirms_b219 l1 v16
def f_M_confirms_x118 (l1 : Int32) (v : sv_T) : Option (Int32 × sv_T) :=
  sv_ck l1 4 <| sv_ls (sv_up v 97 l1.toNatClampNeg (v 75 47)) fun v13 =>
  sv_ck l1 4 <| sv_ls (sv_up v13 112 l1.toNatClampNeg (0 : Int32)) fun v14 =>
  sv_ck l1 4 <| sv_ls (sv_up v14 111 l1.toNatClampNeg (4 : Int32)) fun v15 =>
  sv_ck l1 4 <|
  sv_ck l1 4 <|
  if (v15 97 l1.toNatClampNeg) = (v15 98 l1.toNatClampNeg) then
  f_M_confirms_b167 l1 (0 : Int32) l1 v15
  else
  f_M_confirms_b167 l1 (4 : Int32) l1 v15
def f_M_confirms_b60 (l1 : Int32) (s0 : Int32) (v : sv_T) : Option (Int32 × sv_T) :=
  sv_ck l1 4 <|
  sv_ck l1 4 <| sv_ls (sv_up v 101 l1.toNatClampNeg ((v 101 l1.toNatClampNeg) - s0)) fun v9 =>
  sv_le (((64 : Int32) * l1)) fun x10 =>
  Option.bind (sv_loop (fun (s : Int32 × sv_T) => f_M_confirms_l79 l1 s0 s.1 (s.2)) 100000 (x10, v9)) (fun (s : sv_T) => f_M_confirms_x118 l1 s)
def f_M_confirms (a1 : Int32) (v : sv_T) : Option (Int32 × sv_T) :=
  sv_ck a1 4 <|
  sv_bi (f_M_less (v 75 47) (v 97 a1.toNatClampNeg) v) fun x2 v1 =>
  sv_ck a1 4 <|
  sv_ck a1 4 <|
  sv_bi (f_M_less (v1 98 a1.toNatClampNeg) (v1 97 a1.toNatClampNeg) v1) fun x4 v3 =>
  if x2 < (1 : Int32) then
  f_M_confirms_b171 a1 x2 v3
  else
  if x2 ≤ x4 then
  sv_ck a1 4 <|
  if x2 < (v3 101 a1.toNatClampNeg) then
  f_M_confirms_b60 a1 x2 v3
  else
  sv_ck a1 4 <|
  f_M_confirms_b60 a1 (v3 101 a1.toNatClampNeg) v3
  else
  f_M_confirms_b171 a1 x2 v3
set_option maxHeartbeats 4000000 in
set_option maxRecDepth 100000 in
theorem c_M_confirms_b219 (d : Nat) (l1 : Int32) (v : sv_T)  : sv_Ref (d + 7) 175 219 [some (.ref 75), some (.int l1), none, none, none, none] [] v (f_M_confirms_b219 l1 v) (sv_Zi) := by
  unfold f_M_confirms_b219
  refine sv_aload_n d_M_confirms_219 rfl ?_
  refine sv_getr d_M_confirms_220 (gf_M_83 mc_175) so_75 sm_75_25 ?_
  refine sv_iload_n d_M_confirms_223 rfl ?_
  refine sv_aload_n d_M_confirms_224 rfl ?_
  refine sv_geti d_M_confirms_225 (gf_M_243 mc_175) so_75 (sd_10_48 so_75) ?_
  refine sv_iast d_M_confirms_228 sa_100 (fun v5 => ?_)
  refine sv_iconst (x := (1 : Int32)) d_M_confirms_229 (by decide) ?_
  exact sv_zretc rfl (by decide) d_M_confirms_230
set_option maxHeartbeats 4000000 in
set_option maxRecDepth 100000 in
theorem c_M_confirms_b171 (d : Nat) (l1 : Int32) (l2 : Int32) (v : sv_T)  : sv_Ref (d + 7) 175 171 [some (.ref 75), some (.int l1), some (.int l2), none, none, none] [] v (f_M_confirms_b171 l1 l2 v) (sv_Zi) := by
  unfold f_M_confirms_b171
  refine sv_iload_n d_M_confirms_171 rfl ?_
  refine sv_if_eq 219 d_M_confirms_172 rfl ?_ ?_
  · refine sv_kill (ls' := [some (.ref 75), some (.int l1), none, none, none, none]) ⟨rfl, rfl, trivial⟩ ?_
    exact c_M_confirms_b219 d l1 v 
  · refine sv_aload_n d_M_confirms_175 rfl ?_
    refine sv_geti d_M_confirms_176 (gf_M_240 mc_175) so_75 (sd_10_47 so_75) ?_
    refine sv_aload_n d_M_confirms_179 rfl ?_
    refine sv_getr d_M_confirms_180 (gf_M_77 mc_175) so_75 sm_75_23 ?_
    refine sv_iload_n d_M_confirms_183 rfl ?_
    refine sv_iald d_M_confirms_184 sa_98 ?_
    refine sv_callSi (d := d + 6) (as := [.int (v 75 47), .int (v 98 l1.toNatClampNeg)]) d_M_confirms_185 (ws_M_218 mc_175)  rfl (Nat.le_of_ble_eq_true rfl) rfl (c_M_less (d + 6) (v 75 47) (v 98 l1.toNatClampNeg) v ) (fun x7 v6 => ?_)
    refine sv_istore (ls' := [some (.ref 75), some (.int l1), some (.int l2), none, some (.int x7), none]) d_M_confirms_188 (by decide) rfl ?_
    refine sv_iload d_M_confirms_190 rfl ?_
    refine sv_iconst (x := (1 : Int32)) d_M_confirms_192 (by decide) ?_
    refine sv_icmp_lt 219 d_M_confirms_193 rfl ?_ ?_
    · refine sv_kill (ls' := [some (.ref 75), some (.int l1), none, none, none, none]) ⟨rfl, rfl, trivial⟩ ?_
      exact c_M_confirms_b219 d l1 v6 
    · refine sv_iload d_M_confirms_196 rfl ?_
      refine sv_sipush (x := (32767 : Int32)) d_M_confirms_198 (by decide) ?_
      refine sv_icmp_gt 219 d_M_confirms_201 rfl ?_ ?_
      · refine sv_kill (ls' := [some (.ref 75), some (.int l1), none, none, none, none]) ⟨rfl, rfl, trivial⟩ ?_
        exact c_M_confirms_b219 d l1 v6 
      · refine sv_aload_n d_M_confirms_204 rfl ?_
        refine sv_iload_n d_M_confirms_205 rfl ?_
        refine sv_bipush (x := (16 : Int32)) d_M_confirms_206 (by decide) ?_
        refine sv_aload_n d_M_confirms_208 rfl ?_
        refine sv_getr d_M_confirms_209 (gf_M_77 mc_175) so_75 sm_75_23 ?_
        refine sv_iload_n d_M_confirms_212 rfl ?_
        refine sv_iald d_M_confirms_213 sa_98 ?_
        refine sv_callVv (d := d + 6) (as := [.int l1, .int (16 : Int32), .int (v6 98 l1.toNatClampNeg)]) d_M_confirms_214 (wv_M_225 mc_175) so_75 ⟨_, rfl, rfl⟩ rfl (Nat.le_of_ble_eq_true rfl) rfl (c_M_go (d + 0) l1 (16 : Int32) (v6 98 l1.toNatClampNeg) v6 ) (fun v8 => ?_)
        refine sv_iconst (x := (0 : Int32)) d_M_confirms_217 (by decide) ?_
        exact sv_zretc rfl (by decide) d_M_confirms_218
set_option maxHeartbeats 4000000 in
set_option maxRecDepth 100000 in
theorem c_M_confirms_l79 (d : Nat) (l1 : Int32) (l4 : Int32) (l5 : Int32) (v : sv_T)  : sv_Ref (d + 7) 175 79 [some (.ref 75), some (.int l1), none, none, some (.int l4), some (.int l5)] [] v (f_M_confirms_l79 l1 l4 l5 v) (sv_Zl (d + 7) 175 79 (fun (s : Int32 × sv_T) => [some (.ref 75), some (.int l1), none, none, some (.int l4), some (.int s.1)]) (fun (s : Int32 × sv_T) => s.2) (sv_Zt (d + 7) 175 118 (fun (s : sv_T) => [some (.ref 75), some (.int l1), none, none, none, none]) (fun (s : sv_T) => s))) := by
  unfold f_M_confirms_l79
  refine sv_iload d_M_confirms_79 rfl ?_
  refine sv_bipush (x := (64 : Int32)) d_M_confirms_81 (by decide) ?_
  refine sv_iload_n d_M_confirms_83 rfl ?_
  refine sv_imul d_M_confirms_84 ?_
  refine sv_aload_n d_M_confirms_85 rfl ?_
  refine sv_getr d_M_confirms_86 (gf_M_86 mc_175) so_75 sm_75_26 ?_
  refine sv_iload_n d_M_confirms_89 rfl ?_
  refine sv_iald d_M_confirms_90 sa_101 ?_
  refine sv_iadd d_M_confirms_91 ?_
  refine sv_icmp_ge 118 d_M_confirms_92 rfl ?_ ?_
  · exact sv_leave v rfl ⟨rfl, rfl, trivial⟩ rfl
  · refine sv_aload_n d_M_confirms_95 rfl ?_
    refine sv_getr d_M_confirms_96 (gf_M_89 mc_175) so_75 sm_75_27 ?_
    refine sv_iload d_M_confirms_99 rfl ?_
    refine sv_aload_n d_M_confirms_101 rfl ?_
    refine sv_getr d_M_confirms_102 (gf_M_89 mc_175) so_75 sm_75_27 ?_
    refine sv_iload d_M_confirms_105 rfl ?_
    refine sv_iload d_M_confirms_107 rfl ?_
    refine sv_iadd d_M_confirms_109 ?_
    refine sv_iald d_M_confirms_110 sa_102 ?_
    refine sv_iast d_M_confirms_111 sa_102 (fun v11 => ?_)
    refine sv_iinc (ls' := fun x12 => [some (.ref 75), some (.int l1), none, none, some (.int l4), some (.int x12)]) (y := (1 : Int32)) d_M_confirms_112 rfl (by decide) (fun _ => rfl) (fun x12 => ?_)
    refine sv_goto 79 d_M_confirms_115 rfl ?_
    exact sv_next (x12, v11) ⟨rfl, rfl, rfl, rfl, trivial⟩ rfl
set_option maxHeartbeats 4000000 in
set_option maxRecDepth 100000 in
theorem c_M_confirms_b167 (d : Nat) (l1 : Int32) (s0 : Int32) (s1 : Int32) (v : sv_T)  : sv_Ref (d + 7) 175 167 [some (.ref 75), some (.int l1), none, none, none, none] [.int s0, .int s1, .ref 110] v (f_M_confirms_b167 l1 s0 s1 v) (sv_Zi) := by
  unfold f_M_confirms_b167
  refine sv_iast d_M_confirms_167 sa_110 (fun v16 => ?_)
  refine sv_goto 219 d_M_confirms_168 rfl ?_
  exact c_M_confirms_b219 d l1 v16 
set_option maxHeartbeats 4000000 in
set_option maxRecDepth 100000 in
theorem c_M_confirms_x118 (d : Nat) (l1 : Int32) (v : sv_T)  : sv_Ref (d + 7) 175 118 [some (.ref 75), some (.int l1), none, none, none, none] [] v (f_M_confirms_x118 l1 v) (sv_Zi) := by
  unfold f_M_confirms_x118
  refine sv_aload_n d_M_confirms_118 rfl ?_
  refine sv_getr d_M_confirms_119 (gf_M_74 mc_175) so_75 sm_75_22 ?_
  refine sv_iload_n d_M_confirms_122 rfl ?_
  refine sv_aload_n d_M_confirms_123 rfl ?_
  refine sv_geti d_M_confirms_124 (gf_M_240 mc_175) so_75 (sd_10_47 so_75) ?_
  refine sv_iast d_M_confirms_127 sa_97 (fun v13 => ?_)
  refine sv_aload_n d_M_confirms_128 rfl ?_
  refine sv_getr d_M_confirms_129 (gf_M_119 mc_175) so_75 sm_75_37 ?_
  refine sv_iload_n d_M_confirms_132 rfl ?_
  refine sv_iconst (x := (0 : Int32)) d_M_confirms_133 (by decide) ?_
  refine sv_iast d_M_confirms_134 sa_112 (fun v14 => ?_)
  refine sv_aload_n d_M_confirms_135 rfl ?_
  refine sv_getr d_M_confirms_136 (gf_M_116 mc_175) so_75 sm_75_36 ?_
  refine sv_iload_n d_M_confirms_139 rfl ?_
  refine sv_iconst (x := (4 : Int32)) d_M_confirms_140 (by decide) ?_
  refine sv_iast d_M_confirms_141 sa_111 (fun v15 => ?_)
  refine sv_aload_n d_M_confirms_142 rfl ?_
  refine sv_getr d_M_confirms_143 (gf_M_113 mc_175) so_75 sm_75_35 ?_
  refine sv_iload_n d_M_confirms_146 rfl ?_
  refine sv_aload_n d_M_confirms_147 rfl ?_
  refine sv_getr d_M_confirms_148 (gf_M_74 mc_175) so_75 sm_75_22 ?_
  refine sv_iload_n d_M_confirms_151 rfl ?_
  refine sv_iald d_M_confirms_152 sa_97 ?_
  refine sv_aload_n d_M_confirms_153 rfl ?_
  refine sv_getr d_M_confirms_154 (gf_M_77 mc_175) so_75 sm_75_23 ?_
  refine sv_iload_n d_M_confirms_157 rfl ?_
  refine sv_iald d_M_confirms_158 sa_98 ?_
  refine sv_icmp_ne 166 d_M_confirms_159 rfl ?_ ?_
  · refine sv_iconst (x := (4 : Int32)) d_M_confirms_166 (by decide) ?_
    exact c_M_confirms_b167 d l1 (4 : Int32) l1 v15 
  · refine sv_iconst (x := (0 : Int32)) d_M_confirms_162 (by decide) ?_
    refine sv_goto 167 d_M_confirms_163 rfl ?_
    exact c_M_confirms_b167 d l1 (0 : Int32) l1 v15 
set_option maxHeartbeats 4000000 in
set_option maxRecDepth 100000 in
theorem c_M_confirms_b60 (d : Nat) (l1 : Int32) (s0 : Int32) (v : sv_T)  : sv_Ref (d + 7) 175 60 [some (.ref 75), some (.int l1), none, none, none, none] [.int s0] v (f_M_confirms_b60 l1 s0 v) (sv_Zi) := by
  unfold f_M_confirms_b60
  refine sv_istore (ls' := [some (.ref 75), some (.int l1), none, none, some (.int s0), none]) d_M_confirms_60 (by decide) rfl ?_
  refine sv_aload_n d_M_confirms_62 rfl ?_
  refine sv_getr d_M_confirms_63 (gf_M_86 mc_175) so_75 sm_75_26 ?_
  refine sv_iload_n d_M_confirms_66 rfl ?_
  refine sv_dup2 d_M_confirms_67 ?_
  refine sv_iald d_M_confirms_68 sa_101 ?_
  refine sv_iload d_M_confirms_69 rfl ?_
  refine sv_isub d_M_confirms_71 ?_
  refine sv_iast d_M_confirms_72 sa_101 (fun v9 => ?_)
  refine sv_bipush (x := (64 : Int32)) d_M_confirms_73 (by decide) ?_
  refine sv_iload_n d_M_confirms_75 rfl ?_
  refine sv_imul d_M_confirms_76 ?_
  refine sv_leR (fun x10 => ?_)
  refine sv_istore (ls' := [some (.ref 75), some (.int l1), none, none, some (.int s0), some (.int x10)]) d_M_confirms_77 (by decide) rfl ?_
  exact sv_seq (xt := 118) (L := (fun (s : sv_T) => [some (.ref 75), some (.int l1), none, none, none, none])) (S := (fun (s : sv_T) => s)) (sv_loopR (L := (fun (s : Int32 × sv_T) => [some (.ref 75), some (.int l1), none, none, some (.int s0), some (.int s.1)])) (S := (fun (s : Int32 × sv_T) => s.2)) (fun s => c_M_confirms_l79 d l1 s0 s.1 (s.2) ) 100000 (x10, v9)) (fun s => c_M_confirms_x118 d l1 s )
set_option maxHeartbeats 4000000 in
set_option maxRecDepth 100000 in
theorem c_M_confirms (d : Nat) (a1 : Int32) (v : sv_T)  : sv_Cl (d + 7) 175 [.ref 75, .int a1] v (f_M_confirms a1 v) sv_Zi := by
  refine sv_spec (ls0 := [some (.ref 75), some (.int a1), none, none, none, none]) mp_175 (Nat.le_of_ble_eq_true rfl) rfl ?_
  unfold f_M_confirms
  refine sv_aload_n d_M_confirms_0 rfl ?_
  refine sv_geti d_M_confirms_1 (gf_M_240 mc_175) so_75 (sd_10_47 so_75) ?_
  refine sv_aload_n d_M_confirms_4 rfl ?_
  refine sv_getr d_M_confirms_5 (gf_M_74 mc_175) so_75 sm_75_22 ?_
  refine sv_iload_n d_M_confirms_8 rfl ?_
  refine sv_iald d_M_confirms_9 sa_97 ?_
  refine sv_callSi (d := d + 6) (as := [.int (v 75 47), .int (v 97 a1.toNatClampNeg)]) d_M_confirms_10 (ws_M_218 mc_175)  rfl (Nat.le_of_ble_eq_true rfl) rfl (c_M_less (d + 6) (v 75 47) (v 97 a1.toNatClampNeg) v ) (fun x2 v1 => ?_)
  refine sv_istore_n (ls' := [some (.ref 75), some (.int a1), some (.int x2), none, none, none]) d_M_confirms_13 (by decide) rfl ?_
  refine sv_aload_n d_M_confirms_14 rfl ?_
  refine sv_getr d_M_confirms_15 (gf_M_77 mc_175) so_75 sm_75_23 ?_
  refine sv_iload_n d_M_confirms_18 rfl ?_
  refine sv_iald d_M_confirms_19 sa_98 ?_
  refine sv_aload_n d_M_confirms_20 rfl ?_
  refine sv_getr d_M_confirms_21 (gf_M_74 mc_175) so_75 sm_75_22 ?_
  refine sv_iload_n d_M_confirms_24 rfl ?_
  refine sv_iald d_M_confirms_25 sa_97 ?_
  refine sv_callSi (d := d + 6) (as := [.int (v1 98 a1.toNatClampNeg), .int (v1 97 a1.toNatClampNeg)]) d_M_confirms_26 (ws_M_218 mc_175)  rfl (Nat.le_of_ble_eq_true rfl) rfl (c_M_less (d + 6) (v1 98 a1.toNatClampNeg) (v1 97 a1.toNatClampNeg) v1 ) (fun x4 v3 => ?_)
  refine sv_istore_n (ls' := [some (.ref 75), some (.int a1), some (.int x2), some (.int x4), none, none]) d_M_confirms_29 (by decide) rfl ?_
  refine sv_iload_n d_M_confirms_30 rfl ?_
  refine sv_iconst (x := (1 : Int32)) d_M_confirms_31 (by decide) ?_
  refine sv_icmp_lt 171 d_M_confirms_32 rfl ?_ ?_
  · refine sv_kill (ls' := [some (.ref 75), some (.int a1), some (.int x2), none, none, none]) ⟨rfl, rfl, rfl, trivial⟩ ?_
    exact c_M_confirms_b171 d a1 x2 v3 
  · refine sv_iload_n d_M_confirms_35 rfl ?_
    refine sv_iload_n d_M_confirms_36 rfl ?_
    refine sv_icmp_gt 171 d_M_confirms_37 rfl ?_ ?_
    · refine sv_kill (ls' := [some (.ref 75), some (.int a1), some (.int x2), none, none, none]) ⟨rfl, rfl, rfl, trivial⟩ ?_
      exact c_M_confirms_b171 d a1 x2 v3 
    · refine sv_iload_n d_M_confirms_40 rfl ?_
      refine sv_aload_n d_M_confirms_41 rfl ?_
      refine sv_getr d_M_confirms_42 (gf_M_86 mc_175) so_75 sm_75_26 ?_
      refine sv_iload_n d_M_confirms_45 rfl ?_
      refine sv_iald d_M_confirms_46 sa_101 ?_
      refine sv_icmp_ge 54 d_M_confirms_47 rfl ?_ ?_
      · refine sv_aload_n d_M_confirms_54 rfl ?_
        refine sv_getr d_M_confirms_55 (gf_M_86 mc_175) so_75 sm_75_26 ?_
        refine sv_iload_n d_M_confirms_58 rfl ?_
        refine sv_iald d_M_confirms_59 sa_101 ?_
        refine sv_kill (ls' := [some (.ref 75), some (.int a1), none, none, none, none]) ⟨rfl, rfl, trivial⟩ ?_
        exact c_M_confirms_b60 d a1 (v3 101 a1.toNatClampNeg) v3 
      · refine sv_iload_n d_M_confirms_50 rfl ?_
        refine sv_goto 60 d_M_confirms_51 rfl ?_
        refine sv_kill (ls' := [some (.ref 75), some (.int a1), none, none, none, none]) ⟨rfl, rfl, trivial⟩ ?_
        exact c_M_confirms_b60 d a1 x2 v3 
def f_M_ends (a1 : Int32) (v : sv_T) : Option (Int32 × sv_T) :=
  sv_ck a1 4 <|
  if (v 104 a1.toNatClampNeg) = 0 then
  some ((0 : Int32), v)
  else
  sv_ck a1 4 <|
  sv_ck a1 4 <|
  if (v 97 a1.toNatClampNeg) = (v 98 a1.toNatClampNeg) then
  sv_ck a1 4 <|
  if (v 95 a1.toNatClampNeg) = (5 : Int32) then
  sv_ck a1 4 <| sv_ls (sv_up v 95 a1.toNatClampNeg (6 : Int32)) fun v4 =>
  some ((0 : Int32), v4)
  else
  sv_ck a1 4 <|
  if (v 95 a1.toNatClampNeg) = (8 : Int32) then
  sv_ck a1 4 <| sv_ls (sv_up v 95 a1.toNatClampNeg (10 : Int32)) fun v2 =>
  sv_ck a1 4 <| sv_ls (sv_up v2 110 a1.toNatClampNeg (8 : Int32)) fun v3 =>
  some ((0 : Int32), v3)
  else
  sv_ck a1 4 <|
  if (v 95 a1.toNatClampNeg) = (9 : Int32) then
  sv_bv (f_M_closes a1 v) fun v1 =>
  some ((1 : Int32), v1)
  else
  some ((0 : Int32), v)
  else
  some ((0 : Int32), v)
set_option maxHeartbeats 4000000 in
set_option maxRecDepth 100000 in
theorem c_M_ends (d : Nat) (a1 : Int32) (v : sv_T)  : sv_Cl (d + 2) 176 [.ref 75, .int a1] v (f_M_ends a1 v) sv_Zi := by
  refine sv_spec (ls0 := [some (.ref 75), some (.int a1)]) mp_176 (Nat.le_of_ble_eq_true rfl) rfl ?_
  unfold f_M_ends
  refine sv_aload_n d_M_ends_0 rfl ?_
  refine sv_getr d_M_ends_1 (gf_M_95 mc_176) so_75 sm_75_29 ?_
  refine sv_iload_n d_M_ends_4 rfl ?_
  refine sv_zald d_M_ends_5 sa_104 ?_
  refine sv_if_eq 93 d_M_ends_6 rfl ?_ ?_
  · refine sv_iconst (x := (0 : Int32)) d_M_ends_93 (by decide) ?_
    exact sv_zretc rfl (by decide) d_M_ends_94
  · refine sv_aload_n d_M_ends_9 rfl ?_
    refine sv_getr d_M_ends_10 (gf_M_74 mc_176) so_75 sm_75_22 ?_
    refine sv_iload_n d_M_ends_13 rfl ?_
    refine sv_iald d_M_ends_14 sa_97 ?_
    refine sv_aload_n d_M_ends_15 rfl ?_
    refine sv_getr d_M_ends_16 (gf_M_77 mc_176) so_75 sm_75_23 ?_
    refine sv_iload_n d_M_ends_19 rfl ?_
    refine sv_iald d_M_ends_20 sa_98 ?_
    refine sv_icmp_ne 93 d_M_ends_21 rfl ?_ ?_
    · refine sv_iconst (x := (0 : Int32)) d_M_ends_93 (by decide) ?_
      exact sv_zretc rfl (by decide) d_M_ends_94
    · refine sv_aload_n d_M_ends_24 rfl ?_
      refine sv_getr d_M_ends_25 (gf_M_68 mc_176) so_75 sm_75_20 ?_
      refine sv_iload_n d_M_ends_28 rfl ?_
      refine sv_iald d_M_ends_29 sa_95 ?_
      refine sv_iconst (x := (5 : Int32)) d_M_ends_30 (by decide) ?_
      refine sv_icmp_ne 45 d_M_ends_31 rfl ?_ ?_
      · refine sv_aload_n d_M_ends_45 rfl ?_
        refine sv_getr d_M_ends_46 (gf_M_68 mc_176) so_75 sm_75_20 ?_
        refine sv_iload_n d_M_ends_49 rfl ?_
        refine sv_iald d_M_ends_50 sa_95 ?_
        refine sv_bipush (x := (8 : Int32)) d_M_ends_51 (by decide) ?_
        refine sv_icmp_ne 75 d_M_ends_53 rfl ?_ ?_
        · refine sv_aload_n d_M_ends_75 rfl ?_
          refine sv_getr d_M_ends_76 (gf_M_68 mc_176) so_75 sm_75_20 ?_
          refine sv_iload_n d_M_ends_79 rfl ?_
          refine sv_iald d_M_ends_80 sa_95 ?_
          refine sv_bipush (x := (9 : Int32)) d_M_ends_81 (by decide) ?_
          refine sv_icmp_ne 93 d_M_ends_83 rfl ?_ ?_
          · refine sv_iconst (x := (0 : Int32)) d_M_ends_93 (by decide) ?_
            exact sv_zretc rfl (by decide) d_M_ends_94
          · refine sv_aload_n d_M_ends_86 rfl ?_
            refine sv_iload_n d_M_ends_87 rfl ?_
            refine sv_callVv (d := d + 1) (as := [.int a1]) d_M_ends_88 (wv_M_228 mc_176) so_75 ⟨_, rfl, rfl⟩ rfl (Nat.le_of_ble_eq_true rfl) rfl (c_M_closes (d + 0) a1 v ) (fun v1 => ?_)
            refine sv_iconst (x := (1 : Int32)) d_M_ends_91 (by decide) ?_
            exact sv_zretc rfl (by decide) d_M_ends_92
        · refine sv_aload_n d_M_ends_56 rfl ?_
          refine sv_getr d_M_ends_57 (gf_M_68 mc_176) so_75 sm_75_20 ?_
          refine sv_iload_n d_M_ends_60 rfl ?_
          refine sv_bipush (x := (10 : Int32)) d_M_ends_61 (by decide) ?_
          refine sv_iast d_M_ends_63 sa_95 (fun v2 => ?_)
          refine sv_aload_n d_M_ends_64 rfl ?_
          refine sv_getr d_M_ends_65 (gf_M_113 mc_176) so_75 sm_75_35 ?_
          refine sv_iload_n d_M_ends_68 rfl ?_
          refine sv_bipush (x := (8 : Int32)) d_M_ends_69 (by decide) ?_
          refine sv_iast d_M_ends_71 sa_110 (fun v3 => ?_)
          refine sv_goto 93 d_M_ends_72 rfl ?_
          refine sv_iconst (x := (0 : Int32)) d_M_ends_93 (by decide) ?_
          exact sv_zretc rfl (by decide) d_M_ends_94
      · refine sv_aload_n d_M_ends_34 rfl ?_
        refine sv_getr d_M_ends_35 (gf_M_68 mc_176) so_75 sm_75_20 ?_
        refine sv_iload_n d_M_ends_38 rfl ?_
        refine sv_bipush (x := (6 : Int32)) d_M_ends_39 (by decide) ?_
        refine sv_iast d_M_ends_41 sa_95 (fun v4 => ?_)
        refine sv_goto 93 d_M_ends_42 rfl ?_
        refine sv_iconst (x := (0 : Int32)) d_M_ends_93 (by decide) ?_
        exact sv_zretc rfl (by decide) d_M_ends_94
def f_M_takes_b176 (l1 : Int32) (l3 : Int32) (v : sv_T) : Option ((Int32 × sv_T) ⊕ (sv_T)) :=
  sv_le (l3 + (1 : Int32)) fun x5 =>
  some (.inl (x5, v))
def f_M_takes_l92 (l1 : Int32) (l3 : Int32) (v : sv_T) : Option ((Int32 × sv_T) ⊕ (sv_T)) :=
  if l3 < (v 75 49) then
  sv_ck l1 4 <|
  sv_bi (f_M_less ((v 75 46) + l3) (v 99 l1.toNatClampNeg) v) fun x2 v1 =>
  sv_bi (f_M_room l1 v1) fun x4 v3 =>
  if x2 < x4 then
  sv_ck (((32 : Int32) * l1) + x2) 128 <|
  if (v3 107 (((32 : Int32) * l1) + x2).toNatClampNeg) = 0 then
  sv_ck (((32 : Int32) * l1) + x2) 128 <| sv_ls (sv_up v3 107 (((32 : Int32) * l1) + x2).toNatClampNeg (1 : Int32)) fun v6 =>
  sv_ck ((10 : Int32) + l3) 64 <|
  sv_ck (((32 : Int32) * l1) + x2) 128 <| sv_ls (sv_up v6 108 (((32 : Int32) * l1) + x2).toNatClampNeg (v6 114 ((10 : Int32) + l3).toNatClampNeg)) fun v7 =>
  f_M_takes_b176 l1 l3 v7
  else
  f_M_takes_b176 l1 l3 v3
  else
  f_M_takes_b176 l1 l3 v3
  else
  some (.inr v)
def f_M_takes_l305 (l1 : Int32) (l3 : Int32) (v : sv_T) : Option ((Int32 × sv_T) ⊕ (sv_T)) :=
  if l3 < (((32 : Int32) * l1) + (31 : Int32)) then
  sv_ck (l3 + (1 : Int32)) 128 <|
  sv_ck l3 128 <| sv_ls (sv_up v 107 l3.toNatClampNeg (vp_nar .boolean (v 107 (l3 + (1 : Int32)).toNatClampNeg))) fun v14 =>
  sv_ck (l3 + (1 : Int32)) 128 <|
  sv_ck l3 128 <| sv_ls (sv_up v14 108 l3.toNatClampNeg (v14 108 (l3 + (1 : Int32)).toNatClampNeg)) fun v15 =>
  sv_le (l3 + (1 : Int32)) fun x16 =>
  some (.inl (x16, v15))
  else
  some (.inr v)
def f_M_takes_x350 (l1 : Int32) (v : sv_T) : Option ((sv_T) ⊕ (sv_T)) :=
  sv_ck (((32 : Int32) * l1) + (31 : Int32)) 128 <| sv_ls (sv_up v 107 (((32 : Int32) * l1) + (31 : Int32)).toNatClampNeg (0 : Int32)) fun v17 =>
  some (.inl v17)
def f_M_takes_l236 (l1 : Int32) (v : sv_T) : Option ((sv_T) ⊕ (sv_T)) :=
  sv_ck ((32 : Int32) * l1) 128 <|
  if (v 107 ((32 : Int32) * l1).toNatClampNeg) = 0 then
  some (.inr v)
  else
  sv_ck l1 4 <|
  sv_ck ((32 : Int32) * l1) 128 <|
  sv_ck (((32 : Int32) * l1) + (v 105 l1.toNatClampNeg)) 128 <| sv_ls (sv_up v 106 (((32 : Int32) * l1) + (v 105 l1.toNatClampNeg)).toNatClampNeg (v 108 ((32 : Int32) * l1).toNatClampNeg)) fun v10 =>
  sv_ck l1 4 <|
  sv_ck l1 4 <| sv_ls (sv_up v10 105 l1.toNatClampNeg ((v10 105 l1.toNatClampNeg) + (1 : Int32))) fun v11 =>
  sv_ck l1 4 <|
  sv_ck l1 4 <| sv_ls (sv_up v11 99 l1.toNatClampNeg (((v11 99 l1.toNatClampNeg) + (1 : Int32)) &&& (65535 : Int32))) fun v12 =>
  sv_le (((32 : Int32) * l1)) fun x13 =>
  Option.bind (sv_loop (fun (s : Int32 × sv_T) => f_M_takes_l305 l1 s.1 (s.2)) 100000 (x13, v12)) (fun (s : sv_T) => f_M_takes_x350 l1 s)
def f_M_takes_b471 (l1 : Int32) (v : sv_T) : Option (sv_T) :=
  sv_bi (f_M_span  v) fun x19 v18 =>
  if 0 < x19 then
  sv_ck l1 4 <|
  sv_bv (f_M_go l1 (16 : Int32) (v18 98 l1.toNatClampNeg) v18) fun v20 =>
  some v20
  else
  some v18
def f_M_takes_b470 (l1 : Int32) (s0 : Int32) (s1 : Int32) (v : sv_T) : Option (sv_T) :=
  sv_ck s1 4 <| sv_ls (sv_up v 95 s1.toNatClampNeg s0) fun v24 =>
  f_M_takes_b471 l1 v24
def f_M_takes_b432 (l1 : Int32) (s0 : Int32) (s1 : Int32) (v : sv_T) : Option (sv_T) :=
  sv_ck s1 4 <| sv_ls (sv_up v 110 s1.toNatClampNeg s0) fun v23 =>
  sv_ck l1 4 <|
  if (v23 95 l1.toNatClampNeg) = (4 : Int32) then
  f_M_takes_b470 l1 (7 : Int32) l1 v23
  else
  sv_ck l1 4 <|
  if (v23 95 l1.toNatClampNeg) = (5 : Int32) then
  f_M_takes_b470 l1 (8 : Int32) l1 v23
  else
  f_M_takes_b470 l1 (10 : Int32) l1 v23
def f_M_takes_x366 (l1 : Int32) (v : sv_T) : Option (sv_T) :=
  sv_ck l1 4 <|
  sv_ck l1 4 <|
  if (v 109 l1.toNatClampNeg) = (v 99 l1.toNatClampNeg) then
  sv_ck l1 4 <| sv_ls (sv_up v 109 l1.toNatClampNeg (-1 : Int32)) fun v21 =>
  sv_ck l1 4 <|
  sv_ck l1 4 <| sv_ls (sv_up v21 99 l1.toNatClampNeg (((v21 99 l1.toNatClampNeg) + (1 : Int32)) &&& (65535 : Int32))) fun v22 =>
  sv_ck l1 4 <|
  if (v22 95 l1.toNatClampNeg) = (6 : Int32) then
  f_M_takes_b432 l1 (8 : Int32) l1 v22
  else
  sv_ck l1 4 <|
  f_M_takes_b432 l1 (v22 110 l1.toNatClampNeg) l1 v22
  else
  f_M_takes_b471 l1 v
def f_M_takes_x182 (l1 : Int32) (v : sv_T) : Option (sv_T) :=
  sv_bi (f_M_has (1 : Int32) v) fun x9 v8 =>
  if x9 = 0 then
  Option.bind (sv_loop (fun (s : sv_T) => f_M_takes_l236 l1 s) 100000 v8) (fun (s : sv_T) => f_M_takes_x366 l1 s)
  else
  sv_ck l1 4 <|
  sv_bi (f_M_less ((v8 75 46) + (v8 75 49)) (v8 99 l1.toNatClampNeg) v8) fun x26 v25 =>
  sv_bi (f_M_room l1 v25) fun x28 v27 =>
  if x26 < (x28 + (1 : Int32)) then
  sv_ck l1 4 <| sv_ls (sv_up v27 109 l1.toNatClampNeg (((v27 75 46) + (v27 75 49)) &&& (65535 : Int32))) fun v29 =>
  Option.bind (sv_loop (fun (s : sv_T) => f_M_takes_l236 l1 s) 100000 v29) (fun (s : sv_T) => f_M_takes_x366 l1 s)
  else
  Option.bind (sv_loop (fun (s : sv_T) => f_M_takes_l236 l1 s) 100000 v27) (fun (s : sv_T) => f_M_takes_x366 l1 s)
def f_M_takes_b88 (s0 : Int32) (s1 : Int32) (v : sv_T) : Option (sv_T) :=
  sv_ck s1 4 <| sv_ls (sv_up v 110 s1.toNatClampNeg s0) fun v33 =>
  some v33
def f_M_takes_b36 (l1 : Int32) (s0 : Int32) (v : sv_T) : Option (sv_T) :=
  if s0 = 0 then
  sv_bi (f_M_span  v) fun x31 v30 =>
  if 0 < x31 then
  sv_ck l1 4 <|
  sv_bv (f_M_go l1 (16 : Int32) (v30 98 l1.toNatClampNeg) v30) fun v32 =>
  sv_ck l1 4 <|
  if (v32 95 l1.toNatClampNeg) = (10 : Int32) then
  f_M_takes_b88 (8 : Int32) l1 v32
  else
  sv_ck l1 4 <|
  f_M_takes_b88 (v32 110 l1.toNatClampNeg) l1 v32
  else
  some v30
  else
  Option.bind (sv_loop (fun (s : Int32 × sv_T) => f_M_takes_l92 l1 s.1 (s.2)) 100000 ((0 : Int32), v)) (fun (s : sv_T) => f_M_takes_x182 l1 s)
def f_M_takes_b31 (l1 : Int32) (v : sv_T) : Option (sv_T) :=
  f_M_takes_b36 l1 (1 : Int32) v
def f_M_takes (a1 : Int32) (v : sv_T) : Option (sv_T) :=
  sv_ck a1 4 <|
  if (v 95 a1.toNatClampNeg) = (4 : Int32) then
  f_M_takes_b31 a1 v
  else
  sv_ck a1 4 <|
  if (v 95 a1.toNatClampNeg) = (5 : Int32) then
  f_M_takes_b31 a1 v
  else
  sv_ck a1 4 <|
  if (v 95 a1.toNatClampNeg) = (6 : Int32) then
  f_M_takes_b31 a1 v
  else
  f_M_takes_b36 a1 (0 : Int32) v
set_option maxHeartbeats 4000000 in
set_option maxRecDepth 100000 in
theorem c_M_takes_b176 (d : Nat) (l1 : Int32) (l3 : Int32) (v : sv_T)  : sv_Ref (d + 7) 177 176 [some (.ref 75), some (.int l1), none, some (.int l3), none] [] v (f_M_takes_b176 l1 l3 v) (sv_Zl (d + 7) 177 92 (fun (s : Int32 × sv_T) => [some (.ref 75), some (.int l1), none, some (.int s.1), none]) (fun (s : Int32 × sv_T) => s.2) (sv_Zt (d + 7) 177 182 (fun (s : sv_T) => [some (.ref 75), some (.int l1), none, none, none]) (fun (s : sv_T) => s))) := by
  unfold f_M_takes_b176
  refine sv_iinc (ls' := fun x5 => [some (.ref 75), some (.int l1), none, some (.int x5), none]) (y := (1 : Int32)) d_M_takes_176 rfl (by decide) (fun _ => rfl) (fun x5 => ?_)
  refine sv_goto 92 d_M_takes_179 rfl ?_
  exact sv_next (x5, v) ⟨rfl, rfl, rfl, trivial⟩ rfl
set_option maxHeartbeats 4000000 in
set_option maxRecDepth 100000 in
theorem c_M_takes_l92 (d : Nat) (l1 : Int32) (l3 : Int32) (v : sv_T)  : sv_Ref (d + 7) 177 92 [some (.ref 75), some (.int l1), none, some (.int l3), none] [] v (f_M_takes_l92 l1 l3 v) (sv_Zl (d + 7) 177 92 (fun (s : Int32 × sv_T) => [some (.ref 75), some (.int l1), none, some (.int s.1), none]) (fun (s : Int32 × sv_T) => s.2) (sv_Zt (d + 7) 177 182 (fun (s : sv_T) => [some (.ref 75), some (.int l1), none, none, none]) (fun (s : sv_T) => s))) := by
  unfold f_M_takes_l92
  refine sv_iload_n d_M_takes_92 rfl ?_
  refine sv_aload_n d_M_takes_93 rfl ?_
  refine sv_geti d_M_takes_94 (gf_M_246 mc_177) so_75 (sd_10_49 so_75) ?_
  refine sv_icmp_ge 182 d_M_takes_97 rfl ?_ ?_
  · exact sv_leave v rfl ⟨rfl, rfl, trivial⟩ rfl
  · refine sv_aload_n d_M_takes_100 rfl ?_
    refine sv_geti d_M_takes_101 (gf_M_237 mc_177) so_75 (sd_10_46 so_75) ?_
    refine sv_iload_n d_M_takes_104 rfl ?_
    refine sv_iadd d_M_takes_105 ?_
    refine sv_aload_n d_M_takes_106 rfl ?_
    refine sv_getr d_M_takes_107 (gf_M_80 mc_177) so_75 sm_75_24 ?_
    refine sv_iload_n d_M_takes_110 rfl ?_
    refine sv_iald d_M_takes_111 sa_99 ?_
    refine sv_callSi (d := d + 6) (as := [.int ((v 75 46) + l3), .int (v 99 l1.toNatClampNeg)]) d_M_takes_112 (ws_M_218 mc_177)  rfl (Nat.le_of_ble_eq_true rfl) rfl (c_M_less (d + 6) ((v 75 46) + l3) (v 99 l1.toNatClampNeg) v ) (fun x2 v1 => ?_)
    refine sv_istore (ls' := [some (.ref 75), some (.int l1), none, some (.int l3), some (.int x2)]) d_M_takes_115 (by decide) rfl ?_
    refine sv_iload d_M_takes_117 rfl ?_
    refine sv_aload_n d_M_takes_119 rfl ?_
    refine sv_iload_n d_M_takes_120 rfl ?_
    refine sv_callVi (d := d + 6) (as := [.int l1]) d_M_takes_121 (wv_M_202 mc_177) so_75 ⟨_, rfl, rfl⟩ rfl (Nat.le_of_ble_eq_true rfl) rfl (c_M_room (d + 6) l1 v1 ) (fun x4 v3 => ?_)
    refine sv_icmp_ge 176 d_M_takes_124 rfl ?_ ?_
    · refine sv_kill (ls' := [some (.ref 75), some (.int l1), none, some (.int l3), none]) ⟨rfl, rfl, rfl, trivial⟩ ?_
      exact c_M_takes_b176 d l1 l3 v3 
    · refine sv_aload_n d_M_takes_127 rfl ?_
      refine sv_getr d_M_takes_128 (gf_M_104 mc_177) so_75 sm_75_32 ?_
      refine sv_bipush (x := (32 : Int32)) d_M_takes_131 (by decide) ?_
      refine sv_iload_n d_M_takes_133 rfl ?_
      refine sv_imul d_M_takes_134 ?_
      refine sv_iload d_M_takes_135 rfl ?_
      refine sv_iadd d_M_takes_137 ?_
      refine sv_zald d_M_takes_138 sa_107 ?_
      refine sv_if_ne 176 d_M_takes_139 rfl ?_ ?_
      · refine sv_kill (ls' := [some (.ref 75), some (.int l1), none, some (.int l3), none]) ⟨rfl, rfl, rfl, trivial⟩ ?_
        exact c_M_takes_b176 d l1 l3 v3 
      · refine sv_aload_n d_M_takes_142 rfl ?_
        refine sv_getr d_M_takes_143 (gf_M_104 mc_177) so_75 sm_75_32 ?_
        refine sv_bipush (x := (32 : Int32)) d_M_takes_146 (by decide) ?_
        refine sv_iload_n d_M_takes_148 rfl ?_
        refine sv_imul d_M_takes_149 ?_
        refine sv_iload d_M_takes_150 rfl ?_
        refine sv_iadd d_M_takes_152 ?_
        refine sv_iconst (x := (1 : Int32)) d_M_takes_153 (by decide) ?_
        refine sv_zast (y := (1 : Int32)) d_M_takes_154 sa_107 (by decide) (fun v6 => ?_)
        refine sv_aload_n d_M_takes_155 rfl ?_
        refine sv_getr d_M_takes_156 (gf_M_107 mc_177) so_75 sm_75_33 ?_
        refine sv_bipush (x := (32 : Int32)) d_M_takes_159 (by decide) ?_
        refine sv_iload_n d_M_takes_161 rfl ?_
        refine sv_imul d_M_takes_162 ?_
        refine sv_iload d_M_takes_163 rfl ?_
        refine sv_iadd d_M_takes_165 ?_
        refine sv_aload_n d_M_takes_166 rfl ?_
        refine sv_getr d_M_takes_167 (gf_M_125 mc_177) so_75 sm_75_40 ?_
        refine sv_bipush (x := (10 : Int32)) d_M_takes_170 (by decide) ?_
        refine sv_iload_n d_M_takes_172 rfl ?_
        refine sv_iadd d_M_takes_173 ?_
        refine sv_iald d_M_takes_174 sa_114 ?_
        refine sv_iast d_M_takes_175 sa_108 (fun v7 => ?_)
        refine sv_kill (ls' := [some (.ref 75), some (.int l1), none, some (.int l3), none]) ⟨rfl, rfl, rfl, trivial⟩ ?_
        exact c_M_takes_b176 d l1 l3 v7 
set_option maxHeartbeats 4000000 in
set_option maxRecDepth 100000 in
theorem c_M_takes_l305 (d : Nat) (l1 : Int32) (l3 : Int32) (v : sv_T)  : sv_Ref (d + 7) 177 305 [some (.ref 75), some (.int l1), none, some (.int l3), none] [] v (f_M_takes_l305 l1 l3 v) (sv_Zl (d + 7) 177 305 (fun (s : Int32 × sv_T) => [some (.ref 75), some (.int l1), none, some (.int s.1), none]) (fun (s : Int32 × sv_T) => s.2) (sv_Zt (d + 7) 177 350 (fun (s : sv_T) => [some (.ref 75), some (.int l1), none, none, none]) (fun (s : sv_T) => s))) := by
  unfold f_M_takes_l305
  refine sv_iload_n d_M_takes_305 rfl ?_
  refine sv_bipush (x := (32 : Int32)) d_M_takes_306 (by decide) ?_
  refine sv_iload_n d_M_takes_308 rfl ?_
  refine sv_imul d_M_takes_309 ?_
  refine sv_bipush (x := (31 : Int32)) d_M_takes_310 (by decide) ?_
  refine sv_iadd d_M_takes_312 ?_
  refine sv_icmp_ge 350 d_M_takes_313 rfl ?_ ?_
  · exact sv_leave v rfl ⟨rfl, rfl, trivial⟩ rfl
  · refine sv_aload_n d_M_takes_316 rfl ?_
    refine sv_getr d_M_takes_317 (gf_M_104 mc_177) so_75 sm_75_32 ?_
    refine sv_iload_n d_M_takes_320 rfl ?_
    refine sv_aload_n d_M_takes_321 rfl ?_
    refine sv_getr d_M_takes_322 (gf_M_104 mc_177) so_75 sm_75_32 ?_
    refine sv_iload_n d_M_takes_325 rfl ?_
    refine sv_iconst (x := (1 : Int32)) d_M_takes_326 (by decide) ?_
    refine sv_iadd d_M_takes_327 ?_
    refine sv_zald d_M_takes_328 sa_107 ?_
    refine sv_zast (y := (vp_nar .boolean (v 107 (l3 + (1 : Int32)).toNatClampNeg))) d_M_takes_329 sa_107 rfl (fun v14 => ?_)
    refine sv_aload_n d_M_takes_330 rfl ?_
    refine sv_getr d_M_takes_331 (gf_M_107 mc_177) so_75 sm_75_33 ?_
    refine sv_iload_n d_M_takes_334 rfl ?_
    refine sv_aload_n d_M_takes_335 rfl ?_
    refine sv_getr d_M_takes_336 (gf_M_107 mc_177) so_75 sm_75_33 ?_
    refine sv_iload_n d_M_takes_339 rfl ?_
    refine sv_iconst (x := (1 : Int32)) d_M_takes_340 (by decide) ?_
    refine sv_iadd d_M_takes_341 ?_
    refine sv_iald d_M_takes_342 sa_108 ?_
    refine sv_iast d_M_takes_343 sa_108 (fun v15 => ?_)
    refine sv_iinc (ls' := fun x16 => [some (.ref 75), some (.int l1), none, some (.int x16), none]) (y := (1 : Int32)) d_M_takes_344 rfl (by decide) (fun _ => rfl) (fun x16 => ?_)
    refine sv_goto 305 d_M_takes_347 rfl ?_
    exact sv_next (x16, v15) ⟨rfl, rfl, rfl, trivial⟩ rfl
set_option maxHeartbeats 4000000 in
set_option maxRecDepth 100000 in
theorem c_M_takes_x350 (d : Nat) (l1 : Int32) (v : sv_T)  : sv_Ref (d + 7) 177 350 [some (.ref 75), some (.int l1), none, none, none] [] v (f_M_takes_x350 l1 v) (sv_Zl (d + 7) 177 236 (fun (s : sv_T) => [some (.ref 75), some (.int l1), none, none, none]) (fun (s : sv_T) => s) (sv_Zt (d + 7) 177 366 (fun (s : sv_T) => [some (.ref 75), some (.int l1), none, none, none]) (fun (s : sv_T) => s))) := by
  unfold f_M_takes_x350
  refine sv_aload_n d_M_takes_350 rfl ?_
  refine sv_getr d_M_takes_351 (gf_M_104 mc_177) so_75 sm_75_32 ?_
  refine sv_bipush (x := (32 : Int32)) d_M_takes_354 (by decide) ?_
  refine sv_iload_n d_M_takes_356 rfl ?_
  refine sv_imul d_M_takes_357 ?_
  refine sv_bipush (x := (31 : Int32)) d_M_takes_358 (by decide) ?_
  refine sv_iadd d_M_takes_360 ?_
  refine sv_iconst (x := (0 : Int32)) d_M_takes_361 (by decide) ?_
  refine sv_zast (y := (0 : Int32)) d_M_takes_362 sa_107 (by decide) (fun v17 => ?_)
  refine sv_goto 236 d_M_takes_363 rfl ?_
  exact sv_next v17 ⟨rfl, rfl, trivial⟩ rfl
set_option maxHeartbeats 4000000 in
set_option maxRecDepth 100000 in
theorem c_M_takes_l236 (d : Nat) (l1 : Int32) (v : sv_T)  : sv_Ref (d + 7) 177 236 [some (.ref 75), some (.int l1), none, none, none] [] v (f_M_takes_l236 l1 v) (sv_Zl (d + 7) 177 236 (fun (s : sv_T) => [some (.ref 75), some (.int l1), none, none, none]) (fun (s : sv_T) => s) (sv_Zt (d + 7) 177 366 (fun (s : sv_T) => [some (.ref 75), some (.int l1), none, none, none]) (fun (s : sv_T) => s))) := by
  unfold f_M_takes_l236
  refine sv_aload_n d_M_takes_236 rfl ?_
  refine sv_getr d_M_takes_237 (gf_M_104 mc_177) so_75 sm_75_32 ?_
  refine sv_bipush (x := (32 : Int32)) d_M_takes_240 (by decide) ?_
  refine sv_iload_n d_M_takes_242 rfl ?_
  refine sv_imul d_M_takes_243 ?_
  refine sv_zald d_M_takes_244 sa_107 ?_
  refine sv_if_eq 366 d_M_takes_245 rfl ?_ ?_
  · exact sv_leave v rfl ⟨rfl, rfl, trivial⟩ rfl
  · refine sv_aload_n d_M_takes_248 rfl ?_
    refine sv_getr d_M_takes_249 (gf_M_101 mc_177) so_75 sm_75_31 ?_
    refine sv_bipush (x := (32 : Int32)) d_M_takes_252 (by decide) ?_
    refine sv_iload_n d_M_takes_254 rfl ?_
    refine sv_imul d_M_takes_255 ?_
    refine sv_aload_n d_M_takes_256 rfl ?_
    refine sv_getr d_M_takes_257 (gf_M_98 mc_177) so_75 sm_75_30 ?_
    refine sv_iload_n d_M_takes_260 rfl ?_
    refine sv_iald d_M_takes_261 sa_105 ?_
    refine sv_iadd d_M_takes_262 ?_
    refine sv_aload_n d_M_takes_263 rfl ?_
    refine sv_getr d_M_takes_264 (gf_M_107 mc_177) so_75 sm_75_33 ?_
    refine sv_bipush (x := (32 : Int32)) d_M_takes_267 (by decide) ?_
    refine sv_iload_n d_M_takes_269 rfl ?_
    refine sv_imul d_M_takes_270 ?_
    refine sv_iald d_M_takes_271 sa_108 ?_
    refine sv_iast d_M_takes_272 sa_106 (fun v10 => ?_)
    refine sv_aload_n d_M_takes_273 rfl ?_
    refine sv_getr d_M_takes_274 (gf_M_98 mc_177) so_75 sm_75_30 ?_
    refine sv_iload_n d_M_takes_277 rfl ?_
    refine sv_dup2 d_M_takes_278 ?_
    refine sv_iald d_M_takes_279 sa_105 ?_
    refine sv_iconst (x := (1 : Int32)) d_M_takes_280 (by decide) ?_
    refine sv_iadd d_M_takes_281 ?_
    refine sv_iast d_M_takes_282 sa_105 (fun v11 => ?_)
    refine sv_aload_n d_M_takes_283 rfl ?_
    refine sv_getr d_M_takes_284 (gf_M_80 mc_177) so_75 sm_75_24 ?_
    refine sv_iload_n d_M_takes_287 rfl ?_
    refine sv_aload_n d_M_takes_288 rfl ?_
    refine sv_getr d_M_takes_289 (gf_M_80 mc_177) so_75 sm_75_24 ?_
    refine sv_iload_n d_M_takes_292 rfl ?_
    refine sv_iald d_M_takes_293 sa_99 ?_
    refine sv_iconst (x := (1 : Int32)) d_M_takes_294 (by decide) ?_
    refine sv_iadd d_M_takes_295 ?_
    refine sv_ldc d_M_takes_296 tw_1007 ?_
    refine sv_iand d_M_takes_298 ?_
    refine sv_iast d_M_takes_299 sa_99 (fun v12 => ?_)
    refine sv_bipush (x := (32 : Int32)) d_M_takes_300 (by decide) ?_
    refine sv_iload_n d_M_takes_302 rfl ?_
    refine sv_imul d_M_takes_303 ?_
    refine sv_leR (fun x13 => ?_)
    refine sv_istore_n (ls' := [some (.ref 75), some (.int l1), none, some (.int x13), none]) d_M_takes_304 (by decide) rfl ?_
    exact sv_seq (xt := 350) (L := (fun (s : sv_T) => [some (.ref 75), some (.int l1), none, none, none])) (S := (fun (s : sv_T) => s)) (sv_loopR (L := (fun (s : Int32 × sv_T) => [some (.ref 75), some (.int l1), none, some (.int s.1), none])) (S := (fun (s : Int32 × sv_T) => s.2)) (fun s => c_M_takes_l305 d l1 s.1 (s.2) ) 100000 (x13, v12)) (fun s => c_M_takes_x350 d l1 s )
set_option maxHeartbeats 4000000 in
set_option maxRecDepth 100000 in
theorem c_M_takes_b471 (d : Nat) (l1 : Int32) (v : sv_T)  : sv_Ref (d + 7) 177 471 [some (.ref 75), some (.int l1), none, none, none] [] v (f_M_takes_b471 l1 v) (sv_Zv) := by
  unfold f_M_takes_b471
  refine sv_aload_n d_M_takes_471 rfl ?_
  refine sv_callVi (d := d + 6) (as := []) d_M_takes_472 (wv_M_252 mc_177) so_75 ⟨_, rfl, rfl⟩ rfl (Nat.le_of_ble_eq_true rfl) rfl (c_M_span (d + 5)  v ) (fun x19 v18 => ?_)
  refine sv_if_le 491 d_M_takes_475 rfl ?_ ?_
  · exact sv_vret rfl d_M_takes_491
  · refine sv_aload_n d_M_takes_478 rfl ?_
    refine sv_iload_n d_M_takes_479 rfl ?_
    refine sv_bipush (x := (16 : Int32)) d_M_takes_480 (by decide) ?_
    refine sv_aload_n d_M_takes_482 rfl ?_
    refine sv_getr d_M_takes_483 (gf_M_77 mc_177) so_75 sm_75_23 ?_
    refine sv_iload_n d_M_takes_486 rfl ?_
    refine sv_iald d_M_takes_487 sa_98 ?_
    refine sv_callVv (d := d + 6) (as := [.int l1, .int (16 : Int32), .int (v18 98 l1.toNatClampNeg)]) d_M_takes_488 (wv_M_225 mc_177) so_75 ⟨_, rfl, rfl⟩ rfl (Nat.le_of_ble_eq_true rfl) rfl (c_M_go (d + 0) l1 (16 : Int32) (v18 98 l1.toNatClampNeg) v18 ) (fun v20 => ?_)
    exact sv_vret rfl d_M_takes_491
set_option maxHeartbeats 4000000 in
set_option maxRecDepth 100000 in
theorem c_M_takes_b470 (d : Nat) (l1 : Int32) (s0 : Int32) (s1 : Int32) (v : sv_T)  : sv_Ref (d + 7) 177 470 [some (.ref 75), some (.int l1), none, none, none] [.int s0, .int s1, .ref 95] v (f_M_takes_b470 l1 s0 s1 v) (sv_Zv) := by
  unfold f_M_takes_b470
  refine sv_iast d_M_takes_470 sa_95 (fun v24 => ?_)
  exact c_M_takes_b471 d l1 v24 
set_option maxHeartbeats 4000000 in
set_option maxRecDepth 100000 in
theorem c_M_takes_b432 (d : Nat) (l1 : Int32) (s0 : Int32) (s1 : Int32) (v : sv_T)  : sv_Ref (d + 7) 177 432 [some (.ref 75), some (.int l1), none, none, none] [.int s0, .int s1, .ref 110] v (f_M_takes_b432 l1 s0 s1 v) (sv_Zv) := by
  unfold f_M_takes_b432
  refine sv_iast d_M_takes_432 sa_110 (fun v23 => ?_)
  refine sv_aload_n d_M_takes_433 rfl ?_
  refine sv_getr d_M_takes_434 (gf_M_68 mc_177) so_75 sm_75_20 ?_
  refine sv_iload_n d_M_takes_437 rfl ?_
  refine sv_aload_n d_M_takes_438 rfl ?_
  refine sv_getr d_M_takes_439 (gf_M_68 mc_177) so_75 sm_75_20 ?_
  refine sv_iload_n d_M_takes_442 rfl ?_
  refine sv_iald d_M_takes_443 sa_95 ?_
  refine sv_iconst (x := (4 : Int32)) d_M_takes_444 (by decide) ?_
  refine sv_icmp_ne 453 d_M_takes_445 rfl ?_ ?_
  · refine sv_aload_n d_M_takes_453 rfl ?_
    refine sv_getr d_M_takes_454 (gf_M_68 mc_177) so_75 sm_75_20 ?_
    refine sv_iload_n d_M_takes_457 rfl ?_
    refine sv_iald d_M_takes_458 sa_95 ?_
    refine sv_iconst (x := (5 : Int32)) d_M_takes_459 (by decide) ?_
    refine sv_icmp_ne 468 d_M_takes_460 rfl ?_ ?_
    · refine sv_bipush (x := (10 : Int32)) d_M_takes_468 (by decide) ?_
      exact c_M_takes_b470 d l1 (10 : Int32) l1 v23 
    · refine sv_bipush (x := (8 : Int32)) d_M_takes_463 (by decide) ?_
      refine sv_goto 470 d_M_takes_465 rfl ?_
      exact c_M_takes_b470 d l1 (8 : Int32) l1 v23 
  · refine sv_bipush (x := (7 : Int32)) d_M_takes_448 (by decide) ?_
    refine sv_goto 470 d_M_takes_450 rfl ?_
    exact c_M_takes_b470 d l1 (7 : Int32) l1 v23 
set_option maxHeartbeats 4000000 in
set_option maxRecDepth 100000 in
theorem c_M_takes_x366 (d : Nat) (l1 : Int32) (v : sv_T)  : sv_Ref (d + 7) 177 366 [some (.ref 75), some (.int l1), none, none, none] [] v (f_M_takes_x366 l1 v) (sv_Zv) := by
  unfold f_M_takes_x366
  refine sv_aload_n d_M_takes_366 rfl ?_
  refine sv_getr d_M_takes_367 (gf_M_110 mc_177) so_75 sm_75_34 ?_
  refine sv_iload_n d_M_takes_370 rfl ?_
  refine sv_iald d_M_takes_371 sa_109 ?_
  refine sv_aload_n d_M_takes_372 rfl ?_
  refine sv_getr d_M_takes_373 (gf_M_80 mc_177) so_75 sm_75_24 ?_
  refine sv_iload_n d_M_takes_376 rfl ?_
  refine sv_iald d_M_takes_377 sa_99 ?_
  refine sv_icmp_ne 471 d_M_takes_378 rfl ?_ ?_
  · exact c_M_takes_b471 d l1 v 
  · refine sv_aload_n d_M_takes_381 rfl ?_
    refine sv_getr d_M_takes_382 (gf_M_110 mc_177) so_75 sm_75_34 ?_
    refine sv_iload_n d_M_takes_385 rfl ?_
    refine sv_iconst (x := (-1 : Int32)) d_M_takes_386 (by decide) ?_
    refine sv_iast d_M_takes_387 sa_109 (fun v21 => ?_)
    refine sv_aload_n d_M_takes_388 rfl ?_
    refine sv_getr d_M_takes_389 (gf_M_80 mc_177) so_75 sm_75_24 ?_
    refine sv_iload_n d_M_takes_392 rfl ?_
    refine sv_aload_n d_M_takes_393 rfl ?_
    refine sv_getr d_M_takes_394 (gf_M_80 mc_177) so_75 sm_75_24 ?_
    refine sv_iload_n d_M_takes_397 rfl ?_
    refine sv_iald d_M_takes_398 sa_99 ?_
    refine sv_iconst (x := (1 : Int32)) d_M_takes_399 (by decide) ?_
    refine sv_iadd d_M_takes_400 ?_
    refine sv_ldc d_M_takes_401 tw_1007 ?_
    refine sv_iand d_M_takes_403 ?_
    refine sv_iast d_M_takes_404 sa_99 (fun v22 => ?_)
    refine sv_aload_n d_M_takes_405 rfl ?_
    refine sv_getr d_M_takes_406 (gf_M_113 mc_177) so_75 sm_75_35 ?_
    refine sv_iload_n d_M_takes_409 rfl ?_
    refine sv_aload_n d_M_takes_410 rfl ?_
    refine sv_getr d_M_takes_411 (gf_M_68 mc_177) so_75 sm_75_20 ?_
    refine sv_iload_n d_M_takes_414 rfl ?_
    refine sv_iald d_M_takes_415 sa_95 ?_
    refine sv_bipush (x := (6 : Int32)) d_M_takes_416 (by decide) ?_
    refine sv_icmp_ne 426 d_M_takes_418 rfl ?_ ?_
    · refine sv_aload_n d_M_takes_426 rfl ?_
      refine sv_getr d_M_takes_427 (gf_M_113 mc_177) so_75 sm_75_35 ?_
      refine sv_iload_n d_M_takes_430 rfl ?_
      refine sv_iald d_M_takes_431 sa_110 ?_
      exact c_M_takes_b432 d l1 (v22 110 l1.toNatClampNeg) l1 v22 
    · refine sv_bipush (x := (8 : Int32)) d_M_takes_421 (by decide) ?_
      refine sv_goto 432 d_M_takes_423 rfl ?_
      exact c_M_takes_b432 d l1 (8 : Int32) l1 v22 
set_option maxHeartbeats 4000000 in
set_option maxRecDepth 100000 in
theorem c_M_takes_x182 (d : Nat) (l1 : Int32) (v : sv_T)  : sv_Ref (d + 7) 177 182 [some (.ref 75), some (.int l1), none, none, none] [] v (f_M_takes_x182 l1 v) (sv_Zv) := by
  unfold f_M_takes_x182
  refine sv_aload_n d_M_takes_182 rfl ?_
  refine sv_iconst (x := (1 : Int32)) d_M_takes_183 (by decide) ?_
  refine sv_callVi (d := d + 6) (as := [.int (1 : Int32)]) d_M_takes_184 (wv_M_249 mc_177) so_75 ⟨_, rfl, rfl⟩ rfl (Nat.le_of_ble_eq_true rfl) rfl (c_M_has (d + 6) (1 : Int32) v ) (fun x9 v8 => ?_)
  refine sv_if_eq 236 d_M_takes_187 rfl ?_ ?_
  · exact sv_seq (xt := 366) (L := (fun (s : sv_T) => [some (.ref 75), some (.int l1), none, none, none])) (S := (fun (s : sv_T) => s)) (sv_loopR (L := (fun (s : sv_T) => [some (.ref 75), some (.int l1), none, none, none])) (S := (fun (s : sv_T) => s)) (fun s => c_M_takes_l236 d l1 s ) 100000 v8) (fun s => c_M_takes_x366 d l1 s )
  · refine sv_aload_n d_M_takes_190 rfl ?_
    refine sv_geti d_M_takes_191 (gf_M_237 mc_177) so_75 (sd_10_46 so_75) ?_
    refine sv_aload_n d_M_takes_194 rfl ?_
    refine sv_geti d_M_takes_195 (gf_M_246 mc_177) so_75 (sd_10_49 so_75) ?_
    refine sv_iadd d_M_takes_198 ?_
    refine sv_aload_n d_M_takes_199 rfl ?_
    refine sv_getr d_M_takes_200 (gf_M_80 mc_177) so_75 sm_75_24 ?_
    refine sv_iload_n d_M_takes_203 rfl ?_
    refine sv_iald d_M_takes_204 sa_99 ?_
    refine sv_callSi (d := d + 6) (as := [.int ((v8 75 46) + (v8 75 49)), .int (v8 99 l1.toNatClampNeg)]) d_M_takes_205 (ws_M_218 mc_177)  rfl (Nat.le_of_ble_eq_true rfl) rfl (c_M_less (d + 6) ((v8 75 46) + (v8 75 49)) (v8 99 l1.toNatClampNeg) v8 ) (fun x26 v25 => ?_)
    refine sv_aload_n d_M_takes_208 rfl ?_
    refine sv_iload_n d_M_takes_209 rfl ?_
    refine sv_callVi (d := d + 6) (as := [.int l1]) d_M_takes_210 (wv_M_202 mc_177) so_75 ⟨_, rfl, rfl⟩ rfl (Nat.le_of_ble_eq_true rfl) rfl (c_M_room (d + 6) l1 v25 ) (fun x28 v27 => ?_)
    refine sv_iconst (x := (1 : Int32)) d_M_takes_213 (by decide) ?_
    refine sv_iadd d_M_takes_214 ?_
    refine sv_icmp_ge 236 d_M_takes_215 rfl ?_ ?_
    · exact sv_seq (xt := 366) (L := (fun (s : sv_T) => [some (.ref 75), some (.int l1), none, none, none])) (S := (fun (s : sv_T) => s)) (sv_loopR (L := (fun (s : sv_T) => [some (.ref 75), some (.int l1), none, none, none])) (S := (fun (s : sv_T) => s)) (fun s => c_M_takes_l236 d l1 s ) 100000 v27) (fun s => c_M_takes_x366 d l1 s )
    · refine sv_aload_n d_M_takes_218 rfl ?_
      refine sv_getr d_M_takes_219 (gf_M_110 mc_177) so_75 sm_75_34 ?_
      refine sv_iload_n d_M_takes_222 rfl ?_
      refine sv_aload_n d_M_takes_223 rfl ?_
      refine sv_geti d_M_takes_224 (gf_M_237 mc_177) so_75 (sd_10_46 so_75) ?_
      refine sv_aload_n d_M_takes_227 rfl ?_
      refine sv_geti d_M_takes_228 (gf_M_246 mc_177) so_75 (sd_10_49 so_75) ?_
      refine sv_iadd d_M_takes_231 ?_
      refine sv_ldc d_M_takes_232 tw_1007 ?_
      refine sv_iand d_M_takes_234 ?_
      refine sv_iast d_M_takes_235 sa_109 (fun v29 => ?_)
      exact sv_seq (xt := 366) (L := (fun (s : sv_T) => [some (.ref 75), some (.int l1), none, none, none])) (S := (fun (s : sv_T) => s)) (sv_loopR (L := (fun (s : sv_T) => [some (.ref 75), some (.int l1), none, none, none])) (S := (fun (s : sv_T) => s)) (fun s => c_M_takes_l236 d l1 s ) 100000 v29) (fun s => c_M_takes_x366 d l1 s )
set_option maxHeartbeats 4000000 in
set_option maxRecDepth 100000 in
theorem c_M_takes_b88 (d : Nat) (s0 : Int32) (s1 : Int32) (v : sv_T)  : sv_Ref (d + 7) 177 88 [none, none, none, none, none] [.int s0, .int s1, .ref 110] v (f_M_takes_b88 s0 s1 v) (sv_Zv) := by
  unfold f_M_takes_b88
  refine sv_iast d_M_takes_88 sa_110 (fun v33 => ?_)
  exact sv_vret rfl d_M_takes_89
set_option maxHeartbeats 4000000 in
set_option maxRecDepth 100000 in
theorem c_M_takes_b36 (d : Nat) (l1 : Int32) (s0 : Int32) (v : sv_T)  : sv_Ref (d + 7) 177 36 [some (.ref 75), some (.int l1), none, none, none] [.int s0] v (f_M_takes_b36 l1 s0 v) (sv_Zv) := by
  unfold f_M_takes_b36
  refine sv_istore_n (ls' := [some (.ref 75), some (.int l1), some (.int s0), none, none]) d_M_takes_36 (by decide) rfl ?_
  refine sv_iload_n d_M_takes_37 rfl ?_
  refine sv_if_ne 90 d_M_takes_38 rfl ?_ ?_
  · refine sv_iconst (x := (0 : Int32)) d_M_takes_90 (by decide) ?_
    refine sv_istore_n (ls' := [some (.ref 75), some (.int l1), some (.int s0), some (.int (0 : Int32)), none]) d_M_takes_91 (by decide) rfl ?_
    refine sv_kill (ls' := [some (.ref 75), some (.int l1), none, some (.int (0 : Int32)), none]) ⟨rfl, rfl, rfl, trivial⟩ ?_
    exact sv_seq (xt := 182) (L := (fun (s : sv_T) => [some (.ref 75), some (.int l1), none, none, none])) (S := (fun (s : sv_T) => s)) (sv_loopR (L := (fun (s : Int32 × sv_T) => [some (.ref 75), some (.int l1), none, some (.int s.1), none])) (S := (fun (s : Int32 × sv_T) => s.2)) (fun s => c_M_takes_l92 d l1 s.1 (s.2) ) 100000 ((0 : Int32), v)) (fun s => c_M_takes_x182 d l1 s )
  · refine sv_aload_n d_M_takes_41 rfl ?_
    refine sv_callVi (d := d + 6) (as := []) d_M_takes_42 (wv_M_252 mc_177) so_75 ⟨_, rfl, rfl⟩ rfl (Nat.le_of_ble_eq_true rfl) rfl (c_M_span (d + 5)  v ) (fun x31 v30 => ?_)
    refine sv_if_le 89 d_M_takes_45 rfl ?_ ?_
    · exact sv_vret rfl d_M_takes_89
    · refine sv_aload_n d_M_takes_48 rfl ?_
      refine sv_iload_n d_M_takes_49 rfl ?_
      refine sv_bipush (x := (16 : Int32)) d_M_takes_50 (by decide) ?_
      refine sv_aload_n d_M_takes_52 rfl ?_
      refine sv_getr d_M_takes_53 (gf_M_77 mc_177) so_75 sm_75_23 ?_
      refine sv_iload_n d_M_takes_56 rfl ?_
      refine sv_iald d_M_takes_57 sa_98 ?_
      refine sv_callVv (d := d + 6) (as := [.int l1, .int (16 : Int32), .int (v30 98 l1.toNatClampNeg)]) d_M_takes_58 (wv_M_225 mc_177) so_75 ⟨_, rfl, rfl⟩ rfl (Nat.le_of_ble_eq_true rfl) rfl (c_M_go (d + 0) l1 (16 : Int32) (v30 98 l1.toNatClampNeg) v30 ) (fun v32 => ?_)
      refine sv_aload_n d_M_takes_61 rfl ?_
      refine sv_getr d_M_takes_62 (gf_M_113 mc_177) so_75 sm_75_35 ?_
      refine sv_iload_n d_M_takes_65 rfl ?_
      refine sv_aload_n d_M_takes_66 rfl ?_
      refine sv_getr d_M_takes_67 (gf_M_68 mc_177) so_75 sm_75_20 ?_
      refine sv_iload_n d_M_takes_70 rfl ?_
      refine sv_iald d_M_takes_71 sa_95 ?_
      refine sv_bipush (x := (10 : Int32)) d_M_takes_72 (by decide) ?_
      refine sv_icmp_ne 82 d_M_takes_74 rfl ?_ ?_
      · refine sv_aload_n d_M_takes_82 rfl ?_
        refine sv_getr d_M_takes_83 (gf_M_113 mc_177) so_75 sm_75_35 ?_
        refine sv_iload_n d_M_takes_86 rfl ?_
        refine sv_iald d_M_takes_87 sa_110 ?_
        refine sv_kill (ls' := [none, none, none, none, none]) trivial ?_
        exact c_M_takes_b88 d (v32 110 l1.toNatClampNeg) l1 v32 
      · refine sv_bipush (x := (8 : Int32)) d_M_takes_77 (by decide) ?_
        refine sv_goto 88 d_M_takes_79 rfl ?_
        refine sv_kill (ls' := [none, none, none, none, none]) trivial ?_
        exact c_M_takes_b88 d (8 : Int32) l1 v32 
set_option maxHeartbeats 4000000 in
set_option maxRecDepth 100000 in
theorem c_M_takes_b31 (d : Nat) (l1 : Int32) (v : sv_T)  : sv_Ref (d + 7) 177 31 [some (.ref 75), some (.int l1), none, none, none] [] v (f_M_takes_b31 l1 v) (sv_Zv) := by
  unfold f_M_takes_b31
  refine sv_iconst (x := (1 : Int32)) d_M_takes_31 (by decide) ?_
  refine sv_goto 36 d_M_takes_32 rfl ?_
  exact c_M_takes_b36 d l1 (1 : Int32) v 
set_option maxHeartbeats 4000000 in
set_option maxRecDepth 100000 in
theorem c_M_takes (d : Nat) (a1 : Int32) (v : sv_T)  : sv_Cl (d + 7) 177 [.ref 75, .int a1] v (f_M_takes a1 v) sv_Zv := by
  refine sv_spec (ls0 := [some (.ref 75), some (.int a1), none, none, none]) mp_177 (Nat.le_of_ble_eq_true rfl) rfl ?_
  unfold f_M_takes
  refine sv_aload_n d_M_takes_0 rfl ?_
  refine sv_getr d_M_takes_1 (gf_M_68 mc_177) so_75 sm_75_20 ?_
  refine sv_iload_n d_M_takes_4 rfl ?_
  refine sv_iald d_M_takes_5 sa_95 ?_
  refine sv_iconst (x := (4 : Int32)) d_M_takes_6 (by decide) ?_
  refine sv_icmp_eq 31 d_M_takes_7 rfl ?_ ?_
  · exact c_M_takes_b31 d a1 v 
  · refine sv_aload_n d_M_takes_10 rfl ?_
    refine sv_getr d_M_takes_11 (gf_M_68 mc_177) so_75 sm_75_20 ?_
    refine sv_iload_n d_M_takes_14 rfl ?_
    refine sv_iald d_M_takes_15 sa_95 ?_
    refine sv_iconst (x := (5 : Int32)) d_M_takes_16 (by decide) ?_
    refine sv_icmp_eq 31 d_M_takes_17 rfl ?_ ?_
    · exact c_M_takes_b31 d a1 v 
    · refine sv_aload_n d_M_takes_20 rfl ?_
      refine sv_getr d_M_takes_21 (gf_M_68 mc_177) so_75 sm_75_20 ?_
      refine sv_iload_n d_M_takes_24 rfl ?_
      refine sv_iald d_M_takes_25 sa_95 ?_
      refine sv_bipush (x := (6 : Int32)) d_M_takes_26 (by decide) ?_
      refine sv_icmp_ne 35 d_M_takes_28 rfl ?_ ?_
      · refine sv_iconst (x := (0 : Int32)) d_M_takes_35 (by decide) ?_
        exact c_M_takes_b36 d a1 (0 : Int32) v 
      · exact c_M_takes_b31 d a1 v 
def f_M_other_b170 (l1 : Int32) (s0 : Int32) (s1 : Int32) (v : sv_T) : Option (sv_T) :=
  sv_ck s1 4 <| sv_ls (sv_up v 95 s1.toNatClampNeg s0) fun v9 =>
  sv_bi (f_M_confirms l1 v9) fun x11 v10 =>
  if x11 = 0 then
  some v10
  else
  sv_bi (f_M_ends l1 v10) fun x13 v12 =>
  if x13 = 0 then
  sv_bv (f_M_takes l1 v12) fun v14 =>
  sv_bv (f_M_push l1 v14) fun v15 =>
  some v15
  else
  some v12
def f_M_other_b145 (l1 : Int32) (v : sv_T) : Option (sv_T) :=
  sv_ck l1 4 <|
  if (v 95 l1.toNatClampNeg) = (3 : Int32) then
  f_M_other_b170 l1 (4 : Int32) l1 v
  else
  sv_ck l1 4 <|
  f_M_other_b170 l1 (v 95 l1.toNatClampNeg) l1 v
def f_M_other_b56 (s0 : Int32) (s1 : Int32) (v : sv_T) : Option (sv_T) :=
  sv_ck s1 4 <| sv_ls (sv_up v 110 s1.toNatClampNeg s0) fun v22 =>
  some v22
def f_M_other_b29 (l1 : Int32) (v : sv_T) : Option (sv_T) :=
  sv_ck l1 4 <|
  if (v 95 l1.toNatClampNeg) = (10 : Int32) then
  f_M_other_b56 (8 : Int32) l1 v
  else
  sv_ck l1 4 <|
  f_M_other_b56 (v 110 l1.toNatClampNeg) l1 v
def f_M_other (a1 : Int32) (v : sv_T) : Option (sv_T) :=
  sv_bi (f_M_fits a1 v) fun x2 v1 =>
  if x2 = 0 then
  sv_bi (f_M_has (4 : Int32) v1) fun x21 v20 =>
  if x21 = 0 then
  sv_ck a1 4 <|
  sv_bv (f_M_go a1 (16 : Int32) (v20 98 a1.toNatClampNeg) v20) fun v23 =>
  f_M_other_b29 a1 v23
  else
  f_M_other_b29 a1 v20
  else
  sv_bi (f_M_has (4 : Int32) v1) fun x4 v3 =>
  if x4 = 0 then
  sv_bi (f_M_has (2 : Int32) v3) fun x6 v5 =>
  if x6 = 0 then
  sv_bi (f_M_has (16 : Int32) v5) fun x8 v7 =>
  if x8 = 0 then
  some v7
  else
  sv_ck a1 4 <|
  if (v7 95 a1.toNatClampNeg) = (3 : Int32) then
  sv_ck a1 4 <|
  if (v7 75 47) = (v7 98 a1.toNatClampNeg) then
  f_M_other_b145 a1 v7
  else
  sv_bv (f_M_go a1 (4 : Int32) (v7 75 47) v7) fun v16 =>
  some v16
  else
  f_M_other_b145 a1 v7
  else
  sv_ck a1 4 <|
  sv_bv (f_M_go a1 (4 : Int32) (v5 98 a1.toNatClampNeg) v5) fun v17 =>
  sv_bv (f_M_closes a1 v17) fun v18 =>
  some v18
  else
  sv_bv (f_M_closes a1 v3) fun v19 =>
  some v19
set_option maxHeartbeats 4000000 in
set_option maxRecDepth 100000 in
theorem c_M_other_b170 (d : Nat) (l1 : Int32) (s0 : Int32) (s1 : Int32) (v : sv_T)  : sv_Ref (d + 8) 173 170 [some (.ref 75), some (.int l1)] [.int s0, .int s1, .ref 95] v (f_M_other_b170 l1 s0 s1 v) (sv_Zv) := by
  unfold f_M_other_b170
  refine sv_iast d_M_other_170 sa_95 (fun v9 => ?_)
  refine sv_aload_n d_M_other_171 rfl ?_
  refine sv_iload_n d_M_other_172 rfl ?_
  refine sv_callVi (d := d + 7) (as := [.int l1]) d_M_other_173 (wv_M_273 mc_173) so_75 ⟨_, rfl, rfl⟩ rfl (Nat.le_of_ble_eq_true rfl) rfl (c_M_confirms (d + 0) l1 v9 ) (fun x11 v10 => ?_)
  refine sv_if_eq 197 d_M_other_176 rfl ?_ ?_
  · exact sv_vret rfl d_M_other_197
  · refine sv_aload_n d_M_other_179 rfl ?_
    refine sv_iload_n d_M_other_180 rfl ?_
    refine sv_callVi (d := d + 7) (as := [.int l1]) d_M_other_181 (wv_M_276 mc_173) so_75 ⟨_, rfl, rfl⟩ rfl (Nat.le_of_ble_eq_true rfl) rfl (c_M_ends (d + 5) l1 v10 ) (fun x13 v12 => ?_)
    refine sv_if_ne 197 d_M_other_184 rfl ?_ ?_
    · exact sv_vret rfl d_M_other_197
    · refine sv_aload_n d_M_other_187 rfl ?_
      refine sv_iload_n d_M_other_188 rfl ?_
      refine sv_callVv (d := d + 7) (as := [.int l1]) d_M_other_189 (wv_M_279 mc_173) so_75 ⟨_, rfl, rfl⟩ rfl (Nat.le_of_ble_eq_true rfl) rfl (c_M_takes (d + 0) l1 v12 ) (fun v14 => ?_)
      refine sv_aload_n d_M_other_192 rfl ?_
      refine sv_iload_n d_M_other_193 rfl ?_
      refine sv_callVv (d := d + 7) (as := [.int l1]) d_M_other_194 (wv_M_267 mc_173) so_75 ⟨_, rfl, rfl⟩ rfl (Nat.le_of_ble_eq_true rfl) rfl (c_M_push (d + 0) l1 v14 ) (fun v15 => ?_)
      exact sv_vret rfl d_M_other_197
set_option maxHeartbeats 4000000 in
set_option maxRecDepth 100000 in
theorem c_M_other_b145 (d : Nat) (l1 : Int32) (v : sv_T)  : sv_Ref (d + 8) 173 145 [some (.ref 75), some (.int l1)] [] v (f_M_other_b145 l1 v) (sv_Zv) := by
  unfold f_M_other_b145
  refine sv_aload_n d_M_other_145 rfl ?_
  refine sv_getr d_M_other_146 (gf_M_68 mc_173) so_75 sm_75_20 ?_
  refine sv_iload_n d_M_other_149 rfl ?_
  refine sv_aload_n d_M_other_150 rfl ?_
  refine sv_getr d_M_other_151 (gf_M_68 mc_173) so_75 sm_75_20 ?_
  refine sv_iload_n d_M_other_154 rfl ?_
  refine sv_iald d_M_other_155 sa_95 ?_
  refine sv_iconst (x := (3 : Int32)) d_M_other_156 (by decide) ?_
  refine sv_icmp_ne 164 d_M_other_157 rfl ?_ ?_
  · refine sv_aload_n d_M_other_164 rfl ?_
    refine sv_getr d_M_other_165 (gf_M_68 mc_173) so_75 sm_75_20 ?_
    refine sv_iload_n d_M_other_168 rfl ?_
    refine sv_iald d_M_other_169 sa_95 ?_
    exact c_M_other_b170 d l1 (v 95 l1.toNatClampNeg) l1 v 
  · refine sv_iconst (x := (4 : Int32)) d_M_other_160 (by decide) ?_
    refine sv_goto 170 d_M_other_161 rfl ?_
    exact c_M_other_b170 d l1 (4 : Int32) l1 v 
set_option maxHeartbeats 4000000 in
set_option maxRecDepth 100000 in
theorem c_M_other_b56 (d : Nat) (s0 : Int32) (s1 : Int32) (v : sv_T)  : sv_Ref (d + 8) 173 56 [none, none] [.int s0, .int s1, .ref 110] v (f_M_other_b56 s0 s1 v) (sv_Zv) := by
  unfold f_M_other_b56
  refine sv_iast d_M_other_56 sa_110 (fun v22 => ?_)
  exact sv_vret rfl d_M_other_57
set_option maxHeartbeats 4000000 in
set_option maxRecDepth 100000 in
theorem c_M_other_b29 (d : Nat) (l1 : Int32) (v : sv_T)  : sv_Ref (d + 8) 173 29 [some (.ref 75), some (.int l1)] [] v (f_M_other_b29 l1 v) (sv_Zv) := by
  unfold f_M_other_b29
  refine sv_aload_n d_M_other_29 rfl ?_
  refine sv_getr d_M_other_30 (gf_M_113 mc_173) so_75 sm_75_35 ?_
  refine sv_iload_n d_M_other_33 rfl ?_
  refine sv_aload_n d_M_other_34 rfl ?_
  refine sv_getr d_M_other_35 (gf_M_68 mc_173) so_75 sm_75_20 ?_
  refine sv_iload_n d_M_other_38 rfl ?_
  refine sv_iald d_M_other_39 sa_95 ?_
  refine sv_bipush (x := (10 : Int32)) d_M_other_40 (by decide) ?_
  refine sv_icmp_ne 50 d_M_other_42 rfl ?_ ?_
  · refine sv_aload_n d_M_other_50 rfl ?_
    refine sv_getr d_M_other_51 (gf_M_113 mc_173) so_75 sm_75_35 ?_
    refine sv_iload_n d_M_other_54 rfl ?_
    refine sv_iald d_M_other_55 sa_110 ?_
    refine sv_kill (ls' := [none, none]) trivial ?_
    exact c_M_other_b56 d (v 110 l1.toNatClampNeg) l1 v 
  · refine sv_bipush (x := (8 : Int32)) d_M_other_45 (by decide) ?_
    refine sv_goto 56 d_M_other_47 rfl ?_
    refine sv_kill (ls' := [none, none]) trivial ?_
    exact c_M_other_b56 d (8 : Int32) l1 v 
set_option maxHeartbeats 4000000 in
set_option maxRecDepth 100000 in
theorem c_M_other (d : Nat) (a1 : Int32) (v : sv_T)  : sv_Cl (d + 8) 173 [.ref 75, .int a1] v (f_M_other a1 v) sv_Zv := by
  refine sv_spec (ls0 := [some (.ref 75), some (.int a1)]) mp_173 (Nat.le_of_ble_eq_true rfl) rfl ?_
  unfold f_M_other
  refine sv_aload_n d_M_other_0 rfl ?_
  refine sv_iload_n d_M_other_1 rfl ?_
  refine sv_callVi (d := d + 7) (as := [.int a1]) d_M_other_2 (wv_M_270 mc_173) so_75 ⟨_, rfl, rfl⟩ rfl (Nat.le_of_ble_eq_true rfl) rfl (c_M_fits (d + 5) a1 v ) (fun x2 v1 => ?_)
  refine sv_if_ne 58 d_M_other_5 rfl ?_ ?_
  · refine sv_aload_n d_M_other_58 rfl ?_
    refine sv_iconst (x := (4 : Int32)) d_M_other_59 (by decide) ?_
    refine sv_callVi (d := d + 7) (as := [.int (4 : Int32)]) d_M_other_60 (wv_M_249 mc_173) so_75 ⟨_, rfl, rfl⟩ rfl (Nat.le_of_ble_eq_true rfl) rfl (c_M_has (d + 7) (4 : Int32) v1 ) (fun x4 v3 => ?_)
    refine sv_if_eq 74 d_M_other_63 rfl ?_ ?_
    · refine sv_aload_n d_M_other_74 rfl ?_
      refine sv_iconst (x := (2 : Int32)) d_M_other_75 (by decide) ?_
      refine sv_callVi (d := d + 7) (as := [.int (2 : Int32)]) d_M_other_76 (wv_M_249 mc_173) so_75 ⟨_, rfl, rfl⟩ rfl (Nat.le_of_ble_eq_true rfl) rfl (c_M_has (d + 7) (2 : Int32) v3 ) (fun x6 v5 => ?_)
      refine sv_if_eq 102 d_M_other_79 rfl ?_ ?_
      · refine sv_aload_n d_M_other_102 rfl ?_
        refine sv_bipush (x := (16 : Int32)) d_M_other_103 (by decide) ?_
        refine sv_callVi (d := d + 7) (as := [.int (16 : Int32)]) d_M_other_105 (wv_M_249 mc_173) so_75 ⟨_, rfl, rfl⟩ rfl (Nat.le_of_ble_eq_true rfl) rfl (c_M_has (d + 7) (16 : Int32) v5 ) (fun x8 v7 => ?_)
        refine sv_if_eq 197 d_M_other_108 rfl ?_ ?_
        · exact sv_vret rfl d_M_other_197
        · refine sv_aload_n d_M_other_111 rfl ?_
          refine sv_getr d_M_other_112 (gf_M_68 mc_173) so_75 sm_75_20 ?_
          refine sv_iload_n d_M_other_115 rfl ?_
          refine sv_iald d_M_other_116 sa_95 ?_
          refine sv_iconst (x := (3 : Int32)) d_M_other_117 (by decide) ?_
          refine sv_icmp_ne 145 d_M_other_118 rfl ?_ ?_
          · exact c_M_other_b145 d a1 v7 
          · refine sv_aload_n d_M_other_121 rfl ?_
            refine sv_geti d_M_other_122 (gf_M_240 mc_173) so_75 (sd_10_47 so_75) ?_
            refine sv_aload_n d_M_other_125 rfl ?_
            refine sv_getr d_M_other_126 (gf_M_77 mc_173) so_75 sm_75_23 ?_
            refine sv_iload_n d_M_other_129 rfl ?_
            refine sv_iald d_M_other_130 sa_98 ?_
            refine sv_icmp_eq 145 d_M_other_131 rfl ?_ ?_
            · exact c_M_other_b145 d a1 v7 
            · refine sv_aload_n d_M_other_134 rfl ?_
              refine sv_iload_n d_M_other_135 rfl ?_
              refine sv_iconst (x := (4 : Int32)) d_M_other_136 (by decide) ?_
              refine sv_aload_n d_M_other_137 rfl ?_
              refine sv_geti d_M_other_138 (gf_M_240 mc_173) so_75 (sd_10_47 so_75) ?_
              refine sv_callVv (d := d + 7) (as := [.int a1, .int (4 : Int32), .int (v7 75 47)]) d_M_other_141 (wv_M_225 mc_173) so_75 ⟨_, rfl, rfl⟩ rfl (Nat.le_of_ble_eq_true rfl) rfl (c_M_go (d + 1) a1 (4 : Int32) (v7 75 47) v7 ) (fun v16 => ?_)
              exact sv_vret rfl d_M_other_144
      · refine sv_aload_n d_M_other_82 rfl ?_
        refine sv_iload_n d_M_other_83 rfl ?_
        refine sv_iconst (x := (4 : Int32)) d_M_other_84 (by decide) ?_
        refine sv_aload_n d_M_other_85 rfl ?_
        refine sv_getr d_M_other_86 (gf_M_77 mc_173) so_75 sm_75_23 ?_
        refine sv_iload_n d_M_other_89 rfl ?_
        refine sv_iald d_M_other_90 sa_98 ?_
        refine sv_callVv (d := d + 7) (as := [.int a1, .int (4 : Int32), .int (v5 98 a1.toNatClampNeg)]) d_M_other_91 (wv_M_225 mc_173) so_75 ⟨_, rfl, rfl⟩ rfl (Nat.le_of_ble_eq_true rfl) rfl (c_M_go (d + 1) a1 (4 : Int32) (v5 98 a1.toNatClampNeg) v5 ) (fun v17 => ?_)
        refine sv_aload_n d_M_other_94 rfl ?_
        refine sv_iload_n d_M_other_95 rfl ?_
        refine sv_callVv (d := d + 7) (as := [.int a1]) d_M_other_96 (wv_M_228 mc_173) so_75 ⟨_, rfl, rfl⟩ rfl (Nat.le_of_ble_eq_true rfl) rfl (c_M_closes (d + 6) a1 v17 ) (fun v18 => ?_)
        refine sv_goto 197 d_M_other_99 rfl ?_
        exact sv_vret rfl d_M_other_197
    · refine sv_aload_n d_M_other_66 rfl ?_
      refine sv_iload_n d_M_other_67 rfl ?_
      refine sv_callVv (d := d + 7) (as := [.int a1]) d_M_other_68 (wv_M_228 mc_173) so_75 ⟨_, rfl, rfl⟩ rfl (Nat.le_of_ble_eq_true rfl) rfl (c_M_closes (d + 6) a1 v3 ) (fun v19 => ?_)
      refine sv_goto 197 d_M_other_71 rfl ?_
      exact sv_vret rfl d_M_other_197
  · refine sv_aload_n d_M_other_8 rfl ?_
    refine sv_iconst (x := (4 : Int32)) d_M_other_9 (by decide) ?_
    refine sv_callVi (d := d + 7) (as := [.int (4 : Int32)]) d_M_other_10 (wv_M_249 mc_173) so_75 ⟨_, rfl, rfl⟩ rfl (Nat.le_of_ble_eq_true rfl) rfl (c_M_has (d + 7) (4 : Int32) v1 ) (fun x21 v20 => ?_)
    refine sv_if_ne 29 d_M_other_13 rfl ?_ ?_
    · exact c_M_other_b29 d a1 v20 
    · refine sv_aload_n d_M_other_16 rfl ?_
      refine sv_iload_n d_M_other_17 rfl ?_
      refine sv_bipush (x := (16 : Int32)) d_M_other_18 (by decide) ?_
      refine sv_aload_n d_M_other_20 rfl ?_
      refine sv_getr d_M_other_21 (gf_M_77 mc_173) so_75 sm_75_23 ?_
      refine sv_iload_n d_M_other_24 rfl ?_
      refine sv_iald d_M_other_25 sa_98 ?_
      refine sv_callVv (d := d + 7) (as := [.int a1, .int (16 : Int32), .int (v20 98 a1.toNatClampNeg)]) d_M_other_26 (wv_M_225 mc_173) so_75 ⟨_, rfl, rfl⟩ rfl (Nat.le_of_ble_eq_true rfl) rfl (c_M_go (d + 1) a1 (16 : Int32) (v20 98 a1.toNatClampNeg) v20 ) (fun v23 => ?_)
      exact c_M_other_b29 d a1 v23 
def f_M_segment (a1 : Int32) (v : sv_T) : Option (sv_T) :=
  if (v 75 41) < (10 : Int32) then
  some v
  else
  if (v 75 41) ≤ (42 : Int32) then
  if (v 114 0) < (1 : Int32) then
  some v
  else
  if (v 114 0) ≤ (2 : Int32) then
  if ((v 114 1) &&& (-24 : Int32)) = 0 then
  sv_bv (f_M_segmentRow ((2 : Int32) - a1) ((1 : Int32) + a1) v) fun v1 =>
  sv_bi (f_M_check  v1) fun x3 v2 =>
  if x3 = 0 then
  sv_bi (f_M_at a1 (v2 114 0) v2) fun x5 v4 =>
  sv_ls (sv_up v4 75 45 (v4 114 1)) fun v6 =>
  sv_ls (sv_up v6 75 46 (((256 : Int32) * (v6 114 2)) + (v6 114 3))) fun v7 =>
  sv_ls (sv_up v7 75 47 (((256 : Int32) * (v7 114 4)) + (v7 114 5))) fun v8 =>
  sv_ls (sv_up v8 75 48 (v8 114 6)) fun v9 =>
  sv_ls (sv_up v9 75 49 ((v9 75 41) - (10 : Int32))) fun v10 =>
  sv_ck x5 4 <|
  if (v10 95 x5.toNatClampNeg) = 0 then
  sv_bi (f_M_has (4 : Int32) v10) fun x15 v14 =>
  if x15 = 0 then
  sv_bi (f_M_span  v14) fun x17 v16 =>
  sv_bv (f_M_segmentGoes x5 (20 : Int32) (v14 75 47) (((v14 75 46) + x17) &&& (65535 : Int32)) (0 : Int32) (0 : Int32) v16) fun v18 =>
  some v18
  else
  some v14
  else
  sv_ck x5 4 <|
  if (v10 95 x5.toNatClampNeg) = (1 : Int32) then
  sv_bv (f_M_listens x5 v10) fun v13 =>
  some v13
  else
  sv_ck x5 4 <|
  if (v10 95 x5.toNatClampNeg) = (2 : Int32) then
  sv_bv (f_M_awaits x5 v10) fun v12 =>
  some v12
  else
  sv_bv (f_M_other x5 v10) fun v11 =>
  some v11
  else
  some v2
  else
  some v
  else
  some v
  else
  some v
set_option maxHeartbeats 4000000 in
set_option maxRecDepth 100000 in
theorem c_M_segment (d : Nat) (a1 : Int32) (v : sv_T)  : sv_Cl (d + 9) 168 [.ref 75, .int a1] v (f_M_segment a1 v) sv_Zv := by
  refine sv_spec (ls0 := [some (.ref 75), some (.int a1), none]) mp_168 (Nat.le_of_ble_eq_true rfl) rfl ?_
  unfold f_M_segment
  refine sv_aload_n d_M_segment_0 rfl ?_
  refine sv_geti d_M_segment_1 (gf_M_169 mc_168) so_75 (sd_10_41 so_75) ?_
  refine sv_bipush (x := (10 : Int32)) d_M_segment_4 (by decide) ?_
  refine sv_icmp_lt 50 d_M_segment_6 rfl ?_ ?_
  · exact sv_vret rfl d_M_segment_50
  · refine sv_aload_n d_M_segment_9 rfl ?_
    refine sv_geti d_M_segment_10 (gf_M_169 mc_168) so_75 (sd_10_41 so_75) ?_
    refine sv_bipush (x := (42 : Int32)) d_M_segment_13 (by decide) ?_
    refine sv_icmp_gt 50 d_M_segment_15 rfl ?_ ?_
    · exact sv_vret rfl d_M_segment_50
    · refine sv_aload_n d_M_segment_18 rfl ?_
      refine sv_getr d_M_segment_19 (gf_M_125 mc_168) so_75 sm_75_40 ?_
      refine sv_iconst (x := (0 : Int32)) d_M_segment_22 (by decide) ?_
      refine sv_ialdc (m := 0) d_M_segment_23 sa_114 (by decide) rfl ?_
      refine sv_iconst (x := (1 : Int32)) d_M_segment_24 (by decide) ?_
      refine sv_icmp_lt 50 d_M_segment_25 rfl ?_ ?_
      · exact sv_vret rfl d_M_segment_50
      · refine sv_aload_n d_M_segment_28 rfl ?_
        refine sv_getr d_M_segment_29 (gf_M_125 mc_168) so_75 sm_75_40 ?_
        refine sv_iconst (x := (0 : Int32)) d_M_segment_32 (by decide) ?_
        refine sv_ialdc (m := 0) d_M_segment_33 sa_114 (by decide) rfl ?_
        refine sv_iconst (x := (2 : Int32)) d_M_segment_34 (by decide) ?_
        refine sv_icmp_gt 50 d_M_segment_35 rfl ?_ ?_
        · exact sv_vret rfl d_M_segment_50
        · refine sv_aload_n d_M_segment_38 rfl ?_
          refine sv_getr d_M_segment_39 (gf_M_125 mc_168) so_75 sm_75_40 ?_
          refine sv_iconst (x := (1 : Int32)) d_M_segment_42 (by decide) ?_
          refine sv_ialdc (m := 1) d_M_segment_43 sa_114 (by decide) rfl ?_
          refine sv_bipush (x := (-24 : Int32)) d_M_segment_44 (by decide) ?_
          refine sv_iand d_M_segment_46 ?_
          refine sv_if_eq 51 d_M_segment_47 rfl ?_ ?_
          · refine sv_aload_n d_M_segment_51 rfl ?_
            refine sv_iconst (x := (2 : Int32)) d_M_segment_52 (by decide) ?_
            refine sv_iload_n d_M_segment_53 rfl ?_
            refine sv_isub d_M_segment_54 ?_
            refine sv_iconst (x := (1 : Int32)) d_M_segment_55 (by decide) ?_
            refine sv_iload_n d_M_segment_56 rfl ?_
            refine sv_iadd d_M_segment_57 ?_
            refine sv_callVv (d := d + 8) (as := [.int ((2 : Int32) - a1), .int ((1 : Int32) + a1)]) d_M_segment_58 (wv_M_205 mc_168) so_75 ⟨_, rfl, rfl⟩ rfl (Nat.le_of_ble_eq_true rfl) rfl (c_M_segmentRow (d + 8) ((2 : Int32) - a1) ((1 : Int32) + a1) v ) (fun v1 => ?_)
            refine sv_aload_n d_M_segment_61 rfl ?_
            refine sv_callVi (d := d + 8) (as := []) d_M_segment_62 (wv_M_162 mc_168) so_75 ⟨_, rfl, rfl⟩ rfl (Nat.le_of_ble_eq_true rfl) rfl (c_M_check (d + 8)  v1 ) (fun x3 v2 => ?_)
            refine sv_if_eq 69 d_M_segment_65 rfl ?_ ?_
            · refine sv_iload_n d_M_segment_69 rfl ?_
              refine sv_aload_n d_M_segment_70 rfl ?_
              refine sv_getr d_M_segment_71 (gf_M_125 mc_168) so_75 sm_75_40 ?_
              refine sv_iconst (x := (0 : Int32)) d_M_segment_74 (by decide) ?_
              refine sv_ialdc (m := 0) d_M_segment_75 sa_114 (by decide) rfl ?_
              refine sv_callSi (d := d + 8) (as := [.int a1, .int (v2 114 0)]) d_M_segment_76 (ws_M_231 mc_168)  rfl (Nat.le_of_ble_eq_true rfl) rfl (c_M_at (d + 8) a1 (v2 114 0) v2 ) (fun x5 v4 => ?_)
              refine sv_istore_n (ls' := [some (.ref 75), some (.int a1), some (.int x5)]) d_M_segment_79 (by decide) rfl ?_
              refine sv_aload_n d_M_segment_80 rfl ?_
              refine sv_aload_n d_M_segment_81 rfl ?_
              refine sv_getr d_M_segment_82 (gf_M_125 mc_168) so_75 sm_75_40 ?_
              refine sv_iconst (x := (1 : Int32)) d_M_segment_85 (by decide) ?_
              refine sv_ialdc (m := 1) d_M_segment_86 sa_114 (by decide) rfl ?_
              refine sv_puti d_M_segment_87 (pf_M_234 mc_168) so_75 (sd_10_45 so_75) (fun v6 => ?_)
              refine sv_aload_n d_M_segment_90 rfl ?_
              refine sv_sipush (x := (256 : Int32)) d_M_segment_91 (by decide) ?_
              refine sv_aload_n d_M_segment_94 rfl ?_
              refine sv_getr d_M_segment_95 (gf_M_125 mc_168) so_75 sm_75_40 ?_
              refine sv_iconst (x := (2 : Int32)) d_M_segment_98 (by decide) ?_
              refine sv_ialdc (m := 2) d_M_segment_99 sa_114 (by decide) rfl ?_
              refine sv_imul d_M_segment_100 ?_
              refine sv_aload_n d_M_segment_101 rfl ?_
              refine sv_getr d_M_segment_102 (gf_M_125 mc_168) so_75 sm_75_40 ?_
              refine sv_iconst (x := (3 : Int32)) d_M_segment_105 (by decide) ?_
              refine sv_ialdc (m := 3) d_M_segment_106 sa_114 (by decide) rfl ?_
              refine sv_iadd d_M_segment_107 ?_
              refine sv_puti d_M_segment_108 (pf_M_237 mc_168) so_75 (sd_10_46 so_75) (fun v7 => ?_)
              refine sv_aload_n d_M_segment_111 rfl ?_
              refine sv_sipush (x := (256 : Int32)) d_M_segment_112 (by decide) ?_
              refine sv_aload_n d_M_segment_115 rfl ?_
              refine sv_getr d_M_segment_116 (gf_M_125 mc_168) so_75 sm_75_40 ?_
              refine sv_iconst (x := (4 : Int32)) d_M_segment_119 (by decide) ?_
              refine sv_ialdc (m := 4) d_M_segment_120 sa_114 (by decide) rfl ?_
              refine sv_imul d_M_segment_121 ?_
              refine sv_aload_n d_M_segment_122 rfl ?_
              refine sv_getr d_M_segment_123 (gf_M_125 mc_168) so_75 sm_75_40 ?_
              refine sv_iconst (x := (5 : Int32)) d_M_segment_126 (by decide) ?_
              refine sv_ialdc (m := 5) d_M_segment_127 sa_114 (by decide) rfl ?_
              refine sv_iadd d_M_segment_128 ?_
              refine sv_puti d_M_segment_129 (pf_M_240 mc_168) so_75 (sd_10_47 so_75) (fun v8 => ?_)
              refine sv_aload_n d_M_segment_132 rfl ?_
              refine sv_aload_n d_M_segment_133 rfl ?_
              refine sv_getr d_M_segment_134 (gf_M_125 mc_168) so_75 sm_75_40 ?_
              refine sv_bipush (x := (6 : Int32)) d_M_segment_137 (by decide) ?_
              refine sv_ialdc (m := 6) d_M_segment_139 sa_114 (by decide) rfl ?_
              refine sv_puti d_M_segment_140 (pf_M_243 mc_168) so_75 (sd_10_48 so_75) (fun v9 => ?_)
              refine sv_aload_n d_M_segment_143 rfl ?_
              refine sv_aload_n d_M_segment_144 rfl ?_
              refine sv_geti d_M_segment_145 (gf_M_169 mc_168) so_75 (sd_10_41 so_75) ?_
              refine sv_bipush (x := (10 : Int32)) d_M_segment_148 (by decide) ?_
              refine sv_isub d_M_segment_150 ?_
              refine sv_puti d_M_segment_151 (pf_M_246 mc_168) so_75 (sd_10_49 so_75) (fun v10 => ?_)
              refine sv_aload_n d_M_segment_154 rfl ?_
              refine sv_getr d_M_segment_155 (gf_M_68 mc_168) so_75 sm_75_20 ?_
              refine sv_iload_n d_M_segment_158 rfl ?_
              refine sv_iald d_M_segment_159 sa_95 ?_
              refine sv_if_ne 199 d_M_segment_160 rfl ?_ ?_
              · refine sv_aload_n d_M_segment_199 rfl ?_
                refine sv_getr d_M_segment_200 (gf_M_68 mc_168) so_75 sm_75_20 ?_
                refine sv_iload_n d_M_segment_203 rfl ?_
                refine sv_iald d_M_segment_204 sa_95 ?_
                refine sv_iconst (x := (1 : Int32)) d_M_segment_205 (by decide) ?_
                refine sv_icmp_ne 217 d_M_segment_206 rfl ?_ ?_
                · refine sv_aload_n d_M_segment_217 rfl ?_
                  refine sv_getr d_M_segment_218 (gf_M_68 mc_168) so_75 sm_75_20 ?_
                  refine sv_iload_n d_M_segment_221 rfl ?_
                  refine sv_iald d_M_segment_222 sa_95 ?_
                  refine sv_iconst (x := (2 : Int32)) d_M_segment_223 (by decide) ?_
                  refine sv_icmp_ne 235 d_M_segment_224 rfl ?_ ?_
                  · refine sv_aload_n d_M_segment_235 rfl ?_
                    refine sv_iload_n d_M_segment_236 rfl ?_
                    refine sv_callVv (d := d + 8) (as := [.int x5]) d_M_segment_237 (wv_M_261 mc_168) so_75 ⟨_, rfl, rfl⟩ rfl (Nat.le_of_ble_eq_true rfl) rfl (c_M_other (d + 0) x5 v10 ) (fun v11 => ?_)
                    exact sv_vret rfl d_M_segment_240
                  · refine sv_aload_n d_M_segment_227 rfl ?_
                    refine sv_iload_n d_M_segment_228 rfl ?_
                    refine sv_callVv (d := d + 8) (as := [.int x5]) d_M_segment_229 (wv_M_258 mc_168) so_75 ⟨_, rfl, rfl⟩ rfl (Nat.le_of_ble_eq_true rfl) rfl (c_M_awaits (d + 0) x5 v10 ) (fun v12 => ?_)
                    refine sv_goto 240 d_M_segment_232 rfl ?_
                    exact sv_vret rfl d_M_segment_240
                · refine sv_aload_n d_M_segment_209 rfl ?_
                  refine sv_iload_n d_M_segment_210 rfl ?_
                  refine sv_callVv (d := d + 8) (as := [.int x5]) d_M_segment_211 (wv_M_255 mc_168) so_75 ⟨_, rfl, rfl⟩ rfl (Nat.le_of_ble_eq_true rfl) rfl (c_M_listens (d + 1) x5 v10 ) (fun v13 => ?_)
                  refine sv_goto 240 d_M_segment_214 rfl ?_
                  exact sv_vret rfl d_M_segment_240
              · refine sv_aload_n d_M_segment_163 rfl ?_
                refine sv_iconst (x := (4 : Int32)) d_M_segment_164 (by decide) ?_
                refine sv_callVi (d := d + 8) (as := [.int (4 : Int32)]) d_M_segment_165 (wv_M_249 mc_168) so_75 ⟨_, rfl, rfl⟩ rfl (Nat.le_of_ble_eq_true rfl) rfl (c_M_has (d + 8) (4 : Int32) v10 ) (fun x15 v14 => ?_)
                refine sv_if_ne 240 d_M_segment_168 rfl ?_ ?_
                · exact sv_vret rfl d_M_segment_240
                · refine sv_aload_n d_M_segment_171 rfl ?_
                  refine sv_iload_n d_M_segment_172 rfl ?_
                  refine sv_bipush (x := (20 : Int32)) d_M_segment_173 (by decide) ?_
                  refine sv_aload_n d_M_segment_175 rfl ?_
                  refine sv_geti d_M_segment_176 (gf_M_240 mc_168) so_75 (sd_10_47 so_75) ?_
                  refine sv_aload_n d_M_segment_179 rfl ?_
                  refine sv_geti d_M_segment_180 (gf_M_237 mc_168) so_75 (sd_10_46 so_75) ?_
                  refine sv_aload_n d_M_segment_183 rfl ?_
                  refine sv_callVi (d := d + 8) (as := []) d_M_segment_184 (wv_M_252 mc_168) so_75 ⟨_, rfl, rfl⟩ rfl (Nat.le_of_ble_eq_true rfl) rfl (c_M_span (d + 7)  v14 ) (fun x17 v16 => ?_)
                  refine sv_iadd d_M_segment_187 ?_
                  refine sv_ldc d_M_segment_188 tw_1007 ?_
                  refine sv_iand d_M_segment_190 ?_
                  refine sv_iconst (x := (0 : Int32)) d_M_segment_191 (by decide) ?_
                  refine sv_iconst (x := (0 : Int32)) d_M_segment_192 (by decide) ?_
                  refine sv_callVv (d := d + 8) (as := [.int x5, .int (20 : Int32), .int (v14 75 47), .int (((v14 75 46) + x17) &&& (65535 : Int32)), .int (0 : Int32), .int (0 : Int32)]) d_M_segment_193 (wv_M_208 mc_168) so_75 ⟨_, rfl, rfl⟩ rfl (Nat.le_of_ble_eq_true rfl) rfl (c_M_segmentGoes (d + 3) x5 (20 : Int32) (v14 75 47) (((v14 75 46) + x17) &&& (65535 : Int32)) (0 : Int32) (0 : Int32) v16 ) (fun v18 => ?_)
                  refine sv_goto 240 d_M_segment_196 rfl ?_
                  exact sv_vret rfl d_M_segment_240
            · exact sv_vret rfl d_M_segment_68
          · exact sv_vret rfl d_M_segment_50
def f_M_arrives (a1 : Int32) (a2 : Int32) (v : sv_T) : Option (sv_T) :=
  if a2 = (1 : Int32) then
  sv_bv (f_M_echo a1 v) fun v2 =>
  some v2
  else
  if a2 = (6 : Int32) then
  sv_bv (f_M_segment a1 v) fun v1 =>
  some v1
  else
  some v
set_option maxHeartbeats 4000000 in
set_option maxRecDepth 100000 in
theorem c_M_arrives (d : Nat) (a1 : Int32) (a2 : Int32) (v : sv_T)  : sv_Cl (d + 10) 166 [.ref 75, .int a1, .int a2] v (f_M_arrives a1 a2 v) sv_Zv := by
  refine sv_spec (ls0 := [some (.ref 75), some (.int a1), some (.int a2)]) mp_166 (Nat.le_of_ble_eq_true rfl) rfl ?_
  unfold f_M_arrives
  refine sv_iload_n d_M_arrives_0 rfl ?_
  refine sv_iconst (x := (1 : Int32)) d_M_arrives_1 (by decide) ?_
  refine sv_icmp_ne 13 d_M_arrives_2 rfl ?_ ?_
  · refine sv_iload_n d_M_arrives_13 rfl ?_
    refine sv_bipush (x := (6 : Int32)) d_M_arrives_14 (by decide) ?_
    refine sv_icmp_ne 24 d_M_arrives_16 rfl ?_ ?_
    · exact sv_vret rfl d_M_arrives_24
    · refine sv_aload_n d_M_arrives_19 rfl ?_
      refine sv_iload_n d_M_arrives_20 rfl ?_
      refine sv_callVv (d := d + 9) (as := [.int a1]) d_M_arrives_21 (wv_M_190 mc_166) so_75 ⟨_, rfl, rfl⟩ rfl (Nat.le_of_ble_eq_true rfl) rfl (c_M_segment (d + 0) a1 v ) (fun v1 => ?_)
      exact sv_vret rfl d_M_arrives_24
  · refine sv_aload_n d_M_arrives_5 rfl ?_
    refine sv_iload_n d_M_arrives_6 rfl ?_
    refine sv_callVv (d := d + 9) (as := [.int a1]) d_M_arrives_7 (wv_M_187 mc_166) so_75 ⟨_, rfl, rfl⟩ rfl (Nat.le_of_ble_eq_true rfl) rfl (c_M_echo (d + 3) a1 v ) (fun v2 => ?_)
    refine sv_goto 24 d_M_arrives_10 rfl ?_
    exact sv_vret rfl d_M_arrives_24
def f_M_slotFor_l181 (l2 : Int32) (l3 : Int32) (v : sv_T) : Option ((Int32 × sv_T) ⊕ (sv_T)) :=
  if l3 < (((48 : Int32) * l2) + (48 : Int32)) then
  sv_ck l3 192 <| sv_ls (sv_up v 94 l3.toNatClampNeg (0 : Int32)) fun v8 =>
  sv_le (l3 + (1 : Int32)) fun x9 =>
  some (.inl (x9, v8))
  else
  some (.inr v)
def f_M_slotFor_x205 (l2 : Int32) (v : sv_T) : Option (Int32 × sv_T) :=
  some (l2, v)
def f_M_slotFor_b130 (s0 : Int32) (v : sv_T) : Option (Int32 × sv_T) :=
  sv_ck s0 4 <| sv_ls (sv_up v 88 s0.toNatClampNeg (1 : Int32)) fun v2 =>
  sv_ck s0 4 <| sv_ls (sv_up v2 89 s0.toNatClampNeg (v2 116 1)) fun v3 =>
  sv_ck s0 4 <| sv_ls (sv_up v3 90 s0.toNatClampNeg (v3 116 4)) fun v4 =>
  sv_ck s0 4 <| sv_ls (sv_up v4 91 s0.toNatClampNeg (0 : Int32)) fun v5 =>
  sv_ck s0 4 <| sv_ls (sv_up v5 92 s0.toNatClampNeg (0 : Int32)) fun v6 =>
  sv_le (((48 : Int32) * s0)) fun x7 =>
  Option.bind (sv_loop (fun (s : Int32 × sv_T) => f_M_slotFor_l181 s0 s.1 (s.2)) 100000 (x7, v6)) (fun (s : sv_T) => f_M_slotFor_x205 s0 s)
def f_M_slotFor_b54 (l1 : Int32) (l2 : Int32) (v : sv_T) : Option ((Int32 × sv_T) ⊕ (Int32 × sv_T)) :=
  sv_le (l2 + (1 : Int32)) fun x10 =>
  some (.inl (x10, v))
def f_M_slotFor_l4 (l1 : Int32) (l2 : Int32) (v : sv_T) : Option ((Int32 × sv_T) ⊕ (Int32 × sv_T)) :=
  if l2 < (((2 : Int32) * l1) + (2 : Int32)) then
  sv_ck l2 4 <|
  if (v 88 l2.toNatClampNeg) = 0 then
  f_M_slotFor_b54 l1 l2 v
  else
  sv_ck l2 4 <|
  if (v 89 l2.toNatClampNeg) = (v 116 1) then
  sv_ck l2 4 <|
  if (v 90 l2.toNatClampNeg) = (v 116 4) then
  Option.map Sum.inr (some (l2, v))
  else
  f_M_slotFor_b54 l1 l2 v
  else
  f_M_slotFor_b54 l1 l2 v
  else
  Option.map Sum.inr (sv_ck ((2 : Int32) * l1) 4 <|
  if (v 88 ((2 : Int32) * l1).toNatClampNeg) = 0 then
  f_M_slotFor_b130 ((2 : Int32) * l1) v
  else
  sv_ck (((2 : Int32) * l1) + (1 : Int32)) 4 <|
  if (v 88 (((2 : Int32) * l1) + (1 : Int32)).toNatClampNeg) = 0 then
  f_M_slotFor_b130 (((2 : Int32) * l1) + (1 : Int32)) v
  else
  sv_ck (((2 : Int32) * l1) + (1 : Int32)) 4 <|
  sv_ck ((2 : Int32) * l1) 4 <|
  if (v 91 ((2 : Int32) * l1).toNatClampNeg) < (v 91 (((2 : Int32) * l1) + (1 : Int32)).toNatClampNeg) then
  f_M_slotFor_b130 (((2 : Int32) * l1) + (1 : Int32)) v
  else
  f_M_slotFor_b130 ((2 : Int32) * l1) v)
def f_M_slotFor (a1 : Int32) (v : sv_T) : Option (Int32 × sv_T) :=
  sv_le (((2 : Int32) * a1)) fun x1 =>
  sv_loop (fun (s : Int32 × sv_T) => f_M_slotFor_l4 a1 s.1 (s.2)) 100000 (x1, v)
set_option maxHeartbeats 4000000 in
set_option maxRecDepth 100000 in
theorem c_M_slotFor_l181 (d : Nat) (l2 : Int32) (l3 : Int32) (v : sv_T)  : sv_Ref (d + 0) 179 181 [some (.ref 75), none, some (.int l2), some (.int l3)] [] v (f_M_slotFor_l181 l2 l3 v) (sv_Zl (d + 0) 179 181 (fun (s : Int32 × sv_T) => [some (.ref 75), none, some (.int l2), some (.int s.1)]) (fun (s : Int32 × sv_T) => s.2) (sv_Zt (d + 0) 179 205 (fun (s : sv_T) => [none, none, some (.int l2), none]) (fun (s : sv_T) => s))) := by
  unfold f_M_slotFor_l181
  refine sv_iload_n d_M_slotFor_181 rfl ?_
  refine sv_bipush (x := (48 : Int32)) d_M_slotFor_182 (by decide) ?_
  refine sv_iload_n d_M_slotFor_184 rfl ?_
  refine sv_imul d_M_slotFor_185 ?_
  refine sv_bipush (x := (48 : Int32)) d_M_slotFor_186 (by decide) ?_
  refine sv_iadd d_M_slotFor_188 ?_
  refine sv_icmp_ge 205 d_M_slotFor_189 rfl ?_ ?_
  · exact sv_leave v rfl ⟨rfl, trivial⟩ rfl
  · refine sv_aload_n d_M_slotFor_192 rfl ?_
    refine sv_getr d_M_slotFor_193 (gf_M_65 mc_179) so_75 sm_75_19 ?_
    refine sv_iload_n d_M_slotFor_196 rfl ?_
    refine sv_iconst (x := (0 : Int32)) d_M_slotFor_197 (by decide) ?_
    refine sv_zast (y := (0 : Int32)) d_M_slotFor_198 sa_94 (by decide) (fun v8 => ?_)
    refine sv_iinc (ls' := fun x9 => [some (.ref 75), none, some (.int l2), some (.int x9)]) (y := (1 : Int32)) d_M_slotFor_199 rfl (by decide) (fun _ => rfl) (fun x9 => ?_)
    refine sv_goto 181 d_M_slotFor_202 rfl ?_
    exact sv_next (x9, v8) ⟨rfl, rfl, rfl, trivial⟩ rfl
set_option maxHeartbeats 4000000 in
set_option maxRecDepth 100000 in
theorem c_M_slotFor_x205 (d : Nat) (l2 : Int32) (v : sv_T)  : sv_Ref (d + 0) 179 205 [none, none, some (.int l2), none] [] v (f_M_slotFor_x205 l2 v) (sv_Zi) := by
  unfold f_M_slotFor_x205
  refine sv_iload_n d_M_slotFor_205 rfl ?_
  exact sv_iret rfl d_M_slotFor_206
set_option maxHeartbeats 4000000 in
set_option maxRecDepth 100000 in
theorem c_M_slotFor_b130 (d : Nat) (s0 : Int32) (v : sv_T)  : sv_Ref (d + 0) 179 130 [some (.ref 75), none, none, none] [.int s0] v (f_M_slotFor_b130 s0 v) (sv_Zi) := by
  unfold f_M_slotFor_b130
  refine sv_istore_n (ls' := [some (.ref 75), none, some (.int s0), none]) d_M_slotFor_130 (by decide) rfl ?_
  refine sv_aload_n d_M_slotFor_131 rfl ?_
  refine sv_getr d_M_slotFor_132 (gf_M_46 mc_179) so_75 sm_75_13 ?_
  refine sv_iload_n d_M_slotFor_135 rfl ?_
  refine sv_iconst (x := (1 : Int32)) d_M_slotFor_136 (by decide) ?_
  refine sv_zast (y := (1 : Int32)) d_M_slotFor_137 sa_88 (by decide) (fun v2 => ?_)
  refine sv_aload_n d_M_slotFor_138 rfl ?_
  refine sv_getr d_M_slotFor_139 (gf_M_50 mc_179) so_75 sm_75_14 ?_
  refine sv_iload_n d_M_slotFor_142 rfl ?_
  refine sv_aload_n d_M_slotFor_143 rfl ?_
  refine sv_getr d_M_slotFor_144 (gf_M_131 mc_179) so_75 sm_75_44 ?_
  refine sv_iconst (x := (1 : Int32)) d_M_slotFor_147 (by decide) ?_
  refine sv_ialdc (m := 1) d_M_slotFor_148 sa_116 (by decide) rfl ?_
  refine sv_iast d_M_slotFor_149 sa_89 (fun v3 => ?_)
  refine sv_aload_n d_M_slotFor_150 rfl ?_
  refine sv_getr d_M_slotFor_151 (gf_M_53 mc_179) so_75 sm_75_15 ?_
  refine sv_iload_n d_M_slotFor_154 rfl ?_
  refine sv_aload_n d_M_slotFor_155 rfl ?_
  refine sv_getr d_M_slotFor_156 (gf_M_131 mc_179) so_75 sm_75_44 ?_
  refine sv_iconst (x := (4 : Int32)) d_M_slotFor_159 (by decide) ?_
  refine sv_ialdc (m := 4) d_M_slotFor_160 sa_116 (by decide) rfl ?_
  refine sv_iast d_M_slotFor_161 sa_90 (fun v4 => ?_)
  refine sv_aload_n d_M_slotFor_162 rfl ?_
  refine sv_getr d_M_slotFor_163 (gf_M_56 mc_179) so_75 sm_75_16 ?_
  refine sv_iload_n d_M_slotFor_166 rfl ?_
  refine sv_iconst (x := (0 : Int32)) d_M_slotFor_167 (by decide) ?_
  refine sv_iast d_M_slotFor_168 sa_91 (fun v5 => ?_)
  refine sv_aload_n d_M_slotFor_169 rfl ?_
  refine sv_getr d_M_slotFor_170 (gf_M_59 mc_179) so_75 sm_75_17 ?_
  refine sv_iload_n d_M_slotFor_173 rfl ?_
  refine sv_iconst (x := (0 : Int32)) d_M_slotFor_174 (by decide) ?_
  refine sv_iast d_M_slotFor_175 sa_92 (fun v6 => ?_)
  refine sv_bipush (x := (48 : Int32)) d_M_slotFor_176 (by decide) ?_
  refine sv_iload_n d_M_slotFor_178 rfl ?_
  refine sv_imul d_M_slotFor_179 ?_
  refine sv_leR (fun x7 => ?_)
  refine sv_istore_n (ls' := [some (.ref 75), none, some (.int s0), some (.int x7)]) d_M_slotFor_180 (by decide) rfl ?_
  exact sv_seq (xt := 205) (L := (fun (s : sv_T) => [none, none, some (.int s0), none])) (S := (fun (s : sv_T) => s)) (sv_loopR (L := (fun (s : Int32 × sv_T) => [some (.ref 75), none, some (.int s0), some (.int s.1)])) (S := (fun (s : Int32 × sv_T) => s.2)) (fun s => c_M_slotFor_l181 d s0 s.1 (s.2) ) 100000 (x7, v6)) (fun s => c_M_slotFor_x205 d s0 s )
set_option maxHeartbeats 4000000 in
set_option maxRecDepth 100000 in
theorem c_M_slotFor_b54 (d : Nat) (l1 : Int32) (l2 : Int32) (v : sv_T)  : sv_Ref (d + 0) 179 54 [some (.ref 75), some (.int l1), some (.int l2), none] [] v (f_M_slotFor_b54 l1 l2 v) (sv_Zl (d + 0) 179 4 (fun (s : Int32 × sv_T) => [some (.ref 75), some (.int l1), some (.int s.1), none]) (fun (s : Int32 × sv_T) => s.2) (sv_Zi)) := by
  unfold f_M_slotFor_b54
  refine sv_iinc (ls' := fun x10 => [some (.ref 75), some (.int l1), some (.int x10), none]) (y := (1 : Int32)) d_M_slotFor_54 rfl (by decide) (fun _ => rfl) (fun x10 => ?_)
  refine sv_goto 4 d_M_slotFor_57 rfl ?_
  exact sv_next (x10, v) ⟨rfl, rfl, rfl, trivial⟩ rfl
set_option maxHeartbeats 4000000 in
set_option maxRecDepth 100000 in
theorem c_M_slotFor_l4 (d : Nat) (l1 : Int32) (l2 : Int32) (v : sv_T)  : sv_Ref (d + 0) 179 4 [some (.ref 75), some (.int l1), some (.int l2), none] [] v (f_M_slotFor_l4 l1 l2 v) (sv_Zl (d + 0) 179 4 (fun (s : Int32 × sv_T) => [some (.ref 75), some (.int l1), some (.int s.1), none]) (fun (s : Int32 × sv_T) => s.2) (sv_Zi)) := by
  unfold f_M_slotFor_l4
  refine sv_iload_n d_M_slotFor_4 rfl ?_
  refine sv_iconst (x := (2 : Int32)) d_M_slotFor_5 (by decide) ?_
  refine sv_iload_n d_M_slotFor_6 rfl ?_
  refine sv_imul d_M_slotFor_7 ?_
  refine sv_iconst (x := (2 : Int32)) d_M_slotFor_8 (by decide) ?_
  refine sv_iadd d_M_slotFor_9 ?_
  refine sv_icmp_ge 60 d_M_slotFor_10 rfl ?_ ?_
  · refine sv_exit ?_
    refine sv_aload_n d_M_slotFor_60 rfl ?_
    refine sv_getr d_M_slotFor_61 (gf_M_46 mc_179) so_75 sm_75_13 ?_
    refine sv_iconst (x := (2 : Int32)) d_M_slotFor_64 (by decide) ?_
    refine sv_iload_n d_M_slotFor_65 rfl ?_
    refine sv_imul d_M_slotFor_66 ?_
    refine sv_zald d_M_slotFor_67 sa_88 ?_
    refine sv_if_ne 77 d_M_slotFor_68 rfl ?_ ?_
    · refine sv_aload_n d_M_slotFor_77 rfl ?_
      refine sv_getr d_M_slotFor_78 (gf_M_46 mc_179) so_75 sm_75_13 ?_
      refine sv_iconst (x := (2 : Int32)) d_M_slotFor_81 (by decide) ?_
      refine sv_iload_n d_M_slotFor_82 rfl ?_
      refine sv_imul d_M_slotFor_83 ?_
      refine sv_iconst (x := (1 : Int32)) d_M_slotFor_84 (by decide) ?_
      refine sv_iadd d_M_slotFor_85 ?_
      refine sv_zald d_M_slotFor_86 sa_88 ?_
      refine sv_if_ne 98 d_M_slotFor_87 rfl ?_ ?_
      · refine sv_aload_n d_M_slotFor_98 rfl ?_
        refine sv_getr d_M_slotFor_99 (gf_M_56 mc_179) so_75 sm_75_16 ?_
        refine sv_iconst (x := (2 : Int32)) d_M_slotFor_102 (by decide) ?_
        refine sv_iload_n d_M_slotFor_103 rfl ?_
        refine sv_imul d_M_slotFor_104 ?_
        refine sv_iconst (x := (1 : Int32)) d_M_slotFor_105 (by decide) ?_
        refine sv_iadd d_M_slotFor_106 ?_
        refine sv_iald d_M_slotFor_107 sa_91 ?_
        refine sv_aload_n d_M_slotFor_108 rfl ?_
        refine sv_getr d_M_slotFor_109 (gf_M_56 mc_179) so_75 sm_75_16 ?_
        refine sv_iconst (x := (2 : Int32)) d_M_slotFor_112 (by decide) ?_
        refine sv_iload_n d_M_slotFor_113 rfl ?_
        refine sv_imul d_M_slotFor_114 ?_
        refine sv_iald d_M_slotFor_115 sa_91 ?_
        refine sv_icmp_le 127 d_M_slotFor_116 rfl ?_ ?_
        · refine sv_iconst (x := (2 : Int32)) d_M_slotFor_127 (by decide) ?_
          refine sv_iload_n d_M_slotFor_128 rfl ?_
          refine sv_imul d_M_slotFor_129 ?_
          refine sv_kill (ls' := [some (.ref 75), none, none, none]) ⟨rfl, trivial⟩ ?_
          exact c_M_slotFor_b130 d ((2 : Int32) * l1) v 
        · refine sv_iconst (x := (2 : Int32)) d_M_slotFor_119 (by decide) ?_
          refine sv_iload_n d_M_slotFor_120 rfl ?_
          refine sv_imul d_M_slotFor_121 ?_
          refine sv_iconst (x := (1 : Int32)) d_M_slotFor_122 (by decide) ?_
          refine sv_iadd d_M_slotFor_123 ?_
          refine sv_goto 130 d_M_slotFor_124 rfl ?_
          refine sv_kill (ls' := [some (.ref 75), none, none, none]) ⟨rfl, trivial⟩ ?_
          exact c_M_slotFor_b130 d (((2 : Int32) * l1) + (1 : Int32)) v 
      · refine sv_iconst (x := (2 : Int32)) d_M_slotFor_90 (by decide) ?_
        refine sv_iload_n d_M_slotFor_91 rfl ?_
        refine sv_imul d_M_slotFor_92 ?_
        refine sv_iconst (x := (1 : Int32)) d_M_slotFor_93 (by decide) ?_
        refine sv_iadd d_M_slotFor_94 ?_
        refine sv_goto 130 d_M_slotFor_95 rfl ?_
        refine sv_kill (ls' := [some (.ref 75), none, none, none]) ⟨rfl, trivial⟩ ?_
        exact c_M_slotFor_b130 d (((2 : Int32) * l1) + (1 : Int32)) v 
    · refine sv_iconst (x := (2 : Int32)) d_M_slotFor_71 (by decide) ?_
      refine sv_iload_n d_M_slotFor_72 rfl ?_
      refine sv_imul d_M_slotFor_73 ?_
      refine sv_goto 130 d_M_slotFor_74 rfl ?_
      refine sv_kill (ls' := [some (.ref 75), none, none, none]) ⟨rfl, trivial⟩ ?_
      exact c_M_slotFor_b130 d ((2 : Int32) * l1) v 
  · refine sv_aload_n d_M_slotFor_13 rfl ?_
    refine sv_getr d_M_slotFor_14 (gf_M_46 mc_179) so_75 sm_75_13 ?_
    refine sv_iload_n d_M_slotFor_17 rfl ?_
    refine sv_zald d_M_slotFor_18 sa_88 ?_
    refine sv_if_eq 54 d_M_slotFor_19 rfl ?_ ?_
    · exact c_M_slotFor_b54 d l1 l2 v 
    · refine sv_aload_n d_M_slotFor_22 rfl ?_
      refine sv_getr d_M_slotFor_23 (gf_M_50 mc_179) so_75 sm_75_14 ?_
      refine sv_iload_n d_M_slotFor_26 rfl ?_
      refine sv_iald d_M_slotFor_27 sa_89 ?_
      refine sv_aload_n d_M_slotFor_28 rfl ?_
      refine sv_getr d_M_slotFor_29 (gf_M_131 mc_179) so_75 sm_75_44 ?_
      refine sv_iconst (x := (1 : Int32)) d_M_slotFor_32 (by decide) ?_
      refine sv_ialdc (m := 1) d_M_slotFor_33 sa_116 (by decide) rfl ?_
      refine sv_icmp_ne 54 d_M_slotFor_34 rfl ?_ ?_
      · exact c_M_slotFor_b54 d l1 l2 v 
      · refine sv_aload_n d_M_slotFor_37 rfl ?_
        refine sv_getr d_M_slotFor_38 (gf_M_53 mc_179) so_75 sm_75_15 ?_
        refine sv_iload_n d_M_slotFor_41 rfl ?_
        refine sv_iald d_M_slotFor_42 sa_90 ?_
        refine sv_aload_n d_M_slotFor_43 rfl ?_
        refine sv_getr d_M_slotFor_44 (gf_M_131 mc_179) so_75 sm_75_44 ?_
        refine sv_iconst (x := (4 : Int32)) d_M_slotFor_47 (by decide) ?_
        refine sv_ialdc (m := 4) d_M_slotFor_48 sa_116 (by decide) rfl ?_
        refine sv_icmp_ne 54 d_M_slotFor_49 rfl ?_ ?_
        · exact c_M_slotFor_b54 d l1 l2 v 
        · refine sv_exit ?_
          refine sv_iload_n d_M_slotFor_52 rfl ?_
          exact sv_iret rfl d_M_slotFor_53
set_option maxHeartbeats 4000000 in
set_option maxRecDepth 100000 in
theorem c_M_slotFor (d : Nat) (a1 : Int32) (v : sv_T)  : sv_Cl (d + 0) 179 [.ref 75, .int a1] v (f_M_slotFor a1 v) sv_Zi := by
  refine sv_spec (ls0 := [some (.ref 75), some (.int a1), none, none]) mp_179 (Nat.le_of_ble_eq_true rfl) rfl ?_
  unfold f_M_slotFor
  refine sv_iconst (x := (2 : Int32)) d_M_slotFor_0 (by decide) ?_
  refine sv_iload_n d_M_slotFor_1 rfl ?_
  refine sv_imul d_M_slotFor_2 ?_
  refine sv_leR (fun x1 => ?_)
  refine sv_istore_n (ls' := [some (.ref 75), some (.int a1), some (.int x1), none]) d_M_slotFor_3 (by decide) rfl ?_
  exact sv_loopR (L := (fun (s : Int32 × sv_T) => [some (.ref 75), some (.int a1), some (.int s.1), none])) (S := (fun (s : Int32 × sv_T) => s.2)) (fun s => c_M_slotFor_l4 d a1 s.1 (s.2) ) 100000 (x1, v)
def f_M_piece_b86 (l1 : Int32) (l2 : Int32) (l3 : Int32) (l4 : Int32) (l5 : Int32) (l6 : Int32) (s0 : Int32) (s1 : Int32) (v : sv_T) : Option ((Int32 × sv_T) ⊕ (sv_T)) :=
  sv_ck s1 192 <| sv_ls (sv_up v 93 s1.toNatClampNeg s0) fun v5 =>
  sv_ck l6 192 <| sv_ls (sv_up v5 94 l6.toNatClampNeg (1 : Int32)) fun v6 =>
  sv_le (l5 + (1 : Int32)) fun x7 =>
  some (.inl (x7, v6))
def f_M_piece_l32 (l1 : Int32) (l2 : Int32) (l3 : Int32) (l4 : Int32) (l5 : Int32) (v : sv_T) : Option ((Int32 × sv_T) ⊕ (sv_T)) :=
  if l5 < l2 then
  sv_le (((((48 : Int32) * l4) + l3) + l5)) fun x4 =>
  sv_ck x4 192 <|
  if (v 94 x4.toNatClampNeg) = 0 then
  sv_ck ((10 : Int32) + l5) 40 <|
  f_M_piece_b86 l1 l2 l3 l4 l5 x4 (v 116 ((10 : Int32) + l5).toNatClampNeg) x4 v
  else
  sv_ck x4 192 <|
  f_M_piece_b86 l1 l2 l3 l4 l5 x4 (v 93 x4.toNatClampNeg) x4 v
  else
  some (.inr v)
def f_M_piece_b195 (l1 : Int32) (l4 : Int32) (l6 : Int32) (s0 : Int32) (v : sv_T) : Option ((Int32 × Int32 × sv_T) ⊕ (Int32 × sv_T)) :=
  sv_le (l6 + (1 : Int32)) fun x10 =>
  some (.inl (s0, x10, v))
def f_M_piece_b194 (l1 : Int32) (l4 : Int32) (l6 : Int32) (v : sv_T) : Option ((Int32 × Int32 × sv_T) ⊕ (Int32 × sv_T)) :=
  f_M_piece_b195 l1 l4 l6 (0 : Int32) v
def f_M_piece_l157 (l1 : Int32) (l4 : Int32) (l5 : Int32) (l6 : Int32) (v : sv_T) : Option ((Int32 × Int32 × sv_T) ⊕ (Int32 × sv_T)) :=
  sv_ck l4 4 <|
  if l6 < (((48 : Int32) * l4) + (v 92 l4.toNatClampNeg)) then
  if l5 = 0 then
  f_M_piece_b194 l1 l4 l6 v
  else
  sv_ck l6 192 <|
  if (v 94 l6.toNatClampNeg) = 0 then
  f_M_piece_b194 l1 l4 l6 v
  else
  f_M_piece_b195 l1 l4 l6 (1 : Int32) v
  else
  some (.inr (l5, v))
def f_M_piece_l230 (l1 : Int32) (l4 : Int32) (l6 : Int32) (v : sv_T) : Option ((Int32 × sv_T) ⊕ (sv_T)) :=
  if l6 < (v 75 41) then
  sv_ck (((48 : Int32) * l4) + l6) 192 <|
  sv_ck l6 64 <| sv_ls (sv_up v 114 l6.toNatClampNeg (v 93 (((48 : Int32) * l4) + l6).toNatClampNeg)) fun v13 =>
  sv_le (l6 + (1 : Int32)) fun x14 =>
  some (.inl (x14, v13))
  else
  some (.inr v)
def f_M_piece_x265 (l1 : Int32) (l4 : Int32) (v : sv_T) : Option (sv_T) :=
  sv_ck l4 4 <|
  sv_bv (f_M_arrives l1 (v 90 l4.toNatClampNeg) v) fun v15 =>
  some v15
def f_M_piece_x203 (l1 : Int32) (l4 : Int32) (l5 : Int32) (v : sv_T) : Option (sv_T) :=
  if l5 = 0 then
  some v
  else
  sv_ck l4 4 <| sv_ls (sv_up v 88 l4.toNatClampNeg (0 : Int32)) fun v11 =>
  sv_ck l4 4 <|
  sv_ls (sv_up v11 75 41 (v11 92 l4.toNatClampNeg)) fun v12 =>
  Option.bind (sv_loop (fun (s : Int32 × sv_T) => f_M_piece_l230 l1 l4 s.1 (s.2)) 100000 ((0 : Int32), v12)) (fun (s : sv_T) => f_M_piece_x265 l1 l4 s)
def f_M_piece_b148 (l1 : Int32) (l4 : Int32) (s0 : Int32) (v : sv_T) : Option (sv_T) :=
  sv_le (((48 : Int32) * l4)) fun x9 =>
  Option.bind (sv_loop (fun (s : Int32 × Int32 × sv_T) => f_M_piece_l157 l1 l4 s.1 s.2.1 (s.2.2)) 100000 (s0, x9, v)) (fun (s : Int32 × sv_T) => f_M_piece_x203 l1 l4 s.1 (s.2))
def f_M_piece_b132 (l1 : Int32) (l4 : Int32) (s0 : Int32) (s1 : Int32) (v : sv_T) : Option (sv_T) :=
  sv_ck s1 4 <| sv_ls (sv_up v 92 s1.toNatClampNeg s0) fun v8 =>
  sv_ck l4 4 <|
  if 0 < (v8 92 l4.toNatClampNeg) then
  f_M_piece_b148 l1 l4 (1 : Int32) v8
  else
  f_M_piece_b148 l1 l4 (0 : Int32) v8
def f_M_piece_x101 (l1 : Int32) (l2 : Int32) (l3 : Int32) (l4 : Int32) (v : sv_T) : Option (sv_T) :=
  if (v 116 2) < (128 : Int32) then
  f_M_piece_b132 l1 l4 (l3 + l2) l4 v
  else
  sv_ck l4 4 <|
  f_M_piece_b132 l1 l4 (v 92 l4.toNatClampNeg) l4 v
def f_M_piece (a1 : Int32) (a2 : Int32) (v : sv_T) : Option (sv_T) :=
  sv_le (((sv_rem (v 116 2) (128 : Int32)) * (4 : Int32))) fun x1 =>
  if (48 : Int32) < (x1 + a2) then
  some v
  else
  sv_bi (f_M_slotFor a1 v) fun x3 v2 =>
  Option.bind (sv_loop (fun (s : Int32 × sv_T) => f_M_piece_l32 a1 a2 x1 x3 s.1 (s.2)) 100000 ((0 : Int32), v2)) (fun (s : sv_T) => f_M_piece_x101 a1 a2 x1 x3 s)
set_option maxHeartbeats 4000000 in
set_option maxRecDepth 100000 in
theorem c_M_piece_b86 (d : Nat) (l1 : Int32) (l2 : Int32) (l3 : Int32) (l4 : Int32) (l5 : Int32) (l6 : Int32) (s0 : Int32) (s1 : Int32) (v : sv_T)  : sv_Ref (d + 11) 178 86 [some (.ref 75), some (.int l1), some (.int l2), some (.int l3), some (.int l4), some (.int l5), some (.int l6)] [.int s0, .int s1, .ref 93] v (f_M_piece_b86 l1 l2 l3 l4 l5 l6 s0 s1 v) (sv_Zl (d + 11) 178 32 (fun (s : Int32 × sv_T) => [some (.ref 75), some (.int l1), some (.int l2), some (.int l3), some (.int l4), some (.int s.1), none]) (fun (s : Int32 × sv_T) => s.2) (sv_Zt (d + 11) 178 101 (fun (s : sv_T) => [some (.ref 75), some (.int l1), some (.int l2), some (.int l3), some (.int l4), none, none]) (fun (s : sv_T) => s))) := by
  unfold f_M_piece_b86
  refine sv_iast d_M_piece_86 sa_93 (fun v5 => ?_)
  refine sv_aload_n d_M_piece_87 rfl ?_
  refine sv_getr d_M_piece_88 (gf_M_65 mc_178) so_75 sm_75_19 ?_
  refine sv_iload d_M_piece_91 rfl ?_
  refine sv_iconst (x := (1 : Int32)) d_M_piece_93 (by decide) ?_
  refine sv_zast (y := (1 : Int32)) d_M_piece_94 sa_94 (by decide) (fun v6 => ?_)
  refine sv_iinc (ls' := fun x7 => [some (.ref 75), some (.int l1), some (.int l2), some (.int l3), some (.int l4), some (.int x7), some (.int l6)]) (y := (1 : Int32)) d_M_piece_95 rfl (by decide) (fun _ => rfl) (fun x7 => ?_)
  refine sv_goto 32 d_M_piece_98 rfl ?_
  exact sv_next (x7, v6) ⟨rfl, rfl, rfl, rfl, rfl, rfl, trivial⟩ rfl
set_option maxHeartbeats 4000000 in
set_option maxRecDepth 100000 in
theorem c_M_piece_l32 (d : Nat) (l1 : Int32) (l2 : Int32) (l3 : Int32) (l4 : Int32) (l5 : Int32) (v : sv_T)  : sv_Ref (d + 11) 178 32 [some (.ref 75), some (.int l1), some (.int l2), some (.int l3), some (.int l4), some (.int l5), none] [] v (f_M_piece_l32 l1 l2 l3 l4 l5 v) (sv_Zl (d + 11) 178 32 (fun (s : Int32 × sv_T) => [some (.ref 75), some (.int l1), some (.int l2), some (.int l3), some (.int l4), some (.int s.1), none]) (fun (s : Int32 × sv_T) => s.2) (sv_Zt (d + 11) 178 101 (fun (s : sv_T) => [some (.ref 75), some (.int l1), some (.int l2), some (.int l3), some (.int l4), none, none]) (fun (s : sv_T) => s))) := by
  unfold f_M_piece_l32
  refine sv_iload d_M_piece_32 rfl ?_
  refine sv_iload_n d_M_piece_34 rfl ?_
  refine sv_icmp_ge 101 d_M_piece_35 rfl ?_ ?_
  · exact sv_leave v rfl ⟨rfl, rfl, rfl, rfl, rfl, trivial⟩ rfl
  · refine sv_bipush (x := (48 : Int32)) d_M_piece_38 (by decide) ?_
    refine sv_iload d_M_piece_40 rfl ?_
    refine sv_imul d_M_piece_42 ?_
    refine sv_iload_n d_M_piece_43 rfl ?_
    refine sv_iadd d_M_piece_44 ?_
    refine sv_iload d_M_piece_45 rfl ?_
    refine sv_iadd d_M_piece_47 ?_
    refine sv_leR (fun x4 => ?_)
    refine sv_istore (ls' := [some (.ref 75), some (.int l1), some (.int l2), some (.int l3), some (.int l4), some (.int l5), some (.int x4)]) d_M_piece_48 (by decide) rfl ?_
    refine sv_aload_n d_M_piece_50 rfl ?_
    refine sv_getr d_M_piece_51 (gf_M_62 mc_178) so_75 sm_75_18 ?_
    refine sv_iload d_M_piece_54 rfl ?_
    refine sv_aload_n d_M_piece_56 rfl ?_
    refine sv_getr d_M_piece_57 (gf_M_65 mc_178) so_75 sm_75_19 ?_
    refine sv_iload d_M_piece_60 rfl ?_
    refine sv_zald d_M_piece_62 sa_94 ?_
    refine sv_if_eq 76 d_M_piece_63 rfl ?_ ?_
    · refine sv_aload_n d_M_piece_76 rfl ?_
      refine sv_getr d_M_piece_77 (gf_M_131 mc_178) so_75 sm_75_44 ?_
      refine sv_bipush (x := (10 : Int32)) d_M_piece_80 (by decide) ?_
      refine sv_iload d_M_piece_82 rfl ?_
      refine sv_iadd d_M_piece_84 ?_
      refine sv_iald d_M_piece_85 sa_116 ?_
      exact c_M_piece_b86 d l1 l2 l3 l4 l5 x4 (v 116 ((10 : Int32) + l5).toNatClampNeg) x4 v 
    · refine sv_aload_n d_M_piece_66 rfl ?_
      refine sv_getr d_M_piece_67 (gf_M_62 mc_178) so_75 sm_75_18 ?_
      refine sv_iload d_M_piece_70 rfl ?_
      refine sv_iald d_M_piece_72 sa_93 ?_
      refine sv_goto 86 d_M_piece_73 rfl ?_
      exact c_M_piece_b86 d l1 l2 l3 l4 l5 x4 (v 93 x4.toNatClampNeg) x4 v 
set_option maxHeartbeats 4000000 in
set_option maxRecDepth 100000 in
theorem c_M_piece_b195 (d : Nat) (l1 : Int32) (l4 : Int32) (l6 : Int32) (s0 : Int32) (v : sv_T)  : sv_Ref (d + 11) 178 195 [some (.ref 75), some (.int l1), none, none, some (.int l4), none, some (.int l6)] [.int s0] v (f_M_piece_b195 l1 l4 l6 s0 v) (sv_Zl (d + 11) 178 157 (fun (s : Int32 × Int32 × sv_T) => [some (.ref 75), some (.int l1), none, none, some (.int l4), some (.int s.1), some (.int s.2.1)]) (fun (s : Int32 × Int32 × sv_T) => s.2.2) (sv_Zt (d + 11) 178 203 (fun (s : Int32 × sv_T) => [some (.ref 75), some (.int l1), none, none, some (.int l4), some (.int s.1), none]) (fun (s : Int32 × sv_T) => s.2))) := by
  unfold f_M_piece_b195
  refine sv_istore (ls' := [some (.ref 75), some (.int l1), none, none, some (.int l4), some (.int s0), some (.int l6)]) d_M_piece_195 (by decide) rfl ?_
  refine sv_iinc (ls' := fun x10 => [some (.ref 75), some (.int l1), none, none, some (.int l4), some (.int s0), some (.int x10)]) (y := (1 : Int32)) d_M_piece_197 rfl (by decide) (fun _ => rfl) (fun x10 => ?_)
  refine sv_goto 157 d_M_piece_200 rfl ?_
  exact sv_next (s0, x10, v) ⟨rfl, rfl, rfl, rfl, rfl, trivial⟩ rfl
set_option maxHeartbeats 4000000 in
set_option maxRecDepth 100000 in
theorem c_M_piece_b194 (d : Nat) (l1 : Int32) (l4 : Int32) (l6 : Int32) (v : sv_T)  : sv_Ref (d + 11) 178 194 [some (.ref 75), some (.int l1), none, none, some (.int l4), none, some (.int l6)] [] v (f_M_piece_b194 l1 l4 l6 v) (sv_Zl (d + 11) 178 157 (fun (s : Int32 × Int32 × sv_T) => [some (.ref 75), some (.int l1), none, none, some (.int l4), some (.int s.1), some (.int s.2.1)]) (fun (s : Int32 × Int32 × sv_T) => s.2.2) (sv_Zt (d + 11) 178 203 (fun (s : Int32 × sv_T) => [some (.ref 75), some (.int l1), none, none, some (.int l4), some (.int s.1), none]) (fun (s : Int32 × sv_T) => s.2))) := by
  unfold f_M_piece_b194
  refine sv_iconst (x := (0 : Int32)) d_M_piece_194 (by decide) ?_
  exact c_M_piece_b195 d l1 l4 l6 (0 : Int32) v 
set_option maxHeartbeats 4000000 in
set_option maxRecDepth 100000 in
theorem c_M_piece_l157 (d : Nat) (l1 : Int32) (l4 : Int32) (l5 : Int32) (l6 : Int32) (v : sv_T)  : sv_Ref (d + 11) 178 157 [some (.ref 75), some (.int l1), none, none, some (.int l4), some (.int l5), some (.int l6)] [] v (f_M_piece_l157 l1 l4 l5 l6 v) (sv_Zl (d + 11) 178 157 (fun (s : Int32 × Int32 × sv_T) => [some (.ref 75), some (.int l1), none, none, some (.int l4), some (.int s.1), some (.int s.2.1)]) (fun (s : Int32 × Int32 × sv_T) => s.2.2) (sv_Zt (d + 11) 178 203 (fun (s : Int32 × sv_T) => [some (.ref 75), some (.int l1), none, none, some (.int l4), some (.int s.1), none]) (fun (s : Int32 × sv_T) => s.2))) := by
  unfold f_M_piece_l157
  refine sv_iload d_M_piece_157 rfl ?_
  refine sv_bipush (x := (48 : Int32)) d_M_piece_159 (by decide) ?_
  refine sv_iload d_M_piece_161 rfl ?_
  refine sv_imul d_M_piece_163 ?_
  refine sv_aload_n d_M_piece_164 rfl ?_
  refine sv_getr d_M_piece_165 (gf_M_59 mc_178) so_75 sm_75_17 ?_
  refine sv_iload d_M_piece_168 rfl ?_
  refine sv_iald d_M_piece_170 sa_92 ?_
  refine sv_iadd d_M_piece_171 ?_
  refine sv_icmp_ge 203 d_M_piece_172 rfl ?_ ?_
  · exact sv_leave (l5, v) rfl ⟨rfl, rfl, rfl, rfl, trivial⟩ rfl
  · refine sv_iload d_M_piece_175 rfl ?_
    refine sv_if_eq 194 d_M_piece_177 rfl ?_ ?_
    · refine sv_kill (ls' := [some (.ref 75), some (.int l1), none, none, some (.int l4), none, some (.int l6)]) ⟨rfl, rfl, rfl, rfl, trivial⟩ ?_
      exact c_M_piece_b194 d l1 l4 l6 v 
    · refine sv_aload_n d_M_piece_180 rfl ?_
      refine sv_getr d_M_piece_181 (gf_M_65 mc_178) so_75 sm_75_19 ?_
      refine sv_iload d_M_piece_184 rfl ?_
      refine sv_zald d_M_piece_186 sa_94 ?_
      refine sv_if_eq 194 d_M_piece_187 rfl ?_ ?_
      · refine sv_kill (ls' := [some (.ref 75), some (.int l1), none, none, some (.int l4), none, some (.int l6)]) ⟨rfl, rfl, rfl, rfl, trivial⟩ ?_
        exact c_M_piece_b194 d l1 l4 l6 v 
      · refine sv_iconst (x := (1 : Int32)) d_M_piece_190 (by decide) ?_
        refine sv_goto 195 d_M_piece_191 rfl ?_
        refine sv_kill (ls' := [some (.ref 75), some (.int l1), none, none, some (.int l4), none, some (.int l6)]) ⟨rfl, rfl, rfl, rfl, trivial⟩ ?_
        exact c_M_piece_b195 d l1 l4 l6 (1 : Int32) v 
set_option maxHeartbeats 4000000 in
set_option maxRecDepth 100000 in
theorem c_M_piece_l230 (d : Nat) (l1 : Int32) (l4 : Int32) (l6 : Int32) (v : sv_T)  : sv_Ref (d + 11) 178 230 [some (.ref 75), some (.int l1), none, none, some (.int l4), none, some (.int l6)] [] v (f_M_piece_l230 l1 l4 l6 v) (sv_Zl (d + 11) 178 230 (fun (s : Int32 × sv_T) => [some (.ref 75), some (.int l1), none, none, some (.int l4), none, some (.int s.1)]) (fun (s : Int32 × sv_T) => s.2) (sv_Zt (d + 11) 178 265 (fun (s : sv_T) => [some (.ref 75), some (.int l1), none, none, some (.int l4), none, none]) (fun (s : sv_T) => s))) := by
  unfold f_M_piece_l230
  refine sv_iload d_M_piece_230 rfl ?_
  refine sv_aload_n d_M_piece_232 rfl ?_
  refine sv_geti d_M_piece_233 (gf_M_169 mc_178) so_75 (sd_10_41 so_75) ?_
  refine sv_icmp_ge 265 d_M_piece_236 rfl ?_ ?_
  · exact sv_leave v rfl ⟨rfl, rfl, rfl, trivial⟩ rfl
  · refine sv_aload_n d_M_piece_239 rfl ?_
    refine sv_getr d_M_piece_240 (gf_M_125 mc_178) so_75 sm_75_40 ?_
    refine sv_iload d_M_piece_243 rfl ?_
    refine sv_aload_n d_M_piece_245 rfl ?_
    refine sv_getr d_M_piece_246 (gf_M_62 mc_178) so_75 sm_75_18 ?_
    refine sv_bipush (x := (48 : Int32)) d_M_piece_249 (by decide) ?_
    refine sv_iload d_M_piece_251 rfl ?_
    refine sv_imul d_M_piece_253 ?_
    refine sv_iload d_M_piece_254 rfl ?_
    refine sv_iadd d_M_piece_256 ?_
    refine sv_iald d_M_piece_257 sa_93 ?_
    refine sv_iast d_M_piece_258 sa_114 (fun v13 => ?_)
    refine sv_iinc (ls' := fun x14 => [some (.ref 75), some (.int l1), none, none, some (.int l4), none, some (.int x14)]) (y := (1 : Int32)) d_M_piece_259 rfl (by decide) (fun _ => rfl) (fun x14 => ?_)
    refine sv_goto 230 d_M_piece_262 rfl ?_
    exact sv_next (x14, v13) ⟨rfl, rfl, rfl, rfl, trivial⟩ rfl
set_option maxHeartbeats 4000000 in
set_option maxRecDepth 100000 in
theorem c_M_piece_x265 (d : Nat) (l1 : Int32) (l4 : Int32) (v : sv_T)  : sv_Ref (d + 11) 178 265 [some (.ref 75), some (.int l1), none, none, some (.int l4), none, none] [] v (f_M_piece_x265 l1 l4 v) (sv_Zv) := by
  unfold f_M_piece_x265
  refine sv_aload_n d_M_piece_265 rfl ?_
  refine sv_iload_n d_M_piece_266 rfl ?_
  refine sv_aload_n d_M_piece_267 rfl ?_
  refine sv_getr d_M_piece_268 (gf_M_53 mc_178) so_75 sm_75_15 ?_
  refine sv_iload d_M_piece_271 rfl ?_
  refine sv_iald d_M_piece_273 sa_90 ?_
  refine sv_callVv (d := d + 10) (as := [.int l1, .int (v 90 l4.toNatClampNeg)]) d_M_piece_274 (wv_M_176 mc_178) so_75 ⟨_, rfl, rfl⟩ rfl (Nat.le_of_ble_eq_true rfl) rfl (c_M_arrives (d + 0) l1 (v 90 l4.toNatClampNeg) v ) (fun v15 => ?_)
  exact sv_vret rfl d_M_piece_277
set_option maxHeartbeats 4000000 in
set_option maxRecDepth 100000 in
theorem c_M_piece_x203 (d : Nat) (l1 : Int32) (l4 : Int32) (l5 : Int32) (v : sv_T)  : sv_Ref (d + 11) 178 203 [some (.ref 75), some (.int l1), none, none, some (.int l4), some (.int l5), none] [] v (f_M_piece_x203 l1 l4 l5 v) (sv_Zv) := by
  unfold f_M_piece_x203
  refine sv_iload d_M_piece_203 rfl ?_
  refine sv_if_eq 277 d_M_piece_205 rfl ?_ ?_
  · exact sv_vret rfl d_M_piece_277
  · refine sv_aload_n d_M_piece_208 rfl ?_
    refine sv_getr d_M_piece_209 (gf_M_46 mc_178) so_75 sm_75_13 ?_
    refine sv_iload d_M_piece_212 rfl ?_
    refine sv_iconst (x := (0 : Int32)) d_M_piece_214 (by decide) ?_
    refine sv_zast (y := (0 : Int32)) d_M_piece_215 sa_88 (by decide) (fun v11 => ?_)
    refine sv_aload_n d_M_piece_216 rfl ?_
    refine sv_aload_n d_M_piece_217 rfl ?_
    refine sv_getr d_M_piece_218 (gf_M_59 mc_178) so_75 sm_75_17 ?_
    refine sv_iload d_M_piece_221 rfl ?_
    refine sv_iald d_M_piece_223 sa_92 ?_
    refine sv_puti d_M_piece_224 (pf_M_169 mc_178) so_75 (sd_10_41 so_75) (fun v12 => ?_)
    refine sv_iconst (x := (0 : Int32)) d_M_piece_227 (by decide) ?_
    refine sv_istore (ls' := [some (.ref 75), some (.int l1), none, none, some (.int l4), some (.int l5), some (.int (0 : Int32))]) d_M_piece_228 (by decide) rfl ?_
    refine sv_kill (ls' := [some (.ref 75), some (.int l1), none, none, some (.int l4), none, some (.int (0 : Int32))]) ⟨rfl, rfl, rfl, rfl, trivial⟩ ?_
    exact sv_seq (xt := 265) (L := (fun (s : sv_T) => [some (.ref 75), some (.int l1), none, none, some (.int l4), none, none])) (S := (fun (s : sv_T) => s)) (sv_loopR (L := (fun (s : Int32 × sv_T) => [some (.ref 75), some (.int l1), none, none, some (.int l4), none, some (.int s.1)])) (S := (fun (s : Int32 × sv_T) => s.2)) (fun s => c_M_piece_l230 d l1 l4 s.1 (s.2) ) 100000 ((0 : Int32), v12)) (fun s => c_M_piece_x265 d l1 l4 s )
set_option maxHeartbeats 4000000 in
set_option maxRecDepth 100000 in
theorem c_M_piece_b148 (d : Nat) (l1 : Int32) (l4 : Int32) (s0 : Int32) (v : sv_T)  : sv_Ref (d + 11) 178 148 [some (.ref 75), some (.int l1), none, none, some (.int l4), none, none] [.int s0] v (f_M_piece_b148 l1 l4 s0 v) (sv_Zv) := by
  unfold f_M_piece_b148
  refine sv_istore (ls' := [some (.ref 75), some (.int l1), none, none, some (.int l4), some (.int s0), none]) d_M_piece_148 (by decide) rfl ?_
  refine sv_bipush (x := (48 : Int32)) d_M_piece_150 (by decide) ?_
  refine sv_iload d_M_piece_152 rfl ?_
  refine sv_imul d_M_piece_154 ?_
  refine sv_leR (fun x9 => ?_)
  refine sv_istore (ls' := [some (.ref 75), some (.int l1), none, none, some (.int l4), some (.int s0), some (.int x9)]) d_M_piece_155 (by decide) rfl ?_
  exact sv_seq (xt := 203) (L := (fun (s : Int32 × sv_T) => [some (.ref 75), some (.int l1), none, none, some (.int l4), some (.int s.1), none])) (S := (fun (s : Int32 × sv_T) => s.2)) (sv_loopR (L := (fun (s : Int32 × Int32 × sv_T) => [some (.ref 75), some (.int l1), none, none, some (.int l4), some (.int s.1), some (.int s.2.1)])) (S := (fun (s : Int32 × Int32 × sv_T) => s.2.2)) (fun s => c_M_piece_l157 d l1 l4 s.1 s.2.1 (s.2.2) ) 100000 (s0, x9, v)) (fun s => c_M_piece_x203 d l1 l4 s.1 (s.2) )
set_option maxHeartbeats 4000000 in
set_option maxRecDepth 100000 in
theorem c_M_piece_b132 (d : Nat) (l1 : Int32) (l4 : Int32) (s0 : Int32) (s1 : Int32) (v : sv_T)  : sv_Ref (d + 11) 178 132 [some (.ref 75), some (.int l1), none, none, some (.int l4), none, none] [.int s0, .int s1, .ref 92] v (f_M_piece_b132 l1 l4 s0 s1 v) (sv_Zv) := by
  unfold f_M_piece_b132
  refine sv_iast d_M_piece_132 sa_92 (fun v8 => ?_)
  refine sv_aload_n d_M_piece_133 rfl ?_
  refine sv_getr d_M_piece_134 (gf_M_59 mc_178) so_75 sm_75_17 ?_
  refine sv_iload d_M_piece_137 rfl ?_
  refine sv_iald d_M_piece_139 sa_92 ?_
  refine sv_if_le 147 d_M_piece_140 rfl ?_ ?_
  · refine sv_iconst (x := (0 : Int32)) d_M_piece_147 (by decide) ?_
    exact c_M_piece_b148 d l1 l4 (0 : Int32) v8 
  · refine sv_iconst (x := (1 : Int32)) d_M_piece_143 (by decide) ?_
    refine sv_goto 148 d_M_piece_144 rfl ?_
    exact c_M_piece_b148 d l1 l4 (1 : Int32) v8 
set_option maxHeartbeats 4000000 in
set_option maxRecDepth 100000 in
theorem c_M_piece_x101 (d : Nat) (l1 : Int32) (l2 : Int32) (l3 : Int32) (l4 : Int32) (v : sv_T)  : sv_Ref (d + 11) 178 101 [some (.ref 75), some (.int l1), some (.int l2), some (.int l3), some (.int l4), none, none] [] v (f_M_piece_x101 l1 l2 l3 l4 v) (sv_Zv) := by
  unfold f_M_piece_x101
  refine sv_aload_n d_M_piece_101 rfl ?_
  refine sv_getr d_M_piece_102 (gf_M_59 mc_178) so_75 sm_75_17 ?_
  refine sv_iload d_M_piece_105 rfl ?_
  refine sv_aload_n d_M_piece_107 rfl ?_
  refine sv_getr d_M_piece_108 (gf_M_131 mc_178) so_75 sm_75_44 ?_
  refine sv_iconst (x := (2 : Int32)) d_M_piece_111 (by decide) ?_
  refine sv_ialdc (m := 2) d_M_piece_112 sa_116 (by decide) rfl ?_
  refine sv_sipush (x := (128 : Int32)) d_M_piece_113 (by decide) ?_
  refine sv_icmp_ge 125 d_M_piece_116 rfl ?_ ?_
  · refine sv_aload_n d_M_piece_125 rfl ?_
    refine sv_getr d_M_piece_126 (gf_M_59 mc_178) so_75 sm_75_17 ?_
    refine sv_iload d_M_piece_129 rfl ?_
    refine sv_iald d_M_piece_131 sa_92 ?_
    refine sv_kill (ls' := [some (.ref 75), some (.int l1), none, none, some (.int l4), none, none]) ⟨rfl, rfl, rfl, trivial⟩ ?_
    exact c_M_piece_b132 d l1 l4 (v 92 l4.toNatClampNeg) l4 v 
  · refine sv_iload_n d_M_piece_119 rfl ?_
    refine sv_iload_n d_M_piece_120 rfl ?_
    refine sv_iadd d_M_piece_121 ?_
    refine sv_goto 132 d_M_piece_122 rfl ?_
    refine sv_kill (ls' := [some (.ref 75), some (.int l1), none, none, some (.int l4), none, none]) ⟨rfl, rfl, rfl, trivial⟩ ?_
    exact c_M_piece_b132 d l1 l4 (l3 + l2) l4 v 
set_option maxHeartbeats 4000000 in
set_option maxRecDepth 100000 in
theorem c_M_piece (d : Nat) (a1 : Int32) (a2 : Int32) (v : sv_T)  : sv_Cl (d + 11) 178 [.ref 75, .int a1, .int a2] v (f_M_piece a1 a2 v) sv_Zv := by
  refine sv_spec (ls0 := [some (.ref 75), some (.int a1), some (.int a2), none, none, none, none]) mp_178 (Nat.le_of_ble_eq_true rfl) rfl ?_
  unfold f_M_piece
  refine sv_aload_n d_M_piece_0 rfl ?_
  refine sv_getr d_M_piece_1 (gf_M_131 mc_178) so_75 sm_75_44 ?_
  refine sv_iconst (x := (2 : Int32)) d_M_piece_4 (by decide) ?_
  refine sv_ialdc (m := 2) d_M_piece_5 sa_116 (by decide) rfl ?_
  refine sv_sipush (x := (128 : Int32)) d_M_piece_6 (by decide) ?_
  refine sv_irem d_M_piece_9 (by decide) ?_
  refine sv_iconst (x := (4 : Int32)) d_M_piece_10 (by decide) ?_
  refine sv_imul d_M_piece_11 ?_
  refine sv_leR (fun x1 => ?_)
  refine sv_istore_n (ls' := [some (.ref 75), some (.int a1), some (.int a2), some (.int x1), none, none, none]) d_M_piece_12 (by decide) rfl ?_
  refine sv_iload_n d_M_piece_13 rfl ?_
  refine sv_iload_n d_M_piece_14 rfl ?_
  refine sv_iadd d_M_piece_15 ?_
  refine sv_bipush (x := (48 : Int32)) d_M_piece_16 (by decide) ?_
  refine sv_icmp_le 22 d_M_piece_18 rfl ?_ ?_
  · refine sv_aload_n d_M_piece_22 rfl ?_
    refine sv_iload_n d_M_piece_23 rfl ?_
    refine sv_callVi (d := d + 10) (as := [.int a1]) d_M_piece_24 (wv_M_183 mc_178) so_75 ⟨_, rfl, rfl⟩ rfl (Nat.le_of_ble_eq_true rfl) rfl (c_M_slotFor (d + 10) a1 v ) (fun x3 v2 => ?_)
    refine sv_istore (ls' := [some (.ref 75), some (.int a1), some (.int a2), some (.int x1), some (.int x3), none, none]) d_M_piece_27 (by decide) rfl ?_
    refine sv_iconst (x := (0 : Int32)) d_M_piece_29 (by decide) ?_
    refine sv_istore (ls' := [some (.ref 75), some (.int a1), some (.int a2), some (.int x1), some (.int x3), some (.int (0 : Int32)), none]) d_M_piece_30 (by decide) rfl ?_
    exact sv_seq (xt := 101) (L := (fun (s : sv_T) => [some (.ref 75), some (.int a1), some (.int a2), some (.int x1), some (.int x3), none, none])) (S := (fun (s : sv_T) => s)) (sv_loopR (L := (fun (s : Int32 × sv_T) => [some (.ref 75), some (.int a1), some (.int a2), some (.int x1), some (.int x3), some (.int s.1), none])) (S := (fun (s : Int32 × sv_T) => s.2)) (fun s => c_M_piece_l32 d a1 a2 x1 x3 s.1 (s.2) ) 100000 ((0 : Int32), v2)) (fun s => c_M_piece_x101 d a1 a2 x1 x3 s )
  · exact sv_vret rfl d_M_piece_21
def f_M_came_l52 (l1 : Int32) (l2 : Int32) (l3 : Int32) (v : sv_T) : Option ((Int32 × sv_T) ⊕ (sv_T)) :=
  if l3 < l2 then
  sv_ck ((3 : Int32) + l3) 40 <|
  sv_ck l3 40 <| sv_ls (sv_up v 116 l3.toNatClampNeg (v 113 ((3 : Int32) + l3).toNatClampNeg)) fun v2 =>
  sv_le (l3 + (1 : Int32)) fun x3 =>
  some (.inl (x3, v2))
  else
  some (.inr v)
def f_M_came_l114 (l1 : Int32) (l3 : Int32) (v : sv_T) : Option ((Int32 × sv_T) ⊕ (sv_T)) :=
  if l3 < (v 75 41) then
  sv_ck ((10 : Int32) + l3) 40 <|
  sv_ck l3 64 <| sv_ls (sv_up v 114 l3.toNatClampNeg (v 116 ((10 : Int32) + l3).toNatClampNeg)) fun v9 =>
  sv_le (l3 + (1 : Int32)) fun x10 =>
  some (.inl (x10, v9))
  else
  some (.inr v)
def f_M_came_x143 (l1 : Int32) (v : sv_T) : Option (sv_T) :=
  sv_bv (f_M_arrives l1 (v 116 4) v) fun v11 =>
  some v11
def f_M_came_x77 (l1 : Int32) (l2 : Int32) (v : sv_T) : Option (sv_T) :=
  sv_bv (f_M_copyRow 116 (10 : Int32) v) fun v4 =>
  sv_bi (f_M_check  v4) fun x6 v5 =>
  if x6 = 0 then
  if (v5 116 2) = 0 then
  sv_ls (sv_up v5 75 41 (l2 - (10 : Int32))) fun v8 =>
  Option.bind (sv_loop (fun (s : Int32 × sv_T) => f_M_came_l114 l1 s.1 (s.2)) 100000 ((0 : Int32), v8)) (fun (s : sv_T) => f_M_came_x143 l1 s)
  else
  sv_bv (f_M_piece l1 (l2 - (10 : Int32)) v5) fun v7 =>
  some v7
  else
  some v5
def f_M_came (a1 : Int32) (v : sv_T) : Option (sv_T) :=
  sv_le (((v 75 39) - (3 : Int32))) fun x1 =>
  if x1 < (11 : Int32) then
  some v
  else
  if (v 113 3) = x1 then
  if (v 113 11) = ((2 : Int32) - a1) then
  if (v 113 12) = ((1 : Int32) + a1) then
  Option.bind (sv_loop (fun (s : Int32 × sv_T) => f_M_came_l52 a1 x1 s.1 (s.2)) 100000 ((0 : Int32), v)) (fun (s : sv_T) => f_M_came_x77 a1 x1 s)
  else
  some v
  else
  some v
  else
  some v
set_option maxHeartbeats 4000000 in
set_option maxRecDepth 100000 in
theorem c_M_came_l52 (d : Nat) (l1 : Int32) (l2 : Int32) (l3 : Int32) (v : sv_T)  : sv_Ref (d + 12) 165 52 [some (.ref 75), some (.int l1), some (.int l2), some (.int l3)] [] v (f_M_came_l52 l1 l2 l3 v) (sv_Zl (d + 12) 165 52 (fun (s : Int32 × sv_T) => [some (.ref 75), some (.int l1), some (.int l2), some (.int s.1)]) (fun (s : Int32 × sv_T) => s.2) (sv_Zt (d + 12) 165 77 (fun (s : sv_T) => [some (.ref 75), some (.int l1), some (.int l2), none]) (fun (s : sv_T) => s))) := by
  unfold f_M_came_l52
  refine sv_iload_n d_M_came_52 rfl ?_
  refine sv_iload_n d_M_came_53 rfl ?_
  refine sv_icmp_ge 77 d_M_came_54 rfl ?_ ?_
  · exact sv_leave v rfl ⟨rfl, rfl, rfl, trivial⟩ rfl
  · refine sv_aload_n d_M_came_57 rfl ?_
    refine sv_getr d_M_came_58 (gf_M_131 mc_165) so_75 sm_75_44 ?_
    refine sv_iload_n d_M_came_61 rfl ?_
    refine sv_aload_n d_M_came_62 rfl ?_
    refine sv_getr d_M_came_63 (gf_M_122 mc_165) so_75 sm_75_38 ?_
    refine sv_iconst (x := (3 : Int32)) d_M_came_66 (by decide) ?_
    refine sv_iload_n d_M_came_67 rfl ?_
    refine sv_iadd d_M_came_68 ?_
    refine sv_iald d_M_came_69 sa_113 ?_
    refine sv_iast d_M_came_70 sa_116 (fun v2 => ?_)
    refine sv_iinc (ls' := fun x3 => [some (.ref 75), some (.int l1), some (.int l2), some (.int x3)]) (y := (1 : Int32)) d_M_came_71 rfl (by decide) (fun _ => rfl) (fun x3 => ?_)
    refine sv_goto 52 d_M_came_74 rfl ?_
    exact sv_next (x3, v2) ⟨rfl, rfl, rfl, rfl, trivial⟩ rfl
set_option maxHeartbeats 4000000 in
set_option maxRecDepth 100000 in
theorem c_M_came_l114 (d : Nat) (l1 : Int32) (l3 : Int32) (v : sv_T)  : sv_Ref (d + 12) 165 114 [some (.ref 75), some (.int l1), none, some (.int l3)] [] v (f_M_came_l114 l1 l3 v) (sv_Zl (d + 12) 165 114 (fun (s : Int32 × sv_T) => [some (.ref 75), some (.int l1), none, some (.int s.1)]) (fun (s : Int32 × sv_T) => s.2) (sv_Zt (d + 12) 165 143 (fun (s : sv_T) => [some (.ref 75), some (.int l1), none, none]) (fun (s : sv_T) => s))) := by
  unfold f_M_came_l114
  refine sv_iload_n d_M_came_114 rfl ?_
  refine sv_aload_n d_M_came_115 rfl ?_
  refine sv_geti d_M_came_116 (gf_M_169 mc_165) so_75 (sd_10_41 so_75) ?_
  refine sv_icmp_ge 143 d_M_came_119 rfl ?_ ?_
  · exact sv_leave v rfl ⟨rfl, rfl, trivial⟩ rfl
  · refine sv_aload_n d_M_came_122 rfl ?_
    refine sv_getr d_M_came_123 (gf_M_125 mc_165) so_75 sm_75_40 ?_
    refine sv_iload_n d_M_came_126 rfl ?_
    refine sv_aload_n d_M_came_127 rfl ?_
    refine sv_getr d_M_came_128 (gf_M_131 mc_165) so_75 sm_75_44 ?_
    refine sv_bipush (x := (10 : Int32)) d_M_came_131 (by decide) ?_
    refine sv_iload_n d_M_came_133 rfl ?_
    refine sv_iadd d_M_came_134 ?_
    refine sv_iald d_M_came_135 sa_116 ?_
    refine sv_iast d_M_came_136 sa_114 (fun v9 => ?_)
    refine sv_iinc (ls' := fun x10 => [some (.ref 75), some (.int l1), none, some (.int x10)]) (y := (1 : Int32)) d_M_came_137 rfl (by decide) (fun _ => rfl) (fun x10 => ?_)
    refine sv_goto 114 d_M_came_140 rfl ?_
    exact sv_next (x10, v9) ⟨rfl, rfl, rfl, trivial⟩ rfl
set_option maxHeartbeats 4000000 in
set_option maxRecDepth 100000 in
theorem c_M_came_x143 (d : Nat) (l1 : Int32) (v : sv_T)  : sv_Ref (d + 12) 165 143 [some (.ref 75), some (.int l1), none, none] [] v (f_M_came_x143 l1 v) (sv_Zv) := by
  unfold f_M_came_x143
  refine sv_aload_n d_M_came_143 rfl ?_
  refine sv_iload_n d_M_came_144 rfl ?_
  refine sv_aload_n d_M_came_145 rfl ?_
  refine sv_getr d_M_came_146 (gf_M_131 mc_165) so_75 sm_75_44 ?_
  refine sv_iconst (x := (4 : Int32)) d_M_came_149 (by decide) ?_
  refine sv_ialdc (m := 4) d_M_came_150 sa_116 (by decide) rfl ?_
  refine sv_callVv (d := d + 11) (as := [.int l1, .int (v 116 4)]) d_M_came_151 (wv_M_176 mc_165) so_75 ⟨_, rfl, rfl⟩ rfl (Nat.le_of_ble_eq_true rfl) rfl (c_M_arrives (d + 1) l1 (v 116 4) v ) (fun v11 => ?_)
  refine sv_goto 166 d_M_came_154 rfl ?_
  exact sv_vret rfl d_M_came_166
set_option maxHeartbeats 4000000 in
set_option maxRecDepth 100000 in
theorem c_M_came_x77 (d : Nat) (l1 : Int32) (l2 : Int32) (v : sv_T)  : sv_Ref (d + 12) 165 77 [some (.ref 75), some (.int l1), some (.int l2), none] [] v (f_M_came_x77 l1 l2 v) (sv_Zv) := by
  unfold f_M_came_x77
  refine sv_aload_n d_M_came_77 rfl ?_
  refine sv_aload_n d_M_came_78 rfl ?_
  refine sv_getr d_M_came_79 (gf_M_131 mc_165) so_75 sm_75_44 ?_
  refine sv_bipush (x := (10 : Int32)) d_M_came_82 (by decide) ?_
  refine sv_callVv (d := d + 11) (as := [.ref 116, .int (10 : Int32)]) d_M_came_84 (wv_M_158 mc_165) so_75 ⟨_, rfl, rfl⟩ rfl (Nat.le_of_ble_eq_true rfl) rfl (c_M_copyRow (d + 11) 116 (10 : Int32) v (sv_isAl sa_116)) (fun v4 => ?_)
  refine sv_aload_n d_M_came_87 rfl ?_
  refine sv_callVi (d := d + 11) (as := []) d_M_came_88 (wv_M_162 mc_165) so_75 ⟨_, rfl, rfl⟩ rfl (Nat.le_of_ble_eq_true rfl) rfl (c_M_check (d + 11)  v4 ) (fun x6 v5 => ?_)
  refine sv_if_eq 95 d_M_came_91 rfl ?_ ?_
  · refine sv_aload_n d_M_came_95 rfl ?_
    refine sv_getr d_M_came_96 (gf_M_131 mc_165) so_75 sm_75_44 ?_
    refine sv_iconst (x := (2 : Int32)) d_M_came_99 (by decide) ?_
    refine sv_ialdc (m := 2) d_M_came_100 sa_116 (by decide) rfl ?_
    refine sv_if_ne 157 d_M_came_101 rfl ?_ ?_
    · refine sv_aload_n d_M_came_157 rfl ?_
      refine sv_iload_n d_M_came_158 rfl ?_
      refine sv_iload_n d_M_came_159 rfl ?_
      refine sv_bipush (x := (10 : Int32)) d_M_came_160 (by decide) ?_
      refine sv_isub d_M_came_162 ?_
      refine sv_callVv (d := d + 11) (as := [.int l1, .int (l2 - (10 : Int32))]) d_M_came_163 (wv_M_180 mc_165) so_75 ⟨_, rfl, rfl⟩ rfl (Nat.le_of_ble_eq_true rfl) rfl (c_M_piece (d + 0) l1 (l2 - (10 : Int32)) v5 ) (fun v7 => ?_)
      exact sv_vret rfl d_M_came_166
    · refine sv_aload_n d_M_came_104 rfl ?_
      refine sv_iload_n d_M_came_105 rfl ?_
      refine sv_bipush (x := (10 : Int32)) d_M_came_106 (by decide) ?_
      refine sv_isub d_M_came_108 ?_
      refine sv_puti d_M_came_109 (pf_M_169 mc_165) so_75 (sd_10_41 so_75) (fun v8 => ?_)
      refine sv_iconst (x := (0 : Int32)) d_M_came_112 (by decide) ?_
      refine sv_istore_n (ls' := [some (.ref 75), some (.int l1), some (.int l2), some (.int (0 : Int32))]) d_M_came_113 (by decide) rfl ?_
      refine sv_kill (ls' := [some (.ref 75), some (.int l1), none, some (.int (0 : Int32))]) ⟨rfl, rfl, rfl, trivial⟩ ?_
      exact sv_seq (xt := 143) (L := (fun (s : sv_T) => [some (.ref 75), some (.int l1), none, none])) (S := (fun (s : sv_T) => s)) (sv_loopR (L := (fun (s : Int32 × sv_T) => [some (.ref 75), some (.int l1), none, some (.int s.1)])) (S := (fun (s : Int32 × sv_T) => s.2)) (fun s => c_M_came_l114 d l1 s.1 (s.2) ) 100000 ((0 : Int32), v8)) (fun s => c_M_came_x143 d l1 s )
  · exact sv_vret rfl d_M_came_94
set_option maxHeartbeats 4000000 in
set_option maxRecDepth 100000 in
theorem c_M_came (d : Nat) (a1 : Int32) (v : sv_T)  : sv_Cl (d + 12) 165 [.ref 75, .int a1] v (f_M_came a1 v) sv_Zv := by
  refine sv_spec (ls0 := [some (.ref 75), some (.int a1), none, none]) mp_165 (Nat.le_of_ble_eq_true rfl) rfl ?_
  unfold f_M_came
  refine sv_aload_n d_M_came_0 rfl ?_
  refine sv_geti d_M_came_1 (gf_M_144 mc_165) so_75 (sd_10_39 so_75) ?_
  refine sv_iconst (x := (3 : Int32)) d_M_came_4 (by decide) ?_
  refine sv_isub d_M_came_5 ?_
  refine sv_leR (fun x1 => ?_)
  refine sv_istore_n (ls' := [some (.ref 75), some (.int a1), some (.int x1), none]) d_M_came_6 (by decide) rfl ?_
  refine sv_iload_n d_M_came_7 rfl ?_
  refine sv_bipush (x := (11 : Int32)) d_M_came_8 (by decide) ?_
  refine sv_icmp_lt 49 d_M_came_10 rfl ?_ ?_
  · exact sv_vret rfl d_M_came_49
  · refine sv_aload_n d_M_came_13 rfl ?_
    refine sv_getr d_M_came_14 (gf_M_122 mc_165) so_75 sm_75_38 ?_
    refine sv_iconst (x := (3 : Int32)) d_M_came_17 (by decide) ?_
    refine sv_ialdc (m := 3) d_M_came_18 sa_113 (by decide) rfl ?_
    refine sv_iload_n d_M_came_19 rfl ?_
    refine sv_icmp_ne 49 d_M_came_20 rfl ?_ ?_
    · exact sv_vret rfl d_M_came_49
    · refine sv_aload_n d_M_came_23 rfl ?_
      refine sv_getr d_M_came_24 (gf_M_122 mc_165) so_75 sm_75_38 ?_
      refine sv_bipush (x := (11 : Int32)) d_M_came_27 (by decide) ?_
      refine sv_ialdc (m := 11) d_M_came_29 sa_113 (by decide) rfl ?_
      refine sv_iconst (x := (2 : Int32)) d_M_came_30 (by decide) ?_
      refine sv_iload_n d_M_came_31 rfl ?_
      refine sv_isub d_M_came_32 ?_
      refine sv_icmp_ne 49 d_M_came_33 rfl ?_ ?_
      · exact sv_vret rfl d_M_came_49
      · refine sv_aload_n d_M_came_36 rfl ?_
        refine sv_getr d_M_came_37 (gf_M_122 mc_165) so_75 sm_75_38 ?_
        refine sv_bipush (x := (12 : Int32)) d_M_came_40 (by decide) ?_
        refine sv_ialdc (m := 12) d_M_came_42 sa_113 (by decide) rfl ?_
        refine sv_iconst (x := (1 : Int32)) d_M_came_43 (by decide) ?_
        refine sv_iload_n d_M_came_44 rfl ?_
        refine sv_iadd d_M_came_45 ?_
        refine sv_icmp_eq 50 d_M_came_46 rfl ?_ ?_
        · refine sv_iconst (x := (0 : Int32)) d_M_came_50 (by decide) ?_
          refine sv_istore_n (ls' := [some (.ref 75), some (.int a1), some (.int x1), some (.int (0 : Int32))]) d_M_came_51 (by decide) rfl ?_
          exact sv_seq (xt := 77) (L := (fun (s : sv_T) => [some (.ref 75), some (.int a1), some (.int x1), none])) (S := (fun (s : sv_T) => s)) (sv_loopR (L := (fun (s : Int32 × sv_T) => [some (.ref 75), some (.int a1), some (.int x1), some (.int s.1)])) (S := (fun (s : Int32 × sv_T) => s.2)) (fun s => c_M_came_l52 d a1 x1 s.1 (s.2) ) 100000 ((0 : Int32), v)) (fun s => c_M_came_x77 d a1 x1 s )
        · exact sv_vret rfl d_M_came_49
def f_M_carry_l25 (l1 : Int32) (l2 : Int32) (v : sv_T) : Option ((Int32 × sv_T) ⊕ (sv_T)) :=
  if l2 < (v 75 39) then
  sv_ck (((640 : Int32) * l1) + l2) 1280 <|
  sv_ck l2 40 <| sv_ls (sv_up v 113 l2.toNatClampNeg (v 78 (((640 : Int32) * l1) + l2).toNatClampNeg)) fun v4 =>
  sv_le (l2 + (1 : Int32)) fun x5 =>
  some (.inl (x5, v4))
  else
  some (.inr v)
def f_M_carry_b91 (l1 : Int32) (l2 : Int32) (v : sv_T) : Option (Int32 × sv_T) :=
  if l2 = (6 : Int32) then
  sv_bv (f_M_asked l1 v) fun v10 =>
  some (l2, v10)
  else
  if l2 = (8 : Int32) then
  sv_bv (f_M_came l1 v) fun v9 =>
  some (l2, v9)
  else
  some (l2, v)
def f_M_carry_x57 (l1 : Int32) (v : sv_T) : Option (Int32 × sv_T) :=
  sv_le ((v 113 2)) fun x6 =>
  sv_le ((v 113 0)) fun x7 =>
  sv_bv (f_M_land l1 v) fun v8 =>
  if x7 = ((16 : Int32) + l1) then
  f_M_carry_b91 l1 x6 v8
  else
  if x7 = (255 : Int32) then
  f_M_carry_b91 l1 x6 v8
  else
  some (x6, v8)
def f_M_carry (a1 : Int32) (v : sv_T) : Option (Int32 × sv_T) :=
  sv_bi (f_M_any a1 v) fun x2 v1 =>
  if x2 = 0 then
  some ((-1 : Int32), v1)
  else
  sv_ck ((16 : Int32) * a1) 32 <|
  sv_ls (sv_up v1 75 39 (v1 77 ((16 : Int32) * a1).toNatClampNeg)) fun v3 =>
  Option.bind (sv_loop (fun (s : Int32 × sv_T) => f_M_carry_l25 a1 s.1 (s.2)) 100000 ((0 : Int32), v3)) (fun (s : sv_T) => f_M_carry_x57 a1 s)
set_option maxHeartbeats 4000000 in
set_option maxRecDepth 100000 in
theorem c_M_carry_l25 (d : Nat) (l1 : Int32) (l2 : Int32) (v : sv_T)  : sv_Ref (d + 13) 161 25 [some (.ref 75), some (.int l1), some (.int l2), none] [] v (f_M_carry_l25 l1 l2 v) (sv_Zl (d + 13) 161 25 (fun (s : Int32 × sv_T) => [some (.ref 75), some (.int l1), some (.int s.1), none]) (fun (s : Int32 × sv_T) => s.2) (sv_Zt (d + 13) 161 57 (fun (s : sv_T) => [some (.ref 75), some (.int l1), none, none]) (fun (s : sv_T) => s))) := by
  unfold f_M_carry_l25
  refine sv_iload_n d_M_carry_25 rfl ?_
  refine sv_aload_n d_M_carry_26 rfl ?_
  refine sv_geti d_M_carry_27 (gf_M_144 mc_161) so_75 (sd_10_39 so_75) ?_
  refine sv_icmp_ge 57 d_M_carry_30 rfl ?_ ?_
  · exact sv_leave v rfl ⟨rfl, rfl, trivial⟩ rfl
  · refine sv_aload_n d_M_carry_33 rfl ?_
    refine sv_getr d_M_carry_34 (gf_M_122 mc_161) so_75 sm_75_38 ?_
    refine sv_iload_n d_M_carry_37 rfl ?_
    refine sv_aload_n d_M_carry_38 rfl ?_
    refine sv_getr d_M_carry_39 (gf_M_16 mc_161) so_75 sm_75_3 ?_
    refine sv_sipush (x := (640 : Int32)) d_M_carry_42 (by decide) ?_
    refine sv_iload_n d_M_carry_45 rfl ?_
    refine sv_imul d_M_carry_46 ?_
    refine sv_iload_n d_M_carry_47 rfl ?_
    refine sv_iadd d_M_carry_48 ?_
    refine sv_iald d_M_carry_49 sa_78 ?_
    refine sv_iast d_M_carry_50 sa_113 (fun v4 => ?_)
    refine sv_iinc (ls' := fun x5 => [some (.ref 75), some (.int l1), some (.int x5), none]) (y := (1 : Int32)) d_M_carry_51 rfl (by decide) (fun _ => rfl) (fun x5 => ?_)
    refine sv_goto 25 d_M_carry_54 rfl ?_
    exact sv_next (x5, v4) ⟨rfl, rfl, rfl, trivial⟩ rfl
set_option maxHeartbeats 4000000 in
set_option maxRecDepth 100000 in
theorem c_M_carry_b91 (d : Nat) (l1 : Int32) (l2 : Int32) (v : sv_T)  : sv_Ref (d + 13) 161 91 [some (.ref 75), some (.int l1), some (.int l2), none] [] v (f_M_carry_b91 l1 l2 v) (sv_Zi) := by
  unfold f_M_carry_b91
  refine sv_iload_n d_M_carry_91 rfl ?_
  refine sv_bipush (x := (6 : Int32)) d_M_carry_92 (by decide) ?_
  refine sv_icmp_ne 105 d_M_carry_94 rfl ?_ ?_
  · refine sv_iload_n d_M_carry_105 rfl ?_
    refine sv_bipush (x := (8 : Int32)) d_M_carry_106 (by decide) ?_
    refine sv_icmp_ne 116 d_M_carry_108 rfl ?_ ?_
    · refine sv_iload_n d_M_carry_116 rfl ?_
      exact sv_iret rfl d_M_carry_117
    · refine sv_aload_n d_M_carry_111 rfl ?_
      refine sv_iload_n d_M_carry_112 rfl ?_
      refine sv_callVv (d := d + 12) (as := [.int l1]) d_M_carry_113 (wv_M_295 mc_161) so_75 ⟨_, rfl, rfl⟩ rfl (Nat.le_of_ble_eq_true rfl) rfl (c_M_came (d + 0) l1 v ) (fun v9 => ?_)
      refine sv_iload_n d_M_carry_116 rfl ?_
      exact sv_iret rfl d_M_carry_117
  · refine sv_aload_n d_M_carry_97 rfl ?_
    refine sv_iload_n d_M_carry_98 rfl ?_
    refine sv_callVv (d := d + 12) (as := [.int l1]) d_M_carry_99 (wv_M_292 mc_161) so_75 ⟨_, rfl, rfl⟩ rfl (Nat.le_of_ble_eq_true rfl) rfl (c_M_asked (d + 10) l1 v ) (fun v10 => ?_)
    refine sv_goto 116 d_M_carry_102 rfl ?_
    refine sv_iload_n d_M_carry_116 rfl ?_
    exact sv_iret rfl d_M_carry_117
set_option maxHeartbeats 4000000 in
set_option maxRecDepth 100000 in
theorem c_M_carry_x57 (d : Nat) (l1 : Int32) (v : sv_T)  : sv_Ref (d + 13) 161 57 [some (.ref 75), some (.int l1), none, none] [] v (f_M_carry_x57 l1 v) (sv_Zi) := by
  unfold f_M_carry_x57
  refine sv_aload_n d_M_carry_57 rfl ?_
  refine sv_getr d_M_carry_58 (gf_M_122 mc_161) so_75 sm_75_38 ?_
  refine sv_iconst (x := (2 : Int32)) d_M_carry_61 (by decide) ?_
  refine sv_ialdc (m := 2) d_M_carry_62 sa_113 (by decide) rfl ?_
  refine sv_leR (fun x6 => ?_)
  refine sv_istore_n (ls' := [some (.ref 75), some (.int l1), some (.int x6), none]) d_M_carry_63 (by decide) rfl ?_
  refine sv_aload_n d_M_carry_64 rfl ?_
  refine sv_getr d_M_carry_65 (gf_M_122 mc_161) so_75 sm_75_38 ?_
  refine sv_iconst (x := (0 : Int32)) d_M_carry_68 (by decide) ?_
  refine sv_ialdc (m := 0) d_M_carry_69 sa_113 (by decide) rfl ?_
  refine sv_leR (fun x7 => ?_)
  refine sv_istore_n (ls' := [some (.ref 75), some (.int l1), some (.int x6), some (.int x7)]) d_M_carry_70 (by decide) rfl ?_
  refine sv_aload_n d_M_carry_71 rfl ?_
  refine sv_iload_n d_M_carry_72 rfl ?_
  refine sv_callVv (d := d + 12) (as := [.int l1]) d_M_carry_73 (wv_M_289 mc_161) so_75 ⟨_, rfl, rfl⟩ rfl (Nat.le_of_ble_eq_true rfl) rfl (c_M_land (d + 12) l1 v ) (fun v8 => ?_)
  refine sv_iload_n d_M_carry_76 rfl ?_
  refine sv_bipush (x := (16 : Int32)) d_M_carry_77 (by decide) ?_
  refine sv_iload_n d_M_carry_79 rfl ?_
  refine sv_iadd d_M_carry_80 ?_
  refine sv_icmp_eq 91 d_M_carry_81 rfl ?_ ?_
  · refine sv_kill (ls' := [some (.ref 75), some (.int l1), some (.int x6), none]) ⟨rfl, rfl, rfl, trivial⟩ ?_
    exact c_M_carry_b91 d l1 x6 v8 
  · refine sv_iload_n d_M_carry_84 rfl ?_
    refine sv_sipush (x := (255 : Int32)) d_M_carry_85 (by decide) ?_
    refine sv_icmp_ne 116 d_M_carry_88 rfl ?_ ?_
    · refine sv_iload_n d_M_carry_116 rfl ?_
      exact sv_iret rfl d_M_carry_117
    · refine sv_kill (ls' := [some (.ref 75), some (.int l1), some (.int x6), none]) ⟨rfl, rfl, rfl, trivial⟩ ?_
      exact c_M_carry_b91 d l1 x6 v8 
set_option maxHeartbeats 4000000 in
set_option maxRecDepth 100000 in
theorem c_M_carry (d : Nat) (a1 : Int32) (v : sv_T)  : sv_Cl (d + 13) 161 [.ref 75, .int a1] v (f_M_carry a1 v) sv_Zi := by
  refine sv_spec (ls0 := [some (.ref 75), some (.int a1), none, none]) mp_161 (Nat.le_of_ble_eq_true rfl) rfl ?_
  unfold f_M_carry
  refine sv_aload_n d_M_carry_0 rfl ?_
  refine sv_iload_n d_M_carry_1 rfl ?_
  refine sv_callVi (d := d + 12) (as := [.int a1]) d_M_carry_2 (wv_M_286 mc_161) so_75 ⟨_, rfl, rfl⟩ rfl (Nat.le_of_ble_eq_true rfl) rfl (c_M_any (d + 11) a1 v ) (fun x2 v1 => ?_)
  refine sv_if_ne 10 d_M_carry_5 rfl ?_ ?_
  · refine sv_aload_n d_M_carry_10 rfl ?_
    refine sv_aload_n d_M_carry_11 rfl ?_
    refine sv_getr d_M_carry_12 (gf_M_13 mc_161) so_75 sm_75_2 ?_
    refine sv_bipush (x := (16 : Int32)) d_M_carry_15 (by decide) ?_
    refine sv_iload_n d_M_carry_17 rfl ?_
    refine sv_imul d_M_carry_18 ?_
    refine sv_iald d_M_carry_19 sa_77 ?_
    refine sv_puti d_M_carry_20 (pf_M_144 mc_161) so_75 (sd_10_39 so_75) (fun v3 => ?_)
    refine sv_iconst (x := (0 : Int32)) d_M_carry_23 (by decide) ?_
    refine sv_istore_n (ls' := [some (.ref 75), some (.int a1), some (.int (0 : Int32)), none]) d_M_carry_24 (by decide) rfl ?_
    exact sv_seq (xt := 57) (L := (fun (s : sv_T) => [some (.ref 75), some (.int a1), none, none])) (S := (fun (s : sv_T) => s)) (sv_loopR (L := (fun (s : Int32 × sv_T) => [some (.ref 75), some (.int a1), some (.int s.1), none])) (S := (fun (s : Int32 × sv_T) => s.2)) (fun s => c_M_carry_l25 d a1 s.1 (s.2) ) 100000 ((0 : Int32), v3)) (fun s => c_M_carry_x57 d a1 s )
  · refine sv_iconst (x := (-1 : Int32)) d_M_carry_8 (by decide) ?_
    exact sv_iret rfl d_M_carry_9
def f_M_disturb_l50 (l1 : Int32) (l2 : Int32) (l3 : Int32) (v : sv_T) : Option ((Int32 × sv_T) ⊕ (sv_T)) :=
  if l3 < (v 75 39) then
  sv_ck (((640 : Int32) * l1) + l3) 1280 <|
  sv_ck l3 40 <| sv_ls (sv_up v 113 l3.toNatClampNeg (v 78 (((640 : Int32) * l1) + l3).toNatClampNeg)) fun v4 =>
  sv_le (l3 + (1 : Int32)) fun x5 =>
  some (.inl (x5, v4))
  else
  some (.inr v)
def f_M_disturb_b92 (l1 : Int32) (l2 : Int32) (v : sv_T) : Option (Int32 × sv_T) :=
  if 0 < l2 then
  sv_bv (f_M_fly ((1 : Int32) - l1) v) fun v6 =>
  some ((1 : Int32), v6)
  else
  some ((1 : Int32), v)
def f_M_disturb_x82 (l1 : Int32) (l2 : Int32) (v : sv_T) : Option (Int32 × sv_T) :=
  if l2 < (2 : Int32) then
  sv_bv (f_M_land l1 v) fun v7 =>
  f_M_disturb_b92 l1 l2 v7
  else
  f_M_disturb_b92 l1 l2 v
def f_M_disturb_b35 (l1 : Int32) (l2 : Int32) (v : sv_T) : Option (Int32 × sv_T) :=
  sv_ck ((16 : Int32) * l1) 32 <|
  sv_ls (sv_up v 75 39 (v 77 ((16 : Int32) * l1).toNatClampNeg)) fun v3 =>
  Option.bind (sv_loop (fun (s : Int32 × sv_T) => f_M_disturb_l50 l1 l2 s.1 (s.2)) 100000 ((0 : Int32), v3)) (fun (s : sv_T) => f_M_disturb_x82 l1 l2 s)
def f_M_disturb (a1 : Int32) (a2 : Int32) (v : sv_T) : Option (Int32 × sv_T) :=
  sv_bi (f_M_any a1 v) fun x2 v1 =>
  if x2 = 0 then
  some ((0 : Int32), v1)
  else
  if a2 < 0 then
  some ((0 : Int32), v1)
  else
  if a2 ≤ (2 : Int32) then
  if a2 = (2 : Int32) then
  sv_ck a1 2 <|
  if (v1 76 a1.toNatClampNeg) = (16 : Int32) then
  some ((0 : Int32), v1)
  else
  f_M_disturb_b35 a1 a2 v1
  else
  f_M_disturb_b35 a1 a2 v1
  else
  some ((0 : Int32), v1)
set_option maxHeartbeats 4000000 in
set_option maxRecDepth 100000 in
theorem c_M_disturb_l50 (d : Nat) (l1 : Int32) (l2 : Int32) (l3 : Int32) (v : sv_T)  : sv_Ref (d + 2) 180 50 [some (.ref 75), some (.int l1), some (.int l2), some (.int l3)] [] v (f_M_disturb_l50 l1 l2 l3 v) (sv_Zl (d + 2) 180 50 (fun (s : Int32 × sv_T) => [some (.ref 75), some (.int l1), some (.int l2), some (.int s.1)]) (fun (s : Int32 × sv_T) => s.2) (sv_Zt (d + 2) 180 82 (fun (s : sv_T) => [some (.ref 75), some (.int l1), some (.int l2), none]) (fun (s : sv_T) => s))) := by
  unfold f_M_disturb_l50
  refine sv_iload_n d_M_disturb_50 rfl ?_
  refine sv_aload_n d_M_disturb_51 rfl ?_
  refine sv_geti d_M_disturb_52 (gf_M_144 mc_180) so_75 (sd_10_39 so_75) ?_
  refine sv_icmp_ge 82 d_M_disturb_55 rfl ?_ ?_
  · exact sv_leave v rfl ⟨rfl, rfl, rfl, trivial⟩ rfl
  · refine sv_aload_n d_M_disturb_58 rfl ?_
    refine sv_getr d_M_disturb_59 (gf_M_122 mc_180) so_75 sm_75_38 ?_
    refine sv_iload_n d_M_disturb_62 rfl ?_
    refine sv_aload_n d_M_disturb_63 rfl ?_
    refine sv_getr d_M_disturb_64 (gf_M_16 mc_180) so_75 sm_75_3 ?_
    refine sv_sipush (x := (640 : Int32)) d_M_disturb_67 (by decide) ?_
    refine sv_iload_n d_M_disturb_70 rfl ?_
    refine sv_imul d_M_disturb_71 ?_
    refine sv_iload_n d_M_disturb_72 rfl ?_
    refine sv_iadd d_M_disturb_73 ?_
    refine sv_iald d_M_disturb_74 sa_78 ?_
    refine sv_iast d_M_disturb_75 sa_113 (fun v4 => ?_)
    refine sv_iinc (ls' := fun x5 => [some (.ref 75), some (.int l1), some (.int l2), some (.int x5)]) (y := (1 : Int32)) d_M_disturb_76 rfl (by decide) (fun _ => rfl) (fun x5 => ?_)
    refine sv_goto 50 d_M_disturb_79 rfl ?_
    exact sv_next (x5, v4) ⟨rfl, rfl, rfl, rfl, trivial⟩ rfl
set_option maxHeartbeats 4000000 in
set_option maxRecDepth 100000 in
theorem c_M_disturb_b92 (d : Nat) (l1 : Int32) (l2 : Int32) (v : sv_T)  : sv_Ref (d + 2) 180 92 [some (.ref 75), some (.int l1), some (.int l2), none] [] v (f_M_disturb_b92 l1 l2 v) (sv_Zi) := by
  unfold f_M_disturb_b92
  refine sv_iload_n d_M_disturb_92 rfl ?_
  refine sv_if_le 103 d_M_disturb_93 rfl ?_ ?_
  · refine sv_iconst (x := (1 : Int32)) d_M_disturb_103 (by decide) ?_
    exact sv_zretc rfl (by decide) d_M_disturb_104
  · refine sv_aload_n d_M_disturb_96 rfl ?_
    refine sv_iconst (x := (1 : Int32)) d_M_disturb_97 (by decide) ?_
    refine sv_iload_n d_M_disturb_98 rfl ?_
    refine sv_isub d_M_disturb_99 ?_
    refine sv_callVv (d := d + 1) (as := [.int ((1 : Int32) - l1)]) d_M_disturb_100 (wv_M_147 mc_180) so_75 ⟨_, rfl, rfl⟩ rfl (Nat.le_of_ble_eq_true rfl) rfl (c_M_fly (d + 1) ((1 : Int32) - l1) v ) (fun v6 => ?_)
    refine sv_iconst (x := (1 : Int32)) d_M_disturb_103 (by decide) ?_
    exact sv_zretc rfl (by decide) d_M_disturb_104
set_option maxHeartbeats 4000000 in
set_option maxRecDepth 100000 in
theorem c_M_disturb_x82 (d : Nat) (l1 : Int32) (l2 : Int32) (v : sv_T)  : sv_Ref (d + 2) 180 82 [some (.ref 75), some (.int l1), some (.int l2), none] [] v (f_M_disturb_x82 l1 l2 v) (sv_Zi) := by
  unfold f_M_disturb_x82
  refine sv_iload_n d_M_disturb_82 rfl ?_
  refine sv_iconst (x := (2 : Int32)) d_M_disturb_83 (by decide) ?_
  refine sv_icmp_ge 92 d_M_disturb_84 rfl ?_ ?_
  · exact c_M_disturb_b92 d l1 l2 v 
  · refine sv_aload_n d_M_disturb_87 rfl ?_
    refine sv_iload_n d_M_disturb_88 rfl ?_
    refine sv_callVv (d := d + 1) (as := [.int l1]) d_M_disturb_89 (wv_M_289 mc_180) so_75 ⟨_, rfl, rfl⟩ rfl (Nat.le_of_ble_eq_true rfl) rfl (c_M_land (d + 1) l1 v ) (fun v7 => ?_)
    exact c_M_disturb_b92 d l1 l2 v7 
set_option maxHeartbeats 4000000 in
set_option maxRecDepth 100000 in
theorem c_M_disturb_b35 (d : Nat) (l1 : Int32) (l2 : Int32) (v : sv_T)  : sv_Ref (d + 2) 180 35 [some (.ref 75), some (.int l1), some (.int l2), none] [] v (f_M_disturb_b35 l1 l2 v) (sv_Zi) := by
  unfold f_M_disturb_b35
  refine sv_aload_n d_M_disturb_35 rfl ?_
  refine sv_aload_n d_M_disturb_36 rfl ?_
  refine sv_getr d_M_disturb_37 (gf_M_13 mc_180) so_75 sm_75_2 ?_
  refine sv_bipush (x := (16 : Int32)) d_M_disturb_40 (by decide) ?_
  refine sv_iload_n d_M_disturb_42 rfl ?_
  refine sv_imul d_M_disturb_43 ?_
  refine sv_iald d_M_disturb_44 sa_77 ?_
  refine sv_puti d_M_disturb_45 (pf_M_144 mc_180) so_75 (sd_10_39 so_75) (fun v3 => ?_)
  refine sv_iconst (x := (0 : Int32)) d_M_disturb_48 (by decide) ?_
  refine sv_istore_n (ls' := [some (.ref 75), some (.int l1), some (.int l2), some (.int (0 : Int32))]) d_M_disturb_49 (by decide) rfl ?_
  exact sv_seq (xt := 82) (L := (fun (s : sv_T) => [some (.ref 75), some (.int l1), some (.int l2), none])) (S := (fun (s : sv_T) => s)) (sv_loopR (L := (fun (s : Int32 × sv_T) => [some (.ref 75), some (.int l1), some (.int l2), some (.int s.1)])) (S := (fun (s : Int32 × sv_T) => s.2)) (fun s => c_M_disturb_l50 d l1 l2 s.1 (s.2) ) 100000 ((0 : Int32), v3)) (fun s => c_M_disturb_x82 d l1 l2 s )
set_option maxHeartbeats 4000000 in
set_option maxRecDepth 100000 in
theorem c_M_disturb (d : Nat) (a1 : Int32) (a2 : Int32) (v : sv_T)  : sv_Cl (d + 2) 180 [.ref 75, .int a1, .int a2] v (f_M_disturb a1 a2 v) sv_Zi := by
  refine sv_spec (ls0 := [some (.ref 75), some (.int a1), some (.int a2), none]) mp_180 (Nat.le_of_ble_eq_true rfl) rfl ?_
  unfold f_M_disturb
  refine sv_aload_n d_M_disturb_0 rfl ?_
  refine sv_iload_n d_M_disturb_1 rfl ?_
  refine sv_callVi (d := d + 1) (as := [.int a1]) d_M_disturb_2 (wv_M_286 mc_180) so_75 ⟨_, rfl, rfl⟩ rfl (Nat.le_of_ble_eq_true rfl) rfl (c_M_any (d + 0) a1 v ) (fun x2 v1 => ?_)
  refine sv_if_eq 33 d_M_disturb_5 rfl ?_ ?_
  · refine sv_iconst (x := (0 : Int32)) d_M_disturb_33 (by decide) ?_
    exact sv_zretc rfl (by decide) d_M_disturb_34
  · refine sv_iload_n d_M_disturb_8 rfl ?_
    refine sv_if_lt 33 d_M_disturb_9 rfl ?_ ?_
    · refine sv_iconst (x := (0 : Int32)) d_M_disturb_33 (by decide) ?_
      exact sv_zretc rfl (by decide) d_M_disturb_34
    · refine sv_iload_n d_M_disturb_12 rfl ?_
      refine sv_iconst (x := (2 : Int32)) d_M_disturb_13 (by decide) ?_
      refine sv_icmp_gt 33 d_M_disturb_14 rfl ?_ ?_
      · refine sv_iconst (x := (0 : Int32)) d_M_disturb_33 (by decide) ?_
        exact sv_zretc rfl (by decide) d_M_disturb_34
      · refine sv_iload_n d_M_disturb_17 rfl ?_
        refine sv_iconst (x := (2 : Int32)) d_M_disturb_18 (by decide) ?_
        refine sv_icmp_ne 35 d_M_disturb_19 rfl ?_ ?_
        · exact c_M_disturb_b35 d a1 a2 v1 
        · refine sv_aload_n d_M_disturb_22 rfl ?_
          refine sv_getr d_M_disturb_23 (gf_M_7 mc_180) so_75 sm_75_1 ?_
          refine sv_iload_n d_M_disturb_26 rfl ?_
          refine sv_iald d_M_disturb_27 sa_76 ?_
          refine sv_bipush (x := (16 : Int32)) d_M_disturb_28 (by decide) ?_
          refine sv_icmp_ne 35 d_M_disturb_30 rfl ?_ ?_
          · exact c_M_disturb_b35 d a1 a2 v1 
          · refine sv_iconst (x := (0 : Int32)) d_M_disturb_33 (by decide) ?_
            exact sv_zretc rfl (by decide) d_M_disturb_34
def f_M_alter (a1 : Int32) (a2 : Int32) (a3 : Int32) (v : sv_T) : Option (Int32 × sv_T) :=
  sv_bi (f_M_any a1 v) fun x2 v1 =>
  if x2 = 0 then
  some ((0 : Int32), v1)
  else
  if a2 < 0 then
  some ((0 : Int32), v1)
  else
  sv_ck ((16 : Int32) * a1) 32 <|
  if a2 < (v1 77 ((16 : Int32) * a1).toNatClampNeg) then
  if a3 < (1 : Int32) then
  some ((0 : Int32), v1)
  else
  if (255 : Int32) < a3 then
  some ((0 : Int32), v1)
  else
  sv_ck (((640 : Int32) * a1) + a2) 1280 <|
  sv_ck (((640 : Int32) * a1) + a2) 1280 <| sv_ls (sv_up v1 78 (((640 : Int32) * a1) + a2).toNatClampNeg ((v1 78 (((640 : Int32) * a1) + a2).toNatClampNeg) ^^^ a3)) fun v3 =>
  some ((1 : Int32), v3)
  else
  some ((0 : Int32), v1)
set_option maxHeartbeats 4000000 in
set_option maxRecDepth 100000 in
theorem c_M_alter (d : Nat) (a1 : Int32) (a2 : Int32) (a3 : Int32) (v : sv_T)  : sv_Cl (d + 2) 181 [.ref 75, .int a1, .int a2, .int a3] v (f_M_alter a1 a2 a3 v) sv_Zi := by
  refine sv_spec (ls0 := [some (.ref 75), some (.int a1), some (.int a2), some (.int a3)]) mp_181 (Nat.le_of_ble_eq_true rfl) rfl ?_
  unfold f_M_alter
  refine sv_aload_n d_M_alter_0 rfl ?_
  refine sv_iload_n d_M_alter_1 rfl ?_
  refine sv_callVi (d := d + 1) (as := [.int a1]) d_M_alter_2 (wv_M_286 mc_181) so_75 ⟨_, rfl, rfl⟩ rfl (Nat.le_of_ble_eq_true rfl) rfl (c_M_any (d + 0) a1 v ) (fun x2 v1 => ?_)
  refine sv_if_eq 37 d_M_alter_5 rfl ?_ ?_
  · refine sv_iconst (x := (0 : Int32)) d_M_alter_37 (by decide) ?_
    exact sv_zretc rfl (by decide) d_M_alter_38
  · refine sv_iload_n d_M_alter_8 rfl ?_
    refine sv_if_lt 37 d_M_alter_9 rfl ?_ ?_
    · refine sv_iconst (x := (0 : Int32)) d_M_alter_37 (by decide) ?_
      exact sv_zretc rfl (by decide) d_M_alter_38
    · refine sv_iload_n d_M_alter_12 rfl ?_
      refine sv_aload_n d_M_alter_13 rfl ?_
      refine sv_getr d_M_alter_14 (gf_M_13 mc_181) so_75 sm_75_2 ?_
      refine sv_bipush (x := (16 : Int32)) d_M_alter_17 (by decide) ?_
      refine sv_iload_n d_M_alter_19 rfl ?_
      refine sv_imul d_M_alter_20 ?_
      refine sv_iald d_M_alter_21 sa_77 ?_
      refine sv_icmp_ge 37 d_M_alter_22 rfl ?_ ?_
      · refine sv_iconst (x := (0 : Int32)) d_M_alter_37 (by decide) ?_
        exact sv_zretc rfl (by decide) d_M_alter_38
      · refine sv_iload_n d_M_alter_25 rfl ?_
        refine sv_iconst (x := (1 : Int32)) d_M_alter_26 (by decide) ?_
        refine sv_icmp_lt 37 d_M_alter_27 rfl ?_ ?_
        · refine sv_iconst (x := (0 : Int32)) d_M_alter_37 (by decide) ?_
          exact sv_zretc rfl (by decide) d_M_alter_38
        · refine sv_iload_n d_M_alter_30 rfl ?_
          refine sv_sipush (x := (255 : Int32)) d_M_alter_31 (by decide) ?_
          refine sv_icmp_le 39 d_M_alter_34 rfl ?_ ?_
          · refine sv_aload_n d_M_alter_39 rfl ?_
            refine sv_getr d_M_alter_40 (gf_M_16 mc_181) so_75 sm_75_3 ?_
            refine sv_sipush (x := (640 : Int32)) d_M_alter_43 (by decide) ?_
            refine sv_iload_n d_M_alter_46 rfl ?_
            refine sv_imul d_M_alter_47 ?_
            refine sv_iload_n d_M_alter_48 rfl ?_
            refine sv_iadd d_M_alter_49 ?_
            refine sv_aload_n d_M_alter_50 rfl ?_
            refine sv_getr d_M_alter_51 (gf_M_16 mc_181) so_75 sm_75_3 ?_
            refine sv_sipush (x := (640 : Int32)) d_M_alter_54 (by decide) ?_
            refine sv_iload_n d_M_alter_57 rfl ?_
            refine sv_imul d_M_alter_58 ?_
            refine sv_iload_n d_M_alter_59 rfl ?_
            refine sv_iadd d_M_alter_60 ?_
            refine sv_iald d_M_alter_61 sa_78 ?_
            refine sv_iload_n d_M_alter_62 rfl ?_
            refine sv_ixor d_M_alter_63 ?_
            refine sv_iast d_M_alter_64 sa_78 (fun v3 => ?_)
            refine sv_iconst (x := (1 : Int32)) d_M_alter_65 (by decide) ?_
            exact sv_zretc rfl (by decide) d_M_alter_66
          · refine sv_iconst (x := (0 : Int32)) d_M_alter_37 (by decide) ?_
            exact sv_zretc rfl (by decide) d_M_alter_38
def f_M_due_b196 (s0 : Int32) (s1 : Int32) (s2 : Int32) (s3 : Int32) (s4 : Int32) (s5 : Int32) (v : sv_T) : Option (sv_T) :=
  sv_bv (f_M_segmentGoes s5 s4 s3 s2 s1 s0 v) fun v11 =>
  some v11
def f_M_due_b87 (l1 : Int32) (s0 : Int32) (s1 : Int32) (v : sv_T) : Option (sv_T) :=
  sv_ck s1 4 <| sv_ls (sv_up v 111 s1.toNatClampNeg s0) fun v2 =>
  sv_ck l1 4 <|
  sv_ck l1 4 <| sv_ls (sv_up v2 110 l1.toNatClampNeg (v2 111 l1.toNatClampNeg)) fun v3 =>
  sv_ck l1 4 <|
  if (v3 95 l1.toNatClampNeg) = (2 : Int32) then
  sv_ck l1 4 <|
  sv_bv (f_M_go l1 (2 : Int32) (v3 96 l1.toNatClampNeg) v3) fun v15 =>
  some v15
  else
  sv_ck l1 4 <|
  if (v3 95 l1.toNatClampNeg) = (3 : Int32) then
  sv_ck l1 4 <|
  sv_bv (f_M_go l1 (18 : Int32) (v3 96 l1.toNatClampNeg) v3) fun v14 =>
  some v14
  else
  sv_bi (f_M_sent l1 v3) fun x5 v4 =>
  if 0 < x5 then
  sv_ck l1 4 <|
  sv_ck l1 4 <|
  sv_bi (f_M_sent l1 v4) fun x10 v9 =>
  if x10 < (32 : Int32) then
  sv_bi (f_M_sent l1 v9) fun x13 v12 =>
  f_M_due_b196 x13 (0 : Int32) (v4 99 l1.toNatClampNeg) (v4 97 l1.toNatClampNeg) (16 : Int32) l1 v12
  else
  f_M_due_b196 (32 : Int32) (0 : Int32) (v4 99 l1.toNatClampNeg) (v4 97 l1.toNatClampNeg) (16 : Int32) l1 v9
  else
  sv_ck l1 4 <|
  if 0 < (v4 101 l1.toNatClampNeg) then
  sv_ck l1 4 <|
  sv_ck l1 4 <|
  sv_bv (f_M_segmentGoes l1 (16 : Int32) (v4 97 l1.toNatClampNeg) (v4 99 l1.toNatClampNeg) (0 : Int32) (1 : Int32) v4) fun v7 =>
  sv_ck l1 4 <|
  sv_ck l1 4 <| sv_ls (sv_up v7 98 l1.toNatClampNeg (((v7 98 l1.toNatClampNeg) + (1 : Int32)) &&& (65535 : Int32))) fun v8 =>
  some v8
  else
  sv_ck l1 4 <|
  sv_bv (f_M_go l1 (17 : Int32) (v4 97 l1.toNatClampNeg) v4) fun v6 =>
  some v6
def f_M_due (a1 : Int32) (v : sv_T) : Option (sv_T) :=
  sv_ck a1 4 <|
  if (v 95 a1.toNatClampNeg) = (10 : Int32) then
  sv_bv (f_M_closes a1 v) fun v18 =>
  some v18
  else
  sv_ck a1 4 <|
  sv_ck a1 4 <| sv_ls (sv_up v 112 a1.toNatClampNeg ((v 112 a1.toNatClampNeg) + (1 : Int32))) fun v1 =>
  sv_ck a1 4 <|
  if (v1 112 a1.toNatClampNeg) = (7 : Int32) then
  sv_ck a1 4 <|
  sv_bv (f_M_go a1 (4 : Int32) (v1 98 a1.toNatClampNeg) v1) fun v16 =>
  sv_bv (f_M_closes a1 v16) fun v17 =>
  some v17
  else
  sv_ck a1 4 <|
  if ((2 : Int32) * (v1 111 a1.toNatClampNeg)) < (32 : Int32) then
  sv_ck a1 4 <|
  f_M_due_b87 a1 ((2 : Int32) * (v1 111 a1.toNatClampNeg)) a1 v1
  else
  f_M_due_b87 a1 (32 : Int32) a1 v1
set_option maxHeartbeats 4000000 in
set_option maxRecDepth 100000 in
theorem c_M_due_b196 (d : Nat) (s0 : Int32) (s1 : Int32) (s2 : Int32) (s3 : Int32) (s4 : Int32) (s5 : Int32) (v : sv_T)  : sv_Ref (d + 7) 184 196 [none, none] [.int s0, .int s1, .int s2, .int s3, .int s4, .int s5, .ref 75] v (f_M_due_b196 s0 s1 s2 s3 s4 s5 v) (sv_Zv) := by
  unfold f_M_due_b196
  refine sv_callVv (d := d + 6) (as := [.int s5, .int s4, .int s3, .int s2, .int s1, .int s0]) d_M_due_196 (wv_M_208 mc_184) so_75 ⟨_, rfl, rfl⟩ rfl (Nat.le_of_ble_eq_true rfl) rfl (c_M_segmentGoes (d + 1) s5 s4 s3 s2 s1 s0 v ) (fun v11 => ?_)
  refine sv_goto 265 d_M_due_199 rfl ?_
  exact sv_vret rfl d_M_due_265
set_option maxHeartbeats 4000000 in
set_option maxRecDepth 100000 in
theorem c_M_due_b87 (d : Nat) (l1 : Int32) (s0 : Int32) (s1 : Int32) (v : sv_T)  : sv_Ref (d + 7) 184 87 [some (.ref 75), some (.int l1)] [.int s0, .int s1, .ref 111] v (f_M_due_b87 l1 s0 s1 v) (sv_Zv) := by
  unfold f_M_due_b87
  refine sv_iast d_M_due_87 sa_111 (fun v2 => ?_)
  refine sv_aload_n d_M_due_88 rfl ?_
  refine sv_getr d_M_due_89 (gf_M_113 mc_184) so_75 sm_75_35 ?_
  refine sv_iload_n d_M_due_92 rfl ?_
  refine sv_aload_n d_M_due_93 rfl ?_
  refine sv_getr d_M_due_94 (gf_M_116 mc_184) so_75 sm_75_36 ?_
  refine sv_iload_n d_M_due_97 rfl ?_
  refine sv_iald d_M_due_98 sa_111 ?_
  refine sv_iast d_M_due_99 sa_110 (fun v3 => ?_)
  refine sv_aload_n d_M_due_100 rfl ?_
  refine sv_getr d_M_due_101 (gf_M_68 mc_184) so_75 sm_75_20 ?_
  refine sv_iload_n d_M_due_104 rfl ?_
  refine sv_iald d_M_due_105 sa_95 ?_
  refine sv_iconst (x := (2 : Int32)) d_M_due_106 (by decide) ?_
  refine sv_icmp_ne 125 d_M_due_107 rfl ?_ ?_
  · refine sv_aload_n d_M_due_125 rfl ?_
    refine sv_getr d_M_due_126 (gf_M_68 mc_184) so_75 sm_75_20 ?_
    refine sv_iload_n d_M_due_129 rfl ?_
    refine sv_iald d_M_due_130 sa_95 ?_
    refine sv_iconst (x := (3 : Int32)) d_M_due_131 (by decide) ?_
    refine sv_icmp_ne 151 d_M_due_132 rfl ?_ ?_
    · refine sv_aload_n d_M_due_151 rfl ?_
      refine sv_iload_n d_M_due_152 rfl ?_
      refine sv_callVi (d := d + 6) (as := [.int l1]) d_M_due_153 (wv_M_222 mc_184) so_75 ⟨_, rfl, rfl⟩ rfl (Nat.le_of_ble_eq_true rfl) rfl (c_M_sent (d + 5) l1 v3 ) (fun x5 v4 => ?_)
      refine sv_if_le 202 d_M_due_156 rfl ?_ ?_
      · refine sv_aload_n d_M_due_202 rfl ?_
        refine sv_getr d_M_due_203 (gf_M_86 mc_184) so_75 sm_75_26 ?_
        refine sv_iload_n d_M_due_206 rfl ?_
        refine sv_iald d_M_due_207 sa_101 ?_
        refine sv_if_le 252 d_M_due_208 rfl ?_ ?_
        · refine sv_aload_n d_M_due_252 rfl ?_
          refine sv_iload_n d_M_due_253 rfl ?_
          refine sv_bipush (x := (17 : Int32)) d_M_due_254 (by decide) ?_
          refine sv_aload_n d_M_due_256 rfl ?_
          refine sv_getr d_M_due_257 (gf_M_74 mc_184) so_75 sm_75_22 ?_
          refine sv_iload_n d_M_due_260 rfl ?_
          refine sv_iald d_M_due_261 sa_97 ?_
          refine sv_callVv (d := d + 6) (as := [.int l1, .int (17 : Int32), .int (v4 97 l1.toNatClampNeg)]) d_M_due_262 (wv_M_225 mc_184) so_75 ⟨_, rfl, rfl⟩ rfl (Nat.le_of_ble_eq_true rfl) rfl (c_M_go (d + 0) l1 (17 : Int32) (v4 97 l1.toNatClampNeg) v4 ) (fun v6 => ?_)
          exact sv_vret rfl d_M_due_265
        · refine sv_aload_n d_M_due_211 rfl ?_
          refine sv_iload_n d_M_due_212 rfl ?_
          refine sv_bipush (x := (16 : Int32)) d_M_due_213 (by decide) ?_
          refine sv_aload_n d_M_due_215 rfl ?_
          refine sv_getr d_M_due_216 (gf_M_74 mc_184) so_75 sm_75_22 ?_
          refine sv_iload_n d_M_due_219 rfl ?_
          refine sv_iald d_M_due_220 sa_97 ?_
          refine sv_aload_n d_M_due_221 rfl ?_
          refine sv_getr d_M_due_222 (gf_M_80 mc_184) so_75 sm_75_24 ?_
          refine sv_iload_n d_M_due_225 rfl ?_
          refine sv_iald d_M_due_226 sa_99 ?_
          refine sv_iconst (x := (0 : Int32)) d_M_due_227 (by decide) ?_
          refine sv_iconst (x := (1 : Int32)) d_M_due_228 (by decide) ?_
          refine sv_callVv (d := d + 6) (as := [.int l1, .int (16 : Int32), .int (v4 97 l1.toNatClampNeg), .int (v4 99 l1.toNatClampNeg), .int (0 : Int32), .int (1 : Int32)]) d_M_due_229 (wv_M_208 mc_184) so_75 ⟨_, rfl, rfl⟩ rfl (Nat.le_of_ble_eq_true rfl) rfl (c_M_segmentGoes (d + 1) l1 (16 : Int32) (v4 97 l1.toNatClampNeg) (v4 99 l1.toNatClampNeg) (0 : Int32) (1 : Int32) v4 ) (fun v7 => ?_)
          refine sv_aload_n d_M_due_232 rfl ?_
          refine sv_getr d_M_due_233 (gf_M_77 mc_184) so_75 sm_75_23 ?_
          refine sv_iload_n d_M_due_236 rfl ?_
          refine sv_aload_n d_M_due_237 rfl ?_
          refine sv_getr d_M_due_238 (gf_M_77 mc_184) so_75 sm_75_23 ?_
          refine sv_iload_n d_M_due_241 rfl ?_
          refine sv_iald d_M_due_242 sa_98 ?_
          refine sv_iconst (x := (1 : Int32)) d_M_due_243 (by decide) ?_
          refine sv_iadd d_M_due_244 ?_
          refine sv_ldc d_M_due_245 tw_1007 ?_
          refine sv_iand d_M_due_247 ?_
          refine sv_iast d_M_due_248 sa_98 (fun v8 => ?_)
          refine sv_goto 265 d_M_due_249 rfl ?_
          exact sv_vret rfl d_M_due_265
      · refine sv_aload_n d_M_due_159 rfl ?_
        refine sv_iload_n d_M_due_160 rfl ?_
        refine sv_bipush (x := (16 : Int32)) d_M_due_161 (by decide) ?_
        refine sv_aload_n d_M_due_163 rfl ?_
        refine sv_getr d_M_due_164 (gf_M_74 mc_184) so_75 sm_75_22 ?_
        refine sv_iload_n d_M_due_167 rfl ?_
        refine sv_iald d_M_due_168 sa_97 ?_
        refine sv_aload_n d_M_due_169 rfl ?_
        refine sv_getr d_M_due_170 (gf_M_80 mc_184) so_75 sm_75_24 ?_
        refine sv_iload_n d_M_due_173 rfl ?_
        refine sv_iald d_M_due_174 sa_99 ?_
        refine sv_iconst (x := (0 : Int32)) d_M_due_175 (by decide) ?_
        refine sv_aload_n d_M_due_176 rfl ?_
        refine sv_iload_n d_M_due_177 rfl ?_
        refine sv_callVi (d := d + 6) (as := [.int l1]) d_M_due_178 (wv_M_222 mc_184) so_75 ⟨_, rfl, rfl⟩ rfl (Nat.le_of_ble_eq_true rfl) rfl (c_M_sent (d + 5) l1 v4 ) (fun x10 v9 => ?_)
        refine sv_bipush (x := (32 : Int32)) d_M_due_181 (by decide) ?_
        refine sv_icmp_ge 194 d_M_due_183 rfl ?_ ?_
        · refine sv_bipush (x := (32 : Int32)) d_M_due_194 (by decide) ?_
          refine sv_kill (ls' := [none, none]) trivial ?_
          exact c_M_due_b196 d (32 : Int32) (0 : Int32) (v4 99 l1.toNatClampNeg) (v4 97 l1.toNatClampNeg) (16 : Int32) l1 v9 
        · refine sv_aload_n d_M_due_186 rfl ?_
          refine sv_iload_n d_M_due_187 rfl ?_
          refine sv_callVi (d := d + 6) (as := [.int l1]) d_M_due_188 (wv_M_222 mc_184) so_75 ⟨_, rfl, rfl⟩ rfl (Nat.le_of_ble_eq_true rfl) rfl (c_M_sent (d + 5) l1 v9 ) (fun x13 v12 => ?_)
          refine sv_goto 196 d_M_due_191 rfl ?_
          refine sv_kill (ls' := [none, none]) trivial ?_
          exact c_M_due_b196 d x13 (0 : Int32) (v4 99 l1.toNatClampNeg) (v4 97 l1.toNatClampNeg) (16 : Int32) l1 v12 
    · refine sv_aload_n d_M_due_135 rfl ?_
      refine sv_iload_n d_M_due_136 rfl ?_
      refine sv_bipush (x := (18 : Int32)) d_M_due_137 (by decide) ?_
      refine sv_aload_n d_M_due_139 rfl ?_
      refine sv_getr d_M_due_140 (gf_M_71 mc_184) so_75 sm_75_21 ?_
      refine sv_iload_n d_M_due_143 rfl ?_
      refine sv_iald d_M_due_144 sa_96 ?_
      refine sv_callVv (d := d + 6) (as := [.int l1, .int (18 : Int32), .int (v3 96 l1.toNatClampNeg)]) d_M_due_145 (wv_M_225 mc_184) so_75 ⟨_, rfl, rfl⟩ rfl (Nat.le_of_ble_eq_true rfl) rfl (c_M_go (d + 0) l1 (18 : Int32) (v3 96 l1.toNatClampNeg) v3 ) (fun v14 => ?_)
      refine sv_goto 265 d_M_due_148 rfl ?_
      exact sv_vret rfl d_M_due_265
  · refine sv_aload_n d_M_due_110 rfl ?_
    refine sv_iload_n d_M_due_111 rfl ?_
    refine sv_iconst (x := (2 : Int32)) d_M_due_112 (by decide) ?_
    refine sv_aload_n d_M_due_113 rfl ?_
    refine sv_getr d_M_due_114 (gf_M_71 mc_184) so_75 sm_75_21 ?_
    refine sv_iload_n d_M_due_117 rfl ?_
    refine sv_iald d_M_due_118 sa_96 ?_
    refine sv_callVv (d := d + 6) (as := [.int l1, .int (2 : Int32), .int (v3 96 l1.toNatClampNeg)]) d_M_due_119 (wv_M_225 mc_184) so_75 ⟨_, rfl, rfl⟩ rfl (Nat.le_of_ble_eq_true rfl) rfl (c_M_go (d + 0) l1 (2 : Int32) (v3 96 l1.toNatClampNeg) v3 ) (fun v15 => ?_)
    refine sv_goto 265 d_M_due_122 rfl ?_
    exact sv_vret rfl d_M_due_265
set_option maxHeartbeats 4000000 in
set_option maxRecDepth 100000 in
theorem c_M_due (d : Nat) (a1 : Int32) (v : sv_T)  : sv_Cl (d + 7) 184 [.ref 75, .int a1] v (f_M_due a1 v) sv_Zv := by
  refine sv_spec (ls0 := [some (.ref 75), some (.int a1)]) mp_184 (Nat.le_of_ble_eq_true rfl) rfl ?_
  unfold f_M_due
  refine sv_aload_n d_M_due_0 rfl ?_
  refine sv_getr d_M_due_1 (gf_M_68 mc_184) so_75 sm_75_20 ?_
  refine sv_iload_n d_M_due_4 rfl ?_
  refine sv_iald d_M_due_5 sa_95 ?_
  refine sv_bipush (x := (10 : Int32)) d_M_due_6 (by decide) ?_
  refine sv_icmp_ne 17 d_M_due_8 rfl ?_ ?_
  · refine sv_aload_n d_M_due_17 rfl ?_
    refine sv_getr d_M_due_18 (gf_M_119 mc_184) so_75 sm_75_37 ?_
    refine sv_iload_n d_M_due_21 rfl ?_
    refine sv_dup2 d_M_due_22 ?_
    refine sv_iald d_M_due_23 sa_112 ?_
    refine sv_iconst (x := (1 : Int32)) d_M_due_24 (by decide) ?_
    refine sv_iadd d_M_due_25 ?_
    refine sv_iast d_M_due_26 sa_112 (fun v1 => ?_)
    refine sv_aload_n d_M_due_27 rfl ?_
    refine sv_getr d_M_due_28 (gf_M_119 mc_184) so_75 sm_75_37 ?_
    refine sv_iload_n d_M_due_31 rfl ?_
    refine sv_iald d_M_due_32 sa_112 ?_
    refine sv_bipush (x := (7 : Int32)) d_M_due_33 (by decide) ?_
    refine sv_icmp_ne 56 d_M_due_35 rfl ?_ ?_
    · refine sv_aload_n d_M_due_56 rfl ?_
      refine sv_getr d_M_due_57 (gf_M_116 mc_184) so_75 sm_75_36 ?_
      refine sv_iload_n d_M_due_60 rfl ?_
      refine sv_iconst (x := (2 : Int32)) d_M_due_61 (by decide) ?_
      refine sv_aload_n d_M_due_62 rfl ?_
      refine sv_getr d_M_due_63 (gf_M_116 mc_184) so_75 sm_75_36 ?_
      refine sv_iload_n d_M_due_66 rfl ?_
      refine sv_iald d_M_due_67 sa_111 ?_
      refine sv_imul d_M_due_68 ?_
      refine sv_bipush (x := (32 : Int32)) d_M_due_69 (by decide) ?_
      refine sv_icmp_ge 85 d_M_due_71 rfl ?_ ?_
      · refine sv_bipush (x := (32 : Int32)) d_M_due_85 (by decide) ?_
        exact c_M_due_b87 d a1 (32 : Int32) a1 v1 
      · refine sv_iconst (x := (2 : Int32)) d_M_due_74 (by decide) ?_
        refine sv_aload_n d_M_due_75 rfl ?_
        refine sv_getr d_M_due_76 (gf_M_116 mc_184) so_75 sm_75_36 ?_
        refine sv_iload_n d_M_due_79 rfl ?_
        refine sv_iald d_M_due_80 sa_111 ?_
        refine sv_imul d_M_due_81 ?_
        refine sv_goto 87 d_M_due_82 rfl ?_
        exact c_M_due_b87 d a1 ((2 : Int32) * (v1 111 a1.toNatClampNeg)) a1 v1 
    · refine sv_aload_n d_M_due_38 rfl ?_
      refine sv_iload_n d_M_due_39 rfl ?_
      refine sv_iconst (x := (4 : Int32)) d_M_due_40 (by decide) ?_
      refine sv_aload_n d_M_due_41 rfl ?_
      refine sv_getr d_M_due_42 (gf_M_77 mc_184) so_75 sm_75_23 ?_
      refine sv_iload_n d_M_due_45 rfl ?_
      refine sv_iald d_M_due_46 sa_98 ?_
      refine sv_callVv (d := d + 6) (as := [.int a1, .int (4 : Int32), .int (v1 98 a1.toNatClampNeg)]) d_M_due_47 (wv_M_225 mc_184) so_75 ⟨_, rfl, rfl⟩ rfl (Nat.le_of_ble_eq_true rfl) rfl (c_M_go (d + 0) a1 (4 : Int32) (v1 98 a1.toNatClampNeg) v1 ) (fun v16 => ?_)
      refine sv_aload_n d_M_due_50 rfl ?_
      refine sv_iload_n d_M_due_51 rfl ?_
      refine sv_callVv (d := d + 6) (as := [.int a1]) d_M_due_52 (wv_M_228 mc_184) so_75 ⟨_, rfl, rfl⟩ rfl (Nat.le_of_ble_eq_true rfl) rfl (c_M_closes (d + 5) a1 v16 ) (fun v17 => ?_)
      exact sv_vret rfl d_M_due_55
  · refine sv_aload_n d_M_due_11 rfl ?_
    refine sv_iload_n d_M_due_12 rfl ?_
    refine sv_callVv (d := d + 6) (as := [.int a1]) d_M_due_13 (wv_M_228 mc_184) so_75 ⟨_, rfl, rfl⟩ rfl (Nat.le_of_ble_eq_true rfl) rfl (c_M_closes (d + 5) a1 v ) (fun v18 => ?_)
    exact sv_vret rfl d_M_due_16
def f_M_beats_b112 (l1 : Int32) (l2 : Int32) (s0 : Int32) (s1 : Int32) (v : sv_T) : Option ((Int32 × sv_T) ⊕ (sv_T)) :=
  sv_ck s1 4 <| sv_ls (sv_up v 88 s1.toNatClampNeg (vp_nar .boolean s0)) fun v5 =>
  sv_le (l2 + (1 : Int32)) fun x6 =>
  some (.inl (x6, v5))
def f_M_beats_b111 (l1 : Int32) (l2 : Int32) (s0 : Int32) (v : sv_T) : Option ((Int32 × sv_T) ⊕ (sv_T)) :=
  f_M_beats_b112 l1 l2 (0 : Int32) s0 v
def f_M_beats_b80 (l1 : Int32) (l2 : Int32) (s0 : Int32) (s1 : Int32) (s2 : Int32) (v : sv_T) : Option ((Int32 × sv_T) ⊕ (sv_T)) :=
  sv_ck s2 4 <| sv_ls (sv_up v 91 s2.toNatClampNeg (s1 + s0)) fun v4 =>
  sv_ck l2 4 <|
  if (v4 88 l2.toNatClampNeg) = 0 then
  f_M_beats_b111 l1 l2 l2 v4
  else
  sv_ck l2 4 <|
  if (v4 91 l2.toNatClampNeg) < (10 : Int32) then
  f_M_beats_b112 l1 l2 (1 : Int32) l2 v4
  else
  f_M_beats_b111 l1 l2 l2 v4
def f_M_beats_l50 (l1 : Int32) (l2 : Int32) (v : sv_T) : Option ((Int32 × sv_T) ⊕ (sv_T)) :=
  if l2 < (((2 : Int32) * l1) + (2 : Int32)) then
  sv_ck l2 4 <|
  sv_ck l2 4 <|
  if (v 88 l2.toNatClampNeg) = 0 then
  f_M_beats_b80 l1 l2 (0 : Int32) (v 91 l2.toNatClampNeg) l2 v
  else
  f_M_beats_b80 l1 l2 (1 : Int32) (v 91 l2.toNatClampNeg) l2 v
  else
  some (.inr v)
def f_M_beats_b165 (l1 : Int32) (l2 : Int32) (v : sv_T) : Option ((Int32 × sv_T) ⊕ (sv_T)) :=
  sv_le (l2 + (1 : Int32)) fun x8 =>
  some (.inl (x8, v))
def f_M_beats_l123 (l1 : Int32) (l2 : Int32) (v : sv_T) : Option ((Int32 × sv_T) ⊕ (sv_T)) :=
  if l2 < (((2 : Int32) * l1) + (2 : Int32)) then
  sv_ck l2 4 <|
  if 0 < (v 110 l2.toNatClampNeg) then
  sv_ck l2 4 <|
  sv_ck l2 4 <| sv_ls (sv_up v 110 l2.toNatClampNeg ((v 110 l2.toNatClampNeg) - (1 : Int32))) fun v9 =>
  sv_ck l2 4 <|
  if (v9 110 l2.toNatClampNeg) = 0 then
  sv_bv (f_M_due l2 v9) fun v10 =>
  f_M_beats_b165 l1 l2 v10
  else
  f_M_beats_b165 l1 l2 v9
  else
  f_M_beats_b165 l1 l2 v
  else
  some (.inr v)
def f_M_beats_x171  (v : sv_T) : Option (sv_T) :=
  some v
def f_M_beats_x119 (l1 : Int32) (v : sv_T) : Option (sv_T) :=
  sv_le (((2 : Int32) * l1)) fun x7 =>
  Option.bind (sv_loop (fun (s : Int32 × sv_T) => f_M_beats_l123 l1 s.1 (s.2)) 100000 (x7, v)) (fun (s : sv_T) => f_M_beats_x171  s)
def f_M_beats_b44 (l1 : Int32) (s0 : Int32) (s1 : Int32) (s2 : Int32) (v : sv_T) : Option (sv_T) :=
  sv_ck s2 2 <| sv_ls (sv_up v 83 s2.toNatClampNeg (s1 - s0)) fun v2 =>
  sv_le (((2 : Int32) * l1)) fun x3 =>
  Option.bind (sv_loop (fun (s : Int32 × sv_T) => f_M_beats_l50 l1 s.1 (s.2)) 100000 (x3, v2)) (fun (s : sv_T) => f_M_beats_x119 l1 s)
def f_M_beats_b21 (l1 : Int32) (s0 : Int32) (s1 : Int32) (s2 : Int32) (v : sv_T) : Option (sv_T) :=
  sv_ck s2 2 <| sv_ls (sv_up v 82 s2.toNatClampNeg (s1 - s0)) fun v1 =>
  sv_ck l1 2 <|
  sv_ck l1 2 <|
  if 0 < (v1 83 l1.toNatClampNeg) then
  f_M_beats_b44 l1 (1 : Int32) (v1 83 l1.toNatClampNeg) l1 v1
  else
  f_M_beats_b44 l1 (0 : Int32) (v1 83 l1.toNatClampNeg) l1 v1
def f_M_beats (a1 : Int32) (v : sv_T) : Option (sv_T) :=
  sv_ck a1 2 <|
  sv_ck a1 2 <|
  if 0 < (v 82 a1.toNatClampNeg) then
  f_M_beats_b21 a1 (1 : Int32) (v 82 a1.toNatClampNeg) a1 v
  else
  f_M_beats_b21 a1 (0 : Int32) (v 82 a1.toNatClampNeg) a1 v
set_option maxHeartbeats 4000000 in
set_option maxRecDepth 100000 in
theorem c_M_beats_b112 (d : Nat) (l1 : Int32) (l2 : Int32) (s0 : Int32) (s1 : Int32) (v : sv_T)  : sv_Ref (d + 8) 183 112 [some (.ref 75), some (.int l1), some (.int l2)] [.int s0, .int s1, .ref 88] v (f_M_beats_b112 l1 l2 s0 s1 v) (sv_Zl (d + 8) 183 50 (fun (s : Int32 × sv_T) => [some (.ref 75), some (.int l1), some (.int s.1)]) (fun (s : Int32 × sv_T) => s.2) (sv_Zt (d + 8) 183 119 (fun (s : sv_T) => [some (.ref 75), some (.int l1), none]) (fun (s : sv_T) => s))) := by
  unfold f_M_beats_b112
  refine sv_zast (y := (vp_nar .boolean s0)) d_M_beats_112 sa_88 rfl (fun v5 => ?_)
  refine sv_iinc (ls' := fun x6 => [some (.ref 75), some (.int l1), some (.int x6)]) (y := (1 : Int32)) d_M_beats_113 rfl (by decide) (fun _ => rfl) (fun x6 => ?_)
  refine sv_goto 50 d_M_beats_116 rfl ?_
  exact sv_next (x6, v5) ⟨rfl, rfl, rfl, trivial⟩ rfl
set_option maxHeartbeats 4000000 in
set_option maxRecDepth 100000 in
theorem c_M_beats_b111 (d : Nat) (l1 : Int32) (l2 : Int32) (s0 : Int32) (v : sv_T)  : sv_Ref (d + 8) 183 111 [some (.ref 75), some (.int l1), some (.int l2)] [.int s0, .ref 88] v (f_M_beats_b111 l1 l2 s0 v) (sv_Zl (d + 8) 183 50 (fun (s : Int32 × sv_T) => [some (.ref 75), some (.int l1), some (.int s.1)]) (fun (s : Int32 × sv_T) => s.2) (sv_Zt (d + 8) 183 119 (fun (s : sv_T) => [some (.ref 75), some (.int l1), none]) (fun (s : sv_T) => s))) := by
  unfold f_M_beats_b111
  refine sv_iconst (x := (0 : Int32)) d_M_beats_111 (by decide) ?_
  exact c_M_beats_b112 d l1 l2 (0 : Int32) s0 v 
set_option maxHeartbeats 4000000 in
set_option maxRecDepth 100000 in
theorem c_M_beats_b80 (d : Nat) (l1 : Int32) (l2 : Int32) (s0 : Int32) (s1 : Int32) (s2 : Int32) (v : sv_T)  : sv_Ref (d + 8) 183 80 [some (.ref 75), some (.int l1), some (.int l2)] [.int s0, .int s1, .int s2, .ref 91] v (f_M_beats_b80 l1 l2 s0 s1 s2 v) (sv_Zl (d + 8) 183 50 (fun (s : Int32 × sv_T) => [some (.ref 75), some (.int l1), some (.int s.1)]) (fun (s : Int32 × sv_T) => s.2) (sv_Zt (d + 8) 183 119 (fun (s : sv_T) => [some (.ref 75), some (.int l1), none]) (fun (s : sv_T) => s))) := by
  unfold f_M_beats_b80
  refine sv_iadd d_M_beats_80 ?_
  refine sv_iast d_M_beats_81 sa_91 (fun v4 => ?_)
  refine sv_aload_n d_M_beats_82 rfl ?_
  refine sv_getr d_M_beats_83 (gf_M_46 mc_183) so_75 sm_75_13 ?_
  refine sv_iload_n d_M_beats_86 rfl ?_
  refine sv_aload_n d_M_beats_87 rfl ?_
  refine sv_getr d_M_beats_88 (gf_M_46 mc_183) so_75 sm_75_13 ?_
  refine sv_iload_n d_M_beats_91 rfl ?_
  refine sv_zald d_M_beats_92 sa_88 ?_
  refine sv_if_eq 111 d_M_beats_93 rfl ?_ ?_
  · exact c_M_beats_b111 d l1 l2 l2 v4 
  · refine sv_aload_n d_M_beats_96 rfl ?_
    refine sv_getr d_M_beats_97 (gf_M_56 mc_183) so_75 sm_75_16 ?_
    refine sv_iload_n d_M_beats_100 rfl ?_
    refine sv_iald d_M_beats_101 sa_91 ?_
    refine sv_bipush (x := (10 : Int32)) d_M_beats_102 (by decide) ?_
    refine sv_icmp_ge 111 d_M_beats_104 rfl ?_ ?_
    · exact c_M_beats_b111 d l1 l2 l2 v4 
    · refine sv_iconst (x := (1 : Int32)) d_M_beats_107 (by decide) ?_
      refine sv_goto 112 d_M_beats_108 rfl ?_
      exact c_M_beats_b112 d l1 l2 (1 : Int32) l2 v4 
set_option maxHeartbeats 4000000 in
set_option maxRecDepth 100000 in
theorem c_M_beats_l50 (d : Nat) (l1 : Int32) (l2 : Int32) (v : sv_T)  : sv_Ref (d + 8) 183 50 [some (.ref 75), some (.int l1), some (.int l2)] [] v (f_M_beats_l50 l1 l2 v) (sv_Zl (d + 8) 183 50 (fun (s : Int32 × sv_T) => [some (.ref 75), some (.int l1), some (.int s.1)]) (fun (s : Int32 × sv_T) => s.2) (sv_Zt (d + 8) 183 119 (fun (s : sv_T) => [some (.ref 75), some (.int l1), none]) (fun (s : sv_T) => s))) := by
  unfold f_M_beats_l50
  refine sv_iload_n d_M_beats_50 rfl ?_
  refine sv_iconst (x := (2 : Int32)) d_M_beats_51 (by decide) ?_
  refine sv_iload_n d_M_beats_52 rfl ?_
  refine sv_imul d_M_beats_53 ?_
  refine sv_iconst (x := (2 : Int32)) d_M_beats_54 (by decide) ?_
  refine sv_iadd d_M_beats_55 ?_
  refine sv_icmp_ge 119 d_M_beats_56 rfl ?_ ?_
  · exact sv_leave v rfl ⟨rfl, rfl, trivial⟩ rfl
  · refine sv_aload_n d_M_beats_59 rfl ?_
    refine sv_getr d_M_beats_60 (gf_M_56 mc_183) so_75 sm_75_16 ?_
    refine sv_iload_n d_M_beats_63 rfl ?_
    refine sv_dup2 d_M_beats_64 ?_
    refine sv_iald d_M_beats_65 sa_91 ?_
    refine sv_aload_n d_M_beats_66 rfl ?_
    refine sv_getr d_M_beats_67 (gf_M_46 mc_183) so_75 sm_75_13 ?_
    refine sv_iload_n d_M_beats_70 rfl ?_
    refine sv_zald d_M_beats_71 sa_88 ?_
    refine sv_if_eq 79 d_M_beats_72 rfl ?_ ?_
    · refine sv_iconst (x := (0 : Int32)) d_M_beats_79 (by decide) ?_
      exact c_M_beats_b80 d l1 l2 (0 : Int32) (v 91 l2.toNatClampNeg) l2 v 
    · refine sv_iconst (x := (1 : Int32)) d_M_beats_75 (by decide) ?_
      refine sv_goto 80 d_M_beats_76 rfl ?_
      exact c_M_beats_b80 d l1 l2 (1 : Int32) (v 91 l2.toNatClampNeg) l2 v 
set_option maxHeartbeats 4000000 in
set_option maxRecDepth 100000 in
theorem c_M_beats_b165 (d : Nat) (l1 : Int32) (l2 : Int32) (v : sv_T)  : sv_Ref (d + 8) 183 165 [some (.ref 75), some (.int l1), some (.int l2)] [] v (f_M_beats_b165 l1 l2 v) (sv_Zl (d + 8) 183 123 (fun (s : Int32 × sv_T) => [some (.ref 75), some (.int l1), some (.int s.1)]) (fun (s : Int32 × sv_T) => s.2) (sv_Zt (d + 8) 183 171 (fun (s : sv_T) => [none, none, none]) (fun (s : sv_T) => s))) := by
  unfold f_M_beats_b165
  refine sv_iinc (ls' := fun x8 => [some (.ref 75), some (.int l1), some (.int x8)]) (y := (1 : Int32)) d_M_beats_165 rfl (by decide) (fun _ => rfl) (fun x8 => ?_)
  refine sv_goto 123 d_M_beats_168 rfl ?_
  exact sv_next (x8, v) ⟨rfl, rfl, rfl, trivial⟩ rfl
set_option maxHeartbeats 4000000 in
set_option maxRecDepth 100000 in
theorem c_M_beats_l123 (d : Nat) (l1 : Int32) (l2 : Int32) (v : sv_T)  : sv_Ref (d + 8) 183 123 [some (.ref 75), some (.int l1), some (.int l2)] [] v (f_M_beats_l123 l1 l2 v) (sv_Zl (d + 8) 183 123 (fun (s : Int32 × sv_T) => [some (.ref 75), some (.int l1), some (.int s.1)]) (fun (s : Int32 × sv_T) => s.2) (sv_Zt (d + 8) 183 171 (fun (s : sv_T) => [none, none, none]) (fun (s : sv_T) => s))) := by
  unfold f_M_beats_l123
  refine sv_iload_n d_M_beats_123 rfl ?_
  refine sv_iconst (x := (2 : Int32)) d_M_beats_124 (by decide) ?_
  refine sv_iload_n d_M_beats_125 rfl ?_
  refine sv_imul d_M_beats_126 ?_
  refine sv_iconst (x := (2 : Int32)) d_M_beats_127 (by decide) ?_
  refine sv_iadd d_M_beats_128 ?_
  refine sv_icmp_ge 171 d_M_beats_129 rfl ?_ ?_
  · exact sv_leave v rfl trivial rfl
  · refine sv_aload_n d_M_beats_132 rfl ?_
    refine sv_getr d_M_beats_133 (gf_M_113 mc_183) so_75 sm_75_35 ?_
    refine sv_iload_n d_M_beats_136 rfl ?_
    refine sv_iald d_M_beats_137 sa_110 ?_
    refine sv_if_le 165 d_M_beats_138 rfl ?_ ?_
    · exact c_M_beats_b165 d l1 l2 v 
    · refine sv_aload_n d_M_beats_141 rfl ?_
      refine sv_getr d_M_beats_142 (gf_M_113 mc_183) so_75 sm_75_35 ?_
      refine sv_iload_n d_M_beats_145 rfl ?_
      refine sv_dup2 d_M_beats_146 ?_
      refine sv_iald d_M_beats_147 sa_110 ?_
      refine sv_iconst (x := (1 : Int32)) d_M_beats_148 (by decide) ?_
      refine sv_isub d_M_beats_149 ?_
      refine sv_iast d_M_beats_150 sa_110 (fun v9 => ?_)
      refine sv_aload_n d_M_beats_151 rfl ?_
      refine sv_getr d_M_beats_152 (gf_M_113 mc_183) so_75 sm_75_35 ?_
      refine sv_iload_n d_M_beats_155 rfl ?_
      refine sv_iald d_M_beats_156 sa_110 ?_
      refine sv_if_ne 165 d_M_beats_157 rfl ?_ ?_
      · exact c_M_beats_b165 d l1 l2 v9 
      · refine sv_aload_n d_M_beats_160 rfl ?_
        refine sv_iload_n d_M_beats_161 rfl ?_
        refine sv_callVv (d := d + 7) (as := [.int l2]) d_M_beats_162 (wv_M_298 mc_183) so_75 ⟨_, rfl, rfl⟩ rfl (Nat.le_of_ble_eq_true rfl) rfl (c_M_due (d + 0) l2 v9 ) (fun v10 => ?_)
        exact c_M_beats_b165 d l1 l2 v10 
set_option maxHeartbeats 4000000 in
set_option maxRecDepth 100000 in
theorem c_M_beats_x171 (d : Nat)  (v : sv_T)  : sv_Ref (d + 8) 183 171 [none, none, none] [] v (f_M_beats_x171  v) (sv_Zv) := by
  unfold f_M_beats_x171
  exact sv_vret rfl d_M_beats_171
set_option maxHeartbeats 4000000 in
set_option maxRecDepth 100000 in
theorem c_M_beats_x119 (d : Nat) (l1 : Int32) (v : sv_T)  : sv_Ref (d + 8) 183 119 [some (.ref 75), some (.int l1), none] [] v (f_M_beats_x119 l1 v) (sv_Zv) := by
  unfold f_M_beats_x119
  refine sv_iconst (x := (2 : Int32)) d_M_beats_119 (by decide) ?_
  refine sv_iload_n d_M_beats_120 rfl ?_
  refine sv_imul d_M_beats_121 ?_
  refine sv_leR (fun x7 => ?_)
  refine sv_istore_n (ls' := [some (.ref 75), some (.int l1), some (.int x7)]) d_M_beats_122 (by decide) rfl ?_
  exact sv_seq (xt := 171) (L := (fun (s : sv_T) => [none, none, none])) (S := (fun (s : sv_T) => s)) (sv_loopR (L := (fun (s : Int32 × sv_T) => [some (.ref 75), some (.int l1), some (.int s.1)])) (S := (fun (s : Int32 × sv_T) => s.2)) (fun s => c_M_beats_l123 d l1 s.1 (s.2) ) 100000 (x7, v)) (fun s => c_M_beats_x171 d  s )
set_option maxHeartbeats 4000000 in
set_option maxRecDepth 100000 in
theorem c_M_beats_b44 (d : Nat) (l1 : Int32) (s0 : Int32) (s1 : Int32) (s2 : Int32) (v : sv_T)  : sv_Ref (d + 8) 183 44 [some (.ref 75), some (.int l1), none] [.int s0, .int s1, .int s2, .ref 83] v (f_M_beats_b44 l1 s0 s1 s2 v) (sv_Zv) := by
  unfold f_M_beats_b44
  refine sv_isub d_M_beats_44 ?_
  refine sv_iast d_M_beats_45 sa_83 (fun v2 => ?_)
  refine sv_iconst (x := (2 : Int32)) d_M_beats_46 (by decide) ?_
  refine sv_iload_n d_M_beats_47 rfl ?_
  refine sv_imul d_M_beats_48 ?_
  refine sv_leR (fun x3 => ?_)
  refine sv_istore_n (ls' := [some (.ref 75), some (.int l1), some (.int x3)]) d_M_beats_49 (by decide) rfl ?_
  exact sv_seq (xt := 119) (L := (fun (s : sv_T) => [some (.ref 75), some (.int l1), none])) (S := (fun (s : sv_T) => s)) (sv_loopR (L := (fun (s : Int32 × sv_T) => [some (.ref 75), some (.int l1), some (.int s.1)])) (S := (fun (s : Int32 × sv_T) => s.2)) (fun s => c_M_beats_l50 d l1 s.1 (s.2) ) 100000 (x3, v2)) (fun s => c_M_beats_x119 d l1 s )
set_option maxHeartbeats 4000000 in
set_option maxRecDepth 100000 in
theorem c_M_beats_b21 (d : Nat) (l1 : Int32) (s0 : Int32) (s1 : Int32) (s2 : Int32) (v : sv_T)  : sv_Ref (d + 8) 183 21 [some (.ref 75), some (.int l1), none] [.int s0, .int s1, .int s2, .ref 82] v (f_M_beats_b21 l1 s0 s1 s2 v) (sv_Zv) := by
  unfold f_M_beats_b21
  refine sv_isub d_M_beats_21 ?_
  refine sv_iast d_M_beats_22 sa_82 (fun v1 => ?_)
  refine sv_aload_n d_M_beats_23 rfl ?_
  refine sv_getr d_M_beats_24 (gf_M_31 mc_183) so_75 sm_75_8 ?_
  refine sv_iload_n d_M_beats_27 rfl ?_
  refine sv_dup2 d_M_beats_28 ?_
  refine sv_iald d_M_beats_29 sa_83 ?_
  refine sv_aload_n d_M_beats_30 rfl ?_
  refine sv_getr d_M_beats_31 (gf_M_31 mc_183) so_75 sm_75_8 ?_
  refine sv_iload_n d_M_beats_34 rfl ?_
  refine sv_iald d_M_beats_35 sa_83 ?_
  refine sv_if_le 43 d_M_beats_36 rfl ?_ ?_
  · refine sv_iconst (x := (0 : Int32)) d_M_beats_43 (by decide) ?_
    exact c_M_beats_b44 d l1 (0 : Int32) (v1 83 l1.toNatClampNeg) l1 v1 
  · refine sv_iconst (x := (1 : Int32)) d_M_beats_39 (by decide) ?_
    refine sv_goto 44 d_M_beats_40 rfl ?_
    exact c_M_beats_b44 d l1 (1 : Int32) (v1 83 l1.toNatClampNeg) l1 v1 
set_option maxHeartbeats 4000000 in
set_option maxRecDepth 100000 in
theorem c_M_beats (d : Nat) (a1 : Int32) (v : sv_T)  : sv_Cl (d + 8) 183 [.ref 75, .int a1] v (f_M_beats a1 v) sv_Zv := by
  refine sv_spec (ls0 := [some (.ref 75), some (.int a1), none]) mp_183 (Nat.le_of_ble_eq_true rfl) rfl ?_
  unfold f_M_beats
  refine sv_aload_n d_M_beats_0 rfl ?_
  refine sv_getr d_M_beats_1 (gf_M_28 mc_183) so_75 sm_75_7 ?_
  refine sv_iload_n d_M_beats_4 rfl ?_
  refine sv_dup2 d_M_beats_5 ?_
  refine sv_iald d_M_beats_6 sa_82 ?_
  refine sv_aload_n d_M_beats_7 rfl ?_
  refine sv_getr d_M_beats_8 (gf_M_28 mc_183) so_75 sm_75_7 ?_
  refine sv_iload_n d_M_beats_11 rfl ?_
  refine sv_iald d_M_beats_12 sa_82 ?_
  refine sv_if_le 20 d_M_beats_13 rfl ?_ ?_
  · refine sv_iconst (x := (0 : Int32)) d_M_beats_20 (by decide) ?_
    exact c_M_beats_b21 d a1 (0 : Int32) (v 82 a1.toNatClampNeg) a1 v 
  · refine sv_iconst (x := (1 : Int32)) d_M_beats_16 (by decide) ?_
    refine sv_goto 21 d_M_beats_17 rfl ?_
    exact c_M_beats_b21 d a1 (1 : Int32) (v 82 a1.toNatClampNeg) a1 v 
def f_M_tick_l15 (l1 : Int32) (l2 : Int32) (v : sv_T) : Option ((Int32 × sv_T) ⊕ (sv_T)) :=
  if l2 < l1 then
  sv_ls (sv_up v 75 0 ((v 75 0) + (1 : Int32))) fun v1 =>
  sv_bv (f_M_beats (0 : Int32) v1) fun v2 =>
  sv_bv (f_M_beats (1 : Int32) v2) fun v3 =>
  sv_le (l2 + (1 : Int32)) fun x4 =>
  some (.inl (x4, v3))
  else
  some (.inr v)
def f_M_tick_x46  (v : sv_T) : Option (Int32 × sv_T) :=
  some ((v 75 0), v)
def f_M_tick (a1 : Int32) (v : sv_T) : Option (Int32 × sv_T) :=
  if a1 < (1 : Int32) then
  some ((-1 : Int32), v)
  else
  if (60 : Int32) < a1 then
  some ((-1 : Int32), v)
  else
  Option.bind (sv_loop (fun (s : Int32 × sv_T) => f_M_tick_l15 a1 s.1 (s.2)) 100000 ((0 : Int32), v)) (fun (s : sv_T) => f_M_tick_x46  s)
set_option maxHeartbeats 4000000 in
set_option maxRecDepth 100000 in
theorem c_M_tick_l15 (d : Nat) (l1 : Int32) (l2 : Int32) (v : sv_T)  : sv_Ref (d + 9) 182 15 [some (.ref 75), some (.int l1), some (.int l2)] [] v (f_M_tick_l15 l1 l2 v) (sv_Zl (d + 9) 182 15 (fun (s : Int32 × sv_T) => [some (.ref 75), some (.int l1), some (.int s.1)]) (fun (s : Int32 × sv_T) => s.2) (sv_Zt (d + 9) 182 46 (fun (s : sv_T) => [some (.ref 75), none, none]) (fun (s : sv_T) => s))) := by
  unfold f_M_tick_l15
  refine sv_iload_n d_M_tick_15 rfl ?_
  refine sv_iload_n d_M_tick_16 rfl ?_
  refine sv_icmp_ge 46 d_M_tick_17 rfl ?_ ?_
  · exact sv_leave v rfl ⟨rfl, trivial⟩ rfl
  · refine sv_aload_n d_M_tick_20 rfl ?_
    refine sv_dup d_M_tick_21 ?_
    refine sv_geti d_M_tick_22 (gf_M_215 mc_182) so_75 (sd_10_0 so_75) ?_
    refine sv_iconst (x := (1 : Int32)) d_M_tick_25 (by decide) ?_
    refine sv_iadd d_M_tick_26 ?_
    refine sv_puti d_M_tick_27 (pf_M_215 mc_182) so_75 (sd_10_0 so_75) (fun v1 => ?_)
    refine sv_aload_n d_M_tick_30 rfl ?_
    refine sv_iconst (x := (0 : Int32)) d_M_tick_31 (by decide) ?_
    refine sv_callVv (d := d + 8) (as := [.int (0 : Int32)]) d_M_tick_32 (wv_M_301 mc_182) so_75 ⟨_, rfl, rfl⟩ rfl (Nat.le_of_ble_eq_true rfl) rfl (c_M_beats (d + 0) (0 : Int32) v1 ) (fun v2 => ?_)
    refine sv_aload_n d_M_tick_35 rfl ?_
    refine sv_iconst (x := (1 : Int32)) d_M_tick_36 (by decide) ?_
    refine sv_callVv (d := d + 8) (as := [.int (1 : Int32)]) d_M_tick_37 (wv_M_301 mc_182) so_75 ⟨_, rfl, rfl⟩ rfl (Nat.le_of_ble_eq_true rfl) rfl (c_M_beats (d + 0) (1 : Int32) v2 ) (fun v3 => ?_)
    refine sv_iinc (ls' := fun x4 => [some (.ref 75), some (.int l1), some (.int x4)]) (y := (1 : Int32)) d_M_tick_40 rfl (by decide) (fun _ => rfl) (fun x4 => ?_)
    refine sv_goto 15 d_M_tick_43 rfl ?_
    exact sv_next (x4, v3) ⟨rfl, rfl, rfl, trivial⟩ rfl
set_option maxHeartbeats 4000000 in
set_option maxRecDepth 100000 in
theorem c_M_tick_x46 (d : Nat)  (v : sv_T)  : sv_Ref (d + 9) 182 46 [some (.ref 75), none, none] [] v (f_M_tick_x46  v) (sv_Zi) := by
  unfold f_M_tick_x46
  refine sv_aload_n d_M_tick_46 rfl ?_
  refine sv_geti d_M_tick_47 (gf_M_215 mc_182) so_75 (sd_10_0 so_75) ?_
  exact sv_iret rfl d_M_tick_50
set_option maxHeartbeats 4000000 in
set_option maxRecDepth 100000 in
theorem c_M_tick (d : Nat) (a1 : Int32) (v : sv_T)  : sv_Cl (d + 9) 182 [.ref 75, .int a1] v (f_M_tick a1 v) sv_Zi := by
  refine sv_spec (ls0 := [some (.ref 75), some (.int a1), none]) mp_182 (Nat.le_of_ble_eq_true rfl) rfl ?_
  unfold f_M_tick
  refine sv_iload_n d_M_tick_0 rfl ?_
  refine sv_iconst (x := (1 : Int32)) d_M_tick_1 (by decide) ?_
  refine sv_icmp_lt 11 d_M_tick_2 rfl ?_ ?_
  · refine sv_iconst (x := (-1 : Int32)) d_M_tick_11 (by decide) ?_
    exact sv_iret rfl d_M_tick_12
  · refine sv_iload_n d_M_tick_5 rfl ?_
    refine sv_bipush (x := (60 : Int32)) d_M_tick_6 (by decide) ?_
    refine sv_icmp_le 13 d_M_tick_8 rfl ?_ ?_
    · refine sv_iconst (x := (0 : Int32)) d_M_tick_13 (by decide) ?_
      refine sv_istore_n (ls' := [some (.ref 75), some (.int a1), some (.int (0 : Int32))]) d_M_tick_14 (by decide) rfl ?_
      exact sv_seq (xt := 46) (L := (fun (s : sv_T) => [some (.ref 75), none, none])) (S := (fun (s : sv_T) => s)) (sv_loopR (L := (fun (s : Int32 × sv_T) => [some (.ref 75), some (.int a1), some (.int s.1)])) (S := (fun (s : Int32 × sv_T) => s.2)) (fun s => c_M_tick_l15 d a1 s.1 (s.2) ) 100000 ((0 : Int32), v)) (fun s => c_M_tick_x46 d  s )
    · refine sv_iconst (x := (-1 : Int32)) d_M_tick_11 (by decide) ?_
      exact sv_iret rfl d_M_tick_12
def f_M_flying (a1 : Int32) (v : sv_T) : Option (Int32 × sv_T) :=
  sv_bi (f_M_isHost a1 v) fun x2 v1 =>
  if x2 = 0 then
  some ((-1 : Int32), v1)
  else
  sv_ck a1 2 <|
  some ((v1 76 a1.toNatClampNeg), v1)
set_option maxHeartbeats 4000000 in
set_option maxRecDepth 100000 in
theorem c_M_flying (d : Nat) (a1 : Int32) (v : sv_T)  : sv_Cl (d + 1) 185 [.ref 75, .int a1] v (f_M_flying a1 v) sv_Zi := by
  refine sv_spec (ls0 := [some (.ref 75), some (.int a1)]) mp_185 (Nat.le_of_ble_eq_true rfl) rfl ?_
  unfold f_M_flying
  refine sv_iload_n d_M_flying_0 rfl ?_
  refine sv_callSi (d := d + 0) (as := [.int a1]) d_M_flying_1 (ws_M_140 mc_185)  rfl (Nat.le_of_ble_eq_true rfl) rfl (c_M_isHost (d + 0) a1 v ) (fun x2 v1 => ?_)
  refine sv_if_eq 16 d_M_flying_4 rfl ?_ ?_
  · refine sv_iconst (x := (-1 : Int32)) d_M_flying_16 (by decide) ?_
    exact sv_iret rfl d_M_flying_17
  · refine sv_aload_n d_M_flying_7 rfl ?_
    refine sv_getr d_M_flying_8 (gf_M_7 mc_185) so_75 sm_75_1 ?_
    refine sv_iload_n d_M_flying_11 rfl ?_
    refine sv_iald d_M_flying_12 sa_76 ?_
    refine sv_goto 17 d_M_flying_13 rfl ?_
    exact sv_iret rfl d_M_flying_17
def f_M_octet (a1 : Int32) (a2 : Int32) (a3 : Int32) (v : sv_T) : Option (Int32 × sv_T) :=
  sv_bi (f_M_isHost a1 v) fun x2 v1 =>
  if x2 = 0 then
  some ((-1 : Int32), v1)
  else
  if a2 < 0 then
  some ((-1 : Int32), v1)
  else
  sv_ck a1 2 <|
  if a2 < (v1 76 a1.toNatClampNeg) then
  sv_le ((((16 : Int32) * a1) + a2)) fun x3 =>
  if a3 = (-1 : Int32) then
  sv_ck x3 32 <|
  some ((v1 77 x3.toNatClampNeg), v1)
  else
  if a3 < 0 then
  some ((-1 : Int32), v1)
  else
  sv_ck x3 32 <|
  if a3 < (v1 77 x3.toNatClampNeg) then
  sv_ck (((40 : Int32) * x3) + a3) 1280 <|
  some ((v1 78 (((40 : Int32) * x3) + a3).toNatClampNeg), v1)
  else
  some ((-1 : Int32), v1)
  else
  some ((-1 : Int32), v1)
set_option maxHeartbeats 4000000 in
set_option maxRecDepth 100000 in
theorem c_M_octet (d : Nat) (a1 : Int32) (a2 : Int32) (a3 : Int32) (v : sv_T)  : sv_Cl (d + 1) 186 [.ref 75, .int a1, .int a2, .int a3] v (f_M_octet a1 a2 a3 v) sv_Zi := by
  refine sv_spec (ls0 := [some (.ref 75), some (.int a1), some (.int a2), some (.int a3), none]) mp_186 (Nat.le_of_ble_eq_true rfl) rfl ?_
  unfold f_M_octet
  refine sv_iload_n d_M_octet_0 rfl ?_
  refine sv_callSi (d := d + 0) (as := [.int a1]) d_M_octet_1 (ws_M_140 mc_186)  rfl (Nat.le_of_ble_eq_true rfl) rfl (c_M_isHost (d + 0) a1 v ) (fun x2 v1 => ?_)
  refine sv_if_eq 21 d_M_octet_4 rfl ?_ ?_
  · refine sv_iconst (x := (-1 : Int32)) d_M_octet_21 (by decide) ?_
    exact sv_iret rfl d_M_octet_22
  · refine sv_iload_n d_M_octet_7 rfl ?_
    refine sv_if_lt 21 d_M_octet_8 rfl ?_ ?_
    · refine sv_iconst (x := (-1 : Int32)) d_M_octet_21 (by decide) ?_
      exact sv_iret rfl d_M_octet_22
    · refine sv_iload_n d_M_octet_11 rfl ?_
      refine sv_aload_n d_M_octet_12 rfl ?_
      refine sv_getr d_M_octet_13 (gf_M_7 mc_186) so_75 sm_75_1 ?_
      refine sv_iload_n d_M_octet_16 rfl ?_
      refine sv_iald d_M_octet_17 sa_76 ?_
      refine sv_icmp_lt 23 d_M_octet_18 rfl ?_ ?_
      · refine sv_bipush (x := (16 : Int32)) d_M_octet_23 (by decide) ?_
        refine sv_iload_n d_M_octet_25 rfl ?_
        refine sv_imul d_M_octet_26 ?_
        refine sv_iload_n d_M_octet_27 rfl ?_
        refine sv_iadd d_M_octet_28 ?_
        refine sv_leR (fun x3 => ?_)
        refine sv_istore (ls' := [some (.ref 75), some (.int a1), some (.int a2), some (.int a3), some (.int x3)]) d_M_octet_29 (by decide) rfl ?_
        refine sv_iload_n d_M_octet_31 rfl ?_
        refine sv_iconst (x := (-1 : Int32)) d_M_octet_32 (by decide) ?_
        refine sv_icmp_ne 44 d_M_octet_33 rfl ?_ ?_
        · refine sv_iload_n d_M_octet_44 rfl ?_
          refine sv_if_lt 59 d_M_octet_45 rfl ?_ ?_
          · refine sv_iconst (x := (-1 : Int32)) d_M_octet_59 (by decide) ?_
            refine sv_goto 75 d_M_octet_60 rfl ?_
            exact sv_iret rfl d_M_octet_75
          · refine sv_iload_n d_M_octet_48 rfl ?_
            refine sv_aload_n d_M_octet_49 rfl ?_
            refine sv_getr d_M_octet_50 (gf_M_13 mc_186) so_75 sm_75_2 ?_
            refine sv_iload d_M_octet_53 rfl ?_
            refine sv_iald d_M_octet_55 sa_77 ?_
            refine sv_icmp_lt 63 d_M_octet_56 rfl ?_ ?_
            · refine sv_aload_n d_M_octet_63 rfl ?_
              refine sv_getr d_M_octet_64 (gf_M_16 mc_186) so_75 sm_75_3 ?_
              refine sv_bipush (x := (40 : Int32)) d_M_octet_67 (by decide) ?_
              refine sv_iload d_M_octet_69 rfl ?_
              refine sv_imul d_M_octet_71 ?_
              refine sv_iload_n d_M_octet_72 rfl ?_
              refine sv_iadd d_M_octet_73 ?_
              refine sv_iald d_M_octet_74 sa_78 ?_
              exact sv_iret rfl d_M_octet_75
            · refine sv_iconst (x := (-1 : Int32)) d_M_octet_59 (by decide) ?_
              refine sv_goto 75 d_M_octet_60 rfl ?_
              exact sv_iret rfl d_M_octet_75
        · refine sv_aload_n d_M_octet_36 rfl ?_
          refine sv_getr d_M_octet_37 (gf_M_13 mc_186) so_75 sm_75_2 ?_
          refine sv_iload d_M_octet_40 rfl ?_
          refine sv_iald d_M_octet_42 sa_77 ?_
          exact sv_iret rfl d_M_octet_43
      · refine sv_iconst (x := (-1 : Int32)) d_M_octet_21 (by decide) ?_
        exact sv_iret rfl d_M_octet_22
def f_M_socket (a1 : Int32) (a2 : Int32) (a3 : Int32) (v : sv_T) : Option (Int32 × sv_T) :=
  sv_bi (f_M_isSocket a1 a2 v) fun x2 v1 =>
  if x2 = 0 then
  some ((-1 : Int32), v1)
  else
  sv_bi (f_M_at a1 a2 v1) fun x4 v3 =>
  if a3 = (0 : Int32) then
  sv_ck x4 4 <|
  some ((v3 95 x4.toNatClampNeg), v3)
  else
  if a3 = (1 : Int32) then
  sv_ck x4 4 <|
  some ((v3 97 x4.toNatClampNeg), v3)
  else
  if a3 = (2 : Int32) then
  sv_ck x4 4 <|
  some ((v3 98 x4.toNatClampNeg), v3)
  else
  if a3 = (3 : Int32) then
  sv_ck x4 4 <|
  some ((v3 99 x4.toNatClampNeg), v3)
  else
  if a3 = (4 : Int32) then
  sv_ck x4 4 <|
  some ((v3 100 x4.toNatClampNeg), v3)
  else
  if a3 = (5 : Int32) then
  sv_ck x4 4 <|
  some ((v3 101 x4.toNatClampNeg), v3)
  else
  if a3 = (6 : Int32) then
  sv_ck x4 4 <|
  some ((v3 105 x4.toNatClampNeg), v3)
  else
  if a3 = (7 : Int32) then
  sv_ck x4 4 <|
  some ((v3 110 x4.toNatClampNeg), v3)
  else
  if a3 = (8 : Int32) then
  sv_ck x4 4 <|
  some ((v3 111 x4.toNatClampNeg), v3)
  else
  if a3 = (9 : Int32) then
  sv_ck x4 4 <|
  some ((v3 112 x4.toNatClampNeg), v3)
  else
  if a3 = (10 : Int32) then
  sv_ck x4 4 <|
  if (v3 103 x4.toNatClampNeg) = 0 then
  some ((0 : Int32), v3)
  else
  some ((1 : Int32), v3)
  else
  some ((-1 : Int32), v3)
set_option maxHeartbeats 4000000 in
set_option maxRecDepth 100000 in
theorem c_M_socket (d : Nat) (a1 : Int32) (a2 : Int32) (a3 : Int32) (v : sv_T)  : sv_Cl (d + 2) 187 [.ref 75, .int a1, .int a2, .int a3] v (f_M_socket a1 a2 a3 v) sv_Zi := by
  refine sv_spec (ls0 := [some (.ref 75), some (.int a1), some (.int a2), some (.int a3), none]) mp_187 (Nat.le_of_ble_eq_true rfl) rfl ?_
  unfold f_M_socket
  refine sv_iload_n d_M_socket_0 rfl ?_
  refine sv_iload_n d_M_socket_1 rfl ?_
  refine sv_callSi (d := d + 1) (as := [.int a1, .int a2]) d_M_socket_2 (ws_M_282 mc_187)  rfl (Nat.le_of_ble_eq_true rfl) rfl (c_M_isSocket (d + 0) a1 a2 v ) (fun x2 v1 => ?_)
  refine sv_if_ne 10 d_M_socket_5 rfl ?_ ?_
  · refine sv_iload_n d_M_socket_10 rfl ?_
    refine sv_iload_n d_M_socket_11 rfl ?_
    refine sv_callSi (d := d + 1) (as := [.int a1, .int a2]) d_M_socket_12 (ws_M_231 mc_187)  rfl (Nat.le_of_ble_eq_true rfl) rfl (c_M_at (d + 1) a1 a2 v1 ) (fun x4 v3 => ?_)
    refine sv_istore (ls' := [some (.ref 75), some (.int a1), some (.int a2), some (.int a3), some (.int x4)]) d_M_socket_15 (by decide) rfl ?_
    refine sv_iload_n d_M_socket_17 rfl ?_
    refine sv_if (fun c18_0 => ?_) (fun c18_0 => ?_)
    · refine sv_tableIn 76 d_M_socket_18 (0 : Int32) c18_0 (by decide) rfl rfl ?_
      refine sv_aload_n d_M_socket_76 rfl ?_
      refine sv_getr d_M_socket_77 (gf_M_68 mc_187) so_75 sm_75_20 ?_
      refine sv_iload d_M_socket_80 rfl ?_
      refine sv_iald d_M_socket_82 sa_95 ?_
      exact sv_iret rfl d_M_socket_83
    · refine sv_if (fun c18_1 => ?_) (fun c18_1 => ?_)
      · refine sv_tableIn 84 d_M_socket_18 (1 : Int32) c18_1 (by decide) rfl rfl ?_
        refine sv_aload_n d_M_socket_84 rfl ?_
        refine sv_getr d_M_socket_85 (gf_M_74 mc_187) so_75 sm_75_22 ?_
        refine sv_iload d_M_socket_88 rfl ?_
        refine sv_iald d_M_socket_90 sa_97 ?_
        exact sv_iret rfl d_M_socket_91
      · refine sv_if (fun c18_2 => ?_) (fun c18_2 => ?_)
        · refine sv_tableIn 92 d_M_socket_18 (2 : Int32) c18_2 (by decide) rfl rfl ?_
          refine sv_aload_n d_M_socket_92 rfl ?_
          refine sv_getr d_M_socket_93 (gf_M_77 mc_187) so_75 sm_75_23 ?_
          refine sv_iload d_M_socket_96 rfl ?_
          refine sv_iald d_M_socket_98 sa_98 ?_
          exact sv_iret rfl d_M_socket_99
        · refine sv_if (fun c18_3 => ?_) (fun c18_3 => ?_)
          · refine sv_tableIn 100 d_M_socket_18 (3 : Int32) c18_3 (by decide) rfl rfl ?_
            refine sv_aload_n d_M_socket_100 rfl ?_
            refine sv_getr d_M_socket_101 (gf_M_80 mc_187) so_75 sm_75_24 ?_
            refine sv_iload d_M_socket_104 rfl ?_
            refine sv_iald d_M_socket_106 sa_99 ?_
            exact sv_iret rfl d_M_socket_107
          · refine sv_if (fun c18_4 => ?_) (fun c18_4 => ?_)
            · refine sv_tableIn 108 d_M_socket_18 (4 : Int32) c18_4 (by decide) rfl rfl ?_
              refine sv_aload_n d_M_socket_108 rfl ?_
              refine sv_getr d_M_socket_109 (gf_M_83 mc_187) so_75 sm_75_25 ?_
              refine sv_iload d_M_socket_112 rfl ?_
              refine sv_iald d_M_socket_114 sa_100 ?_
              exact sv_iret rfl d_M_socket_115
            · refine sv_if (fun c18_5 => ?_) (fun c18_5 => ?_)
              · refine sv_tableIn 116 d_M_socket_18 (5 : Int32) c18_5 (by decide) rfl rfl ?_
                refine sv_aload_n d_M_socket_116 rfl ?_
                refine sv_getr d_M_socket_117 (gf_M_86 mc_187) so_75 sm_75_26 ?_
                refine sv_iload d_M_socket_120 rfl ?_
                refine sv_iald d_M_socket_122 sa_101 ?_
                exact sv_iret rfl d_M_socket_123
              · refine sv_if (fun c18_6 => ?_) (fun c18_6 => ?_)
                · refine sv_tableIn 124 d_M_socket_18 (6 : Int32) c18_6 (by decide) rfl rfl ?_
                  refine sv_aload_n d_M_socket_124 rfl ?_
                  refine sv_getr d_M_socket_125 (gf_M_98 mc_187) so_75 sm_75_30 ?_
                  refine sv_iload d_M_socket_128 rfl ?_
                  refine sv_iald d_M_socket_130 sa_105 ?_
                  exact sv_iret rfl d_M_socket_131
                · refine sv_if (fun c18_7 => ?_) (fun c18_7 => ?_)
                  · refine sv_tableIn 132 d_M_socket_18 (7 : Int32) c18_7 (by decide) rfl rfl ?_
                    refine sv_aload_n d_M_socket_132 rfl ?_
                    refine sv_getr d_M_socket_133 (gf_M_113 mc_187) so_75 sm_75_35 ?_
                    refine sv_iload d_M_socket_136 rfl ?_
                    refine sv_iald d_M_socket_138 sa_110 ?_
                    exact sv_iret rfl d_M_socket_139
                  · refine sv_if (fun c18_8 => ?_) (fun c18_8 => ?_)
                    · refine sv_tableIn 140 d_M_socket_18 (8 : Int32) c18_8 (by decide) rfl rfl ?_
                      refine sv_aload_n d_M_socket_140 rfl ?_
                      refine sv_getr d_M_socket_141 (gf_M_116 mc_187) so_75 sm_75_36 ?_
                      refine sv_iload d_M_socket_144 rfl ?_
                      refine sv_iald d_M_socket_146 sa_111 ?_
                      exact sv_iret rfl d_M_socket_147
                    · refine sv_if (fun c18_9 => ?_) (fun c18_9 => ?_)
                      · refine sv_tableIn 148 d_M_socket_18 (9 : Int32) c18_9 (by decide) rfl rfl ?_
                        refine sv_aload_n d_M_socket_148 rfl ?_
                        refine sv_getr d_M_socket_149 (gf_M_119 mc_187) so_75 sm_75_37 ?_
                        refine sv_iload d_M_socket_152 rfl ?_
                        refine sv_iald d_M_socket_154 sa_112 ?_
                        exact sv_iret rfl d_M_socket_155
                      · refine sv_if (fun c18_10 => ?_) (fun c18_10 => ?_)
                        · refine sv_tableIn 156 d_M_socket_18 (10 : Int32) c18_10 (by decide) rfl rfl ?_
                          refine sv_aload_n d_M_socket_156 rfl ?_
                          refine sv_getr d_M_socket_157 (gf_M_92 mc_187) so_75 sm_75_28 ?_
                          refine sv_iload d_M_socket_160 rfl ?_
                          refine sv_zald d_M_socket_162 sa_103 ?_
                          refine sv_if_eq 170 d_M_socket_163 rfl ?_ ?_
                          · refine sv_iconst (x := (0 : Int32)) d_M_socket_170 (by decide) ?_
                            exact sv_iret rfl d_M_socket_171
                          · refine sv_iconst (x := (1 : Int32)) d_M_socket_166 (by decide) ?_
                            refine sv_goto 171 d_M_socket_167 rfl ?_
                            exact sv_iret rfl d_M_socket_171
                        · refine sv_tableOut 172 d_M_socket_18 (sv_out (fun k h1 h2 => by
                            rcases (show k = 0 ∨ k = 1 ∨ k = 2 ∨ k = 3 ∨ k = 4 ∨ k = 5 ∨ k = 6 ∨ k = 7 ∨ k = 8 ∨ k = 9 ∨ k = 10 by omega) with rfl | rfl | rfl | rfl | rfl | rfl | rfl | rfl | rfl | rfl | rfl
                            · exact c18_0
                            · exact c18_1
                            · exact c18_2
                            · exact c18_3
                            · exact c18_4
                            · exact c18_5
                            · exact c18_6
                            · exact c18_7
                            · exact c18_8
                            · exact c18_9
                            · exact c18_10
                            )) rfl ?_
                          refine sv_iconst (x := (-1 : Int32)) d_M_socket_172 (by decide) ?_
                          exact sv_iret rfl d_M_socket_173
  · refine sv_iconst (x := (-1 : Int32)) d_M_socket_8 (by decide) ?_
    exact sv_iret rfl d_M_socket_9
def f_M_host_b118 (s0 : Int32) (s1 : Int32) (v : sv_T) : Option (Int32 × sv_T) :=
  some ((s1 + s0), v)
def f_M_host_b100 (l1 : Int32) (s0 : Int32) (v : sv_T) : Option (Int32 × sv_T) :=
  sv_ck (((2 : Int32) * l1) + (1 : Int32)) 4 <|
  if (v 88 (((2 : Int32) * l1) + (1 : Int32)).toNatClampNeg) = 0 then
  f_M_host_b118 (0 : Int32) s0 v
  else
  f_M_host_b118 (1 : Int32) s0 v
def f_M_host (a1 : Int32) (a2 : Int32) (v : sv_T) : Option (Int32 × sv_T) :=
  sv_bi (f_M_isHost a1 v) fun x2 v1 =>
  if x2 = 0 then
  some ((-1 : Int32), v1)
  else
  if a2 = (0 : Int32) then
  sv_ck a1 2 <|
  some ((v1 83 a1.toNatClampNeg), v1)
  else
  if a2 = (1 : Int32) then
  sv_ck a1 2 <|
  some ((v1 79 a1.toNatClampNeg), v1)
  else
  if a2 = (2 : Int32) then
  sv_ck a1 2 <|
  some ((v1 86 a1.toNatClampNeg), v1)
  else
  if a2 = (3 : Int32) then
  sv_ck a1 2 <|
  some ((v1 87 a1.toNatClampNeg), v1)
  else
  if a2 = (4 : Int32) then
  sv_ck ((2 : Int32) * a1) 4 <|
  if (v1 88 ((2 : Int32) * a1).toNatClampNeg) = 0 then
  f_M_host_b100 a1 (0 : Int32) v1
  else
  f_M_host_b100 a1 (1 : Int32) v1
  else
  if a2 = (5 : Int32) then
  sv_ck a1 2 <|
  some ((v1 85 a1.toNatClampNeg), v1)
  else
  if a2 = (6 : Int32) then
  sv_ck a1 2 <|
  some ((v1 82 a1.toNatClampNeg), v1)
  else
  if a2 = (7 : Int32) then
  sv_ck a1 2 <|
  some ((v1 84 a1.toNatClampNeg), v1)
  else
  some ((-1 : Int32), v1)
set_option maxHeartbeats 4000000 in
set_option maxRecDepth 100000 in
theorem c_M_host_b118 (d : Nat) (s0 : Int32) (s1 : Int32) (v : sv_T)  : sv_Ref (d + 1) 188 118 [none, none, none] [.int s0, .int s1] v (f_M_host_b118 s0 s1 v) (sv_Zi) := by
  unfold f_M_host_b118
  refine sv_iadd d_M_host_118 ?_
  exact sv_iret rfl d_M_host_119
set_option maxHeartbeats 4000000 in
set_option maxRecDepth 100000 in
theorem c_M_host_b100 (d : Nat) (l1 : Int32) (s0 : Int32) (v : sv_T)  : sv_Ref (d + 1) 188 100 [some (.ref 75), some (.int l1), none] [.int s0] v (f_M_host_b100 l1 s0 v) (sv_Zi) := by
  unfold f_M_host_b100
  refine sv_aload_n d_M_host_100 rfl ?_
  refine sv_getr d_M_host_101 (gf_M_46 mc_188) so_75 sm_75_13 ?_
  refine sv_iconst (x := (2 : Int32)) d_M_host_104 (by decide) ?_
  refine sv_iload_n d_M_host_105 rfl ?_
  refine sv_imul d_M_host_106 ?_
  refine sv_iconst (x := (1 : Int32)) d_M_host_107 (by decide) ?_
  refine sv_iadd d_M_host_108 ?_
  refine sv_zald d_M_host_109 sa_88 ?_
  refine sv_if_eq 117 d_M_host_110 rfl ?_ ?_
  · refine sv_iconst (x := (0 : Int32)) d_M_host_117 (by decide) ?_
    refine sv_kill (ls' := [none, none, none]) trivial ?_
    exact c_M_host_b118 d (0 : Int32) s0 v 
  · refine sv_iconst (x := (1 : Int32)) d_M_host_113 (by decide) ?_
    refine sv_goto 118 d_M_host_114 rfl ?_
    refine sv_kill (ls' := [none, none, none]) trivial ?_
    exact c_M_host_b118 d (1 : Int32) s0 v 
set_option maxHeartbeats 4000000 in
set_option maxRecDepth 100000 in
theorem c_M_host (d : Nat) (a1 : Int32) (a2 : Int32) (v : sv_T)  : sv_Cl (d + 1) 188 [.ref 75, .int a1, .int a2] v (f_M_host a1 a2 v) sv_Zi := by
  refine sv_spec (ls0 := [some (.ref 75), some (.int a1), some (.int a2)]) mp_188 (Nat.le_of_ble_eq_true rfl) rfl ?_
  unfold f_M_host
  refine sv_iload_n d_M_host_0 rfl ?_
  refine sv_callSi (d := d + 0) (as := [.int a1]) d_M_host_1 (ws_M_140 mc_188)  rfl (Nat.le_of_ble_eq_true rfl) rfl (c_M_isHost (d + 0) a1 v ) (fun x2 v1 => ?_)
  refine sv_if_ne 9 d_M_host_4 rfl ?_ ?_
  · refine sv_iload_n d_M_host_9 rfl ?_
    refine sv_if (fun c10_0 => ?_) (fun c10_0 => ?_)
    · refine sv_tableIn 56 d_M_host_10 (0 : Int32) c10_0 (by decide) rfl rfl ?_
      refine sv_aload_n d_M_host_56 rfl ?_
      refine sv_getr d_M_host_57 (gf_M_31 mc_188) so_75 sm_75_8 ?_
      refine sv_iload_n d_M_host_60 rfl ?_
      refine sv_iald d_M_host_61 sa_83 ?_
      exact sv_iret rfl d_M_host_62
    · refine sv_if (fun c10_1 => ?_) (fun c10_1 => ?_)
      · refine sv_tableIn 63 d_M_host_10 (1 : Int32) c10_1 (by decide) rfl rfl ?_
        refine sv_aload_n d_M_host_63 rfl ?_
        refine sv_getr d_M_host_64 (gf_M_19 mc_188) so_75 sm_75_4 ?_
        refine sv_iload_n d_M_host_67 rfl ?_
        refine sv_iald d_M_host_68 sa_79 ?_
        exact sv_iret rfl d_M_host_69
      · refine sv_if (fun c10_2 => ?_) (fun c10_2 => ?_)
        · refine sv_tableIn 70 d_M_host_10 (2 : Int32) c10_2 (by decide) rfl rfl ?_
          refine sv_aload_n d_M_host_70 rfl ?_
          refine sv_getr d_M_host_71 (gf_M_40 mc_188) so_75 sm_75_11 ?_
          refine sv_iload_n d_M_host_74 rfl ?_
          refine sv_iald d_M_host_75 sa_86 ?_
          exact sv_iret rfl d_M_host_76
        · refine sv_if (fun c10_3 => ?_) (fun c10_3 => ?_)
          · refine sv_tableIn 77 d_M_host_10 (3 : Int32) c10_3 (by decide) rfl rfl ?_
            refine sv_aload_n d_M_host_77 rfl ?_
            refine sv_getr d_M_host_78 (gf_M_43 mc_188) so_75 sm_75_12 ?_
            refine sv_iload_n d_M_host_81 rfl ?_
            refine sv_iald d_M_host_82 sa_87 ?_
            exact sv_iret rfl d_M_host_83
          · refine sv_if (fun c10_4 => ?_) (fun c10_4 => ?_)
            · refine sv_tableIn 84 d_M_host_10 (4 : Int32) c10_4 (by decide) rfl rfl ?_
              refine sv_aload_n d_M_host_84 rfl ?_
              refine sv_getr d_M_host_85 (gf_M_46 mc_188) so_75 sm_75_13 ?_
              refine sv_iconst (x := (2 : Int32)) d_M_host_88 (by decide) ?_
              refine sv_iload_n d_M_host_89 rfl ?_
              refine sv_imul d_M_host_90 ?_
              refine sv_zald d_M_host_91 sa_88 ?_
              refine sv_if_eq 99 d_M_host_92 rfl ?_ ?_
              · refine sv_iconst (x := (0 : Int32)) d_M_host_99 (by decide) ?_
                refine sv_kill (ls' := [some (.ref 75), some (.int a1), none]) ⟨rfl, rfl, trivial⟩ ?_
                exact c_M_host_b100 d a1 (0 : Int32) v1 
              · refine sv_iconst (x := (1 : Int32)) d_M_host_95 (by decide) ?_
                refine sv_goto 100 d_M_host_96 rfl ?_
                refine sv_kill (ls' := [some (.ref 75), some (.int a1), none]) ⟨rfl, rfl, trivial⟩ ?_
                exact c_M_host_b100 d a1 (1 : Int32) v1 
            · refine sv_if (fun c10_5 => ?_) (fun c10_5 => ?_)
              · refine sv_tableIn 120 d_M_host_10 (5 : Int32) c10_5 (by decide) rfl rfl ?_
                refine sv_aload_n d_M_host_120 rfl ?_
                refine sv_getr d_M_host_121 (gf_M_37 mc_188) so_75 sm_75_10 ?_
                refine sv_iload_n d_M_host_124 rfl ?_
                refine sv_iald d_M_host_125 sa_85 ?_
                exact sv_iret rfl d_M_host_126
              · refine sv_if (fun c10_6 => ?_) (fun c10_6 => ?_)
                · refine sv_tableIn 127 d_M_host_10 (6 : Int32) c10_6 (by decide) rfl rfl ?_
                  refine sv_aload_n d_M_host_127 rfl ?_
                  refine sv_getr d_M_host_128 (gf_M_28 mc_188) so_75 sm_75_7 ?_
                  refine sv_iload_n d_M_host_131 rfl ?_
                  refine sv_iald d_M_host_132 sa_82 ?_
                  exact sv_iret rfl d_M_host_133
                · refine sv_if (fun c10_7 => ?_) (fun c10_7 => ?_)
                  · refine sv_tableIn 134 d_M_host_10 (7 : Int32) c10_7 (by decide) rfl rfl ?_
                    refine sv_aload_n d_M_host_134 rfl ?_
                    refine sv_getr d_M_host_135 (gf_M_34 mc_188) so_75 sm_75_9 ?_
                    refine sv_iload_n d_M_host_138 rfl ?_
                    refine sv_iald d_M_host_139 sa_84 ?_
                    exact sv_iret rfl d_M_host_140
                  · refine sv_tableOut 141 d_M_host_10 (sv_out (fun k h1 h2 => by
                      rcases (show k = 0 ∨ k = 1 ∨ k = 2 ∨ k = 3 ∨ k = 4 ∨ k = 5 ∨ k = 6 ∨ k = 7 by omega) with rfl | rfl | rfl | rfl | rfl | rfl | rfl | rfl
                      · exact c10_0
                      · exact c10_1
                      · exact c10_2
                      · exact c10_3
                      · exact c10_4
                      · exact c10_5
                      · exact c10_6
                      · exact c10_7
                      )) rfl ?_
                    refine sv_iconst (x := (-1 : Int32)) d_M_host_141 (by decide) ?_
                    exact sv_iret rfl d_M_host_142
  · refine sv_iconst (x := (-1 : Int32)) d_M_host_7 (by decide) ?_
    exact sv_iret rfl d_M_host_8
