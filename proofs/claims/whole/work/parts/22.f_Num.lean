def f_Num_putPair (a1 : Nat) (a2 : Int32) (a3 : Int32) (v : sv_T) : Option (sv_T) :=
  sv_ck a2 (sv_len (sg a1)) <| sv_ls (sv_up v a1 a2.toNatClampNeg ((a3 >>> (8 : Int32)) &&& (255 : Int32))) fun v1 =>
  sv_ck (a2 + (1 : Int32)) (sv_len (sg a1)) <| sv_ls (sv_up v1 a1 (a2 + (1 : Int32)).toNatClampNeg (a3 &&& (255 : Int32))) fun v2 =>
  some v2
set_option maxHeartbeats 4000000 in
set_option maxRecDepth 100000 in
theorem c_Num_putPair (d : Nat) (a1 : Nat) (a2 : Int32) (a3 : Int32) (v : sv_T) (ha1 : sv_isA (sg a1) 0 (sv_len (sg a1)) = true) : sv_Cl (d + 0) 23 [.ref a1, .int a2, .int a3] v (f_Num_putPair a1 a2 a3 v) sv_Zv := by
  refine sv_spec (ls0 := [some (.ref a1), some (.int a2), some (.int a3)]) mp_23 (Nat.le_of_ble_eq_true rfl) rfl ?_
  unfold f_Num_putPair
  refine sv_aload_n d_Num_putPair_0 rfl ?_
  refine sv_iload_n d_Num_putPair_1 rfl ?_
  refine sv_iload_n d_Num_putPair_2 rfl ?_
  refine sv_bipush (x := (8 : Int32)) d_Num_putPair_3 (by decide) ?_
  refine sv_ishr d_Num_putPair_5 (z := (8 : Int32)) (by decide) ?_
  refine sv_sipush (x := (255 : Int32)) d_Num_putPair_6 (by decide) ?_
  refine sv_iand d_Num_putPair_9 ?_
  refine sv_iast d_Num_putPair_10 ha1 (fun v1 => ?_)
  refine sv_aload_n d_Num_putPair_11 rfl ?_
  refine sv_iload_n d_Num_putPair_12 rfl ?_
  refine sv_iconst (x := (1 : Int32)) d_Num_putPair_13 (by decide) ?_
  refine sv_iadd d_Num_putPair_14 ?_
  refine sv_iload_n d_Num_putPair_15 rfl ?_
  refine sv_sipush (x := (255 : Int32)) d_Num_putPair_16 (by decide) ?_
  refine sv_iand d_Num_putPair_19 ?_
  refine sv_iast d_Num_putPair_20 ha1 (fun v2 => ?_)
  exact sv_vret rfl d_Num_putPair_21
def f_Num_check_b39 (r1 : Nat) (l2 : Int32) (l3 : Int32) (l5 : Int32) (s0 : Int32) (s1 : Int32) (v : sv_T) : Option ((Int32 × Int32 × sv_T) ⊕ (Int32 × sv_T)) :=
  sv_le ((s1 + s0)) fun x1 =>
  sv_le (l5 + (1 : Int32)) fun x2 =>
  some (.inl (x1, x2, v))
def f_Num_check_l6 (r1 : Nat) (l2 : Int32) (l3 : Int32) (l4 : Int32) (l5 : Int32) (v : sv_T) : Option ((Int32 × Int32 × sv_T) ⊕ (Int32 × sv_T)) :=
  if l5 < l3 then
  if (l5 &&& (1 : Int32)) = 0 then
  sv_ck (l2 + l5) (sv_len (sg r1)) <|
  f_Num_check_b39 r1 l2 l3 l5 ((v r1 (l2 + l5).toNatClampNeg) <<< (8 : Int32)) l4 v
  else
  sv_ck (l2 + l5) (sv_len (sg r1)) <|
  f_Num_check_b39 r1 l2 l3 l5 (v r1 (l2 + l5).toNatClampNeg) l4 v
  else
  some (.inr (l4, v))
def f_Num_check_l51 (l4 : Int32) (l5 : Int32) (v : sv_T) : Option ((Int32 × Int32 × sv_T) ⊕ (Int32 × sv_T)) :=
  if l5 < (4 : Int32) then
  if (65535 : Int32) < l4 then
  sv_le (((l4 >>> (16 : Int32)) + (l4 &&& (65535 : Int32)))) fun x3 =>
  sv_le (l5 + (1 : Int32)) fun x4 =>
  some (.inl (x3, x4, v))
  else
  some (.inr (l4, v))
  else
  some (.inr (l4, v))
def f_Num_check_x83 (l4 : Int32) (v : sv_T) : Option (Int32 × sv_T) :=
  some (((65535 : Int32) - l4), v)
def f_Num_check_x48 (l4 : Int32) (v : sv_T) : Option (Int32 × sv_T) :=
  Option.bind (sv_loop (fun (s : Int32 × Int32 × sv_T) => f_Num_check_l51 s.1 s.2.1 (s.2.2)) 100000 (l4, (0 : Int32), v)) (fun (s : Int32 × sv_T) => f_Num_check_x83 s.1 (s.2))
def f_Num_check (a1 : Int32) (a2 : Nat) (a3 : Int32) (a4 : Int32) (v : sv_T) : Option (Int32 × sv_T) :=
  Option.bind (sv_loop (fun (s : Int32 × Int32 × sv_T) => f_Num_check_l6 a2 a3 a4 s.1 s.2.1 (s.2.2)) 100000 (a1, (0 : Int32), v)) (fun (s : Int32 × sv_T) => f_Num_check_x48 s.1 (s.2))
set_option maxHeartbeats 4000000 in
set_option maxRecDepth 100000 in
theorem c_Num_check_b39 (d : Nat) (r1 : Nat) (l2 : Int32) (l3 : Int32) (l5 : Int32) (s0 : Int32) (s1 : Int32) (v : sv_T) (hr1 : sv_isA (sg r1) 0 (sv_len (sg r1)) = true) : sv_Ref (d + 0) 28 39 [none, some (.ref r1), some (.int l2), some (.int l3), none, some (.int l5)] [.int s0, .int s1] v (f_Num_check_b39 r1 l2 l3 l5 s0 s1 v) (sv_Zl (d + 0) 28 6 (fun (s : Int32 × Int32 × sv_T) => [none, some (.ref r1), some (.int l2), some (.int l3), some (.int s.1), some (.int s.2.1)]) (fun (s : Int32 × Int32 × sv_T) => s.2.2) (sv_Zt (d + 0) 28 48 (fun (s : Int32 × sv_T) => [none, none, none, none, some (.int s.1), none]) (fun (s : Int32 × sv_T) => s.2))) := by
  unfold f_Num_check_b39
  refine sv_iadd d_Num_check_39 ?_
  refine sv_leR (fun x1 => ?_)
  refine sv_istore (ls' := [none, some (.ref r1), some (.int l2), some (.int l3), some (.int x1), some (.int l5)]) d_Num_check_40 (by decide) rfl ?_
  refine sv_iinc (ls' := fun x2 => [none, some (.ref r1), some (.int l2), some (.int l3), some (.int x1), some (.int x2)]) (y := (1 : Int32)) d_Num_check_42 rfl (by decide) (fun _ => rfl) (fun x2 => ?_)
  refine sv_goto 6 d_Num_check_45 rfl ?_
  exact sv_next (x1, x2, v) ⟨rfl, rfl, rfl, rfl, rfl, trivial⟩ rfl
set_option maxHeartbeats 4000000 in
set_option maxRecDepth 100000 in
theorem c_Num_check_l6 (d : Nat) (r1 : Nat) (l2 : Int32) (l3 : Int32) (l4 : Int32) (l5 : Int32) (v : sv_T) (hr1 : sv_isA (sg r1) 0 (sv_len (sg r1)) = true) : sv_Ref (d + 0) 28 6 [none, some (.ref r1), some (.int l2), some (.int l3), some (.int l4), some (.int l5)] [] v (f_Num_check_l6 r1 l2 l3 l4 l5 v) (sv_Zl (d + 0) 28 6 (fun (s : Int32 × Int32 × sv_T) => [none, some (.ref r1), some (.int l2), some (.int l3), some (.int s.1), some (.int s.2.1)]) (fun (s : Int32 × Int32 × sv_T) => s.2.2) (sv_Zt (d + 0) 28 48 (fun (s : Int32 × sv_T) => [none, none, none, none, some (.int s.1), none]) (fun (s : Int32 × sv_T) => s.2))) := by
  unfold f_Num_check_l6
  refine sv_iload d_Num_check_6 rfl ?_
  refine sv_iload_n d_Num_check_8 rfl ?_
  refine sv_icmp_ge 48 d_Num_check_9 rfl ?_ ?_
  · exact sv_leave (l4, v) rfl ⟨rfl, trivial⟩ rfl
  · refine sv_iload d_Num_check_12 rfl ?_
    refine sv_iload d_Num_check_14 rfl ?_
    refine sv_iconst (x := (1 : Int32)) d_Num_check_16 (by decide) ?_
    refine sv_iand d_Num_check_17 ?_
    refine sv_if_ne 33 d_Num_check_18 rfl ?_ ?_
    · refine sv_aload_n d_Num_check_33 rfl ?_
      refine sv_iload_n d_Num_check_34 rfl ?_
      refine sv_iload d_Num_check_35 rfl ?_
      refine sv_iadd d_Num_check_37 ?_
      refine sv_iald d_Num_check_38 hr1 ?_
      refine sv_kill (ls' := [none, some (.ref r1), some (.int l2), some (.int l3), none, some (.int l5)]) ⟨rfl, rfl, rfl, rfl, trivial⟩ ?_
      exact c_Num_check_b39 d r1 l2 l3 l5 (v r1 (l2 + l5).toNatClampNeg) l4 v hr1
    · refine sv_aload_n d_Num_check_21 rfl ?_
      refine sv_iload_n d_Num_check_22 rfl ?_
      refine sv_iload d_Num_check_23 rfl ?_
      refine sv_iadd d_Num_check_25 ?_
      refine sv_iald d_Num_check_26 hr1 ?_
      refine sv_bipush (x := (8 : Int32)) d_Num_check_27 (by decide) ?_
      refine sv_ishl d_Num_check_29 (z := (8 : Int32)) (by decide) ?_
      refine sv_goto 39 d_Num_check_30 rfl ?_
      refine sv_kill (ls' := [none, some (.ref r1), some (.int l2), some (.int l3), none, some (.int l5)]) ⟨rfl, rfl, rfl, rfl, trivial⟩ ?_
      exact c_Num_check_b39 d r1 l2 l3 l5 ((v r1 (l2 + l5).toNatClampNeg) <<< (8 : Int32)) l4 v hr1
set_option maxHeartbeats 4000000 in
set_option maxRecDepth 100000 in
theorem c_Num_check_l51 (d : Nat) (l4 : Int32) (l5 : Int32) (v : sv_T)  : sv_Ref (d + 0) 28 51 [none, none, none, none, some (.int l4), some (.int l5)] [] v (f_Num_check_l51 l4 l5 v) (sv_Zl (d + 0) 28 51 (fun (s : Int32 × Int32 × sv_T) => [none, none, none, none, some (.int s.1), some (.int s.2.1)]) (fun (s : Int32 × Int32 × sv_T) => s.2.2) (sv_Zt (d + 0) 28 83 (fun (s : Int32 × sv_T) => [none, none, none, none, some (.int s.1), none]) (fun (s : Int32 × sv_T) => s.2))) := by
  unfold f_Num_check_l51
  refine sv_iload d_Num_check_51 rfl ?_
  refine sv_iconst (x := (4 : Int32)) d_Num_check_53 (by decide) ?_
  refine sv_icmp_ge 83 d_Num_check_54 rfl ?_ ?_
  · exact sv_leave (l4, v) rfl ⟨rfl, trivial⟩ rfl
  · refine sv_iload d_Num_check_57 rfl ?_
    refine sv_ldc d_Num_check_59 tw_398 ?_
    refine sv_icmp_le 83 d_Num_check_61 rfl ?_ ?_
    · exact sv_leave (l4, v) rfl ⟨rfl, trivial⟩ rfl
    · refine sv_iload d_Num_check_64 rfl ?_
      refine sv_bipush (x := (16 : Int32)) d_Num_check_66 (by decide) ?_
      refine sv_ishr d_Num_check_68 (z := (16 : Int32)) (by decide) ?_
      refine sv_iload d_Num_check_69 rfl ?_
      refine sv_ldc d_Num_check_71 tw_398 ?_
      refine sv_iand d_Num_check_73 ?_
      refine sv_iadd d_Num_check_74 ?_
      refine sv_leR (fun x3 => ?_)
      refine sv_istore (ls' := [none, none, none, none, some (.int x3), some (.int l5)]) d_Num_check_75 (by decide) rfl ?_
      refine sv_iinc (ls' := fun x4 => [none, none, none, none, some (.int x3), some (.int x4)]) (y := (1 : Int32)) d_Num_check_77 rfl (by decide) (fun _ => rfl) (fun x4 => ?_)
      refine sv_goto 51 d_Num_check_80 rfl ?_
      exact sv_next (x3, x4, v) ⟨rfl, rfl, trivial⟩ rfl
set_option maxHeartbeats 4000000 in
set_option maxRecDepth 100000 in
theorem c_Num_check_x83 (d : Nat) (l4 : Int32) (v : sv_T)  : sv_Ref (d + 0) 28 83 [none, none, none, none, some (.int l4), none] [] v (f_Num_check_x83 l4 v) (sv_Zi) := by
  unfold f_Num_check_x83
  refine sv_ldc d_Num_check_83 tw_398 ?_
  refine sv_iload d_Num_check_85 rfl ?_
  refine sv_isub d_Num_check_87 ?_
  exact sv_iret rfl d_Num_check_88
set_option maxHeartbeats 4000000 in
set_option maxRecDepth 100000 in
theorem c_Num_check_x48 (d : Nat) (l4 : Int32) (v : sv_T)  : sv_Ref (d + 0) 28 48 [none, none, none, none, some (.int l4), none] [] v (f_Num_check_x48 l4 v) (sv_Zi) := by
  unfold f_Num_check_x48
  refine sv_iconst (x := (0 : Int32)) d_Num_check_48 (by decide) ?_
  refine sv_istore (ls' := [none, none, none, none, some (.int l4), some (.int (0 : Int32))]) d_Num_check_49 (by decide) rfl ?_
  exact sv_seq (xt := 83) (L := (fun (s : Int32 × sv_T) => [none, none, none, none, some (.int s.1), none])) (S := (fun (s : Int32 × sv_T) => s.2)) (sv_loopR (L := (fun (s : Int32 × Int32 × sv_T) => [none, none, none, none, some (.int s.1), some (.int s.2.1)])) (S := (fun (s : Int32 × Int32 × sv_T) => s.2.2)) (fun s => c_Num_check_l51 d s.1 s.2.1 (s.2.2) ) 100000 (l4, (0 : Int32), v)) (fun s => c_Num_check_x83 d s.1 (s.2) )
set_option maxHeartbeats 4000000 in
set_option maxRecDepth 100000 in
theorem c_Num_check (d : Nat) (a1 : Int32) (a2 : Nat) (a3 : Int32) (a4 : Int32) (v : sv_T) (ha2 : sv_isA (sg a2) 0 (sv_len (sg a2)) = true) : sv_Cl (d + 0) 28 [.int a1, .ref a2, .int a3, .int a4] v (f_Num_check a1 a2 a3 a4 v) sv_Zi := by
  refine sv_spec (ls0 := [some (.int a1), some (.ref a2), some (.int a3), some (.int a4), none, none]) mp_28 (Nat.le_of_ble_eq_true rfl) rfl ?_
  unfold f_Num_check
  refine sv_iload_n d_Num_check_0 rfl ?_
  refine sv_istore (ls' := [some (.int a1), some (.ref a2), some (.int a3), some (.int a4), some (.int a1), none]) d_Num_check_1 (by decide) rfl ?_
  refine sv_iconst (x := (0 : Int32)) d_Num_check_3 (by decide) ?_
  refine sv_istore (ls' := [some (.int a1), some (.ref a2), some (.int a3), some (.int a4), some (.int a1), some (.int (0 : Int32))]) d_Num_check_4 (by decide) rfl ?_
  refine sv_kill (ls' := [none, some (.ref a2), some (.int a3), some (.int a4), some (.int a1), some (.int (0 : Int32))]) ⟨rfl, rfl, rfl, rfl, rfl, trivial⟩ ?_
  exact sv_seq (xt := 48) (L := (fun (s : Int32 × sv_T) => [none, none, none, none, some (.int s.1), none])) (S := (fun (s : Int32 × sv_T) => s.2)) (sv_loopR (L := (fun (s : Int32 × Int32 × sv_T) => [none, some (.ref a2), some (.int a3), some (.int a4), some (.int s.1), some (.int s.2.1)])) (S := (fun (s : Int32 × Int32 × sv_T) => s.2.2)) (fun s => c_Num_check_l6 d a2 a3 a4 s.1 s.2.1 (s.2.2) ha2) 100000 (a1, (0 : Int32), v)) (fun s => c_Num_check_x48 d s.1 (s.2) )
def f_Num_pairAt (a1 : Nat) (a2 : Int32) (v : sv_T) : Option (Int32 × sv_T) :=
  sv_ck a2 (sv_len (sg a1)) <|
  sv_ck (a2 + (1 : Int32)) (sv_len (sg a1)) <|
  some ((((v a1 a2.toNatClampNeg) <<< (8 : Int32)) + (v a1 (a2 + (1 : Int32)).toNatClampNeg)), v)
set_option maxHeartbeats 4000000 in
set_option maxRecDepth 100000 in
theorem c_Num_pairAt (d : Nat) (a1 : Nat) (a2 : Int32) (v : sv_T) (ha1 : sv_isA (sg a1) 0 (sv_len (sg a1)) = true) : sv_Cl (d + 0) 86 [.ref a1, .int a2] v (f_Num_pairAt a1 a2 v) sv_Zi := by
  refine sv_spec (ls0 := [some (.ref a1), some (.int a2)]) mp_86 (Nat.le_of_ble_eq_true rfl) rfl ?_
  unfold f_Num_pairAt
  refine sv_aload_n d_Num_pairAt_0 rfl ?_
  refine sv_iload_n d_Num_pairAt_1 rfl ?_
  refine sv_iald d_Num_pairAt_2 ha1 ?_
  refine sv_bipush (x := (8 : Int32)) d_Num_pairAt_3 (by decide) ?_
  refine sv_ishl d_Num_pairAt_5 (z := (8 : Int32)) (by decide) ?_
  refine sv_aload_n d_Num_pairAt_6 rfl ?_
  refine sv_iload_n d_Num_pairAt_7 rfl ?_
  refine sv_iconst (x := (1 : Int32)) d_Num_pairAt_8 (by decide) ?_
  refine sv_iadd d_Num_pairAt_9 ?_
  refine sv_iald d_Num_pairAt_10 ha1 ?_
  refine sv_iadd d_Num_pairAt_11 ?_
  exact sv_iret rfl d_Num_pairAt_12
