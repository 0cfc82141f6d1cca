def f_Arrays_fill_l5 (r0 : Nat) (l1 : Int32) (l2 : Int32) (l3 : Int32) (v : sv_T) : Option ((Int32 × sv_T) ⊕ (sv_T)) :=
  if l2 < l3 then
  sv_ck l2 (sv_len (sg r0)) <| sv_ls (sv_up v r0 l2.toNatClampNeg l1) fun v2 =>
  sv_le (l2 + (1 : Int32)) fun x3 =>
  some (.inl (x3, v2))
  else
  some (.inr v)
def f_Arrays_fill_x20  (v : sv_T) : Option (sv_T) :=
  some v
def f_Arrays_fill (a1 : Nat) (a2 : Int32) (v : sv_T) : Option (sv_T) :=
  sv_le ((Int32.ofNat (sv_len (sg a1)))) fun x1 =>
  Option.bind (sv_loop (fun (s : Int32 × sv_T) => f_Arrays_fill_l5 a1 a2 s.1 x1 (s.2)) 100000 ((0 : Int32), v)) (fun (s : sv_T) => f_Arrays_fill_x20  s)
set_option maxHeartbeats 4000000 in
set_option maxRecDepth 100000 in
theorem c_Arrays_fill_l5 (d : Nat) (r0 : Nat) (l1 : Int32) (l2 : Int32) (l3 : Int32) (v : sv_T) (hr0 : sv_isA (sg r0) 0 (sv_len (sg r0)) = true) : sv_Ref (d + 0) 11 5 [some (.ref r0), some (.int l1), some (.int l2), some (.int l3)] [] v (f_Arrays_fill_l5 r0 l1 l2 l3 v) (sv_Zl (d + 0) 11 5 (fun (s : Int32 × sv_T) => [some (.ref r0), some (.int l1), some (.int s.1), some (.int l3)]) (fun (s : Int32 × sv_T) => s.2) (sv_Zt (d + 0) 11 20 (fun (s : sv_T) => [none, none, none, none]) (fun (s : sv_T) => s))) := by
  unfold f_Arrays_fill_l5
  refine sv_iload_n d_Arrays_fill_5 rfl ?_
  refine sv_iload_n d_Arrays_fill_6 rfl ?_
  refine sv_icmp_ge 20 d_Arrays_fill_7 rfl ?_ ?_
  · exact sv_leave v rfl trivial rfl
  · refine sv_aload_n d_Arrays_fill_10 rfl ?_
    refine sv_iload_n d_Arrays_fill_11 rfl ?_
    refine sv_iload_n d_Arrays_fill_12 rfl ?_
    refine sv_iast d_Arrays_fill_13 hr0 (fun v2 => ?_)
    refine sv_iinc (ls' := fun x3 => [some (.ref r0), some (.int l1), some (.int x3), some (.int l3)]) (y := (1 : Int32)) d_Arrays_fill_14 rfl (by decide) (fun _ => rfl) (fun x3 => ?_)
    refine sv_goto 5 d_Arrays_fill_17 rfl ?_
    exact sv_next (x3, v2) ⟨rfl, rfl, rfl, rfl, trivial⟩ rfl
set_option maxHeartbeats 4000000 in
set_option maxRecDepth 100000 in
theorem c_Arrays_fill_x20 (d : Nat)  (v : sv_T)  : sv_Ref (d + 0) 11 20 [none, none, none, none] [] v (f_Arrays_fill_x20  v) (sv_Zv) := by
  unfold f_Arrays_fill_x20
  exact sv_vret rfl d_Arrays_fill_20
set_option maxHeartbeats 4000000 in
set_option maxRecDepth 100000 in
theorem c_Arrays_fill (d : Nat) (a1 : Nat) (a2 : Int32) (v : sv_T) (ha1 : sv_isA (sg a1) 0 (sv_len (sg a1)) = true) : sv_Cl (d + 0) 11 [.ref a1, .int a2] v (f_Arrays_fill a1 a2 v) sv_Zv := by
  refine sv_spec (ls0 := [some (.ref a1), some (.int a2), none, none]) mp_11 (Nat.le_of_ble_eq_true rfl) rfl ?_
  unfold f_Arrays_fill
  refine sv_iconst (x := (0 : Int32)) d_Arrays_fill_0 (by decide) ?_
  refine sv_istore_n (ls' := [some (.ref a1), some (.int a2), some (.int (0 : Int32)), none]) d_Arrays_fill_1 (by decide) rfl ?_
  refine sv_aload_n d_Arrays_fill_2 rfl ?_
  refine sv_alen (x := (Int32.ofNat (sv_len (sg a1)))) d_Arrays_fill_3 ha1 (by decide) rfl ?_
  refine sv_leR (fun x1 => ?_)
  refine sv_istore_n (ls' := [some (.ref a1), some (.int a2), some (.int (0 : Int32)), some (.int x1)]) d_Arrays_fill_4 (by decide) rfl ?_
  exact sv_seq (xt := 20) (L := (fun (s : sv_T) => [none, none, none, none])) (S := (fun (s : sv_T) => s)) (sv_loopR (L := (fun (s : Int32 × sv_T) => [some (.ref a1), some (.int a2), some (.int s.1), some (.int x1)])) (S := (fun (s : Int32 × sv_T) => s.2)) (fun s => c_Arrays_fill_l5 d a1 a2 s.1 x1 (s.2) ha1) 100000 ((0 : Int32), v)) (fun s => c_Arrays_fill_x20 d  s )
