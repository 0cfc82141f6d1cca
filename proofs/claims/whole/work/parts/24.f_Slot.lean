def f_Slot_holds (q : Nat) (a1 : Int32) (a2 : Int32) (v : sv_T) : Option (Int32 × sv_T) :=
  if (v q 1) = 0 then
  some ((0 : Int32), v)
  else
  if (v q 2) = a1 then
  if (v q 3) = a2 then
  some ((1 : Int32), v)
  else
  some ((0 : Int32), v)
  else
  some ((0 : Int32), v)
set_option maxHeartbeats 4000000 in
set_option maxRecDepth 100000 in
theorem c_Slot_holds (d : Nat) (q : Nat) (a1 : Int32) (a2 : Int32) (v : sv_T) (hq : sv_isO (sg q) 5 = true) : sv_Cl (d + 0) 78 [.ref q, .int a1, .int a2] v (f_Slot_holds q a1 a2 v) sv_Zi := by
  refine sv_spec (ls0 := [some (.ref q), some (.int a1), some (.int a2)]) mp_78 (Nat.le_of_ble_eq_true rfl) rfl ?_
  unfold f_Slot_holds
  refine sv_aload_n d_Slot_holds_0 rfl ?_
  refine sv_geti d_Slot_holds_1 (gf_Slot_17 mc_78) hq (sd_5_1 hq) ?_
  refine sv_if_eq 27 d_Slot_holds_4 rfl ?_ ?_
  · refine sv_iconst (x := (0 : Int32)) d_Slot_holds_27 (by decide) ?_
    exact sv_zretc rfl (by decide) d_Slot_holds_28
  · refine sv_aload_n d_Slot_holds_7 rfl ?_
    refine sv_geti d_Slot_holds_8 (gf_Slot_21 mc_78) hq (sd_5_2 hq) ?_
    refine sv_iload_n d_Slot_holds_11 rfl ?_
    refine sv_icmp_ne 27 d_Slot_holds_12 rfl ?_ ?_
    · refine sv_iconst (x := (0 : Int32)) d_Slot_holds_27 (by decide) ?_
      exact sv_zretc rfl (by decide) d_Slot_holds_28
    · refine sv_aload_n d_Slot_holds_15 rfl ?_
      refine sv_geti d_Slot_holds_16 (gf_Slot_25 mc_78) hq (sd_5_3 hq) ?_
      refine sv_iload_n d_Slot_holds_19 rfl ?_
      refine sv_icmp_ne 27 d_Slot_holds_20 rfl ?_ ?_
      · refine sv_iconst (x := (0 : Int32)) d_Slot_holds_27 (by decide) ?_
        exact sv_zretc rfl (by decide) d_Slot_holds_28
      · refine sv_iconst (x := (1 : Int32)) d_Slot_holds_23 (by decide) ?_
        refine sv_goto 28 d_Slot_holds_24 rfl ?_
        exact sv_zretc rfl (by decide) d_Slot_holds_28
def f_Slot_begin (q : Nat) (a1 : Int32) (a2 : Int32) (v : sv_T) : Option (sv_T) :=
  sv_ls (sv_up v q 1 (1 : Int32)) fun v1 =>
  sv_ls (sv_up v1 q 2 a1) fun v2 =>
  sv_ls (sv_up v2 q 3 a2) fun v3 =>
  sv_ls (sv_up v3 q 4 (0 : Int32)) fun v4 =>
  sv_ls (sv_up v4 q 5 (-1 : Int32)) fun v5 =>
  sv_bv (f_Arrays_fill (sv_ref (sg q) 0) (-1 : Int32) v5) fun v6 =>
  some v6
set_option maxHeartbeats 4000000 in
set_option maxRecDepth 100000 in
theorem c_Slot_begin (d : Nat) (q : Nat) (a1 : Int32) (a2 : Int32) (v : sv_T) (hq : sv_isO (sg q) 5 = true) : sv_Cl (d + 1) 80 [.ref q, .int a1, .int a2] v (f_Slot_begin q a1 a2 v) sv_Zv := by
  refine sv_spec (ls0 := [some (.ref q), some (.int a1), some (.int a2)]) mp_80 (Nat.le_of_ble_eq_true rfl) rfl ?_
  unfold f_Slot_begin
  refine sv_aload_n d_Slot_begin_0 rfl ?_
  refine sv_iconst (x := (1 : Int32)) d_Slot_begin_1 (by decide) ?_
  refine sv_putz d_Slot_begin_2 (pf_Slot_17 mc_80) hq (sd_5_1 hq) (by decide) (fun v1 => ?_)
  refine sv_aload_n d_Slot_begin_5 rfl ?_
  refine sv_iload_n d_Slot_begin_6 rfl ?_
  refine sv_puti d_Slot_begin_7 (pf_Slot_21 mc_80) hq (sd_5_2 hq) (fun v2 => ?_)
  refine sv_aload_n d_Slot_begin_10 rfl ?_
  refine sv_iload_n d_Slot_begin_11 rfl ?_
  refine sv_puti d_Slot_begin_12 (pf_Slot_25 mc_80) hq (sd_5_3 hq) (fun v3 => ?_)
  refine sv_aload_n d_Slot_begin_15 rfl ?_
  refine sv_iconst (x := (0 : Int32)) d_Slot_begin_16 (by decide) ?_
  refine sv_puti d_Slot_begin_17 (pf_Slot_28 mc_80) hq (sd_5_4 hq) (fun v4 => ?_)
  refine sv_aload_n d_Slot_begin_20 rfl ?_
  refine sv_iconst (x := (-1 : Int32)) d_Slot_begin_21 (by decide) ?_
  refine sv_puti d_Slot_begin_22 (pf_Slot_31 mc_80) hq (sd_5_5 hq) (fun v5 => ?_)
  refine sv_aload_n d_Slot_begin_25 rfl ?_
  refine sv_getr d_Slot_begin_26 (gf_Slot_11 mc_80) hq (sr_5_0 hq) ?_
  refine sv_iconst (x := (-1 : Int32)) d_Slot_begin_29 (by decide) ?_
  refine sv_callSv (d := d + 0) (as := [.ref (sv_ref (sg q) 0), .int (-1 : Int32)]) d_Slot_begin_30 (ws_Slot_34 mc_80)  rfl (Nat.le_of_ble_eq_true rfl) rfl (c_Arrays_fill (d + 0) (sv_ref (sg q) 0) (-1 : Int32) v5 (sv_isAl (st_5_0 hq))) (fun v6 => ?_)
  exact sv_vret rfl d_Slot_begin_33
def f_Slot_put (q : Nat) (a1 : Int32) (a2 : Int32) (v : sv_T) : Option (sv_T) :=
  if a1 < 0 then
  some v
  else
  if a1 < (48 : Int32) then
  sv_ck a1 48 <|
  if (v (sv_ref (sg q) 0) a1.toNatClampNeg) = (-1 : Int32) then
  sv_ck a1 48 <| sv_ls (sv_up v (sv_ref (sg q) 0) a1.toNatClampNeg a2) fun v1 =>
  some v1
  else
  some v
  else
  some v
set_option maxHeartbeats 4000000 in
set_option maxRecDepth 100000 in
theorem c_Slot_put (d : Nat) (q : Nat) (a1 : Int32) (a2 : Int32) (v : sv_T) (hq : sv_isO (sg q) 5 = true) : sv_Cl (d + 0) 81 [.ref q, .int a1, .int a2] v (f_Slot_put q a1 a2 v) sv_Zv := by
  refine sv_spec (ls0 := [some (.ref q), some (.int a1), some (.int a2)]) mp_81 (Nat.le_of_ble_eq_true rfl) rfl ?_
  unfold f_Slot_put
  refine sv_iload_n d_Slot_put_0 rfl ?_
  refine sv_if_lt 30 d_Slot_put_1 rfl ?_ ?_
  · exact sv_vret rfl d_Slot_put_30
  · refine sv_iload_n d_Slot_put_4 rfl ?_
    refine sv_aload_n d_Slot_put_5 rfl ?_
    refine sv_getr d_Slot_put_6 (gf_Slot_11 mc_81) hq (sr_5_0 hq) ?_
    refine sv_alen (x := (48 : Int32)) d_Slot_put_9 (st_5_0 hq) (by decide) (by decide) ?_
    refine sv_icmp_ge 30 d_Slot_put_10 rfl ?_ ?_
    · exact sv_vret rfl d_Slot_put_30
    · refine sv_aload_n d_Slot_put_13 rfl ?_
      refine sv_getr d_Slot_put_14 (gf_Slot_11 mc_81) hq (sr_5_0 hq) ?_
      refine sv_iload_n d_Slot_put_17 rfl ?_
      refine sv_iald d_Slot_put_18 (st_5_0 hq) ?_
      refine sv_iconst (x := (-1 : Int32)) d_Slot_put_19 (by decide) ?_
      refine sv_icmp_ne 30 d_Slot_put_20 rfl ?_ ?_
      · exact sv_vret rfl d_Slot_put_30
      · refine sv_aload_n d_Slot_put_23 rfl ?_
        refine sv_getr d_Slot_put_24 (gf_Slot_11 mc_81) hq (sr_5_0 hq) ?_
        refine sv_iload_n d_Slot_put_27 rfl ?_
        refine sv_iload_n d_Slot_put_28 rfl ?_
        refine sv_iast d_Slot_put_29 (st_5_0 hq) (fun v1 => ?_)
        exact sv_vret rfl d_Slot_put_30
def f_Slot_isWhole_l12 (r0 : Nat) (l1 : Int32) (v : sv_T) : Option ((Int32 × sv_T) ⊕ (Int32 × sv_T)) :=
  if l1 < (v r0 5) then
  if l1 < (48 : Int32) then
  sv_ck l1 48 <|
  if (v (sv_ref (sg r0) 0) l1.toNatClampNeg) = (-1 : Int32) then
  Option.map Sum.inr (some ((0 : Int32), v))
  else
  sv_le (l1 + (1 : Int32)) fun x1 =>
  some (.inl (x1, v))
  else
  Option.map Sum.inr (some ((1 : Int32), v))
  else
  Option.map Sum.inr (some ((1 : Int32), v))
def f_Slot_isWhole (q : Nat) (v : sv_T) : Option (Int32 × sv_T) :=
  if (v q 5) = (-1 : Int32) then
  some ((0 : Int32), v)
  else
  sv_loop (fun (s : Int32 × sv_T) => f_Slot_isWhole_l12 q s.1 (s.2)) 100000 ((0 : Int32), v)
set_option maxHeartbeats 4000000 in
set_option maxRecDepth 100000 in
theorem c_Slot_isWhole_l12 (d : Nat) (r0 : Nat) (l1 : Int32) (v : sv_T) (hr0 : sv_isO (sg r0) 5 = true) : sv_Ref (d + 0) 82 12 [some (.ref r0), some (.int l1)] [] v (f_Slot_isWhole_l12 r0 l1 v) (sv_Zl (d + 0) 82 12 (fun (s : Int32 × sv_T) => [some (.ref r0), some (.int s.1)]) (fun (s : Int32 × sv_T) => s.2) (sv_Zi)) := by
  unfold f_Slot_isWhole_l12
  refine sv_iload_n d_Slot_isWhole_12 rfl ?_
  refine sv_aload_n d_Slot_isWhole_13 rfl ?_
  refine sv_geti d_Slot_isWhole_14 (gf_Slot_31 mc_82) hr0 (sd_5_5 hr0) ?_
  refine sv_icmp_ge 47 d_Slot_isWhole_17 rfl ?_ ?_
  · refine sv_exit ?_
    refine sv_iconst (x := (1 : Int32)) d_Slot_isWhole_47 (by decide) ?_
    exact sv_zretc rfl (by decide) d_Slot_isWhole_48
  · refine sv_iload_n d_Slot_isWhole_20 rfl ?_
    refine sv_aload_n d_Slot_isWhole_21 rfl ?_
    refine sv_getr d_Slot_isWhole_22 (gf_Slot_11 mc_82) hr0 (sr_5_0 hr0) ?_
    refine sv_alen (x := (48 : Int32)) d_Slot_isWhole_25 (st_5_0 hr0) (by decide) (by decide) ?_
    refine sv_icmp_ge 47 d_Slot_isWhole_26 rfl ?_ ?_
    · refine sv_exit ?_
      refine sv_iconst (x := (1 : Int32)) d_Slot_isWhole_47 (by decide) ?_
      exact sv_zretc rfl (by decide) d_Slot_isWhole_48
    · refine sv_aload_n d_Slot_isWhole_29 rfl ?_
      refine sv_getr d_Slot_isWhole_30 (gf_Slot_11 mc_82) hr0 (sr_5_0 hr0) ?_
      refine sv_iload_n d_Slot_isWhole_33 rfl ?_
      refine sv_iald d_Slot_isWhole_34 (st_5_0 hr0) ?_
      refine sv_iconst (x := (-1 : Int32)) d_Slot_isWhole_35 (by decide) ?_
      refine sv_icmp_ne 41 d_Slot_isWhole_36 rfl ?_ ?_
      · refine sv_iinc (ls' := fun x1 => [some (.ref r0), some (.int x1)]) (y := (1 : Int32)) d_Slot_isWhole_41 rfl (by decide) (fun _ => rfl) (fun x1 => ?_)
        refine sv_goto 12 d_Slot_isWhole_44 rfl ?_
        exact sv_next (x1, v) ⟨rfl, rfl, trivial⟩ rfl
      · refine sv_exit ?_
        refine sv_iconst (x := (0 : Int32)) d_Slot_isWhole_39 (by decide) ?_
        exact sv_zretc rfl (by decide) d_Slot_isWhole_40
set_option maxHeartbeats 4000000 in
set_option maxRecDepth 100000 in
theorem c_Slot_isWhole (d : Nat) (q : Nat) (v : sv_T) (hq : sv_isO (sg q) 5 = true) : sv_Cl (d + 0) 82 [.ref q] v (f_Slot_isWhole q v) sv_Zi := by
  refine sv_spec (ls0 := [some (.ref q), none]) mp_82 (Nat.le_of_ble_eq_true rfl) rfl ?_
  unfold f_Slot_isWhole
  refine sv_aload_n d_Slot_isWhole_0 rfl ?_
  refine sv_geti d_Slot_isWhole_1 (gf_Slot_31 mc_82) hq (sd_5_5 hq) ?_
  refine sv_iconst (x := (-1 : Int32)) d_Slot_isWhole_4 (by decide) ?_
  refine sv_icmp_ne 10 d_Slot_isWhole_5 rfl ?_ ?_
  · refine sv_iconst (x := (0 : Int32)) d_Slot_isWhole_10 (by decide) ?_
    refine sv_istore_n (ls' := [some (.ref q), some (.int (0 : Int32))]) d_Slot_isWhole_11 (by decide) rfl ?_
    exact sv_loopR (L := (fun (s : Int32 × sv_T) => [some (.ref q), some (.int s.1)])) (S := (fun (s : Int32 × sv_T) => s.2)) (fun s => c_Slot_isWhole_l12 d q s.1 (s.2) hq) 100000 ((0 : Int32), v)
  · refine sv_iconst (x := (0 : Int32)) d_Slot_isWhole_8 (by decide) ?_
    exact sv_zretc rfl (by decide) d_Slot_isWhole_9
def f_Slot_passTick (q : Nat) (v : sv_T) : Option (sv_T) :=
  sv_ls (sv_up v q 4 ((v q 4) + (1 : Int32))) fun v1 =>
  if (v1 q 4) < (10 : Int32) then
  some v1
  else
  sv_ls (sv_up v1 q 1 (0 : Int32)) fun v2 =>
  some v2
set_option maxHeartbeats 4000000 in
set_option maxRecDepth 100000 in
theorem c_Slot_passTick (d : Nat) (q : Nat) (v : sv_T) (hq : sv_isO (sg q) 5 = true) : sv_Cl (d + 0) 120 [.ref q] v (f_Slot_passTick q v) sv_Zv := by
  refine sv_spec (ls0 := [some (.ref q)]) mp_120 (Nat.le_of_ble_eq_true rfl) rfl ?_
  unfold f_Slot_passTick
  refine sv_aload_n d_Slot_passTick_0 rfl ?_
  refine sv_dup d_Slot_passTick_1 ?_
  refine sv_geti d_Slot_passTick_2 (gf_Slot_28 mc_120) hq (sd_5_4 hq) ?_
  refine sv_iconst (x := (1 : Int32)) d_Slot_passTick_5 (by decide) ?_
  refine sv_iadd d_Slot_passTick_6 ?_
  refine sv_puti d_Slot_passTick_7 (pf_Slot_28 mc_120) hq (sd_5_4 hq) (fun v1 => ?_)
  refine sv_aload_n d_Slot_passTick_10 rfl ?_
  refine sv_geti d_Slot_passTick_11 (gf_Slot_28 mc_120) hq (sd_5_4 hq) ?_
  refine sv_bipush (x := (10 : Int32)) d_Slot_passTick_14 (by decide) ?_
  refine sv_icmp_lt 24 d_Slot_passTick_16 rfl ?_ ?_
  · exact sv_vret rfl d_Slot_passTick_24
  · refine sv_aload_n d_Slot_passTick_19 rfl ?_
    refine sv_iconst (x := (0 : Int32)) d_Slot_passTick_20 (by decide) ?_
    refine sv_putz d_Slot_passTick_21 (pf_Slot_17 mc_120) hq (sd_5_1 hq) (by decide) (fun v2 => ?_)
    exact sv_vret rfl d_Slot_passTick_24
