def sv_allb (ci : Nat) (f : Nat → Bool) : Bool := (List.range sv_n).all (fun q => !(sv_isO (sg q) ci) || f q)
theorem sv_allb_of {ci : Nat} {f : Nat → Bool} (h : sv_allb ci f = true) (hci : ci < 1000) {q : Nat} (hq : sv_isO (sg q) ci = true) : f q = true := by
  by_cases hl : q < sv_n
  · have h1 := List.all_eq_true.mp h q (List.mem_range.mpr hl)
    rw [hq] at h1
    exact h1
  · have e : sg q = .inl (1000000, []) := by
      unfold sg
      rw [List.getD_eq_getElem?_getD, List.getElem?_eq_none (Nat.le_of_not_lt hl)]
      rfl
    rw [e] at hq
    have : 1000000 = ci := eq_of_beq hq
    omega
theorem sv_out {x : Int32} {lo hi : Int} (h : ∀ k : Int, lo ≤ k → k ≤ hi → ¬ x = Int32.ofInt k) : x.toInt < lo ∨ hi < x.toInt := by
  by_cases h1 : x.toInt < lo
  · exact Or.inl h1
  · by_cases h2 : hi < x.toInt
    · exact Or.inr h2
    · exact absurd (Int32.ofInt_toInt x).symm (h x.toInt (by omega) (by omega))
theorem mp_11 : plainName (tb_m 11).1.cls = true := by decide +kernel
theorem mp_23 : plainName (tb_m 23).1.cls = true := by decide +kernel
theorem mp_28 : plainName (tb_m 28).1.cls = true := by decide +kernel
theorem mp_86 : plainName (tb_m 86).1.cls = true := by decide +kernel
theorem gf_Rows_25 {j : Nat} (hj : (tb_m j).1.cls = "WireHosts$Rows") : sv_gf j 25 1 4 := ⟨_, _, _, rfl, tu_1, by decide, Or.inl (by rw [hj]; exact tw_34)⟩
theorem mc_29 : (tb_m 29).1.cls = "WireHosts$Rows" := rfl
theorem sd_1_4 {q : Nat} (hq : sv_isO (sg q) 1 = true) : sv_dyn (sg q) 4 = true := sv_allb_of (f := fun q => sv_dyn (sg q) 4) (by decide +kernel) (by decide) hq
theorem gf_Rows_9 {j : Nat} (hj : (tb_m j).1.cls = "WireHosts$Rows") : sv_gf j 9 1 0 := ⟨_, _, _, rfl, tu_1, by decide, Or.inl (by rw [hj]; exact tw_30)⟩
theorem si_1_0 {q : Nat} (hq : sv_isO (sg q) 1 = true) : sv_isI (sg q) 0 = true := sv_allb_of (f := fun q => sv_isI (sg q) 0) (by decide +kernel) (by decide) hq
theorem gf_Rows_15 {j : Nat} (hj : (tb_m j).1.cls = "WireHosts$Rows") : sv_gf j 15 1 1 := ⟨_, _, _, rfl, tu_1, by decide, Or.inl (by rw [hj]; exact tw_31)⟩
theorem si_1_1 {q : Nat} (hq : sv_isO (sg q) 1 = true) : sv_isI (sg q) 1 = true := sv_allb_of (f := fun q => sv_isI (sg q) 1) (by decide +kernel) (by decide) hq
theorem gf_Rows_18 {j : Nat} (hj : (tb_m j).1.cls = "WireHosts$Rows") : sv_gf j 18 1 2 := ⟨_, _, _, rfl, tu_1, by decide, Or.inl (by rw [hj]; exact tw_32)⟩
theorem sr_1_2 {q : Nat} (hq : sv_isO (sg q) 1 = true) : sv_isR (sg q) 2 (sv_ref (sg q) 2) = true := sv_allb_of (f := fun q => sv_isR (sg q) 2 (sv_ref (sg q) 2)) (by decide +kernel) (by decide) hq
theorem st_1_2 {q : Nat} (hq : sv_isO (sg q) 1 = true) : sv_isA (sg (sv_ref (sg q) 2)) 0 (sv_len (sg (sv_ref (sg q) 2))) = true := sv_allb_of (f := fun q => sv_isA (sg (sv_ref (sg q) 2)) 0 (sv_len (sg (sv_ref (sg q) 2)))) (by decide +kernel) (by decide) hq
theorem gf_Rows_22 {j : Nat} (hj : (tb_m j).1.cls = "WireHosts$Rows") : sv_gf j 22 1 3 := ⟨_, _, _, rfl, tu_1, by decide, Or.inl (by rw [hj]; exact tw_33)⟩
theorem sr_1_3 {q : Nat} (hq : sv_isO (sg q) 1 = true) : sv_isR (sg q) 3 (sv_ref (sg q) 3) = true := sv_allb_of (f := fun q => sv_isR (sg q) 3 (sv_ref (sg q) 3)) (by decide +kernel) (by decide) hq
theorem st_1_3 {q : Nat} (hq : sv_isO (sg q) 1 = true) : sv_isA (sg (sv_ref (sg q) 3)) 0 (sv_len (sg (sv_ref (sg q) 3))) = true := sv_allb_of (f := fun q => sv_isA (sg (sv_ref (sg q) 3)) 0 (sv_len (sg (sv_ref (sg q) 3)))) (by decide +kernel) (by decide) hq
theorem pf_Rows_25 {j : Nat} (hj : (tb_m j).1.cls = "WireHosts$Rows") : sv_pf j 25 1 4 .int := ⟨_, _, _, tY_1, rfl, tu_1, by decide, Or.inl (by rw [hj]; exact tw_34), ty_1, tn_1, rfl, by decide +kernel⟩
theorem wc_Rows_32 {j : Nat} (hj : (tb_m j).1.cls = "WireHosts$Rows") : sv_wcp j 32 := ⟨by rw [hj]; exact tw_403, tw_388, tw_387, tw_14⟩
theorem mp_29 : plainName (tb_m 29).1.cls = true := by decide +kernel
theorem mc_31 : (tb_m 31).1.cls = "WireHosts$Rows" := rfl
theorem mp_31 : plainName (tb_m 31).1.cls = true := by decide +kernel
theorem mc_33 : (tb_m 33).1.cls = "WireHosts$Rows" := rfl
theorem mp_33 : plainName (tb_m 33).1.cls = true := by decide +kernel
theorem mc_32 : (tb_m 32).1.cls = "WireHosts$Rows" := rfl
theorem fc_33 : fw_cal 33 0 := ⟨tw_419, tw_2, ⟨by decide +kernel, by decide +kernel, by decide +kernel⟩, by decide +kernel⟩
theorem wv_Rows_38 {j : Nat} (hj : (tb_m j).1.cls = "WireHosts$Rows") : sv_wV j 38 33 0 := ⟨fc_33, by show Cond.methodLink _ _ _ ∈ tb_ws; rw [hj]; exact tw_416, tw_417, tw_418⟩
theorem mp_32 : plainName (tb_m 32).1.cls = true := by decide +kernel
theorem mc_69 : (tb_m 69).1.cls = "WireHosts$Rows" := rfl
theorem mp_69 : plainName (tb_m 69).1.cls = true := by decide +kernel
theorem fc_69 : fw_cal 69 1 := ⟨tw_574, tw_2, ⟨by decide +kernel, by decide +kernel, by decide +kernel⟩, by decide +kernel⟩
theorem wv_Rows_28 {j : Nat} (hj : (tb_m j).1.cls = "WireHosts$Rows") : sv_wV j 28 69 1 := ⟨fc_69, by show Cond.methodLink _ _ _ ∈ tb_ws; rw [hj]; exact tw_571, tw_572, tw_573⟩
theorem mc_68 : (tb_m 68).1.cls = "WireHosts$Rows" := rfl
theorem mp_68 : plainName (tb_m 68).1.cls = true := by decide +kernel
theorem mc_112 : (tb_m 112).1.cls = "WireHosts$Rows" := rfl
theorem mp_112 : plainName (tb_m 112).1.cls = true := by decide +kernel
theorem mc_111 : (tb_m 111).1.cls = "WireHosts$Rows" := rfl
theorem fc_112 : fw_cal 112 0 := ⟨tw_758, tw_2, ⟨by decide +kernel, by decide +kernel, by decide +kernel⟩, by decide +kernel⟩
theorem wv_Rows_41 {j : Nat} (hj : (tb_m j).1.cls = "WireHosts$Rows") : sv_wV j 41 112 0 := ⟨fc_112, by show Cond.methodLink _ _ _ ∈ tb_ws; rw [hj]; exact tw_755, tw_757, tp_33⟩
theorem mp_111 : plainName (tb_m 111).1.cls = true := by decide +kernel
theorem mc_113 : (tb_m 113).1.cls = "WireHosts$Rows" := rfl
theorem mp_113 : plainName (tb_m 113).1.cls = true := by decide +kernel
theorem mc_115 : (tb_m 115).1.cls = "WireHosts$Rows" := rfl
theorem mp_115 : plainName (tb_m 115).1.cls = true := by decide +kernel
theorem gf_Slot_17 {j : Nat} (hj : (tb_m j).1.cls = "WireHosts$Slot") : sv_gf j 17 5 1 := ⟨_, _, _, rfl, tu_5, by decide, Or.inl (by rw [hj]; exact tw_105)⟩
theorem mc_78 : (tb_m 78).1.cls = "WireHosts$Slot" := rfl
theorem sd_5_1 {q : Nat} (hq : sv_isO (sg q) 5 = true) : sv_dyn (sg q) 1 = true := sv_allb_of (f := fun q => sv_dyn (sg q) 1) (by decide +kernel) (by decide) hq
theorem gf_Slot_21 {j : Nat} (hj : (tb_m j).1.cls = "WireHosts$Slot") : sv_gf j 21 5 2 := ⟨_, _, _, rfl, tu_5, by decide, Or.inl (by rw [hj]; exact tw_107)⟩
theorem sd_5_2 {q : Nat} (hq : sv_isO (sg q) 5 = true) : sv_dyn (sg q) 2 = true := sv_allb_of (f := fun q => sv_dyn (sg q) 2) (by decide +kernel) (by decide) hq
theorem gf_Slot_25 {j : Nat} (hj : (tb_m j).1.cls = "WireHosts$Slot") : sv_gf j 25 5 3 := ⟨_, _, _, rfl, tu_5, by decide, Or.inl (by rw [hj]; exact tw_108)⟩
theorem sd_5_3 {q : Nat} (hq : sv_isO (sg q) 5 = true) : sv_dyn (sg q) 3 = true := sv_allb_of (f := fun q => sv_dyn (sg q) 3) (by decide +kernel) (by decide) hq
theorem mp_78 : plainName (tb_m 78).1.cls = true := by decide +kernel
theorem pf_Slot_17 {j : Nat} (hj : (tb_m j).1.cls = "WireHosts$Slot") : sv_pf j 17 5 1 .boolean := ⟨_, _, _, tY_5, rfl, tu_5, by decide, Or.inl (by rw [hj]; exact tw_105), ty_5, tn_5, rfl, by decide +kernel⟩
theorem mc_80 : (tb_m 80).1.cls = "WireHosts$Slot" := rfl
theorem pf_Slot_21 {j : Nat} (hj : (tb_m j).1.cls = "WireHosts$Slot") : sv_pf j 21 5 2 .int := ⟨_, _, _, tY_5, rfl, tu_5, by decide, Or.inl (by rw [hj]; exact tw_107), ty_5, tn_5, rfl, by decide +kernel⟩
theorem pf_Slot_25 {j : Nat} (hj : (tb_m j).1.cls = "WireHosts$Slot") : sv_pf j 25 5 3 .int := ⟨_, _, _, tY_5, rfl, tu_5, by decide, Or.inl (by rw [hj]; exact tw_108), ty_5, tn_5, rfl, by decide +kernel⟩
theorem pf_Slot_28 {j : Nat} (hj : (tb_m j).1.cls = "WireHosts$Slot") : sv_pf j 28 5 4 .int := ⟨_, _, _, tY_5, rfl, tu_5, by decide, Or.inl (by rw [hj]; exact tw_110), ty_5, tn_5, rfl, by decide +kernel⟩
theorem pf_Slot_31 {j : Nat} (hj : (tb_m j).1.cls = "WireHosts$Slot") : sv_pf j 31 5 5 .int := ⟨_, _, _, tY_5, rfl, tu_5, by decide, Or.inl (by rw [hj]; exact tw_113), ty_5, tn_5, rfl, by decide +kernel⟩
theorem gf_Slot_11 {j : Nat} (hj : (tb_m j).1.cls = "WireHosts$Slot") : sv_gf j 11 5 0 := ⟨_, _, _, rfl, tu_5, by decide, Or.inl (by rw [hj]; exact tw_103)⟩
theorem sr_5_0 {q : Nat} (hq : sv_isO (sg q) 5 = true) : sv_isR (sg q) 0 (sv_ref (sg q) 0) = true := sv_allb_of (f := fun q => sv_isR (sg q) 0 (sv_ref (sg q) 0)) (by decide +kernel) (by decide) hq
theorem st_5_0 {q : Nat} (hq : sv_isO (sg q) 5 = true) : sv_isA (sg (sv_ref (sg q) 0)) 0 48 = true := sv_allb_of (f := fun q => sv_isA (sg (sv_ref (sg q) 0)) 0 48) (by decide +kernel) (by decide) hq
theorem fc_11 : fw_cal 11 2 := ⟨tw_227, tw_11, ⟨by decide +kernel, by decide +kernel, by decide +kernel⟩, by decide +kernel⟩
theorem ws_Slot_34 {j : Nat} (hj : (tb_m j).1.cls = "WireHosts$Slot") : sv_wS j 34 11 2 := ⟨fc_11, by show Cond.methodLink _ _ _ ∈ tb_ws; rw [hj]; exact tw_622, tw_226⟩
theorem sd_5_5 {q : Nat} (hq : sv_isO (sg q) 5 = true) : sv_dyn (sg q) 5 = true := sv_allb_of (f := fun q => sv_dyn (sg q) 5) (by decide +kernel) (by decide) hq
theorem sd_5_4 {q : Nat} (hq : sv_isO (sg q) 5 = true) : sv_dyn (sg q) 4 = true := sv_allb_of (f := fun q => sv_dyn (sg q) 4) (by decide +kernel) (by decide) hq
theorem mp_80 : plainName (tb_m 80).1.cls = true := by decide +kernel
theorem mc_81 : (tb_m 81).1.cls = "WireHosts$Slot" := rfl
theorem mp_81 : plainName (tb_m 81).1.cls = true := by decide +kernel
theorem gf_Slot_31 {j : Nat} (hj : (tb_m j).1.cls = "WireHosts$Slot") : sv_gf j 31 5 5 := ⟨_, _, _, rfl, tu_5, by decide, Or.inl (by rw [hj]; exact tw_113)⟩
theorem mc_82 : (tb_m 82).1.cls = "WireHosts$Slot" := rfl
theorem mp_82 : plainName (tb_m 82).1.cls = true := by decide +kernel
theorem gf_Slot_28 {j : Nat} (hj : (tb_m j).1.cls = "WireHosts$Slot") : sv_gf j 28 5 4 := ⟨_, _, _, rfl, tu_5, by decide, Or.inl (by rw [hj]; exact tw_110)⟩
theorem mc_120 : (tb_m 120).1.cls = "WireHosts$Slot" := rfl
theorem mp_120 : plainName (tb_m 120).1.cls = true := by decide +kernel
theorem mp_27 : plainName (tb_m 27).1.cls = true := by decide +kernel
theorem pf_Seg_15 {j : Nat} (hj : (tb_m j).1.cls = "WireHosts$Segment") : sv_pf j 15 6 1 .int := ⟨_, _, _, tY_6, rfl, tu_6, by decide, Or.inl (by rw [hj]; exact tw_152), ty_6, tn_6, rfl, by decide +kernel⟩
theorem mc_85 : (tb_m 85).1.cls = "WireHosts$Segment" := rfl
theorem gf_Seg_11 {j : Nat} (hj : (tb_m j).1.cls = "WireHosts$Segment") : sv_gf j 11 6 0 := ⟨_, _, _, rfl, tu_6, by decide, Or.inl (by rw [hj]; exact tw_151)⟩
theorem sr_6_0 {q : Nat} (hq : sv_isO (sg q) 6 = true) : sv_isR (sg q) 0 (sv_ref (sg q) 0) = true := sv_allb_of (f := fun q => sv_isR (sg q) 0 (sv_ref (sg q) 0)) (by decide +kernel) (by decide) hq
theorem st_6_0 {q : Nat} (hq : sv_isO (sg q) 6 = true) : sv_isA (sg (sv_ref (sg q) 0)) 0 48 = true := sv_allb_of (f := fun q => sv_isA (sg (sv_ref (sg q) 0)) 0 48) (by decide +kernel) (by decide) hq
theorem pf_Seg_19 {j : Nat} (hj : (tb_m j).1.cls = "WireHosts$Segment") : sv_pf j 19 6 2 .int := ⟨_, _, _, tY_6, rfl, tu_6, by decide, Or.inl (by rw [hj]; exact tw_154), ty_6, tn_6, rfl, by decide +kernel⟩
theorem pf_Seg_22 {j : Nat} (hj : (tb_m j).1.cls = "WireHosts$Segment") : sv_pf j 22 6 3 .int := ⟨_, _, _, tY_6, rfl, tu_6, by decide, Or.inl (by rw [hj]; exact tw_156), ty_6, tn_6, rfl, by decide +kernel⟩
theorem fc_86 : fw_cal 86 2 := ⟨tw_645, tw_13, ⟨by decide +kernel, by decide +kernel, by decide +kernel⟩, by decide +kernel⟩
theorem ws_Seg_25 {j : Nat} (hj : (tb_m j).1.cls = "WireHosts$Segment") : sv_wS j 25 86 2 := ⟨fc_86, by show Cond.methodLink _ _ _ ∈ tb_ws; rw [hj]; exact tw_643, tw_644⟩
theorem pf_Seg_31 {j : Nat} (hj : (tb_m j).1.cls = "WireHosts$Segment") : sv_pf j 31 6 4 .int := ⟨_, _, _, tY_6, rfl, tu_6, by decide, Or.inl (by rw [hj]; exact tw_157), ty_6, tn_6, rfl, by decide +kernel⟩
theorem pf_Seg_34 {j : Nat} (hj : (tb_m j).1.cls = "WireHosts$Segment") : sv_pf j 34 6 5 .int := ⟨_, _, _, tY_6, rfl, tu_6, by decide, Or.inl (by rw [hj]; exact tw_160), ty_6, tn_6, rfl, by decide +kernel⟩
theorem pf_Seg_37 {j : Nat} (hj : (tb_m j).1.cls = "WireHosts$Segment") : sv_pf j 37 6 6 .int := ⟨_, _, _, tY_6, rfl, tu_6, by decide, Or.inl (by rw [hj]; exact tw_162), ty_6, tn_6, rfl, by decide +kernel⟩
theorem gf_Seg_22 {j : Nat} (hj : (tb_m j).1.cls = "WireHosts$Segment") : sv_gf j 22 6 3 := ⟨_, _, _, rfl, tu_6, by decide, Or.inl (by rw [hj]; exact tw_156)⟩
theorem sd_6_3 {q : Nat} (hq : sv_isO (sg q) 6 = true) : sv_dyn (sg q) 3 = true := sv_allb_of (f := fun q => sv_dyn (sg q) 3) (by decide +kernel) (by decide) hq
theorem fc_27 : fw_cal 27 3 := ⟨tw_394, tw_7, ⟨by decide +kernel, by decide +kernel, by decide +kernel⟩, by decide +kernel⟩
theorem ws_Seg_40 {j : Nat} (hj : (tb_m j).1.cls = "WireHosts$Segment") : sv_wS j 40 27 3 := ⟨fc_27, by show Cond.methodLink _ _ _ ∈ tb_ws; rw [hj]; exact tw_646, tw_393⟩
theorem fc_28 : fw_cal 28 4 := ⟨tw_397, tw_13, ⟨by decide +kernel, by decide +kernel, by decide +kernel⟩, by decide +kernel⟩
theorem ws_Seg_44 {j : Nat} (hj : (tb_m j).1.cls = "WireHosts$Segment") : sv_wS j 44 28 4 := ⟨fc_28, by show Cond.methodLink _ _ _ ∈ tb_ws; rw [hj]; exact tw_647, tw_396⟩
theorem sd_6_6 {q : Nat} (hq : sv_isO (sg q) 6 = true) : sv_dyn (sg q) 6 = true := sv_allb_of (f := fun q => sv_dyn (sg q) 6) (by decide +kernel) (by decide) hq
theorem sd_6_5 {q : Nat} (hq : sv_isO (sg q) 6 = true) : sv_dyn (sg q) 5 = true := sv_allb_of (f := fun q => sv_dyn (sg q) 5) (by decide +kernel) (by decide) hq
theorem sd_6_4 {q : Nat} (hq : sv_isO (sg q) 6 = true) : sv_dyn (sg q) 4 = true := sv_allb_of (f := fun q => sv_dyn (sg q) 4) (by decide +kernel) (by decide) hq
theorem sd_6_2 {q : Nat} (hq : sv_isO (sg q) 6 = true) : sv_dyn (sg q) 2 = true := sv_allb_of (f := fun q => sv_dyn (sg q) 2) (by decide +kernel) (by decide) hq
theorem sd_6_1 {q : Nat} (hq : sv_isO (sg q) 6 = true) : sv_dyn (sg q) 1 = true := sv_allb_of (f := fun q => sv_dyn (sg q) 1) (by decide +kernel) (by decide) hq
theorem mp_85 : plainName (tb_m 85).1.cls = true := by decide +kernel
theorem mc_89 : (tb_m 89).1.cls = "WireHosts$Segment" := rfl
theorem mp_89 : plainName (tb_m 89).1.cls = true := by decide +kernel
theorem gf_Seg_15 {j : Nat} (hj : (tb_m j).1.cls = "WireHosts$Segment") : sv_gf j 15 6 1 := ⟨_, _, _, rfl, tu_6, by decide, Or.inl (by rw [hj]; exact tw_152)⟩
theorem mc_90 : (tb_m 90).1.cls = "WireHosts$Segment" := rfl
theorem fc_89 : fw_cal 89 1 := ⟨tw_660, tw_7, ⟨by decide +kernel, by decide +kernel, by decide +kernel⟩, by decide +kernel⟩
theorem wv_Seg_48 {j : Nat} (hj : (tb_m j).1.cls = "WireHosts$Segment") : sv_wV j 48 89 1 := ⟨fc_89, by show Cond.methodLink _ _ _ ∈ tb_ws; rw [hj]; exact tw_665, tw_658, tw_659⟩
theorem mp_90 : plainName (tb_m 90).1.cls = true := by decide +kernel
theorem mc_107 : (tb_m 107).1.cls = "WireHosts$Segment" := rfl
theorem mp_107 : plainName (tb_m 107).1.cls = true := by decide +kernel
theorem pf_Snd_17 {j : Nat} (hj : (tb_m j).1.cls = "WireHosts$Sending") : sv_pf j 17 8 2 .int := ⟨_, _, _, tY_8, rfl, tu_8, by decide, Or.inl (by rw [hj]; exact tw_194), ty_8, tn_8, rfl, by decide +kernel⟩
theorem mc_20 : (tb_m 20).1.cls = "WireHosts$Sending" := rfl
theorem gf_Snd_17 {j : Nat} (hj : (tb_m j).1.cls = "WireHosts$Sending") : sv_gf j 17 8 2 := ⟨_, _, _, rfl, tu_8, by decide, Or.inl (by rw [hj]; exact tw_194)⟩
theorem sd_8_2 {q : Nat} (hq : sv_isO (sg q) 8 = true) : sv_dyn (sg q) 2 = true := sv_allb_of (f := fun q => sv_dyn (sg q) 2) (by decide +kernel) (by decide) hq
theorem pf_Snd_20 {j : Nat} (hj : (tb_m j).1.cls = "WireHosts$Sending") : sv_pf j 20 8 3 .int := ⟨_, _, _, tY_8, rfl, tu_8, by decide, Or.inl (by rw [hj]; exact tw_196), ty_8, tn_8, rfl, by decide +kernel⟩
theorem pf_Snd_23 {j : Nat} (hj : (tb_m j).1.cls = "WireHosts$Sending") : sv_pf j 23 8 4 .int := ⟨_, _, _, tY_8, rfl, tu_8, by decide, Or.inl (by rw [hj]; exact tw_198), ty_8, tn_8, rfl, by decide +kernel⟩
theorem sd_8_4 {q : Nat} (hq : sv_isO (sg q) 8 = true) : sv_dyn (sg q) 4 = true := sv_allb_of (f := fun q => sv_dyn (sg q) 4) (by decide +kernel) (by decide) hq
theorem sd_8_3 {q : Nat} (hq : sv_isO (sg q) 8 = true) : sv_dyn (sg q) 3 = true := sv_allb_of (f := fun q => sv_dyn (sg q) 3) (by decide +kernel) (by decide) hq
theorem mp_20 : plainName (tb_m 20).1.cls = true := by decide +kernel
theorem gf_Snd_13 {j : Nat} (hj : (tb_m j).1.cls = "WireHosts$Sending") : sv_gf j 13 8 1 := ⟨_, _, _, rfl, tu_8, by decide, Or.inl (by rw [hj]; exact tw_192)⟩
theorem mc_25 : (tb_m 25).1.cls = "WireHosts$Sending" := rfl
theorem sd_8_1 {q : Nat} (hq : sv_isO (sg q) 8 = true) : sv_dyn (sg q) 1 = true := sv_allb_of (f := fun q => sv_dyn (sg q) 1) (by decide +kernel) (by decide) hq
theorem gf_Snd_9 {j : Nat} (hj : (tb_m j).1.cls = "WireHosts$Sending") : sv_gf j 9 8 0 := ⟨_, _, _, rfl, tu_8, by decide, Or.inl (by rw [hj]; exact tw_191)⟩
theorem sr_8_0 {q : Nat} (hq : sv_isO (sg q) 8 = true) : sv_isR (sg q) 0 (sv_ref (sg q) 0) = true := sv_allb_of (f := fun q => sv_isR (sg q) 0 (sv_ref (sg q) 0)) (by decide +kernel) (by decide) hq
theorem st_8_0 {q : Nat} (hq : sv_isO (sg q) 8 = true) : sv_isA (sg (sv_ref (sg q) 0)) 0 64 = true := sv_allb_of (f := fun q => sv_isA (sg (sv_ref (sg q) 0)) 0 64) (by decide +kernel) (by decide) hq
theorem wc_Snd_48 {j : Nat} (hj : (tb_m j).1.cls = "WireHosts$Sending") : sv_wcp j 48 := ⟨by rw [hj]; exact tw_386, tw_388, tw_387, tw_14⟩
theorem mp_25 : plainName (tb_m 25).1.cls = true := by decide +kernel
theorem mc_42 : (tb_m 42).1.cls = "WireHosts$Sending" := rfl
theorem mp_42 : plainName (tb_m 42).1.cls = true := by decide +kernel
theorem mc_43 : (tb_m 43).1.cls = "WireHosts$Sending" := rfl
theorem pf_Snd_13 {j : Nat} (hj : (tb_m j).1.cls = "WireHosts$Sending") : sv_pf j 13 8 1 .int := ⟨_, _, _, tY_8, rfl, tu_8, by decide, Or.inl (by rw [hj]; exact tw_192), ty_8, tn_8, rfl, by decide +kernel⟩
theorem mp_43 : plainName (tb_m 43).1.cls = true := by decide +kernel
theorem gf_Snd_23 {j : Nat} (hj : (tb_m j).1.cls = "WireHosts$Sending") : sv_gf j 23 8 4 := ⟨_, _, _, rfl, tu_8, by decide, Or.inl (by rw [hj]; exact tw_198)⟩
theorem mc_47 : (tb_m 47).1.cls = "WireHosts$Sending" := rfl
theorem gf_Snd_20 {j : Nat} (hj : (tb_m j).1.cls = "WireHosts$Sending") : sv_gf j 20 8 3 := ⟨_, _, _, rfl, tu_8, by decide, Or.inl (by rw [hj]; exact tw_196)⟩
theorem wm_Snd_36 {j : Nat} (hj : (tb_m j).1.cls = "WireHosts$Sending") : sv_wmn j 36 := ⟨by rw [hj]; exact tw_482, tw_421, tw_15, tw_422⟩
theorem mp_47 : plainName (tb_m 47).1.cls = true := by decide +kernel
theorem fc_47 : fw_cal 47 0 := ⟨tw_481, tw_9, ⟨by decide +kernel, by decide +kernel, by decide +kernel⟩, by decide +kernel⟩
theorem wv_Snd_42 {j : Nat} (hj : (tb_m j).1.cls = "WireHosts$Sending") : sv_wV j 42 47 0 := ⟨fc_47, by show Cond.methodLink _ _ _ ∈ tb_ws; rw [hj]; exact tw_478, tw_479, tw_480⟩
theorem mc_46 : (tb_m 46).1.cls = "WireHosts$Sending" := rfl
theorem gf_Snd_26 {j : Nat} (hj : (tb_m j).1.cls = "WireHosts$Sending") : sv_gf j 26 8 5 := ⟨_, _, _, rfl, tu_8, by decide, Or.inl (by rw [hj]; exact tw_200)⟩
theorem sd_8_5 {q : Nat} (hq : sv_isO (sg q) 8 = true) : sv_dyn (sg q) 5 = true := sv_allb_of (f := fun q => sv_dyn (sg q) 5) (by decide +kernel) (by decide) hq
theorem mp_46 : plainName (tb_m 46).1.cls = true := by decide +kernel
theorem mc_48 : (tb_m 48).1.cls = "WireHosts$Sending" := rfl
theorem mp_48 : plainName (tb_m 48).1.cls = true := by decide +kernel
theorem mc_49 : (tb_m 49).1.cls = "WireHosts$Sending" := rfl
theorem mp_49 : plainName (tb_m 49).1.cls = true := by decide +kernel
theorem mc_50 : (tb_m 50).1.cls = "WireHosts$Sending" := rfl
theorem mp_50 : plainName (tb_m 50).1.cls = true := by decide +kernel
theorem mc_59 : (tb_m 59).1.cls = "WireHosts$Sending" := rfl
theorem pf_Snd_26 {j : Nat} (hj : (tb_m j).1.cls = "WireHosts$Sending") : sv_pf j 26 8 5 .int := ⟨_, _, _, tY_8, rfl, tu_8, by decide, Or.inl (by rw [hj]; exact tw_200), ty_8, tn_8, rfl, by decide +kernel⟩
theorem pf_Snd_29 {j : Nat} (hj : (tb_m j).1.cls = "WireHosts$Sending") : sv_pf j 29 8 6 .boolean := ⟨_, _, _, tY_8, rfl, tu_8, by decide, Or.inl (by rw [hj]; exact tw_202), ty_8, tn_8, rfl, by decide +kernel⟩
theorem sd_8_6 {q : Nat} (hq : sv_isO (sg q) 8 = true) : sv_dyn (sg q) 6 = true := sv_allb_of (f := fun q => sv_dyn (sg q) 6) (by decide +kernel) (by decide) hq
theorem mp_59 : plainName (tb_m 59).1.cls = true := by decide +kernel
theorem mc_94 : (tb_m 94).1.cls = "WireHosts$Sending" := rfl
theorem mp_94 : plainName (tb_m 94).1.cls = true := by decide +kernel
theorem mc_101 : (tb_m 101).1.cls = "WireHosts$Sending" := rfl
theorem mp_101 : plainName (tb_m 101).1.cls = true := by decide +kernel
theorem mc_102 : (tb_m 102).1.cls = "WireHosts$Sending" := rfl
theorem mp_102 : plainName (tb_m 102).1.cls = true := by decide +kernel
theorem gf_Rcv_28 {j : Nat} (hj : (tb_m j).1.cls = "WireHosts$Receiving") : sv_gf j 28 9 2 := ⟨_, _, _, rfl, tu_9, by decide, Or.inl (by rw [hj]; exact tw_230)⟩
theorem mc_24 : (tb_m 24).1.cls = "WireHosts$Receiving" := rfl
theorem sd_9_2 {q : Nat} (hq : sv_isO (sg q) 9 = true) : sv_dyn (sg q) 2 = true := sv_allb_of (f := fun q => sv_dyn (sg q) 2) (by decide +kernel) (by decide) hq
theorem mp_24 : plainName (tb_m 24).1.cls = true := by decide +kernel
theorem mc_53 : (tb_m 53).1.cls = "WireHosts$Receiving" := rfl
theorem gf_Rcv_11 {j : Nat} (hj : (tb_m j).1.cls = "WireHosts$Receiving") : sv_gf j 11 9 0 := ⟨_, _, _, rfl, tu_9, by decide, Or.inl (by rw [hj]; exact tw_228)⟩
theorem sr_9_0 {q : Nat} (hq : sv_isO (sg q) 9 = true) : sv_isR (sg q) 0 (sv_ref (sg q) 0) = true := sv_allb_of (f := fun q => sv_isR (sg q) 0 (sv_ref (sg q) 0)) (by decide +kernel) (by decide) hq
theorem st_9_0 {q : Nat} (hq : sv_isO (sg q) 9 = true) : sv_isA (sg (sv_ref (sg q) 0)) 0 24 = true := sv_allb_of (f := fun q => sv_isA (sg (sv_ref (sg q) 0)) 0 24) (by decide +kernel) (by decide) hq
theorem pf_Rcv_28 {j : Nat} (hj : (tb_m j).1.cls = "WireHosts$Receiving") : sv_pf j 28 9 2 .int := ⟨_, _, _, tY_9, rfl, tu_9, by decide, Or.inl (by rw [hj]; exact tw_230), ty_9, tn_9, rfl, by decide +kernel⟩
theorem wc_Rcv_64 {j : Nat} (hj : (tb_m j).1.cls = "WireHosts$Receiving") : sv_wcp j 64 := ⟨by rw [hj]; exact tw_508, tw_388, tw_387, tw_14⟩
theorem mp_53 : plainName (tb_m 53).1.cls = true := by decide +kernel
theorem gf_Rcv_15 {j : Nat} (hj : (tb_m j).1.cls = "WireHosts$Receiving") : sv_gf j 15 9 1 := ⟨_, _, _, rfl, tu_9, by decide, Or.inl (by rw [hj]; exact tw_229)⟩
theorem mc_60 : (tb_m 60).1.cls = "WireHosts$Receiving" := rfl
theorem sr_9_1 {q : Nat} (hq : sv_isO (sg q) 9 = true) : sv_isR (sg q) 1 (sv_ref (sg q) 1) = true := sv_allb_of (f := fun q => sv_isR (sg q) 1 (sv_ref (sg q) 1)) (by decide +kernel) (by decide) hq
theorem st_9_1 {q : Nat} (hq : sv_isO (sg q) 9 = true) : sv_isA (sg (sv_ref (sg q) 1)) 0 32 = true := sv_allb_of (f := fun q => sv_isA (sg (sv_ref (sg q) 1)) 0 32) (by decide +kernel) (by decide) hq
theorem ws_Rcv_18 {j : Nat} (hj : (tb_m j).1.cls = "WireHosts$Receiving") : sv_wS j 18 11 2 := ⟨fc_11, by show Cond.methodLink _ _ _ ∈ tb_ws; rw [hj]; exact tw_225, tw_226⟩
theorem pf_Rcv_31 {j : Nat} (hj : (tb_m j).1.cls = "WireHosts$Receiving") : sv_pf j 31 9 3 .int := ⟨_, _, _, tY_9, rfl, tu_9, by decide, Or.inl (by rw [hj]; exact tw_232), ty_9, tn_9, rfl, by decide +kernel⟩
theorem pf_Rcv_24 {j : Nat} (hj : (tb_m j).1.cls = "WireHosts$Receiving") : sv_pf j 24 9 4 .int := ⟨_, _, _, tY_9, rfl, tu_9, by decide, Or.inl (by rw [hj]; exact tw_234), ty_9, tn_9, rfl, by decide +kernel⟩
theorem sd_9_4 {q : Nat} (hq : sv_isO (sg q) 9 = true) : sv_dyn (sg q) 4 = true := sv_allb_of (f := fun q => sv_dyn (sg q) 4) (by decide +kernel) (by decide) hq
theorem sd_9_3 {q : Nat} (hq : sv_isO (sg q) 9 = true) : sv_dyn (sg q) 3 = true := sv_allb_of (f := fun q => sv_dyn (sg q) 3) (by decide +kernel) (by decide) hq
theorem mp_60 : plainName (tb_m 60).1.cls = true := by decide +kernel
theorem mc_92 : (tb_m 92).1.cls = "WireHosts$Receiving" := rfl
theorem mp_92 : plainName (tb_m 92).1.cls = true := by decide +kernel
theorem gf_Rcv_31 {j : Nat} (hj : (tb_m j).1.cls = "WireHosts$Receiving") : sv_gf j 31 9 3 := ⟨_, _, _, rfl, tu_9, by decide, Or.inl (by rw [hj]; exact tw_232)⟩
theorem mc_98 : (tb_m 98).1.cls = "WireHosts$Receiving" := rfl
theorem mp_98 : plainName (tb_m 98).1.cls = true := by decide +kernel
theorem fc_90 : fw_cal 90 0 := ⟨tw_664, tw_7, ⟨by decide +kernel, by decide +kernel, by decide +kernel⟩, by decide +kernel⟩
theorem wv_Rcv_37 {j : Nat} (hj : (tb_m j).1.cls = "WireHosts$Receiving") : sv_wV j 37 90 0 := ⟨fc_90, by show Cond.methodLink _ _ _ ∈ tb_ws; rw [hj]; exact tw_695, tw_662, tw_663⟩
theorem mc_97 : (tb_m 97).1.cls = "WireHosts$Receiving" := rfl
theorem gf_Rcv_43 {j : Nat} (hj : (tb_m j).1.cls = "WireHosts$Receiving") : sv_gf j 43 6 4 := ⟨_, _, _, rfl, tu_6, by decide, Or.inr ⟨"WireHosts", by rw [hj]; exact tv_13⟩⟩
theorem fc_24 : fw_cal 24 0 := ⟨tw_381, tw_10, ⟨by decide +kernel, by decide +kernel, by decide +kernel⟩, by decide +kernel⟩
theorem wv_Rcv_46 {j : Nat} (hj : (tb_m j).1.cls = "WireHosts$Receiving") : sv_wV j 46 24 0 := ⟨fc_24, by show Cond.methodLink _ _ _ ∈ tb_ws; rw [hj]; exact tw_696, tw_379, tw_380⟩
theorem fc_98 : fw_cal 98 2 := ⟨tw_700, tw_10, ⟨by decide +kernel, by decide +kernel, by decide +kernel⟩, by decide +kernel⟩
theorem wv_Rcv_49 {j : Nat} (hj : (tb_m j).1.cls = "WireHosts$Receiving") : sv_wV j 49 98 2 := ⟨fc_98, by show Cond.methodLink _ _ _ ∈ tb_ws; rw [hj]; exact tw_697, tw_699, tp_26⟩
theorem mp_97 : plainName (tb_m 97).1.cls = true := by decide +kernel
theorem mc_106 : (tb_m 106).1.cls = "WireHosts$Receiving" := rfl
theorem gf_Rcv_53 {j : Nat} (hj : (tb_m j).1.cls = "WireHosts$Receiving") : sv_gf j 53 6 1 := ⟨_, _, _, rfl, tu_6, by decide, Or.inr ⟨"WireHosts", by rw [hj]; exact tv_11⟩⟩
theorem fc_107 : fw_cal 107 1 := ⟨tw_736, tw_7, ⟨by decide +kernel, by decide +kernel, by decide +kernel⟩, by decide +kernel⟩
theorem wv_Rcv_56 {j : Nat} (hj : (tb_m j).1.cls = "WireHosts$Receiving") : sv_wV j 56 107 1 := ⟨fc_107, by show Cond.methodLink _ _ _ ∈ tb_ws; rw [hj]; exact tw_733, tw_734, tw_735⟩
theorem wv_Rcv_60 {j : Nat} (hj : (tb_m j).1.cls = "WireHosts$Receiving") : sv_wV j 60 89 1 := ⟨fc_89, by show Cond.methodLink _ _ _ ∈ tb_ws; rw [hj]; exact tw_737, tw_658, tw_659⟩
theorem mp_106 : plainName (tb_m 106).1.cls = true := by decide +kernel
theorem mc_108 : (tb_m 108).1.cls = "WireHosts$Receiving" := rfl
theorem gf_Rcv_24 {j : Nat} (hj : (tb_m j).1.cls = "WireHosts$Receiving") : sv_gf j 24 9 4 := ⟨_, _, _, rfl, tu_9, by decide, Or.inl (by rw [hj]; exact tw_234)⟩
theorem mp_108 : plainName (tb_m 108).1.cls = true := by decide +kernel
theorem gf_Pieces_11 {j : Nat} (hj : (tb_m j).1.cls = "WireHosts$Pieces") : sv_gf j 11 4 2 := ⟨_, _, _, rfl, tu_4, by decide, Or.inl (by rw [hj]; exact tw_129)⟩
theorem mc_76 : (tb_m 76).1.cls = "WireHosts$Pieces" := rfl
theorem sr_4_2 {q : Nat} (hq : sv_isO (sg q) 4 = true) : sv_isR (sg q) 2 (sv_ref (sg q) 2) = true := sv_allb_of (f := fun q => sv_isR (sg q) 2 (sv_ref (sg q) 2)) (by decide +kernel) (by decide) hq
theorem st_4_2 {q : Nat} (hq : sv_isO (sg q) 4 = true) : sv_isA (sg (sv_ref (sg q) 2)) 0 48 = true := sv_allb_of (f := fun q => sv_isA (sg (sv_ref (sg q) 2)) 0 48) (by decide +kernel) (by decide) hq
theorem pf_Pieces_64 {j : Nat} (hj : (tb_m j).1.cls = "WireHosts$Pieces") : sv_pf j 64 4 3 .int := ⟨_, _, _, tY_4, rfl, tu_4, by decide, Or.inl (by rw [hj]; exact tw_130), ty_4, tn_4, rfl, by decide +kernel⟩
theorem pf_Pieces_67 {j : Nat} (hj : (tb_m j).1.cls = "WireHosts$Pieces") : sv_pf j 67 4 4 .int := ⟨_, _, _, tY_4, rfl, tu_4, by decide, Or.inl (by rw [hj]; exact tw_133), ty_4, tn_4, rfl, by decide +kernel⟩
theorem sd_4_4 {q : Nat} (hq : sv_isO (sg q) 4 = true) : sv_dyn (sg q) 4 = true := sv_allb_of (f := fun q => sv_dyn (sg q) 4) (by decide +kernel) (by decide) hq
theorem sd_4_3 {q : Nat} (hq : sv_isO (sg q) 4 = true) : sv_dyn (sg q) 3 = true := sv_allb_of (f := fun q => sv_dyn (sg q) 3) (by decide +kernel) (by decide) hq
theorem wc_Pieces_58 {j : Nat} (hj : (tb_m j).1.cls = "WireHosts$Pieces") : sv_wcp j 58 := ⟨by rw [hj]; exact tw_605, tw_388, tw_387, tw_14⟩
theorem mp_76 : plainName (tb_m 76).1.cls = true := by decide +kernel
theorem gf_Pieces_18 {j : Nat} (hj : (tb_m j).1.cls = "WireHosts$Pieces") : sv_gf j 18 4 0 := ⟨_, _, _, rfl, tu_4, by decide, Or.inl (by rw [hj]; exact tw_127)⟩
theorem mc_79 : (tb_m 79).1.cls = "WireHosts$Pieces" := rfl
theorem sr_4_0 {q : Nat} (hq : sv_isO (sg q) 4 = true) : sv_isR (sg q) 0 (sv_ref (sg q) 0) = true := sv_allb_of (f := fun q => sv_isR (sg q) 0 (sv_ref (sg q) 0)) (by decide +kernel) (by decide) hq
theorem st_4_0 {q : Nat} (hq : sv_isO (sg q) 4 = true) : sv_isO (sg (sv_ref (sg q) 0)) 5 = true := sv_allb_of (f := fun q => sv_isO (sg (sv_ref (sg q) 0)) 5) (by decide +kernel) (by decide) hq
theorem gf_Pieces_51 {j : Nat} (hj : (tb_m j).1.cls = "WireHosts$Pieces") : sv_gf j 51 5 1 := ⟨_, _, _, rfl, tu_5, by decide, Or.inr ⟨"WireHosts", by rw [hj]; exact tv_5⟩⟩
theorem gf_Pieces_22 {j : Nat} (hj : (tb_m j).1.cls = "WireHosts$Pieces") : sv_gf j 22 4 1 := ⟨_, _, _, rfl, tu_4, by decide, Or.inl (by rw [hj]; exact tw_128)⟩
theorem sr_4_1 {q : Nat} (hq : sv_isO (sg q) 4 = true) : sv_isR (sg q) 1 (sv_ref (sg q) 1) = true := sv_allb_of (f := fun q => sv_isR (sg q) 1 (sv_ref (sg q) 1)) (by decide +kernel) (by decide) hq
theorem st_4_1 {q : Nat} (hq : sv_isO (sg q) 4 = true) : sv_isO (sg (sv_ref (sg q) 1)) 5 = true := sv_allb_of (f := fun q => sv_isO (sg (sv_ref (sg q) 1)) 5) (by decide +kernel) (by decide) hq
theorem gf_Pieces_79 {j : Nat} (hj : (tb_m j).1.cls = "WireHosts$Pieces") : sv_gf j 79 5 4 := ⟨_, _, _, rfl, tu_5, by decide, Or.inr ⟨"WireHosts", by rw [hj]; exact tv_7⟩⟩
theorem mp_79 : plainName (tb_m 79).1.cls = true := by decide +kernel
theorem mc_77 : (tb_m 77).1.cls = "WireHosts$Pieces" := rfl
theorem fc_78 : fw_cal 78 2 := ⟨tw_613, tw_6, ⟨by decide +kernel, by decide +kernel, by decide +kernel⟩, by decide +kernel⟩
theorem wv_Pieces_68 {j : Nat} (hj : (tb_m j).1.cls = "WireHosts$Pieces") : sv_wV j 68 78 2 := ⟨fc_78, by show Cond.methodLink _ _ _ ∈ tb_ws; rw [hj]; exact tw_610, tw_611, tw_612⟩
theorem fc_79 : fw_cal 79 0 := ⟨tw_617, tw_5, ⟨by decide +kernel, by decide +kernel, by decide +kernel⟩, by decide +kernel⟩
theorem wv_Pieces_72 {j : Nat} (hj : (tb_m j).1.cls = "WireHosts$Pieces") : sv_wV j 72 79 0 := ⟨fc_79, by show Cond.methodLink _ _ _ ∈ tb_ws; rw [hj]; exact tw_614, tw_616, tp_19⟩
theorem fc_80 : fw_cal 80 2 := ⟨tw_621, tw_6, ⟨by decide +kernel, by decide +kernel, by decide +kernel⟩, by decide +kernel⟩
theorem wv_Pieces_76 {j : Nat} (hj : (tb_m j).1.cls = "WireHosts$Pieces") : sv_wV j 76 80 2 := ⟨fc_80, by show Cond.methodLink _ _ _ ∈ tb_ws; rw [hj]; exact tw_618, tw_619, tw_620⟩
theorem mp_77 : plainName (tb_m 77).1.cls = true := by decide +kernel
theorem fc_77 : fw_cal 77 2 := ⟨tw_609, tw_5, ⟨by decide +kernel, by decide +kernel, by decide +kernel⟩, by decide +kernel⟩
theorem wv_Pieces_29 {j : Nat} (hj : (tb_m j).1.cls = "WireHosts$Pieces") : sv_wV j 29 77 2 := ⟨fc_77, by show Cond.methodLink _ _ _ ∈ tb_ws; rw [hj]; exact tw_606, tw_608, tp_18⟩
theorem mc_75 : (tb_m 75).1.cls = "WireHosts$Pieces" := rfl
theorem fc_81 : fw_cal 81 2 := ⟨tw_626, tw_6, ⟨by decide +kernel, by decide +kernel, by decide +kernel⟩, by decide +kernel⟩
theorem wv_Pieces_33 {j : Nat} (hj : (tb_m j).1.cls = "WireHosts$Pieces") : sv_wV j 33 81 2 := ⟨fc_81, by show Cond.methodLink _ _ _ ∈ tb_ws; rw [hj]; exact tw_623, tw_624, tw_625⟩
theorem fc_82 : fw_cal 82 0 := ⟨tw_630, tw_6, ⟨by decide +kernel, by decide +kernel, by decide +kernel⟩, by decide +kernel⟩
theorem wv_Pieces_41 {j : Nat} (hj : (tb_m j).1.cls = "WireHosts$Pieces") : sv_wV j 41 82 0 := ⟨fc_82, by show Cond.methodLink _ _ _ ∈ tb_ws; rw [hj]; exact tw_627, tw_628, tw_629⟩
theorem gf_Pieces_45 {j : Nat} (hj : (tb_m j).1.cls = "WireHosts$Pieces") : sv_gf j 45 5 0 := ⟨_, _, _, rfl, tu_5, by decide, Or.inr ⟨"WireHosts", by rw [hj]; exact tv_4⟩⟩
theorem gf_Pieces_37 {j : Nat} (hj : (tb_m j).1.cls = "WireHosts$Pieces") : sv_gf j 37 5 5 := ⟨_, _, _, rfl, tu_5, by decide, Or.inr ⟨"WireHosts", by rw [hj]; exact tv_8⟩⟩
theorem gf_Pieces_48 {j : Nat} (hj : (tb_m j).1.cls = "WireHosts$Pieces") : sv_gf j 48 5 3 := ⟨_, _, _, rfl, tu_5, by decide, Or.inr ⟨"WireHosts", by rw [hj]; exact tv_6⟩⟩
theorem fc_76 : fw_cal 76 4 := ⟨tw_604, tw_5, ⟨by decide +kernel, by decide +kernel, by decide +kernel⟩, by decide +kernel⟩
theorem wv_Pieces_25 {j : Nat} (hj : (tb_m j).1.cls = "WireHosts$Pieces") : sv_wV j 25 76 4 := ⟨fc_76, by show Cond.methodLink _ _ _ ∈ tb_ws; rw [hj]; exact tw_601, tw_603, tp_17⟩
theorem pf_Pieces_51 {j : Nat} (hj : (tb_m j).1.cls = "WireHosts$Pieces") : sv_pf j 51 5 1 .boolean := ⟨_, _, _, tY_5, rfl, tu_5, by decide, Or.inr ⟨"WireHosts", by rw [hj]; exact tv_5⟩, ty_5, tn_5, rfl, by decide +kernel⟩
theorem pf_Pieces_37 {j : Nat} (hj : (tb_m j).1.cls = "WireHosts$Pieces") : sv_pf j 37 5 5 .int := ⟨_, _, _, tY_5, rfl, tu_5, by decide, Or.inr ⟨"WireHosts", by rw [hj]; exact tv_8⟩, ty_5, tn_5, rfl, by decide +kernel⟩
theorem mp_75 : plainName (tb_m 75).1.cls = true := by decide +kernel
theorem mc_119 : (tb_m 119).1.cls = "WireHosts$Pieces" := rfl
theorem fc_120 : fw_cal 120 0 := ⟨tw_790, tw_6, ⟨by decide +kernel, by decide +kernel, by decide +kernel⟩, by decide +kernel⟩
theorem wv_Pieces_55 {j : Nat} (hj : (tb_m j).1.cls = "WireHosts$Pieces") : sv_wV j 55 120 0 := ⟨fc_120, by show Cond.methodLink _ _ _ ∈ tb_ws; rw [hj]; exact tw_787, tw_788, tw_789⟩
theorem mp_119 : plainName (tb_m 119).1.cls = true := by decide +kernel
theorem mc_129 : (tb_m 129).1.cls = "WireHosts$Pieces" := rfl
theorem mp_129 : plainName (tb_m 129).1.cls = true := by decide +kernel
theorem mp_26 : plainName (tb_m 26).1.cls = true := by decide +kernel
theorem gf_Link_25 {j : Nat} (hj : (tb_m j).1.cls = "WireHosts$Link") : sv_gf j 25 3 3 := ⟨_, _, _, rfl, tu_3, by decide, Or.inl (by rw [hj]; exact tw_69)⟩
theorem mc_37 : (tb_m 37).1.cls = "WireHosts$Link" := rfl
theorem sr_3_3 {q : Nat} (hq : sv_isO (sg q) 3 = true) : sv_isR (sg q) 3 (sv_ref (sg q) 3) = true := sv_allb_of (f := fun q => sv_isR (sg q) 3 (sv_ref (sg q) 3)) (by decide +kernel) (by decide) hq
theorem st_3_3 {q : Nat} (hq : sv_isO (sg q) 3 = true) : sv_isA (sg (sv_ref (sg q) 3)) 0 37 = true := sv_allb_of (f := fun q => sv_isA (sg (sv_ref (sg q) 3)) 0 37) (by decide +kernel) (by decide) hq
theorem gf_Link_9 {j : Nat} (hj : (tb_m j).1.cls = "WireHosts$Link") : sv_gf j 9 3 0 := ⟨_, _, _, rfl, tu_3, by decide, Or.inl (by rw [hj]; exact tw_65)⟩
theorem si_3_0 {q : Nat} (hq : sv_isO (sg q) 3 = true) : sv_isI (sg q) 0 = true := sv_allb_of (f := fun q => sv_isI (sg q) 0) (by decide +kernel) (by decide) hq
theorem gf_Link_13 {j : Nat} (hj : (tb_m j).1.cls = "WireHosts$Link") : sv_gf j 13 3 1 := ⟨_, _, _, rfl, tu_3, by decide, Or.inl (by rw [hj]; exact tw_66)⟩
theorem sr_3_1 {q : Nat} (hq : sv_isO (sg q) 3 = true) : sv_isR (sg q) 1 (sv_ref (sg q) 1) = true := sv_allb_of (f := fun q => sv_isR (sg q) 1 (sv_ref (sg q) 1)) (by decide +kernel) (by decide) hq
theorem st_3_1 {q : Nat} (hq : sv_isO (sg q) 3 = true) : sv_isO (sg (sv_ref (sg q) 1)) 1 = true := sv_allb_of (f := fun q => sv_isO (sg (sv_ref (sg q) 1)) 1) (by decide +kernel) (by decide) hq
theorem fc_29 : fw_cal 29 2 := ⟨tw_402, tw_2, ⟨by decide +kernel, by decide +kernel, by decide +kernel⟩, by decide +kernel⟩
theorem wv_Link_45 {j : Nat} (hj : (tb_m j).1.cls = "WireHosts$Link") : sv_wV j 45 29 2 := ⟨fc_29, by show Cond.methodLink _ _ _ ∈ tb_ws; rw [hj]; exact tw_440, tw_400, tw_401⟩
theorem mp_37 : plainName (tb_m 37).1.cls = true := by decide +kernel
theorem mc_38 : (tb_m 38).1.cls = "WireHosts$Link" := rfl
theorem fc_26 : fw_cal 26 1 := ⟨tw_391, tw_4, ⟨by decide +kernel, by decide +kernel, by decide +kernel⟩, by decide +kernel⟩
theorem ws_Link_67 {j : Nat} (hj : (tb_m j).1.cls = "WireHosts$Link") : sv_wS j 67 26 1 := ⟨fc_26, by show Cond.methodLink _ _ _ ∈ tb_ws; rw [hj]; exact tw_445, tw_390⟩
theorem fc_37 : fw_cal 37 3 := ⟨tw_439, tw_4, ⟨by decide +kernel, by decide +kernel, by decide +kernel⟩, by decide +kernel⟩
theorem wv_Link_41 {j : Nat} (hj : (tb_m j).1.cls = "WireHosts$Link") : sv_wV j 41 37 3 := ⟨fc_37, by show Cond.methodLink _ _ _ ∈ tb_ws; rw [hj]; exact tw_436, tw_438, tp_6⟩
theorem mp_38 : plainName (tb_m 38).1.cls = true := by decide +kernel
theorem gf_Link_29 {j : Nat} (hj : (tb_m j).1.cls = "WireHosts$Link") : sv_gf j 29 3 4 := ⟨_, _, _, rfl, tu_3, by decide, Or.inl (by rw [hj]; exact tw_70)⟩
theorem mc_36 : (tb_m 36).1.cls = "WireHosts$Link" := rfl
theorem sd_3_4 {q : Nat} (hq : sv_isO (sg q) 3 = true) : sv_dyn (sg q) 4 = true := sv_allb_of (f := fun q => sv_dyn (sg q) 4) (by decide +kernel) (by decide) hq
theorem gf_Link_22 {j : Nat} (hj : (tb_m j).1.cls = "WireHosts$Link") : sv_gf j 22 3 2 := ⟨_, _, _, rfl, tu_3, by decide, Or.inl (by rw [hj]; exact tw_67)⟩
theorem sr_3_2 {q : Nat} (hq : sv_isO (sg q) 3 = true) : sv_isR (sg q) 2 (sv_ref (sg q) 2) = true := sv_allb_of (f := fun q => sv_isR (sg q) 2 (sv_ref (sg q) 2)) (by decide +kernel) (by decide) hq
theorem st_3_2 {q : Nat} (hq : sv_isO (sg q) 3 = true) : sv_isO (sg (sv_ref (sg q) 2)) 1 = true := sv_allb_of (f := fun q => sv_isO (sg (sv_ref (sg q) 2)) 1) (by decide +kernel) (by decide) hq
theorem gf_Link_49 {j : Nat} (hj : (tb_m j).1.cls = "WireHosts$Link") : sv_gf j 49 3 6 := ⟨_, _, _, rfl, tu_3, by decide, Or.inl (by rw [hj]; exact tw_74)⟩
theorem sd_3_6 {q : Nat} (hq : sv_isO (sg q) 3 = true) : sv_dyn (sg q) 6 = true := sv_allb_of (f := fun q => sv_dyn (sg q) 6) (by decide +kernel) (by decide) hq
theorem pf_Link_49 {j : Nat} (hj : (tb_m j).1.cls = "WireHosts$Link") : sv_pf j 49 3 6 .int := ⟨_, _, _, tY_3, rfl, tu_3, by decide, Or.inl (by rw [hj]; exact tw_74), ty_3, tn_3, rfl, by decide +kernel⟩
theorem fc_38 : fw_cal 38 2 := ⟨tw_444, tw_4, ⟨by decide +kernel, by decide +kernel, by decide +kernel⟩, by decide +kernel⟩
theorem wv_Link_52 {j : Nat} (hj : (tb_m j).1.cls = "WireHosts$Link") : sv_wV j 52 38 2 := ⟨fc_38, by show Cond.methodLink _ _ _ ∈ tb_ws; rw [hj]; exact tw_441, tw_443, tp_7⟩
theorem gf_Link_38 {j : Nat} (hj : (tb_m j).1.cls = "WireHosts$Link") : sv_gf j 38 3 5 := ⟨_, _, _, rfl, tu_3, by decide, Or.inl (by rw [hj]; exact tw_72)⟩
theorem sd_3_5 {q : Nat} (hq : sv_isO (sg q) 3 = true) : sv_dyn (sg q) 5 = true := sv_allb_of (f := fun q => sv_dyn (sg q) 5) (by decide +kernel) (by decide) hq
theorem wc_Link_32 {j : Nat} (hj : (tb_m j).1.cls = "WireHosts$Link") : sv_wcp j 32 := ⟨by rw [hj]; exact tw_435, tw_388, tw_387, tw_14⟩
theorem mp_36 : plainName (tb_m 36).1.cls = true := by decide +kernel
theorem mc_71 : (tb_m 71).1.cls = "WireHosts$Link" := rfl
theorem mp_71 : plainName (tb_m 71).1.cls = true := by decide +kernel
theorem mc_73 : (tb_m 73).1.cls = "WireHosts$Link" := rfl
theorem mp_73 : plainName (tb_m 73).1.cls = true := by decide +kernel
theorem fc_73 : fw_cal 73 2 := ⟨tw_590, tw_4, ⟨by decide +kernel, by decide +kernel, by decide +kernel⟩, by decide +kernel⟩
theorem wv_Link_55 {j : Nat} (hj : (tb_m j).1.cls = "WireHosts$Link") : sv_wV j 55 73 2 := ⟨fc_73, by show Cond.methodLink _ _ _ ∈ tb_ws; rw [hj]; exact tw_587, tw_589, tp_15⟩
theorem mc_72 : (tb_m 72).1.cls = "WireHosts$Link" := rfl
theorem pf_Link_38 {j : Nat} (hj : (tb_m j).1.cls = "WireHosts$Link") : sv_pf j 38 3 5 .int := ⟨_, _, _, tY_3, rfl, tu_3, by decide, Or.inl (by rw [hj]; exact tw_72), ty_3, tn_3, rfl, by decide +kernel⟩
theorem pf_Link_29 {j : Nat} (hj : (tb_m j).1.cls = "WireHosts$Link") : sv_pf j 29 3 4 .int := ⟨_, _, _, tY_3, rfl, tu_3, by decide, Or.inl (by rw [hj]; exact tw_70), ty_3, tn_3, rfl, by decide +kernel⟩
theorem fc_31 : fw_cal 31 0 := ⟨tw_411, tw_2, ⟨by decide +kernel, by decide +kernel, by decide +kernel⟩, by decide +kernel⟩
theorem wv_Link_59 {j : Nat} (hj : (tb_m j).1.cls = "WireHosts$Link") : sv_wV j 59 31 0 := ⟨fc_31, by show Cond.methodLink _ _ _ ∈ tb_ws; rw [hj]; exact tw_591, tw_409, tw_410⟩
theorem fc_32 : fw_cal 32 2 := ⟨tw_415, tw_2, ⟨by decide +kernel, by decide +kernel, by decide +kernel⟩, by decide +kernel⟩
theorem wv_Link_63 {j : Nat} (hj : (tb_m j).1.cls = "WireHosts$Link") : sv_wV j 63 32 2 := ⟨fc_32, by show Cond.methodLink _ _ _ ∈ tb_ws; rw [hj]; exact tw_592, tw_413, tw_414⟩
theorem mp_72 : plainName (tb_m 72).1.cls = true := by decide +kernel
theorem mc_118 : (tb_m 118).1.cls = "WireHosts$Link" := rfl
theorem mp_118 : plainName (tb_m 118).1.cls = true := by decide +kernel
theorem gf_Ep_45 {j : Nat} (hj : (tb_m j).1.cls = "WireHosts$Endpoint") : sv_gf j 45 7 6 := ⟨_, _, _, rfl, tu_7, by decide, Or.inl (by rw [hj]; exact tw_252)⟩
theorem mc_16 : (tb_m 16).1.cls = "WireHosts$Endpoint" := rfl
theorem sd_7_6 {q : Nat} (hq : sv_isO (sg q) 7 = true) : sv_dyn (sg q) 6 = true := sv_allb_of (f := fun q => sv_dyn (sg q) 6) (by decide +kernel) (by decide) hq
theorem pf_Ep_45 {j : Nat} (hj : (tb_m j).1.cls = "WireHosts$Endpoint") : sv_pf j 45 7 6 .int := ⟨_, _, _, tY_7, rfl, tu_7, by decide, Or.inl (by rw [hj]; exact tw_252), ty_7, tn_7, rfl, by decide +kernel⟩
theorem mp_16 : plainName (tb_m 16).1.cls = true := by decide +kernel
theorem gf_Ep_31 {j : Nat} (hj : (tb_m j).1.cls = "WireHosts$Endpoint") : sv_gf j 31 7 4 := ⟨_, _, _, rfl, tu_7, by decide, Or.inl (by rw [hj]; exact tw_250)⟩
theorem mc_19 : (tb_m 19).1.cls = "WireHosts$Endpoint" := rfl
theorem sr_7_4 {q : Nat} (hq : sv_isO (sg q) 7 = true) : sv_isR (sg q) 4 (sv_ref (sg q) 4) = true := sv_allb_of (f := fun q => sv_isR (sg q) 4 (sv_ref (sg q) 4)) (by decide +kernel) (by decide) hq
theorem st_7_4 {q : Nat} (hq : sv_isO (sg q) 7 = true) : sv_isO (sg (sv_ref (sg q) 4)) 8 = true := sv_allb_of (f := fun q => sv_isO (sg (sv_ref (sg q) 4)) 8) (by decide +kernel) (by decide) hq
theorem gf_Ep_9 {j : Nat} (hj : (tb_m j).1.cls = "WireHosts$Endpoint") : sv_gf j 9 7 0 := ⟨_, _, _, rfl, tu_7, by decide, Or.inl (by rw [hj]; exact tw_246)⟩
theorem si_7_0 {q : Nat} (hq : sv_isO (sg q) 7 = true) : sv_isI (sg q) 0 = true := sv_allb_of (f := fun q => sv_isI (sg q) 0) (by decide +kernel) (by decide) hq
theorem gf_Ep_15 {j : Nat} (hj : (tb_m j).1.cls = "WireHosts$Endpoint") : sv_gf j 15 7 1 := ⟨_, _, _, rfl, tu_7, by decide, Or.inl (by rw [hj]; exact tw_247)⟩
theorem si_7_1 {q : Nat} (hq : sv_isO (sg q) 7 = true) : sv_isI (sg q) 1 = true := sv_allb_of (f := fun q => sv_isI (sg q) 1) (by decide +kernel) (by decide) hq
theorem fc_20 : fw_cal 20 1 := ⟨tw_365, tw_9, ⟨by decide +kernel, by decide +kernel, by decide +kernel⟩, by decide +kernel⟩
theorem wv_Ep_143 {j : Nat} (hj : (tb_m j).1.cls = "WireHosts$Endpoint") : sv_wV j 143 20 1 := ⟨fc_20, by show Cond.methodLink _ _ _ ∈ tb_ws; rw [hj]; exact tw_362, tw_363, tw_364⟩
theorem gf_Ep_42 {j : Nat} (hj : (tb_m j).1.cls = "WireHosts$Endpoint") : sv_gf j 42 7 8 := ⟨_, _, _, rfl, tu_7, by decide, Or.inl (by rw [hj]; exact tw_254)⟩
theorem sd_7_8 {q : Nat} (hq : sv_isO (sg q) 7 = true) : sv_dyn (sg q) 8 = true := sv_allb_of (f := fun q => sv_dyn (sg q) 8) (by decide +kernel) (by decide) hq
theorem pf_Ep_97 {j : Nat} (hj : (tb_m j).1.cls = "WireHosts$Endpoint") : sv_pf j 97 7 7 .int := ⟨_, _, _, tY_7, rfl, tu_7, by decide, Or.inl (by rw [hj]; exact tw_253), ty_7, tn_7, rfl, by decide +kernel⟩
theorem sd_7_7 {q : Nat} (hq : sv_isO (sg q) 7 = true) : sv_dyn (sg q) 7 = true := sv_allb_of (f := fun q => sv_dyn (sg q) 7) (by decide +kernel) (by decide) hq
theorem mp_19 : plainName (tb_m 19).1.cls = true := by decide +kernel
theorem gf_Ep_24 {j : Nat} (hj : (tb_m j).1.cls = "WireHosts$Endpoint") : sv_gf j 24 7 3 := ⟨_, _, _, rfl, tu_7, by decide, Or.inl (by rw [hj]; exact tw_249)⟩
theorem mc_22 : (tb_m 22).1.cls = "WireHosts$Endpoint" := rfl
theorem sr_7_3 {q : Nat} (hq : sv_isO (sg q) 7 = true) : sv_isR (sg q) 3 (sv_ref (sg q) 3) = true := sv_allb_of (f := fun q => sv_isR (sg q) 3 (sv_ref (sg q) 3)) (by decide +kernel) (by decide) hq
theorem st_7_3 {q : Nat} (hq : sv_isO (sg q) 7 = true) : sv_isA (sg (sv_ref (sg q) 3)) 0 49 = true := sv_allb_of (f := fun q => sv_isA (sg (sv_ref (sg q) 3)) 0 49) (by decide +kernel) (by decide) hq
theorem fc_23 : fw_cal 23 3 := ⟨tw_377, tw_13, ⟨by decide +kernel, by decide +kernel, by decide +kernel⟩, by decide +kernel⟩
theorem ws_Ep_226 {j : Nat} (hj : (tb_m j).1.cls = "WireHosts$Endpoint") : sv_wS j 226 23 3 := ⟨fc_23, by show Cond.methodLink _ _ _ ∈ tb_ws; rw [hj]; exact tw_375, tw_376⟩
theorem gf_Ep_38 {j : Nat} (hj : (tb_m j).1.cls = "WireHosts$Endpoint") : sv_gf j 38 7 5 := ⟨_, _, _, rfl, tu_7, by decide, Or.inl (by rw [hj]; exact tw_251)⟩
theorem sr_7_5 {q : Nat} (hq : sv_isO (sg q) 7 = true) : sv_isR (sg q) 5 (sv_ref (sg q) 5) = true := sv_allb_of (f := fun q => sv_isR (sg q) 5 (sv_ref (sg q) 5)) (by decide +kernel) (by decide) hq
theorem st_7_5 {q : Nat} (hq : sv_isO (sg q) 7 = true) : sv_isO (sg (sv_ref (sg q) 5)) 9 = true := sv_allb_of (f := fun q => sv_isO (sg (sv_ref (sg q) 5)) 9) (by decide +kernel) (by decide) hq
theorem wv_Ep_78 {j : Nat} (hj : (tb_m j).1.cls = "WireHosts$Endpoint") : sv_wV j 78 24 0 := ⟨fc_24, by show Cond.methodLink _ _ _ ∈ tb_ws; rw [hj]; exact tw_378, tw_379, tw_380⟩
theorem fc_25 : fw_cal 25 4 := ⟨tw_385, tw_9, ⟨by decide +kernel, by decide +kernel, by decide +kernel⟩, by decide +kernel⟩
theorem wv_Ep_232 {j : Nat} (hj : (tb_m j).1.cls = "WireHosts$Endpoint") : sv_wV j 232 25 4 := ⟨fc_25, by show Cond.methodLink _ _ _ ∈ tb_ws; rw [hj]; exact tw_382, tw_383, tw_384⟩
theorem ws_Ep_236 {j : Nat} (hj : (tb_m j).1.cls = "WireHosts$Endpoint") : sv_wS j 236 26 1 := ⟨fc_26, by show Cond.methodLink _ _ _ ∈ tb_ws; rw [hj]; exact tw_389, tw_390⟩
theorem ws_Ep_242 {j : Nat} (hj : (tb_m j).1.cls = "WireHosts$Endpoint") : sv_wS j 242 27 3 := ⟨fc_27, by show Cond.methodLink _ _ _ ∈ tb_ws; rw [hj]; exact tw_392, tw_393⟩
theorem ws_Ep_246 {j : Nat} (hj : (tb_m j).1.cls = "WireHosts$Endpoint") : sv_wS j 246 28 4 := ⟨fc_28, by show Cond.methodLink _ _ _ ∈ tb_ws; rw [hj]; exact tw_395, tw_396⟩
theorem gf_Ep_18 {j : Nat} (hj : (tb_m j).1.cls = "WireHosts$Endpoint") : sv_gf j 18 7 2 := ⟨_, _, _, rfl, tu_7, by decide, Or.inl (by rw [hj]; exact tw_248)⟩
theorem sr_7_2 {q : Nat} (hq : sv_isO (sg q) 7 = true) : sv_isR (sg q) 2 (sv_ref (sg q) 2) = true := sv_allb_of (f := fun q => sv_isR (sg q) 2 (sv_ref (sg q) 2)) (by decide +kernel) (by decide) hq
theorem st_7_2 {q : Nat} (hq : sv_isO (sg q) 7 = true) : sv_isO (sg (sv_ref (sg q) 2)) 1 = true := sv_allb_of (f := fun q => sv_isO (sg (sv_ref (sg q) 2)) 1) (by decide +kernel) (by decide) hq
theorem wv_Ep_250 {j : Nat} (hj : (tb_m j).1.cls = "WireHosts$Endpoint") : sv_wV j 250 29 2 := ⟨fc_29, by show Cond.methodLink _ _ _ ∈ tb_ws; rw [hj]; exact tw_399, tw_400, tw_401⟩
theorem mp_22 : plainName (tb_m 22).1.cls = true := by decide +kernel
theorem mc_21 : (tb_m 21).1.cls = "WireHosts$Endpoint" := rfl
theorem gf_Ep_130 {j : Nat} (hj : (tb_m j).1.cls = "WireHosts$Endpoint") : sv_gf j 130 9 3 := ⟨_, _, _, rfl, tu_9, by decide, Or.inr ⟨"WireHosts", by rw [hj]; exact tv_24⟩⟩
theorem fc_22 : fw_cal 22 5 := ⟨tw_374, tw_8, ⟨by decide +kernel, by decide +kernel, by decide +kernel⟩, by decide +kernel⟩
theorem wv_Ep_166 {j : Nat} (hj : (tb_m j).1.cls = "WireHosts$Endpoint") : sv_wV j 166 22 5 := ⟨fc_22, by show Cond.methodLink _ _ _ ∈ tb_ws; rw [hj]; exact tw_371, tw_373, tp_4⟩
theorem mp_21 : plainName (tb_m 21).1.cls = true := by decide +kernel
theorem mc_18 : (tb_m 18).1.cls = "WireHosts$Endpoint" := rfl
theorem fc_19 : fw_cal 19 1 := ⟨tw_361, tw_8, ⟨by decide +kernel, by decide +kernel, by decide +kernel⟩, by decide +kernel⟩
theorem wv_Ep_48 {j : Nat} (hj : (tb_m j).1.cls = "WireHosts$Endpoint") : sv_wV j 48 19 1 := ⟨fc_19, by show Cond.methodLink _ _ _ ∈ tb_ws; rw [hj]; exact tw_358, tw_360, tp_2⟩
theorem gf_Ep_54 {j : Nat} (hj : (tb_m j).1.cls = "WireHosts$Endpoint") : sv_gf j 54 8 2 := ⟨_, _, _, rfl, tu_8, by decide, Or.inr ⟨"WireHosts", by rw [hj]; exact tv_18⟩⟩
theorem fc_21 : fw_cal 21 2 := ⟨tw_370, tw_8, ⟨by decide +kernel, by decide +kernel, by decide +kernel⟩, by decide +kernel⟩
theorem wv_Ep_57 {j : Nat} (hj : (tb_m j).1.cls = "WireHosts$Endpoint") : sv_wV j 57 21 2 := ⟨fc_21, by show Cond.methodLink _ _ _ ∈ tb_ws; rw [hj]; exact tw_367, tw_369, tp_3⟩
theorem mp_18 : plainName (tb_m 18).1.cls = true := by decide +kernel
theorem mc_41 : (tb_m 41).1.cls = "WireHosts$Endpoint" := rfl
theorem mp_41 : plainName (tb_m 41).1.cls = true := by decide +kernel
theorem mc_45 : (tb_m 45).1.cls = "WireHosts$Endpoint" := rfl
theorem fc_46 : fw_cal 46 0 := ⟨tw_477, tw_9, ⟨by decide +kernel, by decide +kernel, by decide +kernel⟩, by decide +kernel⟩
theorem wv_Ep_160 {j : Nat} (hj : (tb_m j).1.cls = "WireHosts$Endpoint") : sv_wV j 160 46 0 := ⟨fc_46, by show Cond.methodLink _ _ _ ∈ tb_ws; rw [hj]; exact tw_474, tw_475, tw_476⟩
theorem gf_Ep_94 {j : Nat} (hj : (tb_m j).1.cls = "WireHosts$Endpoint") : sv_gf j 94 8 4 := ⟨_, _, _, rfl, tu_8, by decide, Or.inr ⟨"WireHosts", by rw [hj]; exact tv_20⟩⟩
theorem wv_Ep_163 {j : Nat} (hj : (tb_m j).1.cls = "WireHosts$Endpoint") : sv_wV j 163 47 0 := ⟨fc_47, by show Cond.methodLink _ _ _ ∈ tb_ws; rw [hj]; exact tw_483, tw_479, tw_480⟩
theorem fc_48 : fw_cal 48 1 := ⟨tw_487, tw_9, ⟨by decide +kernel, by decide +kernel, by decide +kernel⟩, by decide +kernel⟩
theorem wv_Ep_154 {j : Nat} (hj : (tb_m j).1.cls = "WireHosts$Endpoint") : sv_wV j 154 48 1 := ⟨fc_48, by show Cond.methodLink _ _ _ ∈ tb_ws; rw [hj]; exact tw_484, tw_485, tw_486⟩
theorem mp_45 : plainName (tb_m 45).1.cls = true := by decide +kernel
theorem fc_41 : fw_cal 41 0 := ⟨tw_457, tw_8, ⟨by decide +kernel, by decide +kernel, by decide +kernel⟩, by decide +kernel⟩
theorem wv_Ep_61 {j : Nat} (hj : (tb_m j).1.cls = "WireHosts$Endpoint") : sv_wV j 61 41 0 := ⟨fc_41, by show Cond.methodLink _ _ _ ∈ tb_ws; rw [hj]; exact tw_454, tw_456, tp_8⟩
theorem mc_44 : (tb_m 44).1.cls = "WireHosts$Endpoint" := rfl
theorem fc_45 : fw_cal 45 0 := ⟨tw_473, tw_8, ⟨by decide +kernel, by decide +kernel, by decide +kernel⟩, by decide +kernel⟩
theorem wv_Ep_148 {j : Nat} (hj : (tb_m j).1.cls = "WireHosts$Endpoint") : sv_wV j 148 45 0 := ⟨fc_45, by show Cond.methodLink _ _ _ ∈ tb_ws; rw [hj]; exact tw_470, tw_472, tp_10⟩
theorem gf_Ep_65 {j : Nat} (hj : (tb_m j).1.cls = "WireHosts$Endpoint") : sv_gf j 65 8 6 := ⟨_, _, _, rfl, tu_8, by decide, Or.inr ⟨"WireHosts", by rw [hj]; exact tv_22⟩⟩
theorem gf_Ep_97 {j : Nat} (hj : (tb_m j).1.cls = "WireHosts$Endpoint") : sv_gf j 97 7 7 := ⟨_, _, _, rfl, tu_7, by decide, Or.inl (by rw [hj]; exact tw_253)⟩
theorem fc_50 : fw_cal 50 0 := ⟨tw_495, tw_9, ⟨by decide +kernel, by decide +kernel, by decide +kernel⟩, by decide +kernel⟩
theorem wv_Ep_157 {j : Nat} (hj : (tb_m j).1.cls = "WireHosts$Endpoint") : sv_wV j 157 50 0 := ⟨fc_50, by show Cond.methodLink _ _ _ ∈ tb_ws; rw [hj]; exact tw_492, tw_493, tw_494⟩
theorem fc_49 : fw_cal 49 0 := ⟨tw_491, tw_9, ⟨by decide +kernel, by decide +kernel, by decide +kernel⟩, by decide +kernel⟩
theorem wv_Ep_151 {j : Nat} (hj : (tb_m j).1.cls = "WireHosts$Endpoint") : sv_wV j 151 49 0 := ⟨fc_49, by show Cond.methodLink _ _ _ ∈ tb_ws; rw [hj]; exact tw_488, tw_489, tw_490⟩
theorem mp_44 : plainName (tb_m 44).1.cls = true := by decide +kernel
theorem mc_40 : (tb_m 40).1.cls = "WireHosts$Endpoint" := rfl
theorem fc_42 : fw_cal 42 0 := ⟨tw_461, tw_9, ⟨by decide +kernel, by decide +kernel, by decide +kernel⟩, by decide +kernel⟩
theorem wv_Ep_69 {j : Nat} (hj : (tb_m j).1.cls = "WireHosts$Endpoint") : sv_wV j 69 42 0 := ⟨fc_42, by show Cond.methodLink _ _ _ ∈ tb_ws; rw [hj]; exact tw_458, tw_459, tw_460⟩
theorem fc_43 : fw_cal 43 1 := ⟨tw_465, tw_9, ⟨by decide +kernel, by decide +kernel, by decide +kernel⟩, by decide +kernel⟩
theorem wv_Ep_72 {j : Nat} (hj : (tb_m j).1.cls = "WireHosts$Endpoint") : sv_wV j 72 43 1 := ⟨fc_43, by show Cond.methodLink _ _ _ ∈ tb_ws; rw [hj]; exact tw_462, tw_463, tw_464⟩
theorem fc_44 : fw_cal 44 0 := ⟨tw_469, tw_8, ⟨by decide +kernel, by decide +kernel, by decide +kernel⟩, by decide +kernel⟩
theorem wv_Ep_75 {j : Nat} (hj : (tb_m j).1.cls = "WireHosts$Endpoint") : sv_wV j 75 44 0 := ⟨fc_44, by show Cond.methodLink _ _ _ ∈ tb_ws; rw [hj]; exact tw_466, tw_468, tp_9⟩
theorem mp_40 : plainName (tb_m 40).1.cls = true := by decide +kernel
theorem mc_54 : (tb_m 54).1.cls = "WireHosts$Endpoint" := rfl
theorem mp_54 : plainName (tb_m 54).1.cls = true := by decide +kernel
theorem mc_55 : (tb_m 55).1.cls = "WireHosts$Endpoint" := rfl
theorem mp_55 : plainName (tb_m 55).1.cls = true := by decide +kernel
theorem mc_52 : (tb_m 52).1.cls = "WireHosts$Endpoint" := rfl
theorem fc_53 : fw_cal 53 0 := ⟨tw_507, tw_10, ⟨by decide +kernel, by decide +kernel, by decide +kernel⟩, by decide +kernel⟩
theorem wv_Ep_82 {j : Nat} (hj : (tb_m j).1.cls = "WireHosts$Endpoint") : sv_wV j 82 53 0 := ⟨fc_53, by show Cond.methodLink _ _ _ ∈ tb_ws; rw [hj]; exact tw_504, tw_505, tw_506⟩
theorem fc_54 : fw_cal 54 0 := ⟨tw_512, tw_8, ⟨by decide +kernel, by decide +kernel, by decide +kernel⟩, by decide +kernel⟩
theorem wv_Ep_85 {j : Nat} (hj : (tb_m j).1.cls = "WireHosts$Endpoint") : sv_wV j 85 54 0 := ⟨fc_54, by show Cond.methodLink _ _ _ ∈ tb_ws; rw [hj]; exact tw_509, tw_511, tp_11⟩
theorem fc_55 : fw_cal 55 0 := ⟨tw_516, tw_8, ⟨by decide +kernel, by decide +kernel, by decide +kernel⟩, by decide +kernel⟩
theorem wv_Ep_88 {j : Nat} (hj : (tb_m j).1.cls = "WireHosts$Endpoint") : sv_wV j 88 55 0 := ⟨fc_55, by show Cond.methodLink _ _ _ ∈ tb_ws; rw [hj]; exact tw_513, tw_515, tp_12⟩
theorem mp_52 : plainName (tb_m 52).1.cls = true := by decide +kernel
theorem mc_58 : (tb_m 58).1.cls = "WireHosts$Endpoint" := rfl
theorem fc_59 : fw_cal 59 0 := ⟨tw_532, tw_9, ⟨by decide +kernel, by decide +kernel, by decide +kernel⟩, by decide +kernel⟩
theorem wv_Ep_144 {j : Nat} (hj : (tb_m j).1.cls = "WireHosts$Endpoint") : sv_wV j 144 59 0 := ⟨fc_59, by show Cond.methodLink _ _ _ ∈ tb_ws; rw [hj]; exact tw_529, tw_530, tw_531⟩
theorem fc_60 : fw_cal 60 0 := ⟨tw_536, tw_10, ⟨by decide +kernel, by decide +kernel, by decide +kernel⟩, by decide +kernel⟩
theorem wv_Ep_147 {j : Nat} (hj : (tb_m j).1.cls = "WireHosts$Endpoint") : sv_wV j 147 60 0 := ⟨fc_60, by show Cond.methodLink _ _ _ ∈ tb_ws; rw [hj]; exact tw_533, tw_534, tw_535⟩
theorem pf_Ep_42 {j : Nat} (hj : (tb_m j).1.cls = "WireHosts$Endpoint") : sv_pf j 42 7 8 .int := ⟨_, _, _, tY_7, rfl, tu_7, by decide, Or.inl (by rw [hj]; exact tw_254), ty_7, tn_7, rfl, by decide +kernel⟩
theorem pf_Ep_140 {j : Nat} (hj : (tb_m j).1.cls = "WireHosts$Endpoint") : sv_pf j 140 7 9 .int := ⟨_, _, _, tY_7, rfl, tu_7, by decide, Or.inl (by rw [hj]; exact tw_255), ty_7, tn_7, rfl, by decide +kernel⟩
theorem sd_7_9 {q : Nat} (hq : sv_isO (sg q) 7 = true) : sv_dyn (sg q) 9 = true := sv_allb_of (f := fun q => sv_dyn (sg q) 9) (by decide +kernel) (by decide) hq
theorem mp_58 : plainName (tb_m 58).1.cls = true := by decide +kernel
theorem mc_57 : (tb_m 57).1.cls = "WireHosts$Endpoint" := rfl
theorem fc_58 : fw_cal 58 0 := ⟨tw_528, tw_8, ⟨by decide +kernel, by decide +kernel, by decide +kernel⟩, by decide +kernel⟩
theorem wv_Ep_91 {j : Nat} (hj : (tb_m j).1.cls = "WireHosts$Endpoint") : sv_wV j 91 58 0 := ⟨fc_58, by show Cond.methodLink _ _ _ ∈ tb_ws; rw [hj]; exact tw_525, tw_527, tp_13⟩
theorem pf_Ep_65 {j : Nat} (hj : (tb_m j).1.cls = "WireHosts$Endpoint") : sv_pf j 65 8 6 .boolean := ⟨_, _, _, tY_8, rfl, tu_8, by decide, Or.inr ⟨"WireHosts", by rw [hj]; exact tv_22⟩, ty_8, tn_8, rfl, by decide +kernel⟩
theorem mp_57 : plainName (tb_m 57).1.cls = true := by decide +kernel
theorem mc_62 : (tb_m 62).1.cls = "WireHosts$Endpoint" := rfl
theorem mp_62 : plainName (tb_m 62).1.cls = true := by decide +kernel
theorem wv_Ep_179 {j : Nat} (hj : (tb_m j).1.cls = "WireHosts$Endpoint") : sv_wV j 179 89 1 := ⟨fc_89, by show Cond.methodLink _ _ _ ∈ tb_ws; rw [hj]; exact tw_657, tw_658, tw_659⟩
theorem mc_88 : (tb_m 88).1.cls = "WireHosts$Endpoint" := rfl
theorem gf_Ep_183 {j : Nat} (hj : (tb_m j).1.cls = "WireHosts$Endpoint") : sv_gf j 183 6 5 := ⟨_, _, _, rfl, tu_6, by decide, Or.inr ⟨"WireHosts", by rw [hj]; exact tv_15⟩⟩
theorem gf_Ep_186 {j : Nat} (hj : (tb_m j).1.cls = "WireHosts$Endpoint") : sv_gf j 186 6 4 := ⟨_, _, _, rfl, tu_6, by decide, Or.inr ⟨"WireHosts", by rw [hj]; exact tv_14⟩⟩
theorem wv_Ep_189 {j : Nat} (hj : (tb_m j).1.cls = "WireHosts$Endpoint") : sv_wV j 189 90 0 := ⟨fc_90, by show Cond.methodLink _ _ _ ∈ tb_ws; rw [hj]; exact tw_661, tw_662, tw_663⟩
theorem mp_88 : plainName (tb_m 88).1.cls = true := by decide +kernel
theorem mc_91 : (tb_m 91).1.cls = "WireHosts$Endpoint" := rfl
theorem fc_92 : fw_cal 92 1 := ⟨tw_673, tw_10, ⟨by decide +kernel, by decide +kernel, by decide +kernel⟩, by decide +kernel⟩
theorem wv_Ep_192 {j : Nat} (hj : (tb_m j).1.cls = "WireHosts$Endpoint") : sv_wV j 192 92 1 := ⟨fc_92, by show Cond.methodLink _ _ _ ∈ tb_ws; rw [hj]; exact tw_670, tw_671, tw_672⟩
theorem gf_Ep_195 {j : Nat} (hj : (tb_m j).1.cls = "WireHosts$Endpoint") : sv_gf j 195 6 6 := ⟨_, _, _, rfl, tu_6, by decide, Or.inr ⟨"WireHosts", by rw [hj]; exact tv_16⟩⟩
theorem pf_Ep_133 {j : Nat} (hj : (tb_m j).1.cls = "WireHosts$Endpoint") : sv_pf j 133 8 5 .int := ⟨_, _, _, tY_8, rfl, tu_8, by decide, Or.inr ⟨"WireHosts", by rw [hj]; exact tv_21⟩, ty_8, tn_8, rfl, by decide +kernel⟩
theorem mp_91 : plainName (tb_m 91).1.cls = true := by decide +kernel
theorem mc_95 : (tb_m 95).1.cls = "WireHosts$Endpoint" := rfl
theorem mp_95 : plainName (tb_m 95).1.cls = true := by decide +kernel
theorem mc_93 : (tb_m 93).1.cls = "WireHosts$Endpoint" := rfl
theorem fc_94 : fw_cal 94 1 := ⟨tw_682, tw_9, ⟨by decide +kernel, by decide +kernel, by decide +kernel⟩, by decide +kernel⟩
theorem wv_Ep_196 {j : Nat} (hj : (tb_m j).1.cls = "WireHosts$Endpoint") : sv_wV j 196 94 1 := ⟨fc_94, by show Cond.methodLink _ _ _ ∈ tb_ws; rw [hj]; exact tw_679, tw_680, tw_681⟩
theorem fc_95 : fw_cal 95 0 := ⟨tw_686, tw_8, ⟨by decide +kernel, by decide +kernel, by decide +kernel⟩, by decide +kernel⟩
theorem wv_Ep_199 {j : Nat} (hj : (tb_m j).1.cls = "WireHosts$Endpoint") : sv_wV j 199 95 0 := ⟨fc_95, by show Cond.methodLink _ _ _ ∈ tb_ws; rw [hj]; exact tw_683, tw_685, tp_24⟩
theorem mp_93 : plainName (tb_m 93).1.cls = true := by decide +kernel
theorem mc_96 : (tb_m 96).1.cls = "WireHosts$Endpoint" := rfl
theorem fc_97 : fw_cal 97 1 := ⟨tw_694, tw_10, ⟨by decide +kernel, by decide +kernel, by decide +kernel⟩, by decide +kernel⟩
theorem wv_Ep_202 {j : Nat} (hj : (tb_m j).1.cls = "WireHosts$Endpoint") : sv_wV j 202 97 1 := ⟨fc_97, by show Cond.methodLink _ _ _ ∈ tb_ws; rw [hj]; exact tw_691, tw_692, tw_693⟩
theorem mp_96 : plainName (tb_m 96).1.cls = true := by decide +kernel
theorem mc_99 : (tb_m 99).1.cls = "WireHosts$Endpoint" := rfl
theorem mp_99 : plainName (tb_m 99).1.cls = true := by decide +kernel
theorem mc_104 : (tb_m 104).1.cls = "WireHosts$Endpoint" := rfl
theorem mp_104 : plainName (tb_m 104).1.cls = true := by decide +kernel
theorem mc_103 : (tb_m 103).1.cls = "WireHosts$Endpoint" := rfl
theorem fc_104 : fw_cal 104 0 := ⟨tw_724, tw_8, ⟨by decide +kernel, by decide +kernel, by decide +kernel⟩, by decide +kernel⟩
theorem wv_Ep_214 {j : Nat} (hj : (tb_m j).1.cls = "WireHosts$Endpoint") : sv_wV j 214 104 0 := ⟨fc_104, by show Cond.methodLink _ _ _ ∈ tb_ws; rw [hj]; exact tw_721, tw_723, tp_30⟩
theorem mp_103 : plainName (tb_m 103).1.cls = true := by decide +kernel
theorem mc_100 : (tb_m 100).1.cls = "WireHosts$Endpoint" := rfl
theorem fc_101 : fw_cal 101 1 := ⟨tw_712, tw_9, ⟨by decide +kernel, by decide +kernel, by decide +kernel⟩, by decide +kernel⟩
theorem wv_Ep_205 {j : Nat} (hj : (tb_m j).1.cls = "WireHosts$Endpoint") : sv_wV j 205 101 1 := ⟨fc_101, by show Cond.methodLink _ _ _ ∈ tb_ws; rw [hj]; exact tw_709, tw_710, tw_711⟩
theorem fc_102 : fw_cal 102 1 := ⟨tw_716, tw_9, ⟨by decide +kernel, by decide +kernel, by decide +kernel⟩, by decide +kernel⟩
theorem wv_Ep_208 {j : Nat} (hj : (tb_m j).1.cls = "WireHosts$Endpoint") : sv_wV j 208 102 1 := ⟨fc_102, by show Cond.methodLink _ _ _ ∈ tb_ws; rw [hj]; exact tw_713, tw_714, tw_715⟩
theorem fc_103 : fw_cal 103 0 := ⟨tw_720, tw_8, ⟨by decide +kernel, by decide +kernel, by decide +kernel⟩, by decide +kernel⟩
theorem wv_Ep_211 {j : Nat} (hj : (tb_m j).1.cls = "WireHosts$Endpoint") : sv_wV j 211 103 0 := ⟨fc_103, by show Cond.methodLink _ _ _ ∈ tb_ws; rw [hj]; exact tw_717, tw_719, tp_29⟩
theorem mp_100 : plainName (tb_m 100).1.cls = true := by decide +kernel
theorem mc_109 : (tb_m 109).1.cls = "WireHosts$Endpoint" := rfl
theorem mp_109 : plainName (tb_m 109).1.cls = true := by decide +kernel
theorem mc_105 : (tb_m 105).1.cls = "WireHosts$Endpoint" := rfl
theorem fc_106 : fw_cal 106 1 := ⟨tw_732, tw_10, ⟨by decide +kernel, by decide +kernel, by decide +kernel⟩, by decide +kernel⟩
theorem wv_Ep_217 {j : Nat} (hj : (tb_m j).1.cls = "WireHosts$Endpoint") : sv_wV j 217 106 1 := ⟨fc_106, by show Cond.methodLink _ _ _ ∈ tb_ws; rw [hj]; exact tw_729, tw_730, tw_731⟩
theorem fc_108 : fw_cal 108 0 := ⟨tw_741, tw_10, ⟨by decide +kernel, by decide +kernel, by decide +kernel⟩, by decide +kernel⟩
theorem wv_Ep_220 {j : Nat} (hj : (tb_m j).1.cls = "WireHosts$Endpoint") : sv_wV j 220 108 0 := ⟨fc_108, by show Cond.methodLink _ _ _ ∈ tb_ws; rw [hj]; exact tw_738, tw_739, tw_740⟩
theorem fc_109 : fw_cal 109 0 := ⟨tw_745, tw_8, ⟨by decide +kernel, by decide +kernel, by decide +kernel⟩, by decide +kernel⟩
theorem wv_Ep_223 {j : Nat} (hj : (tb_m j).1.cls = "WireHosts$Endpoint") : sv_wV j 223 109 0 := ⟨fc_109, by show Cond.methodLink _ _ _ ∈ tb_ws; rw [hj]; exact tw_742, tw_744, tp_32⟩
theorem mp_105 : plainName (tb_m 105).1.cls = true := by decide +kernel
theorem mc_87 : (tb_m 87).1.cls = "WireHosts$Endpoint" := rfl
theorem fc_96 : fw_cal 96 1 := ⟨tw_690, tw_8, ⟨by decide +kernel, by decide +kernel, by decide +kernel⟩, by decide +kernel⟩
theorem wv_Ep_114 {j : Nat} (hj : (tb_m j).1.cls = "WireHosts$Endpoint") : sv_wV j 114 96 1 := ⟨fc_96, by show Cond.methodLink _ _ _ ∈ tb_ws; rw [hj]; exact tw_687, tw_689, tp_25⟩
theorem fc_99 : fw_cal 99 1 := ⟨tw_704, tw_8, ⟨by decide +kernel, by decide +kernel, by decide +kernel⟩, by decide +kernel⟩
theorem wv_Ep_118 {j : Nat} (hj : (tb_m j).1.cls = "WireHosts$Endpoint") : sv_wV j 118 99 1 := ⟨fc_99, by show Cond.methodLink _ _ _ ∈ tb_ws; rw [hj]; exact tw_701, tw_703, tp_27⟩
theorem fc_100 : fw_cal 100 1 := ⟨tw_708, tw_8, ⟨by decide +kernel, by decide +kernel, by decide +kernel⟩, by decide +kernel⟩
theorem wv_Ep_121 {j : Nat} (hj : (tb_m j).1.cls = "WireHosts$Endpoint") : sv_wV j 121 100 1 := ⟨fc_100, by show Cond.methodLink _ _ _ ∈ tb_ws; rw [hj]; exact tw_705, tw_707, tp_28⟩
theorem fc_105 : fw_cal 105 1 := ⟨tw_728, tw_8, ⟨by decide +kernel, by decide +kernel, by decide +kernel⟩, by decide +kernel⟩
theorem wv_Ep_124 {j : Nat} (hj : (tb_m j).1.cls = "WireHosts$Endpoint") : sv_wV j 124 105 1 := ⟨fc_105, by show Cond.methodLink _ _ _ ∈ tb_ws; rw [hj]; exact tw_725, tw_727, tp_31⟩
theorem fc_93 : fw_cal 93 1 := ⟨tw_678, tw_8, ⟨by decide +kernel, by decide +kernel, by decide +kernel⟩, by decide +kernel⟩
theorem wv_Ep_111 {j : Nat} (hj : (tb_m j).1.cls = "WireHosts$Endpoint") : sv_wV j 111 93 1 := ⟨fc_93, by show Cond.methodLink _ _ _ ∈ tb_ws; rw [hj]; exact tw_675, tw_677, tp_23⟩
theorem fc_91 : fw_cal 91 2 := ⟨tw_669, tw_8, ⟨by decide +kernel, by decide +kernel, by decide +kernel⟩, by decide +kernel⟩
theorem wv_Ep_107 {j : Nat} (hj : (tb_m j).1.cls = "WireHosts$Endpoint") : sv_wV j 107 91 2 := ⟨fc_91, by show Cond.methodLink _ _ _ ∈ tb_ws; rw [hj]; exact tw_666, tw_668, tp_22⟩
theorem fc_88 : fw_cal 88 1 := ⟨tw_656, tw_8, ⟨by decide +kernel, by decide +kernel, by decide +kernel⟩, by decide +kernel⟩
theorem wv_Ep_103 {j : Nat} (hj : (tb_m j).1.cls = "WireHosts$Endpoint") : sv_wV j 103 88 1 := ⟨fc_88, by show Cond.methodLink _ _ _ ∈ tb_ws; rw [hj]; exact tw_653, tw_655, tp_21⟩
theorem mp_87 : plainName (tb_m 87).1.cls = true := by decide +kernel
theorem mc_123 : (tb_m 123).1.cls = "WireHosts$Endpoint" := rfl
theorem gf_Ep_136 {j : Nat} (hj : (tb_m j).1.cls = "WireHosts$Endpoint") : sv_gf j 136 8 1 := ⟨_, _, _, rfl, tu_8, by decide, Or.inr ⟨"WireHosts", by rw [hj]; exact tv_17⟩⟩
theorem gf_Ep_127 {j : Nat} (hj : (tb_m j).1.cls = "WireHosts$Endpoint") : sv_gf j 127 8 3 := ⟨_, _, _, rfl, tu_8, by decide, Or.inr ⟨"WireHosts", by rw [hj]; exact tv_19⟩⟩
theorem wm_Ep_170 {j : Nat} (hj : (tb_m j).1.cls = "WireHosts$Endpoint") : sv_wmn j 170 := ⟨by rw [hj]; exact tw_799, tw_421, tw_15, tw_422⟩
theorem mp_123 : plainName (tb_m 123).1.cls = true := by decide +kernel
theorem mc_122 : (tb_m 122).1.cls = "WireHosts$Endpoint" := rfl
theorem gf_Ep_140 {j : Nat} (hj : (tb_m j).1.cls = "WireHosts$Endpoint") : sv_gf j 140 7 9 := ⟨_, _, _, rfl, tu_7, by decide, Or.inl (by rw [hj]; exact tw_255)⟩
theorem fc_123 : fw_cal 123 0 := ⟨tw_803, tw_8, ⟨by decide +kernel, by decide +kernel, by decide +kernel⟩, by decide +kernel⟩
theorem wv_Ep_176 {j : Nat} (hj : (tb_m j).1.cls = "WireHosts$Endpoint") : sv_wV j 176 123 0 := ⟨fc_123, by show Cond.methodLink _ _ _ ∈ tb_ws; rw [hj]; exact tw_800, tw_802, tp_35⟩
theorem mp_122 : plainName (tb_m 122).1.cls = true := by decide +kernel
theorem mc_121 : (tb_m 121).1.cls = "WireHosts$Endpoint" := rfl
theorem fc_122 : fw_cal 122 0 := ⟨tw_798, tw_8, ⟨by decide +kernel, by decide +kernel, by decide +kernel⟩, by decide +kernel⟩
theorem wv_Ep_100 {j : Nat} (hj : (tb_m j).1.cls = "WireHosts$Endpoint") : sv_wV j 100 122 0 := ⟨fc_122, by show Cond.methodLink _ _ _ ∈ tb_ws; rw [hj]; exact tw_795, tw_797, tp_34⟩
theorem mp_121 : plainName (tb_m 121).1.cls = true := by decide +kernel
theorem mc_126 : (tb_m 126).1.cls = "WireHosts$Endpoint" := rfl
theorem gf_Ep_139 {j : Nat} (hj : (tb_m j).1.cls = "WireHosts$Endpoint") : sv_gf j 139 9 2 := ⟨_, _, _, rfl, tu_9, by decide, Or.inr ⟨"WireHosts", by rw [hj]; exact tv_23⟩⟩
theorem gf_Ep_133 {j : Nat} (hj : (tb_m j).1.cls = "WireHosts$Endpoint") : sv_gf j 133 8 5 := ⟨_, _, _, rfl, tu_8, by decide, Or.inr ⟨"WireHosts", by rw [hj]; exact tv_21⟩⟩
theorem mp_126 : plainName (tb_m 126).1.cls = true := by decide +kernel
theorem gf_Host_54 {j : Nat} (hj : (tb_m j).1.cls = "WireHosts$Host") : sv_gf j 54 2 5 := ⟨_, _, _, rfl, tu_2, by decide, Or.inl (by rw [hj]; exact tw_282)⟩
theorem mc_15 : (tb_m 15).1.cls = "WireHosts$Host" := rfl
theorem sr_2_5 {q : Nat} (hq : sv_isO (sg q) 2 = true) : sv_isR (sg q) 5 (sv_ref (sg q) 5) = true := sv_allb_of (f := fun q => sv_isR (sg q) 5 (sv_ref (sg q) 5)) (by decide +kernel) (by decide) hq
theorem st_2_5 {q : Nat} (hq : sv_isO (sg q) 2 = true) : sv_isO (sg (sv_ref (sg q) 5)) 7 = true := sv_allb_of (f := fun q => sv_isO (sg (sv_ref (sg q) 5)) 7) (by decide +kernel) (by decide) hq
theorem gf_Host_50 {j : Nat} (hj : (tb_m j).1.cls = "WireHosts$Host") : sv_gf j 50 2 4 := ⟨_, _, _, rfl, tu_2, by decide, Or.inl (by rw [hj]; exact tw_281)⟩
theorem sr_2_4 {q : Nat} (hq : sv_isO (sg q) 2 = true) : sv_isR (sg q) 4 (sv_ref (sg q) 4) = true := sv_allb_of (f := fun q => sv_isR (sg q) 4 (sv_ref (sg q) 4)) (by decide +kernel) (by decide) hq
theorem st_2_4 {q : Nat} (hq : sv_isO (sg q) 2 = true) : sv_isO (sg (sv_ref (sg q) 4)) 7 = true := sv_allb_of (f := fun q => sv_isO (sg (sv_ref (sg q) 4)) 7) (by decide +kernel) (by decide) hq
theorem mp_15 : plainName (tb_m 15).1.cls = true := by decide +kernel
theorem gf_Host_68 {j : Nat} (hj : (tb_m j).1.cls = "WireHosts$Host") : sv_gf j 68 2 9 := ⟨_, _, _, rfl, tu_2, by decide, Or.inl (by rw [hj]; exact tw_286)⟩
theorem mc_35 : (tb_m 35).1.cls = "WireHosts$Host" := rfl
theorem sr_2_9 {q : Nat} (hq : sv_isO (sg q) 2 = true) : sv_isR (sg q) 9 (sv_ref (sg q) 9) = true := sv_allb_of (f := fun q => sv_isR (sg q) 9 (sv_ref (sg q) 9)) (by decide +kernel) (by decide) hq
theorem st_2_9 {q : Nat} (hq : sv_isO (sg q) 2 = true) : sv_isA (sg (sv_ref (sg q) 9)) 0 34 = true := sv_allb_of (f := fun q => sv_isA (sg (sv_ref (sg q) 9)) 0 34) (by decide +kernel) (by decide) hq
theorem gf_Host_136 {j : Nat} (hj : (tb_m j).1.cls = "WireHosts$Host") : sv_gf j 136 2 11 := ⟨_, _, _, rfl, tu_2, by decide, Or.inl (by rw [hj]; exact tw_288)⟩
theorem sd_2_11 {q : Nat} (hq : sv_isO (sg q) 2 = true) : sv_dyn (sg q) 11 = true := sv_allb_of (f := fun q => sv_dyn (sg q) 11) (by decide +kernel) (by decide) hq
theorem gf_Host_71 {j : Nat} (hj : (tb_m j).1.cls = "WireHosts$Host") : sv_gf j 71 2 10 := ⟨_, _, _, rfl, tu_2, by decide, Or.inl (by rw [hj]; exact tw_287)⟩
theorem sr_2_10 {q : Nat} (hq : sv_isO (sg q) 2 = true) : sv_isR (sg q) 10 (sv_ref (sg q) 10) = true := sv_allb_of (f := fun q => sv_isR (sg q) 10 (sv_ref (sg q) 10)) (by decide +kernel) (by decide) hq
theorem st_2_10 {q : Nat} (hq : sv_isO (sg q) 2 = true) : sv_isA (sg (sv_ref (sg q) 10)) 0 49 = true := sv_allb_of (f := fun q => sv_isA (sg (sv_ref (sg q) 10)) 0 49) (by decide +kernel) (by decide) hq
theorem ws_Host_177 {j : Nat} (hj : (tb_m j).1.cls = "WireHosts$Host") : sv_wS j 177 23 3 := ⟨fc_23, by show Cond.methodLink _ _ _ ∈ tb_ws; rw [hj]; exact tw_427, tw_376⟩
theorem gf_Host_18 {j : Nat} (hj : (tb_m j).1.cls = "WireHosts$Host") : sv_gf j 18 2 0 := ⟨_, _, _, rfl, tu_2, by decide, Or.inl (by rw [hj]; exact tw_277)⟩
theorem si_2_0 {q : Nat} (hq : sv_isO (sg q) 2 = true) : sv_isI (sg q) 0 = true := sv_allb_of (f := fun q => sv_isI (sg q) 0) (by decide +kernel) (by decide) hq
theorem ws_Host_105 {j : Nat} (hj : (tb_m j).1.cls = "WireHosts$Host") : sv_wS j 105 26 1 := ⟨fc_26, by show Cond.methodLink _ _ _ ∈ tb_ws; rw [hj]; exact tw_428, tw_390⟩
theorem ws_Host_168 {j : Nat} (hj : (tb_m j).1.cls = "WireHosts$Host") : sv_wS j 168 28 4 := ⟨fc_28, by show Cond.methodLink _ _ _ ∈ tb_ws; rw [hj]; exact tw_429, tw_396⟩
theorem gf_Host_27 {j : Nat} (hj : (tb_m j).1.cls = "WireHosts$Host") : sv_gf j 27 2 1 := ⟨_, _, _, rfl, tu_2, by decide, Or.inl (by rw [hj]; exact tw_278)⟩
theorem sr_2_1 {q : Nat} (hq : sv_isO (sg q) 2 = true) : sv_isR (sg q) 1 (sv_ref (sg q) 1) = true := sv_allb_of (f := fun q => sv_isR (sg q) 1 (sv_ref (sg q) 1)) (by decide +kernel) (by decide) hq
theorem st_2_1 {q : Nat} (hq : sv_isO (sg q) 2 = true) : sv_isO (sg (sv_ref (sg q) 1)) 3 = true := sv_allb_of (f := fun q => sv_isO (sg (sv_ref (sg q) 1)) 3) (by decide +kernel) (by decide) hq
theorem fc_36 : fw_cal 36 2 := ⟨tw_434, tw_4, ⟨by decide +kernel, by decide +kernel, by decide +kernel⟩, by decide +kernel⟩
theorem wv_Host_184 {j : Nat} (hj : (tb_m j).1.cls = "WireHosts$Host") : sv_wV j 184 36 2 := ⟨fc_36, by show Cond.methodLink _ _ _ ∈ tb_ws; rw [hj]; exact tw_431, tw_432, tw_433⟩
theorem wc_Host_162 {j : Nat} (hj : (tb_m j).1.cls = "WireHosts$Host") : sv_wcp j 162 := ⟨by rw [hj]; exact tw_430, tw_388, tw_387, tw_14⟩
theorem mp_35 : plainName (tb_m 35).1.cls = true := by decide +kernel
theorem gf_Host_57 {j : Nat} (hj : (tb_m j).1.cls = "WireHosts$Host") : sv_gf j 57 2 6 := ⟨_, _, _, rfl, tu_2, by decide, Or.inl (by rw [hj]; exact tw_283)⟩
theorem mc_30 : (tb_m 30).1.cls = "WireHosts$Host" := rfl
theorem sr_2_6 {q : Nat} (hq : sv_isO (sg q) 2 = true) : sv_isR (sg q) 6 (sv_ref (sg q) 6) = true := sv_allb_of (f := fun q => sv_isR (sg q) 6 (sv_ref (sg q) 6)) (by decide +kernel) (by decide) hq
theorem st_2_6 {q : Nat} (hq : sv_isO (sg q) 2 = true) : sv_isO (sg (sv_ref (sg q) 6)) 1 = true := sv_allb_of (f := fun q => sv_isO (sg (sv_ref (sg q) 6)) 1) (by decide +kernel) (by decide) hq
theorem wv_Host_122 {j : Nat} (hj : (tb_m j).1.cls = "WireHosts$Host") : sv_wV j 122 31 0 := ⟨fc_31, by show Cond.methodLink _ _ _ ∈ tb_ws; rw [hj]; exact tw_408, tw_409, tw_410⟩
theorem wv_Host_81 {j : Nat} (hj : (tb_m j).1.cls = "WireHosts$Host") : sv_wV j 81 32 2 := ⟨fc_32, by show Cond.methodLink _ _ _ ∈ tb_ws; rw [hj]; exact tw_412, tw_413, tw_414⟩
theorem fc_35 : fw_cal 35 3 := ⟨tw_426, tw_3, ⟨by decide +kernel, by decide +kernel, by decide +kernel⟩, by decide +kernel⟩
theorem wv_Host_132 {j : Nat} (hj : (tb_m j).1.cls = "WireHosts$Host") : sv_wV j 132 35 3 := ⟨fc_35, by show Cond.methodLink _ _ _ ∈ tb_ws; rw [hj]; exact tw_423, tw_425, tp_5⟩
theorem pf_Host_136 {j : Nat} (hj : (tb_m j).1.cls = "WireHosts$Host") : sv_pf j 136 2 11 .int := ⟨_, _, _, tY_2, rfl, tu_2, by decide, Or.inl (by rw [hj]; exact tw_288), ty_2, tn_2, rfl, by decide +kernel⟩
theorem wm_Host_126 {j : Nat} (hj : (tb_m j).1.cls = "WireHosts$Host") : sv_wmn j 126 := ⟨by rw [hj]; exact tw_420, tw_421, tw_15, tw_422⟩
theorem mp_30 : plainName (tb_m 30).1.cls = true := by decide +kernel
theorem mc_65 : (tb_m 65).1.cls = "WireHosts$Host" := rfl
theorem wv_Host_181 {j : Nat} (hj : (tb_m j).1.cls = "WireHosts$Host") : sv_wV j 181 29 2 := ⟨fc_29, by show Cond.methodLink _ _ _ ∈ tb_ws; rw [hj]; exact tw_557, tw_400, tw_401⟩
theorem mp_65 : plainName (tb_m 65).1.cls = true := by decide +kernel
theorem mc_64 : (tb_m 64).1.cls = "WireHosts$Host" := rfl
theorem fc_65 : fw_cal 65 1 := ⟨tw_556, tw_3, ⟨by decide +kernel, by decide +kernel, by decide +kernel⟩, by decide +kernel⟩
theorem wv_Host_77 {j : Nat} (hj : (tb_m j).1.cls = "WireHosts$Host") : sv_wV j 77 65 1 := ⟨fc_65, by show Cond.methodLink _ _ _ ∈ tb_ws; rw [hj]; exact tw_553, tw_555, tp_14⟩
theorem mp_64 : plainName (tb_m 64).1.cls = true := by decide +kernel
theorem gf_Host_65 {j : Nat} (hj : (tb_m j).1.cls = "WireHosts$Host") : sv_gf j 65 2 8 := ⟨_, _, _, rfl, tu_2, by decide, Or.inl (by rw [hj]; exact tw_285)⟩
theorem mc_74 : (tb_m 74).1.cls = "WireHosts$Host" := rfl
theorem sr_2_8 {q : Nat} (hq : sv_isO (sg q) 2 = true) : sv_isR (sg q) 8 (sv_ref (sg q) 8) = true := sv_allb_of (f := fun q => sv_isR (sg q) 8 (sv_ref (sg q) 8)) (by decide +kernel) (by decide) hq
theorem st_2_8 {q : Nat} (hq : sv_isO (sg q) 2 = true) : sv_isA (sg (sv_ref (sg q) 8)) 0 37 = true := sv_allb_of (f := fun q => sv_isA (sg (sv_ref (sg q) 8)) 0 37) (by decide +kernel) (by decide) hq
theorem gf_Host_34 {j : Nat} (hj : (tb_m j).1.cls = "WireHosts$Host") : sv_gf j 34 2 2 := ⟨_, _, _, rfl, tu_2, by decide, Or.inl (by rw [hj]; exact tw_279)⟩
theorem sr_2_2 {q : Nat} (hq : sv_isO (sg q) 2 = true) : sv_isR (sg q) 2 (sv_ref (sg q) 2) = true := sv_allb_of (f := fun q => sv_isR (sg q) 2 (sv_ref (sg q) 2)) (by decide +kernel) (by decide) hq
theorem st_2_2 {q : Nat} (hq : sv_isO (sg q) 2 = true) : sv_isO (sg (sv_ref (sg q) 2)) 4 = true := sv_allb_of (f := fun q => sv_isO (sg (sv_ref (sg q) 2)) 4) (by decide +kernel) (by decide) hq
theorem fc_75 : fw_cal 75 2 := ⟨tw_600, tw_5, ⟨by decide +kernel, by decide +kernel, by decide +kernel⟩, by decide +kernel⟩
theorem wv_Host_174 {j : Nat} (hj : (tb_m j).1.cls = "WireHosts$Host") : sv_wV j 174 75 2 := ⟨fc_75, by show Cond.methodLink _ _ _ ∈ tb_ws; rw [hj]; exact tw_597, tw_598, tw_599⟩
theorem mp_74 : plainName (tb_m 74).1.cls = true := by decide +kernel
theorem mc_70 : (tb_m 70).1.cls = "WireHosts$Host" := rfl
theorem fc_71 : fw_cal 71 1 := ⟨tw_582, tw_4, ⟨by decide +kernel, by decide +kernel, by decide +kernel⟩, by decide +kernel⟩
theorem wv_Host_85 {j : Nat} (hj : (tb_m j).1.cls = "WireHosts$Host") : sv_wV j 85 71 1 := ⟨fc_71, by show Cond.methodLink _ _ _ ∈ tb_ws; rw [hj]; exact tw_579, tw_580, tw_581⟩
theorem fc_74 : fw_cal 74 1 := ⟨tw_596, tw_3, ⟨by decide +kernel, by decide +kernel, by decide +kernel⟩, by decide +kernel⟩
theorem wv_Host_93 {j : Nat} (hj : (tb_m j).1.cls = "WireHosts$Host") : sv_wV j 93 74 1 := ⟨fc_74, by show Cond.methodLink _ _ _ ∈ tb_ws; rw [hj]; exact tw_593, tw_595, tp_16⟩
theorem fc_72 : fw_cal 72 2 := ⟨tw_586, tw_4, ⟨by decide +kernel, by decide +kernel, by decide +kernel⟩, by decide +kernel⟩
theorem wv_Host_89 {j : Nat} (hj : (tb_m j).1.cls = "WireHosts$Host") : sv_wV j 89 72 2 := ⟨fc_72, by show Cond.methodLink _ _ _ ∈ tb_ws; rw [hj]; exact tw_583, tw_584, tw_585⟩
theorem mp_70 : plainName (tb_m 70).1.cls = true := by decide +kernel
theorem gf_Host_61 {j : Nat} (hj : (tb_m j).1.cls = "WireHosts$Host") : sv_gf j 61 2 7 := ⟨_, _, _, rfl, tu_2, by decide, Or.inl (by rw [hj]; exact tw_284)⟩
theorem mc_84 : (tb_m 84).1.cls = "WireHosts$Host" := rfl
theorem sr_2_7 {q : Nat} (hq : sv_isO (sg q) 2 = true) : sv_isR (sg q) 7 (sv_ref (sg q) 7) = true := sv_allb_of (f := fun q => sv_isR (sg q) 7 (sv_ref (sg q) 7)) (by decide +kernel) (by decide) hq
theorem st_2_7 {q : Nat} (hq : sv_isO (sg q) 2 = true) : sv_isA (sg (sv_ref (sg q) 7)) 0 48 = true := sv_allb_of (f := fun q => sv_isA (sg (sv_ref (sg q) 7)) 0 48) (by decide +kernel) (by decide) hq
theorem gf_Host_150 {j : Nat} (hj : (tb_m j).1.cls = "WireHosts$Host") : sv_gf j 150 2 12 := ⟨_, _, _, rfl, tu_2, by decide, Or.inl (by rw [hj]; exact tw_289)⟩
theorem sd_2_12 {q : Nat} (hq : sv_isO (sg q) 2 = true) : sv_dyn (sg q) 12 = true := sv_allb_of (f := fun q => sv_dyn (sg q) 12) (by decide +kernel) (by decide) hq
theorem pf_Host_150 {j : Nat} (hj : (tb_m j).1.cls = "WireHosts$Host") : sv_pf j 150 2 12 .int := ⟨_, _, _, tY_2, rfl, tu_2, by decide, Or.inl (by rw [hj]; exact tw_289), ty_2, tn_2, rfl, by decide +kernel⟩
theorem pf_Host_74 {j : Nat} (hj : (tb_m j).1.cls = "WireHosts$Host") : sv_pf j 74 2 13 .int := ⟨_, _, _, tY_2, rfl, tu_2, by decide, Or.inl (by rw [hj]; exact tw_290), ty_2, tn_2, rfl, by decide +kernel⟩
theorem sd_2_13 {q : Nat} (hq : sv_isO (sg q) 2 = true) : sv_dyn (sg q) 13 = true := sv_allb_of (f := fun q => sv_dyn (sg q) 13) (by decide +kernel) (by decide) hq
theorem mp_84 : plainName (tb_m 84).1.cls = true := by decide +kernel
theorem mc_83 : (tb_m 83).1.cls = "WireHosts$Host" := rfl
theorem gf_Host_96 {j : Nat} (hj : (tb_m j).1.cls = "WireHosts$Host") : sv_gf j 96 4 4 := ⟨_, _, _, rfl, tu_4, by decide, Or.inr ⟨"WireHosts", by rw [hj]; exact tv_10⟩⟩
theorem gf_Host_41 {j : Nat} (hj : (tb_m j).1.cls = "WireHosts$Host") : sv_gf j 41 2 3 := ⟨_, _, _, rfl, tu_2, by decide, Or.inl (by rw [hj]; exact tw_280)⟩
theorem sr_2_3 {q : Nat} (hq : sv_isO (sg q) 2 = true) : sv_isR (sg q) 3 (sv_ref (sg q) 3) = true := sv_allb_of (f := fun q => sv_isR (sg q) 3 (sv_ref (sg q) 3)) (by decide +kernel) (by decide) hq
theorem st_2_3 {q : Nat} (hq : sv_isO (sg q) 2 = true) : sv_isO (sg (sv_ref (sg q) 3)) 6 = true := sv_allb_of (f := fun q => sv_isO (sg (sv_ref (sg q) 3)) 6) (by decide +kernel) (by decide) hq
theorem gf_Host_99 {j : Nat} (hj : (tb_m j).1.cls = "WireHosts$Host") : sv_gf j 99 4 3 := ⟨_, _, _, rfl, tu_4, by decide, Or.inr ⟨"WireHosts", by rw [hj]; exact tv_9⟩⟩
theorem fc_85 : fw_cal 85 3 := ⟨tw_642, tw_7, ⟨by decide +kernel, by decide +kernel, by decide +kernel⟩, by decide +kernel⟩
theorem wv_Host_109 {j : Nat} (hj : (tb_m j).1.cls = "WireHosts$Host") : sv_wV j 109 85 3 := ⟨fc_85, by show Cond.methodLink _ _ _ ∈ tb_ws; rw [hj]; exact tw_639, tw_640, tw_641⟩
theorem gf_Host_113 {j : Nat} (hj : (tb_m j).1.cls = "WireHosts$Host") : sv_gf j 113 6 2 := ⟨_, _, _, rfl, tu_6, by decide, Or.inr ⟨"WireHosts", by rw [hj]; exact tv_12⟩⟩
theorem fc_15 : fw_cal 15 1 := ⟨tw_345, tw_3, ⟨by decide +kernel, by decide +kernel, by decide +kernel⟩, by decide +kernel⟩
theorem wv_Host_114 {j : Nat} (hj : (tb_m j).1.cls = "WireHosts$Host") : sv_wV j 114 15 1 := ⟨fc_15, by show Cond.methodLink _ _ _ ∈ tb_ws; rw [hj]; exact tw_648, tw_343, tw_344⟩
theorem fc_87 : fw_cal 87 2 := ⟨tw_652, tw_8, ⟨by decide +kernel, by decide +kernel, by decide +kernel⟩, by decide +kernel⟩
theorem wv_Host_118 {j : Nat} (hj : (tb_m j).1.cls = "WireHosts$Host") : sv_wV j 118 87 2 := ⟨fc_87, by show Cond.methodLink _ _ _ ∈ tb_ws; rw [hj]; exact tw_649, tw_650, tw_651⟩
theorem fc_84 : fw_cal 84 1 := ⟨tw_638, tw_3, ⟨by decide +kernel, by decide +kernel, by decide +kernel⟩, by decide +kernel⟩
theorem wv_Host_102 {j : Nat} (hj : (tb_m j).1.cls = "WireHosts$Host") : sv_wV j 102 84 1 := ⟨fc_84, by show Cond.methodLink _ _ _ ∈ tb_ws; rw [hj]; exact tw_635, tw_637, tp_20⟩
theorem mp_83 : plainName (tb_m 83).1.cls = true := by decide +kernel
theorem mc_117 : (tb_m 117).1.cls = "WireHosts$Host" := rfl
theorem fc_118 : fw_cal 118 0 := ⟨tw_782, tw_4, ⟨by decide +kernel, by decide +kernel, by decide +kernel⟩, by decide +kernel⟩
theorem wv_Host_139 {j : Nat} (hj : (tb_m j).1.cls = "WireHosts$Host") : sv_wV j 139 118 0 := ⟨fc_118, by show Cond.methodLink _ _ _ ∈ tb_ws; rw [hj]; exact tw_779, tw_780, tw_781⟩
theorem fc_119 : fw_cal 119 0 := ⟨tw_786, tw_5, ⟨by decide +kernel, by decide +kernel, by decide +kernel⟩, by decide +kernel⟩
theorem wv_Host_142 {j : Nat} (hj : (tb_m j).1.cls = "WireHosts$Host") : sv_wV j 142 119 0 := ⟨fc_119, by show Cond.methodLink _ _ _ ∈ tb_ws; rw [hj]; exact tw_783, tw_784, tw_785⟩
theorem fc_121 : fw_cal 121 0 := ⟨tw_794, tw_8, ⟨by decide +kernel, by decide +kernel, by decide +kernel⟩, by decide +kernel⟩
theorem wv_Host_143 {j : Nat} (hj : (tb_m j).1.cls = "WireHosts$Host") : sv_wV j 143 121 0 := ⟨fc_121, by show Cond.methodLink _ _ _ ∈ tb_ws; rw [hj]; exact tw_791, tw_792, tw_793⟩
theorem mp_117 : plainName (tb_m 117).1.cls = true := by decide +kernel
theorem mc_128 : (tb_m 128).1.cls = "WireHosts$Host" := rfl
theorem gf_Host_159 {j : Nat} (hj : (tb_m j).1.cls = "WireHosts$Host") : sv_gf j 159 3 5 := ⟨_, _, _, rfl, tu_3, by decide, Or.inr ⟨"WireHosts", by rw [hj]; exact tv_2⟩⟩
theorem gf_Host_156 {j : Nat} (hj : (tb_m j).1.cls = "WireHosts$Host") : sv_gf j 156 3 6 := ⟨_, _, _, rfl, tu_3, by decide, Or.inr ⟨"WireHosts", by rw [hj]; exact tv_3⟩⟩
theorem fc_129 : fw_cal 129 0 := ⟨tw_829, tw_5, ⟨by decide +kernel, by decide +kernel, by decide +kernel⟩, by decide +kernel⟩
theorem wv_Host_153 {j : Nat} (hj : (tb_m j).1.cls = "WireHosts$Host") : sv_wV j 153 129 0 := ⟨fc_129, by show Cond.methodLink _ _ _ ∈ tb_ws; rw [hj]; exact tw_826, tw_827, tw_828⟩
theorem gf_Host_74 {j : Nat} (hj : (tb_m j).1.cls = "WireHosts$Host") : sv_gf j 74 2 13 := ⟨_, _, _, rfl, tu_2, by decide, Or.inl (by rw [hj]; exact tw_290)⟩
theorem gf_Host_147 {j : Nat} (hj : (tb_m j).1.cls = "WireHosts$Host") : sv_gf j 147 3 2 := ⟨_, _, _, rfl, tu_3, by decide, Or.inr ⟨"WireHosts", by rw [hj]; exact tv_0⟩⟩
theorem gf_Host_144 {j : Nat} (hj : (tb_m j).1.cls = "WireHosts$Host") : sv_gf j 144 3 4 := ⟨_, _, _, rfl, tu_3, by decide, Or.inr ⟨"WireHosts", by rw [hj]; exact tv_1⟩⟩
theorem mp_128 : plainName (tb_m 128).1.cls = true := by decide +kernel
theorem so_0 : sv_isO (sg 0) 0 = true := rfl
theorem mp_14 : plainName (tb_m 14).1.cls = true := by decide +kernel
theorem fc_14 : fw_cal 14 1 := ⟨tw_341, tw_1, ⟨by decide +kernel, by decide +kernel, by decide +kernel⟩, by decide +kernel⟩
theorem wv_W_63 {j : Nat} (hj : (tb_m j).1.cls = "WireHosts") : sv_wV j 63 14 1 := ⟨fc_14, by show Cond.methodLink _ _ _ ∈ tb_ws; rw [hj]; exact tw_338, tw_340, tp_1⟩
theorem mc_13 : (tb_m 13).1.cls = "WireHosts" := rfl
theorem gf_W_25 {j : Nat} (hj : (tb_m j).1.cls = "WireHosts") : sv_gf j 25 0 1 := ⟨_, _, _, rfl, tu_0, by decide, Or.inl (by rw [hj]; exact tw_321)⟩
theorem sm_0_1 : sv_isR (sg 0) 1 8 = true := rfl
theorem sq_8 : sg 8 = .inr (.inr (3, [9, 42])) := rfl
theorem wv_W_111 {j : Nat} (hj : (tb_m j).1.cls = "WireHosts") : sv_wV j 111 15 1 := ⟨fc_15, by show Cond.methodLink _ _ _ ∈ tb_ws; rw [hj]; exact tw_342, tw_343, tw_344⟩
theorem mp_13 : plainName (tb_m 13).1.cls = true := by decide +kernel
theorem fc_13 : fw_cal 13 2 := ⟨tw_337, tw_1, ⟨by decide +kernel, by decide +kernel, by decide +kernel⟩, by decide +kernel⟩
theorem wv_W_29 {j : Nat} (hj : (tb_m j).1.cls = "WireHosts") : sv_wV j 29 13 2 := ⟨fc_13, by show Cond.methodLink _ _ _ ∈ tb_ws; rw [hj]; exact tw_334, tw_336, tp_0⟩
theorem mc_12 : (tb_m 12).1.cls = "WireHosts" := rfl
theorem fc_16 : fw_cal 16 0 := ⟨tw_349, tw_8, ⟨by decide +kernel, by decide +kernel, by decide +kernel⟩, by decide +kernel⟩
theorem wv_W_33 {j : Nat} (hj : (tb_m j).1.cls = "WireHosts") : sv_wV j 33 16 0 := ⟨fc_16, by show Cond.methodLink _ _ _ ∈ tb_ws; rw [hj]; exact tw_346, tw_347, tw_348⟩
theorem mp_12 : plainName (tb_m 12).1.cls = true := by decide +kernel
theorem mc_17 : (tb_m 17).1.cls = "WireHosts" := rfl
theorem gf_W_39 {j : Nat} (hj : (tb_m j).1.cls = "WireHosts") : sv_gf j 39 0 2 := ⟨_, _, _, rfl, tu_0, by decide, Or.inl (by rw [hj]; exact tw_322)⟩
theorem sd_0_2 {q : Nat} (hq : sv_isO (sg q) 0 = true) : sv_dyn (sg q) 2 = true := sv_allb_of (f := fun q => sv_dyn (sg q) 2) (by decide +kernel) (by decide) hq
theorem fc_18 : fw_cal 18 1 := ⟨tw_357, tw_8, ⟨by decide +kernel, by decide +kernel, by decide +kernel⟩, by decide +kernel⟩
theorem wv_W_43 {j : Nat} (hj : (tb_m j).1.cls = "WireHosts") : sv_wV j 43 18 1 := ⟨fc_18, by show Cond.methodLink _ _ _ ∈ tb_ws; rw [hj]; exact tw_354, tw_355, tw_356⟩
theorem fc_30 : fw_cal 30 0 := ⟨tw_407, tw_3, ⟨by decide +kernel, by decide +kernel, by decide +kernel⟩, by decide +kernel⟩
theorem wv_W_47 {j : Nat} (hj : (tb_m j).1.cls = "WireHosts") : sv_wV j 47 30 0 := ⟨fc_30, by show Cond.methodLink _ _ _ ∈ tb_ws; rw [hj]; exact tw_404, tw_405, tw_406⟩
theorem mp_17 : plainName (tb_m 17).1.cls = true := by decide +kernel
theorem mc_39 : (tb_m 39).1.cls = "WireHosts" := rfl
theorem fc_40 : fw_cal 40 1 := ⟨tw_453, tw_8, ⟨by decide +kernel, by decide +kernel, by decide +kernel⟩, by decide +kernel⟩
theorem wv_W_50 {j : Nat} (hj : (tb_m j).1.cls = "WireHosts") : sv_wV j 50 40 1 := ⟨fc_40, by show Cond.methodLink _ _ _ ∈ tb_ws; rw [hj]; exact tw_450, tw_451, tw_452⟩
theorem mp_39 : plainName (tb_m 39).1.cls = true := by decide +kernel
theorem mc_51 : (tb_m 51).1.cls = "WireHosts" := rfl
theorem fc_52 : fw_cal 52 0 := ⟨tw_503, tw_8, ⟨by decide +kernel, by decide +kernel, by decide +kernel⟩, by decide +kernel⟩
theorem wv_W_53 {j : Nat} (hj : (tb_m j).1.cls = "WireHosts") : sv_wV j 53 52 0 := ⟨fc_52, by show Cond.methodLink _ _ _ ∈ tb_ws; rw [hj]; exact tw_500, tw_501, tw_502⟩
theorem mp_51 : plainName (tb_m 51).1.cls = true := by decide +kernel
theorem mc_56 : (tb_m 56).1.cls = "WireHosts" := rfl
theorem fc_57 : fw_cal 57 0 := ⟨tw_524, tw_8, ⟨by decide +kernel, by decide +kernel, by decide +kernel⟩, by decide +kernel⟩
theorem wv_W_57 {j : Nat} (hj : (tb_m j).1.cls = "WireHosts") : sv_wV j 57 57 0 := ⟨fc_57, by show Cond.methodLink _ _ _ ∈ tb_ws; rw [hj]; exact tw_521, tw_522, tw_523⟩
theorem mp_56 : plainName (tb_m 56).1.cls = true := by decide +kernel
theorem mc_61 : (tb_m 61).1.cls = "WireHosts" := rfl
theorem fc_62 : fw_cal 62 0 := ⟨tw_544, tw_8, ⟨by decide +kernel, by decide +kernel, by decide +kernel⟩, by decide +kernel⟩
theorem wv_W_60 {j : Nat} (hj : (tb_m j).1.cls = "WireHosts") : sv_wV j 60 62 0 := ⟨fc_62, by show Cond.methodLink _ _ _ ∈ tb_ws; rw [hj]; exact tw_541, tw_542, tw_543⟩
theorem mp_61 : plainName (tb_m 61).1.cls = true := by decide +kernel
theorem mc_63 : (tb_m 63).1.cls = "WireHosts" := rfl
theorem fc_64 : fw_cal 64 2 := ⟨tw_552, tw_3, ⟨by decide +kernel, by decide +kernel, by decide +kernel⟩, by decide +kernel⟩
theorem wv_W_66 {j : Nat} (hj : (tb_m j).1.cls = "WireHosts") : sv_wV j 66 64 2 := ⟨fc_64, by show Cond.methodLink _ _ _ ∈ tb_ws; rw [hj]; exact tw_549, tw_550, tw_551⟩
theorem mp_63 : plainName (tb_m 63).1.cls = true := by decide +kernel
theorem mc_67 : (tb_m 67).1.cls = "WireHosts" := rfl
theorem gf_W_16 {j : Nat} (hj : (tb_m j).1.cls = "WireHosts") : sv_gf j 16 0 0 := ⟨_, _, _, rfl, tu_0, by decide, Or.inl (by rw [hj]; exact tw_320)⟩
theorem sm_0_0 : sv_isR (sg 0) 0 7 = true := rfl
theorem sq_7 : sg 7 = .inr (.inr (2, [1, 4])) := rfl
theorem wv_W_101 {j : Nat} (hj : (tb_m j).1.cls = "WireHosts") : sv_wV j 101 31 0 := ⟨fc_31, by show Cond.methodLink _ _ _ ∈ tb_ws; rw [hj]; exact tw_566, tw_409, tw_410⟩
theorem mp_67 : plainName (tb_m 67).1.cls = true := by decide +kernel
theorem fc_67 : fw_cal 67 1 := ⟨tw_565, tw_1, ⟨by decide +kernel, by decide +kernel, by decide +kernel⟩, by decide +kernel⟩
theorem wv_W_70 {j : Nat} (hj : (tb_m j).1.cls = "WireHosts") : sv_wV j 70 67 1 := ⟨fc_67, by show Cond.methodLink _ _ _ ∈ tb_ws; rw [hj]; exact tw_562, tw_563, tw_564⟩
theorem mc_66 : (tb_m 66).1.cls = "WireHosts" := rfl
theorem fc_68 : fw_cal 68 2 := ⟨tw_570, tw_2, ⟨by decide +kernel, by decide +kernel, by decide +kernel⟩, by decide +kernel⟩
theorem wv_W_74 {j : Nat} (hj : (tb_m j).1.cls = "WireHosts") : sv_wV j 74 68 2 := ⟨fc_68, by show Cond.methodLink _ _ _ ∈ tb_ws; rw [hj]; exact tw_567, tw_568, tw_569⟩
theorem fc_70 : fw_cal 70 1 := ⟨tw_578, tw_3, ⟨by decide +kernel, by decide +kernel, by decide +kernel⟩, by decide +kernel⟩
theorem wv_W_78 {j : Nat} (hj : (tb_m j).1.cls = "WireHosts") : sv_wV j 78 70 1 := ⟨fc_70, by show Cond.methodLink _ _ _ ∈ tb_ws; rw [hj]; exact tw_575, tw_576, tw_577⟩
theorem fc_83 : fw_cal 83 1 := ⟨tw_634, tw_3, ⟨by decide +kernel, by decide +kernel, by decide +kernel⟩, by decide +kernel⟩
theorem wv_W_82 {j : Nat} (hj : (tb_m j).1.cls = "WireHosts") : sv_wV j 82 83 1 := ⟨fc_83, by show Cond.methodLink _ _ _ ∈ tb_ws; rw [hj]; exact tw_631, tw_632, tw_633⟩
theorem mp_66 : plainName (tb_m 66).1.cls = true := by decide +kernel
theorem mc_110 : (tb_m 110).1.cls = "WireHosts" := rfl
theorem fc_113 : fw_cal 113 0 := ⟨tw_762, tw_2, ⟨by decide +kernel, by decide +kernel, by decide +kernel⟩, by decide +kernel⟩
theorem wv_W_92 {j : Nat} (hj : (tb_m j).1.cls = "WireHosts") : sv_wV j 92 113 0 := ⟨fc_113, by show Cond.methodLink _ _ _ ∈ tb_ws; rw [hj]; exact tw_759, tw_760, tw_761⟩
theorem fc_111 : fw_cal 111 0 := ⟨tw_754, tw_2, ⟨by decide +kernel, by decide +kernel, by decide +kernel⟩, by decide +kernel⟩
theorem wv_W_89 {j : Nat} (hj : (tb_m j).1.cls = "WireHosts") : sv_wV j 89 111 0 := ⟨fc_111, by show Cond.methodLink _ _ _ ∈ tb_ws; rw [hj]; exact tw_751, tw_752, tw_753⟩
theorem wv_W_86 {j : Nat} (hj : (tb_m j).1.cls = "WireHosts") : sv_wV j 86 33 0 := ⟨fc_33, by show Cond.methodLink _ _ _ ∈ tb_ws; rw [hj]; exact tw_750, tw_417, tw_418⟩
theorem mp_110 : plainName (tb_m 110).1.cls = true := by decide +kernel
theorem mc_114 : (tb_m 114).1.cls = "WireHosts" := rfl
theorem fc_115 : fw_cal 115 2 := ⟨tw_770, tw_2, ⟨by decide +kernel, by decide +kernel, by decide +kernel⟩, by decide +kernel⟩
theorem wv_W_95 {j : Nat} (hj : (tb_m j).1.cls = "WireHosts") : sv_wV j 95 115 2 := ⟨fc_115, by show Cond.methodLink _ _ _ ∈ tb_ws; rw [hj]; exact tw_767, tw_768, tw_769⟩
theorem mp_114 : plainName (tb_m 114).1.cls = true := by decide +kernel
theorem mc_116 : (tb_m 116).1.cls = "WireHosts" := rfl
theorem pf_W_39 {j : Nat} (hj : (tb_m j).1.cls = "WireHosts") : sv_pf j 39 0 2 .int := ⟨_, _, _, tY_0, rfl, tu_0, by decide, Or.inl (by rw [hj]; exact tw_322), ty_0, tn_0, rfl, by decide +kernel⟩
theorem fc_117 : fw_cal 117 0 := ⟨tw_778, tw_3, ⟨by decide +kernel, by decide +kernel, by decide +kernel⟩, by decide +kernel⟩
theorem wv_W_98 {j : Nat} (hj : (tb_m j).1.cls = "WireHosts") : sv_wV j 98 117 0 := ⟨fc_117, by show Cond.methodLink _ _ _ ∈ tb_ws; rw [hj]; exact tw_775, tw_776, tw_777⟩
theorem mp_116 : plainName (tb_m 116).1.cls = true := by decide +kernel
theorem mc_124 : (tb_m 124).1.cls = "WireHosts" := rfl
theorem wv_W_104 {j : Nat} (hj : (tb_m j).1.cls = "WireHosts") : sv_wV j 104 69 1 := ⟨fc_69, by show Cond.methodLink _ _ _ ∈ tb_ws; rw [hj]; exact tw_809, tw_572, tw_573⟩
theorem mp_124 : plainName (tb_m 124).1.cls = true := by decide +kernel
theorem mc_125 : (tb_m 125).1.cls = "WireHosts" := rfl
theorem fc_126 : fw_cal 126 1 := ⟨tw_817, tw_8, ⟨by decide +kernel, by decide +kernel, by decide +kernel⟩, by decide +kernel⟩
theorem wv_W_107 {j : Nat} (hj : (tb_m j).1.cls = "WireHosts") : sv_wV j 107 126 1 := ⟨fc_126, by show Cond.methodLink _ _ _ ∈ tb_ws; rw [hj]; exact tw_814, tw_815, tw_816⟩
theorem mp_125 : plainName (tb_m 125).1.cls = true := by decide +kernel
theorem mc_127 : (tb_m 127).1.cls = "WireHosts" := rfl
theorem fc_128 : fw_cal 128 1 := ⟨tw_825, tw_3, ⟨by decide +kernel, by decide +kernel, by decide +kernel⟩, by decide +kernel⟩
theorem wv_W_110 {j : Nat} (hj : (tb_m j).1.cls = "WireHosts") : sv_wV j 110 128 1 := ⟨fc_128, by show Cond.methodLink _ _ _ ∈ tb_ws; rw [hj]; exact tw_822, tw_823, tw_824⟩
theorem mp_127 : plainName (tb_m 127).1.cls = true := by decide +kernel
theorem mp_132 : plainName (tb_m 132).1.cls = true := by decide +kernel
theorem so_75 : sv_isO (sg 75) 10 = true := rfl
theorem gf_M_128 {j : Nat} (hj : (tb_m j).1.cls = "WireHostsModel") : sv_gf j 128 10 42 := ⟨_, _, _, rfl, tu_10, by decide, Or.inl (by rw [hj]; exact tw_878)⟩
theorem mc_134 : (tb_m 134).1.cls = "WireHostsModel" := rfl
theorem sm_75_42 : sv_isR (sg 75) 42 115 = true := rfl
theorem sa_115 : sv_isA (sg 115) 0 64 = true := rfl
theorem pf_M_134 {j : Nat} (hj : (tb_m j).1.cls = "WireHostsModel") : sv_pf j 134 10 43 .int := ⟨_, _, _, tY_10, rfl, tu_10, by decide, Or.inl (by rw [hj]; exact tw_879), ty_10, tn_10, rfl, by decide +kernel⟩
theorem sd_10_43 {q : Nat} (hq : sv_isO (sg q) 10 = true) : sv_dyn (sg q) 43 = true := sv_allb_of (f := fun q => sv_dyn (sg q) 43) (by decide +kernel) (by decide) hq
theorem mp_134 : plainName (tb_m 134).1.cls = true := by decide +kernel
theorem gf_M_134 {j : Nat} (hj : (tb_m j).1.cls = "WireHostsModel") : sv_gf j 134 10 43 := ⟨_, _, _, rfl, tu_10, by decide, Or.inl (by rw [hj]; exact tw_879)⟩
theorem mc_135 : (tb_m 135).1.cls = "WireHostsModel" := rfl
theorem mp_135 : plainName (tb_m 135).1.cls = true := by decide +kernel
theorem gf_M_7 {j : Nat} (hj : (tb_m j).1.cls = "WireHostsModel") : sv_gf j 7 10 1 := ⟨_, _, _, rfl, tu_10, by decide, Or.inl (by rw [hj]; exact tw_837)⟩
theorem mc_140 : (tb_m 140).1.cls = "WireHostsModel" := rfl
theorem sm_75_1 : sv_isR (sg 75) 1 76 = true := rfl
theorem sa_76 : sv_isA (sg 76) 0 2 = true := rfl
theorem gf_M_13 {j : Nat} (hj : (tb_m j).1.cls = "WireHostsModel") : sv_gf j 13 10 2 := ⟨_, _, _, rfl, tu_10, by decide, Or.inl (by rw [hj]; exact tw_838)⟩
theorem sm_75_2 : sv_isR (sg 75) 2 77 = true := rfl
theorem sa_77 : sv_isA (sg 77) 0 32 = true := rfl
theorem gf_M_144 {j : Nat} (hj : (tb_m j).1.cls = "WireHostsModel") : sv_gf j 144 10 39 := ⟨_, _, _, rfl, tu_10, by decide, Or.inl (by rw [hj]; exact tw_875)⟩
theorem sd_10_39 {q : Nat} (hq : sv_isO (sg q) 10 = true) : sv_dyn (sg q) 39 = true := sv_allb_of (f := fun q => sv_dyn (sg q) 39) (by decide +kernel) (by decide) hq
theorem gf_M_16 {j : Nat} (hj : (tb_m j).1.cls = "WireHostsModel") : sv_gf j 16 10 3 := ⟨_, _, _, rfl, tu_10, by decide, Or.inl (by rw [hj]; exact tw_839)⟩
theorem sm_75_3 : sv_isR (sg 75) 3 78 = true := rfl
theorem sa_78 : sv_isA (sg 78) 0 1280 = true := rfl
theorem gf_M_122 {j : Nat} (hj : (tb_m j).1.cls = "WireHostsModel") : sv_gf j 122 10 38 := ⟨_, _, _, rfl, tu_10, by decide, Or.inl (by rw [hj]; exact tw_874)⟩
theorem sm_75_38 : sv_isR (sg 75) 38 113 = true := rfl
theorem sa_113 : sv_isA (sg 113) 0 40 = true := rfl
theorem mp_140 : plainName (tb_m 140).1.cls = true := by decide +kernel
theorem gf_M_131 {j : Nat} (hj : (tb_m j).1.cls = "WireHostsModel") : sv_gf j 131 10 44 := ⟨_, _, _, rfl, tu_10, by decide, Or.inl (by rw [hj]; exact tw_880)⟩
theorem mc_139 : (tb_m 139).1.cls = "WireHostsModel" := rfl
theorem sm_75_44 : sv_isR (sg 75) 44 116 = true := rfl
theorem sa_116 : sv_isA (sg 116) 0 40 = true := rfl
theorem gf_M_34 {j : Nat} (hj : (tb_m j).1.cls = "WireHostsModel") : sv_gf j 34 10 9 := ⟨_, _, _, rfl, tu_10, by decide, Or.inl (by rw [hj]; exact tw_845)⟩
theorem sm_75_9 : sv_isR (sg 75) 9 84 = true := rfl
theorem sa_84 : sv_isA (sg 84) 0 2 = true := rfl
theorem pf_M_144 {j : Nat} (hj : (tb_m j).1.cls = "WireHostsModel") : sv_pf j 144 10 39 .int := ⟨_, _, _, tY_10, rfl, tu_10, by decide, Or.inl (by rw [hj]; exact tw_875), ty_10, tn_10, rfl, by decide +kernel⟩
theorem fc_140 : fw_cal 140 1 := ⟨tw_1028, tw_12, ⟨by decide +kernel, by decide +kernel, by decide +kernel⟩, by decide +kernel⟩
theorem wv_M_147 {j : Nat} (hj : (tb_m j).1.cls = "WireHostsModel") : sv_wV j 147 140 1 := ⟨fc_140, by show Cond.methodLink _ _ _ ∈ tb_ws; rw [hj]; exact tw_1025, tw_1027, tp_43⟩
theorem mp_139 : plainName (tb_m 139).1.cls = true := by decide +kernel
theorem mc_141 : (tb_m 141).1.cls = "WireHostsModel" := rfl
theorem mp_141 : plainName (tb_m 141).1.cls = true := by decide +kernel
theorem gf_M_31 {j : Nat} (hj : (tb_m j).1.cls = "WireHostsModel") : sv_gf j 31 10 8 := ⟨_, _, _, rfl, tu_10, by decide, Or.inl (by rw [hj]; exact tw_844)⟩
theorem mc_138 : (tb_m 138).1.cls = "WireHostsModel" := rfl
theorem sm_75_8 : sv_isR (sg 75) 8 83 = true := rfl
theorem sa_83 : sv_isA (sg 83) 0 2 = true := rfl
theorem gf_M_19 {j : Nat} (hj : (tb_m j).1.cls = "WireHostsModel") : sv_gf j 19 10 4 := ⟨_, _, _, rfl, tu_10, by decide, Or.inl (by rw [hj]; exact tw_840)⟩
theorem sm_75_4 : sv_isR (sg 75) 4 79 = true := rfl
theorem sa_79 : sv_isA (sg 79) 0 2 = true := rfl
theorem gf_M_28 {j : Nat} (hj : (tb_m j).1.cls = "WireHostsModel") : sv_gf j 28 10 7 := ⟨_, _, _, rfl, tu_10, by decide, Or.inl (by rw [hj]; exact tw_843)⟩
theorem sm_75_7 : sv_isR (sg 75) 7 82 = true := rfl
theorem sa_82 : sv_isA (sg 82) 0 2 = true := rfl
theorem fc_141 : fw_cal 141 3 := ⟨tw_1032, tw_12, ⟨by decide +kernel, by decide +kernel, by decide +kernel⟩, by decide +kernel⟩
theorem wv_M_154 {j : Nat} (hj : (tb_m j).1.cls = "WireHostsModel") : sv_wV j 154 141 3 := ⟨fc_141, by show Cond.methodLink _ _ _ ∈ tb_ws; rw [hj]; exact tw_1029, tw_1031, tp_44⟩
theorem gf_M_22 {j : Nat} (hj : (tb_m j).1.cls = "WireHostsModel") : sv_gf j 22 10 5 := ⟨_, _, _, rfl, tu_10, by decide, Or.inl (by rw [hj]; exact tw_841)⟩
theorem sm_75_5 : sv_isR (sg 75) 5 80 = true := rfl
theorem sa_80 : sv_isA (sg 80) 0 8 = true := rfl
theorem gf_M_25 {j : Nat} (hj : (tb_m j).1.cls = "WireHostsModel") : sv_gf j 25 10 6 := ⟨_, _, _, rfl, tu_10, by decide, Or.inl (by rw [hj]; exact tw_842)⟩
theorem sm_75_6 : sv_isR (sg 75) 6 81 = true := rfl
theorem sa_81 : sv_isA (sg 81) 0 320 = true := rfl
theorem fc_139 : fw_cal 139 1 := ⟨tw_1024, tw_12, ⟨by decide +kernel, by decide +kernel, by decide +kernel⟩, by decide +kernel⟩
theorem wv_M_151 {j : Nat} (hj : (tb_m j).1.cls = "WireHostsModel") : sv_wV j 151 139 1 := ⟨fc_139, by show Cond.methodLink _ _ _ ∈ tb_ws; rw [hj]; exact tw_1021, tw_1023, tp_42⟩
theorem mp_138 : plainName (tb_m 138).1.cls = true := by decide +kernel
theorem mc_137 : (tb_m 137).1.cls = "WireHostsModel" := rfl
theorem gf_M_37 {j : Nat} (hj : (tb_m j).1.cls = "WireHostsModel") : sv_gf j 37 10 10 := ⟨_, _, _, rfl, tu_10, by decide, Or.inl (by rw [hj]; exact tw_846)⟩
theorem sm_75_10 : sv_isR (sg 75) 10 85 = true := rfl
theorem sa_85 : sv_isA (sg 85) 0 2 = true := rfl
theorem fc_134 : fw_cal 134 2 := ⟨tw_1002, tw_12, ⟨by decide +kernel, by decide +kernel, by decide +kernel⟩, by decide +kernel⟩
theorem wv_M_158 {j : Nat} (hj : (tb_m j).1.cls = "WireHostsModel") : sv_wV j 158 134 2 := ⟨fc_134, by show Cond.methodLink _ _ _ ∈ tb_ws; rw [hj]; exact tw_999, tw_1001, tp_37⟩
theorem fc_135 : fw_cal 135 0 := ⟨tw_1006, tw_12, ⟨by decide +kernel, by decide +kernel, by decide +kernel⟩, by decide +kernel⟩
theorem wv_M_162 {j : Nat} (hj : (tb_m j).1.cls = "WireHostsModel") : sv_wV j 162 135 0 := ⟨fc_135, by show Cond.methodLink _ _ _ ∈ tb_ws; rw [hj]; exact tw_1003, tw_1005, tp_38⟩
theorem gf_M_125 {j : Nat} (hj : (tb_m j).1.cls = "WireHostsModel") : sv_gf j 125 10 40 := ⟨_, _, _, rfl, tu_10, by decide, Or.inl (by rw [hj]; exact tw_876)⟩
theorem sm_75_40 : sv_isR (sg 75) 40 114 = true := rfl
theorem sa_114 : sv_isA (sg 114) 0 64 = true := rfl
theorem fc_138 : fw_cal 138 1 := ⟨tw_1020, tw_12, ⟨by decide +kernel, by decide +kernel, by decide +kernel⟩, by decide +kernel⟩
theorem wv_M_166 {j : Nat} (hj : (tb_m j).1.cls = "WireHostsModel") : sv_wV j 166 138 1 := ⟨fc_138, by show Cond.methodLink _ _ _ ∈ tb_ws; rw [hj]; exact tw_1017, tw_1019, tp_41⟩
theorem mp_137 : plainName (tb_m 137).1.cls = true := by decide +kernel
theorem gf_M_169 {j : Nat} (hj : (tb_m j).1.cls = "WireHostsModel") : sv_gf j 169 10 41 := ⟨_, _, _, rfl, tu_10, by decide, Or.inl (by rw [hj]; exact tw_877)⟩
theorem mc_136 : (tb_m 136).1.cls = "WireHostsModel" := rfl
theorem sd_10_41 {q : Nat} (hq : sv_isO (sg q) 10 = true) : sv_dyn (sg q) 41 = true := sv_allb_of (f := fun q => sv_dyn (sg q) 41) (by decide +kernel) (by decide) hq
theorem fc_137 : fw_cal 137 5 := ⟨tw_1016, tw_12, ⟨by decide +kernel, by decide +kernel, by decide +kernel⟩, by decide +kernel⟩
theorem wv_M_172 {j : Nat} (hj : (tb_m j).1.cls = "WireHostsModel") : sv_wV j 172 137 5 := ⟨fc_137, by show Cond.methodLink _ _ _ ∈ tb_ws; rw [hj]; exact tw_1013, tw_1015, tp_40⟩
theorem mp_136 : plainName (tb_m 136).1.cls = true := by decide +kernel
theorem mc_133 : (tb_m 133).1.cls = "WireHostsModel" := rfl
theorem fc_136 : fw_cal 136 2 := ⟨tw_1012, tw_12, ⟨by decide +kernel, by decide +kernel, by decide +kernel⟩, by decide +kernel⟩
theorem wv_M_193 {j : Nat} (hj : (tb_m j).1.cls = "WireHostsModel") : sv_wV j 193 136 2 := ⟨fc_136, by show Cond.methodLink _ _ _ ∈ tb_ws; rw [hj]; exact tw_1009, tw_1011, tp_39⟩
theorem mp_133 : plainName (tb_m 133).1.cls = true := by decide +kernel
theorem fc_132 : fw_cal 132 1 := ⟨tw_994, tw_12, ⟨by decide +kernel, by decide +kernel, by decide +kernel⟩, by decide +kernel⟩
theorem ws_M_140 {j : Nat} (hj : (tb_m j).1.cls = "WireHostsModel") : sv_wS j 140 132 1 := ⟨fc_132, by show Cond.methodLink _ _ _ ∈ tb_ws; rw [hj]; exact tw_992, tw_993⟩
theorem mc_131 : (tb_m 131).1.cls = "WireHostsModel" := rfl
theorem pf_M_169 {j : Nat} (hj : (tb_m j).1.cls = "WireHostsModel") : sv_pf j 169 10 41 .int := ⟨_, _, _, tY_10, rfl, tu_10, by decide, Or.inl (by rw [hj]; exact tw_877), ty_10, tn_10, rfl, by decide +kernel⟩
theorem fc_133 : fw_cal 133 2 := ⟨tw_998, tw_12, ⟨by decide +kernel, by decide +kernel, by decide +kernel⟩, by decide +kernel⟩
theorem wv_M_196 {j : Nat} (hj : (tb_m j).1.cls = "WireHostsModel") : sv_wV j 196 133 2 := ⟨fc_133, by show Cond.methodLink _ _ _ ∈ tb_ws; rw [hj]; exact tw_995, tw_997, tp_36⟩
theorem mp_131 : plainName (tb_m 131).1.cls = true := by decide +kernel
theorem mc_143 : (tb_m 143).1.cls = "WireHostsModel" := rfl
theorem mp_143 : plainName (tb_m 143).1.cls = true := by decide +kernel
theorem mp_144 : plainName (tb_m 144).1.cls = true := by decide +kernel
theorem gf_M_71 {j : Nat} (hj : (tb_m j).1.cls = "WireHostsModel") : sv_gf j 71 10 21 := ⟨_, _, _, rfl, tu_10, by decide, Or.inl (by rw [hj]; exact tw_857)⟩
theorem mc_145 : (tb_m 145).1.cls = "WireHostsModel" := rfl
theorem sm_75_21 : sv_isR (sg 75) 21 96 = true := rfl
theorem sa_96 : sv_isA (sg 96) 0 4 = true := rfl
theorem gf_M_74 {j : Nat} (hj : (tb_m j).1.cls = "WireHostsModel") : sv_gf j 74 10 22 := ⟨_, _, _, rfl, tu_10, by decide, Or.inl (by rw [hj]; exact tw_858)⟩
theorem sm_75_22 : sv_isR (sg 75) 22 97 = true := rfl
theorem sa_97 : sv_isA (sg 97) 0 4 = true := rfl
theorem gf_M_77 {j : Nat} (hj : (tb_m j).1.cls = "WireHostsModel") : sv_gf j 77 10 23 := ⟨_, _, _, rfl, tu_10, by decide, Or.inl (by rw [hj]; exact tw_859)⟩
theorem sm_75_23 : sv_isR (sg 75) 23 98 = true := rfl
theorem sa_98 : sv_isA (sg 98) 0 4 = true := rfl
theorem gf_M_80 {j : Nat} (hj : (tb_m j).1.cls = "WireHostsModel") : sv_gf j 80 10 24 := ⟨_, _, _, rfl, tu_10, by decide, Or.inl (by rw [hj]; exact tw_860)⟩
theorem sm_75_24 : sv_isR (sg 75) 24 99 = true := rfl
theorem sa_99 : sv_isA (sg 99) 0 4 = true := rfl
theorem gf_M_83 {j : Nat} (hj : (tb_m j).1.cls = "WireHostsModel") : sv_gf j 83 10 25 := ⟨_, _, _, rfl, tu_10, by decide, Or.inl (by rw [hj]; exact tw_861)⟩
theorem sm_75_25 : sv_isR (sg 75) 25 100 = true := rfl
theorem sa_100 : sv_isA (sg 100) 0 4 = true := rfl
theorem gf_M_86 {j : Nat} (hj : (tb_m j).1.cls = "WireHostsModel") : sv_gf j 86 10 26 := ⟨_, _, _, rfl, tu_10, by decide, Or.inl (by rw [hj]; exact tw_862)⟩
theorem sm_75_26 : sv_isR (sg 75) 26 101 = true := rfl
theorem sa_101 : sv_isA (sg 101) 0 4 = true := rfl
theorem gf_M_92 {j : Nat} (hj : (tb_m j).1.cls = "WireHostsModel") : sv_gf j 92 10 28 := ⟨_, _, _, rfl, tu_10, by decide, Or.inl (by rw [hj]; exact tw_864)⟩
theorem sm_75_28 : sv_isR (sg 75) 28 103 = true := rfl
theorem sa_103 : sv_isA (sg 103) 1 4 = true := rfl
theorem gf_M_95 {j : Nat} (hj : (tb_m j).1.cls = "WireHostsModel") : sv_gf j 95 10 29 := ⟨_, _, _, rfl, tu_10, by decide, Or.inl (by rw [hj]; exact tw_865)⟩
theorem sm_75_29 : sv_isR (sg 75) 29 104 = true := rfl
theorem sa_104 : sv_isA (sg 104) 1 4 = true := rfl
theorem gf_M_98 {j : Nat} (hj : (tb_m j).1.cls = "WireHostsModel") : sv_gf j 98 10 30 := ⟨_, _, _, rfl, tu_10, by decide, Or.inl (by rw [hj]; exact tw_866)⟩
theorem sm_75_30 : sv_isR (sg 75) 30 105 = true := rfl
theorem sa_105 : sv_isA (sg 105) 0 4 = true := rfl
theorem gf_M_104 {j : Nat} (hj : (tb_m j).1.cls = "WireHostsModel") : sv_gf j 104 10 32 := ⟨_, _, _, rfl, tu_10, by decide, Or.inl (by rw [hj]; exact tw_868)⟩
theorem sm_75_32 : sv_isR (sg 75) 32 107 = true := rfl
theorem sa_107 : sv_isA (sg 107) 1 128 = true := rfl
theorem gf_M_110 {j : Nat} (hj : (tb_m j).1.cls = "WireHostsModel") : sv_gf j 110 10 34 := ⟨_, _, _, rfl, tu_10, by decide, Or.inl (by rw [hj]; exact tw_870)⟩
theorem sm_75_34 : sv_isR (sg 75) 34 109 = true := rfl
theorem sa_109 : sv_isA (sg 109) 0 4 = true := rfl
theorem gf_M_113 {j : Nat} (hj : (tb_m j).1.cls = "WireHostsModel") : sv_gf j 113 10 35 := ⟨_, _, _, rfl, tu_10, by decide, Or.inl (by rw [hj]; exact tw_871)⟩
theorem sm_75_35 : sv_isR (sg 75) 35 110 = true := rfl
theorem sa_110 : sv_isA (sg 110) 0 4 = true := rfl
theorem gf_M_116 {j : Nat} (hj : (tb_m j).1.cls = "WireHostsModel") : sv_gf j 116 10 36 := ⟨_, _, _, rfl, tu_10, by decide, Or.inl (by rw [hj]; exact tw_872)⟩
theorem sm_75_36 : sv_isR (sg 75) 36 111 = true := rfl
theorem sa_111 : sv_isA (sg 111) 0 4 = true := rfl
theorem gf_M_119 {j : Nat} (hj : (tb_m j).1.cls = "WireHostsModel") : sv_gf j 119 10 37 := ⟨_, _, _, rfl, tu_10, by decide, Or.inl (by rw [hj]; exact tw_873)⟩
theorem sm_75_37 : sv_isR (sg 75) 37 112 = true := rfl
theorem sa_112 : sv_isA (sg 112) 0 4 = true := rfl
theorem mp_145 : plainName (tb_m 145).1.cls = true := by decide +kernel
theorem fc_143 : fw_cal 143 2 := ⟨tw_1039, tw_12, ⟨by decide +kernel, by decide +kernel, by decide +kernel⟩, by decide +kernel⟩
theorem ws_M_282 {j : Nat} (hj : (tb_m j).1.cls = "WireHostsModel") : sv_wS j 282 143 2 := ⟨fc_143, by show Cond.methodLink _ _ _ ∈ tb_ws; rw [hj]; exact tw_1037, tw_1038⟩
theorem mc_142 : (tb_m 142).1.cls = "WireHostsModel" := rfl
theorem gf_M_68 {j : Nat} (hj : (tb_m j).1.cls = "WireHostsModel") : sv_gf j 68 10 20 := ⟨_, _, _, rfl, tu_10, by decide, Or.inl (by rw [hj]; exact tw_856)⟩
theorem sm_75_20 : sv_isR (sg 75) 20 95 = true := rfl
theorem sa_95 : sv_isA (sg 95) 0 4 = true := rfl
theorem fc_144 : fw_cal 144 2 := ⟨tw_1042, tw_12, ⟨by decide +kernel, by decide +kernel, by decide +kernel⟩, by decide +kernel⟩
theorem ws_M_231 {j : Nat} (hj : (tb_m j).1.cls = "WireHostsModel") : sv_wS j 231 144 2 := ⟨fc_144, by show Cond.methodLink _ _ _ ∈ tb_ws; rw [hj]; exact tw_1040, tw_1041⟩
theorem fc_145 : fw_cal 145 1 := ⟨tw_1046, tw_12, ⟨by decide +kernel, by decide +kernel, by decide +kernel⟩, by decide +kernel⟩
theorem wv_M_212 {j : Nat} (hj : (tb_m j).1.cls = "WireHostsModel") : sv_wV j 212 145 1 := ⟨fc_145, by show Cond.methodLink _ _ _ ∈ tb_ws; rw [hj]; exact tw_1043, tw_1045, tp_45⟩
theorem mp_142 : plainName (tb_m 142).1.cls = true := by decide +kernel
theorem mc_147 : (tb_m 147).1.cls = "WireHostsModel" := rfl
theorem gf_M_215 {j : Nat} (hj : (tb_m j).1.cls = "WireHostsModel") : sv_gf j 215 10 0 := ⟨_, _, _, rfl, tu_10, by decide, Or.inl (by rw [hj]; exact tw_836)⟩
theorem sd_10_0 {q : Nat} (hq : sv_isO (sg q) 10 = true) : sv_dyn (sg q) 0 = true := sv_allb_of (f := fun q => sv_dyn (sg q) 0) (by decide +kernel) (by decide) hq
theorem mp_147 : plainName (tb_m 147).1.cls = true := by decide +kernel
theorem mc_150 : (tb_m 150).1.cls = "WireHostsModel" := rfl
theorem mp_150 : plainName (tb_m 150).1.cls = true := by decide +kernel
theorem mc_151 : (tb_m 151).1.cls = "WireHostsModel" := rfl
theorem mp_151 : plainName (tb_m 151).1.cls = true := by decide +kernel
theorem mc_152 : (tb_m 152).1.cls = "WireHostsModel" := rfl
theorem mp_152 : plainName (tb_m 152).1.cls = true := by decide +kernel
theorem mc_149 : (tb_m 149).1.cls = "WireHostsModel" := rfl
theorem fc_150 : fw_cal 150 2 := ⟨tw_1066, tw_12, ⟨by decide +kernel, by decide +kernel, by decide +kernel⟩, by decide +kernel⟩
theorem wv_M_199 {j : Nat} (hj : (tb_m j).1.cls = "WireHostsModel") : sv_wV j 199 150 2 := ⟨fc_150, by show Cond.methodLink _ _ _ ∈ tb_ws; rw [hj]; exact tw_1063, tw_1065, tp_49⟩
theorem fc_151 : fw_cal 151 1 := ⟨tw_1070, tw_12, ⟨by decide +kernel, by decide +kernel, by decide +kernel⟩, by decide +kernel⟩
theorem wv_M_202 {j : Nat} (hj : (tb_m j).1.cls = "WireHostsModel") : sv_wV j 202 151 1 := ⟨fc_151, by show Cond.methodLink _ _ _ ∈ tb_ws; rw [hj]; exact tw_1067, tw_1069, tp_50⟩
theorem gf_M_89 {j : Nat} (hj : (tb_m j).1.cls = "WireHostsModel") : sv_gf j 89 10 27 := ⟨_, _, _, rfl, tu_10, by decide, Or.inl (by rw [hj]; exact tw_863)⟩
theorem sm_75_27 : sv_isR (sg 75) 27 102 = true := rfl
theorem sa_102 : sv_isA (sg 102) 0 256 = true := rfl
theorem fc_152 : fw_cal 152 2 := ⟨tw_1074, tw_12, ⟨by decide +kernel, by decide +kernel, by decide +kernel⟩, by decide +kernel⟩
theorem wv_M_205 {j : Nat} (hj : (tb_m j).1.cls = "WireHostsModel") : sv_wV j 205 152 2 := ⟨fc_152, by show Cond.methodLink _ _ _ ∈ tb_ws; rw [hj]; exact tw_1071, tw_1073, tp_51⟩
theorem mp_149 : plainName (tb_m 149).1.cls = true := by decide +kernel
theorem mc_148 : (tb_m 148).1.cls = "WireHostsModel" := rfl
theorem fc_149 : fw_cal 149 6 := ⟨tw_1062, tw_12, ⟨by decide +kernel, by decide +kernel, by decide +kernel⟩, by decide +kernel⟩
theorem wv_M_208 {j : Nat} (hj : (tb_m j).1.cls = "WireHostsModel") : sv_wV j 208 149 6 := ⟨fc_149, by show Cond.methodLink _ _ _ ∈ tb_ws; rw [hj]; exact tw_1059, tw_1061, tp_48⟩
theorem mp_148 : plainName (tb_m 148).1.cls = true := by decide +kernel
theorem mc_146 : (tb_m 146).1.cls = "WireHostsModel" := rfl
theorem fc_147 : fw_cal 147 1 := ⟨tw_1054, tw_12, ⟨by decide +kernel, by decide +kernel, by decide +kernel⟩, by decide +kernel⟩
theorem wv_M_264 {j : Nat} (hj : (tb_m j).1.cls = "WireHostsModel") : sv_wV j 264 147 1 := ⟨fc_147, by show Cond.methodLink _ _ _ ∈ tb_ws; rw [hj]; exact tw_1051, tw_1053, tp_46⟩
theorem fc_148 : fw_cal 148 3 := ⟨tw_1058, tw_12, ⟨by decide +kernel, by decide +kernel, by decide +kernel⟩, by decide +kernel⟩
theorem wv_M_225 {j : Nat} (hj : (tb_m j).1.cls = "WireHostsModel") : sv_wV j 225 148 3 := ⟨fc_148, by show Cond.methodLink _ _ _ ∈ tb_ws; rw [hj]; exact tw_1055, tw_1057, tp_47⟩
theorem mp_146 : plainName (tb_m 146).1.cls = true := by decide +kernel
theorem mp_156 : plainName (tb_m 156).1.cls = true := by decide +kernel
theorem mc_155 : (tb_m 155).1.cls = "WireHostsModel" := rfl
theorem fc_156 : fw_cal 156 2 := ⟨tw_1089, tw_12, ⟨by decide +kernel, by decide +kernel, by decide +kernel⟩, by decide +kernel⟩
theorem ws_M_218 {j : Nat} (hj : (tb_m j).1.cls = "WireHostsModel") : sv_wS j 218 156 2 := ⟨fc_156, by show Cond.methodLink _ _ _ ∈ tb_ws; rw [hj]; exact tw_1087, tw_1088⟩
theorem mp_155 : plainName (tb_m 155).1.cls = true := by decide +kernel
theorem mc_154 : (tb_m 154).1.cls = "WireHostsModel" := rfl
theorem fc_155 : fw_cal 155 1 := ⟨tw_1086, tw_12, ⟨by decide +kernel, by decide +kernel, by decide +kernel⟩, by decide +kernel⟩
theorem wv_M_222 {j : Nat} (hj : (tb_m j).1.cls = "WireHostsModel") : sv_wV j 222 155 1 := ⟨fc_155, by show Cond.methodLink _ _ _ ∈ tb_ws; rw [hj]; exact tw_1083, tw_1085, tp_53⟩
theorem mp_154 : plainName (tb_m 154).1.cls = true := by decide +kernel
theorem mc_153 : (tb_m 153).1.cls = "WireHostsModel" := rfl
theorem fc_154 : fw_cal 154 1 := ⟨tw_1082, tw_12, ⟨by decide +kernel, by decide +kernel, by decide +kernel⟩, by decide +kernel⟩
theorem wv_M_267 {j : Nat} (hj : (tb_m j).1.cls = "WireHostsModel") : sv_wV j 267 154 1 := ⟨fc_154, by show Cond.methodLink _ _ _ ∈ tb_ws; rw [hj]; exact tw_1079, tw_1081, tp_52⟩
theorem mp_153 : plainName (tb_m 153).1.cls = true := by decide +kernel
theorem mc_157 : (tb_m 157).1.cls = "WireHostsModel" := rfl
theorem gf_M_101 {j : Nat} (hj : (tb_m j).1.cls = "WireHostsModel") : sv_gf j 101 10 31 := ⟨_, _, _, rfl, tu_10, by decide, Or.inl (by rw [hj]; exact tw_867)⟩
theorem sm_75_31 : sv_isR (sg 75) 31 106 = true := rfl
theorem sa_106 : sv_isA (sg 106) 0 128 = true := rfl
theorem mp_157 : plainName (tb_m 157).1.cls = true := by decide +kernel
theorem mc_159 : (tb_m 159).1.cls = "WireHostsModel" := rfl
theorem mp_159 : plainName (tb_m 159).1.cls = true := by decide +kernel
theorem mc_158 : (tb_m 158).1.cls = "WireHostsModel" := rfl
theorem fc_159 : fw_cal 159 1 := ⟨tw_1101, tw_12, ⟨by decide +kernel, by decide +kernel, by decide +kernel⟩, by decide +kernel⟩
theorem wv_M_228 {j : Nat} (hj : (tb_m j).1.cls = "WireHostsModel") : sv_wV j 228 159 1 := ⟨fc_159, by show Cond.methodLink _ _ _ ∈ tb_ws; rw [hj]; exact tw_1098, tw_1100, tp_54⟩
theorem mp_158 : plainName (tb_m 158).1.cls = true := by decide +kernel
theorem mc_160 : (tb_m 160).1.cls = "WireHostsModel" := rfl
theorem mp_160 : plainName (tb_m 160).1.cls = true := by decide +kernel
theorem mc_162 : (tb_m 162).1.cls = "WireHostsModel" := rfl
theorem mp_162 : plainName (tb_m 162).1.cls = true := by decide +kernel
theorem mc_163 : (tb_m 163).1.cls = "WireHostsModel" := rfl
theorem mp_163 : plainName (tb_m 163).1.cls = true := by decide +kernel
theorem mc_164 : (tb_m 164).1.cls = "WireHostsModel" := rfl
theorem mp_164 : plainName (tb_m 164).1.cls = true := by decide +kernel
theorem mc_167 : (tb_m 167).1.cls = "WireHostsModel" := rfl
theorem gf_M_40 {j : Nat} (hj : (tb_m j).1.cls = "WireHostsModel") : sv_gf j 40 10 11 := ⟨_, _, _, rfl, tu_10, by decide, Or.inl (by rw [hj]; exact tw_847)⟩
theorem sm_75_11 : sv_isR (sg 75) 11 86 = true := rfl
theorem sa_86 : sv_isA (sg 86) 0 2 = true := rfl
theorem gf_M_43 {j : Nat} (hj : (tb_m j).1.cls = "WireHostsModel") : sv_gf j 43 10 12 := ⟨_, _, _, rfl, tu_10, by decide, Or.inl (by rw [hj]; exact tw_848)⟩
theorem sm_75_12 : sv_isR (sg 75) 12 87 = true := rfl
theorem sa_87 : sv_isA (sg 87) 0 2 = true := rfl
theorem mp_167 : plainName (tb_m 167).1.cls = true := by decide +kernel
theorem gf_M_234 {j : Nat} (hj : (tb_m j).1.cls = "WireHostsModel") : sv_gf j 234 10 45 := ⟨_, _, _, rfl, tu_10, by decide, Or.inl (by rw [hj]; exact tw_881)⟩
theorem mc_169 : (tb_m 169).1.cls = "WireHostsModel" := rfl
theorem sd_10_45 {q : Nat} (hq : sv_isO (sg q) 10 = true) : sv_dyn (sg q) 45 = true := sv_allb_of (f := fun q => sv_dyn (sg q) 45) (by decide +kernel) (by decide) hq
theorem mp_169 : plainName (tb_m 169).1.cls = true := by decide +kernel
theorem gf_M_246 {j : Nat} (hj : (tb_m j).1.cls = "WireHostsModel") : sv_gf j 246 10 49 := ⟨_, _, _, rfl, tu_10, by decide, Or.inl (by rw [hj]; exact tw_885)⟩
theorem mc_170 : (tb_m 170).1.cls = "WireHostsModel" := rfl
theorem sd_10_49 {q : Nat} (hq : sv_isO (sg q) 10 = true) : sv_dyn (sg q) 49 = true := sv_allb_of (f := fun q => sv_dyn (sg q) 49) (by decide +kernel) (by decide) hq
theorem fc_169 : fw_cal 169 1 := ⟨tw_1141, tw_12, ⟨by decide +kernel, by decide +kernel, by decide +kernel⟩, by decide +kernel⟩
theorem wv_M_249 {j : Nat} (hj : (tb_m j).1.cls = "WireHostsModel") : sv_wV j 249 169 1 := ⟨fc_169, by show Cond.methodLink _ _ _ ∈ tb_ws; rw [hj]; exact tw_1138, tw_1140, tp_62⟩
theorem mp_170 : plainName (tb_m 170).1.cls = true := by decide +kernel
theorem mc_171 : (tb_m 171).1.cls = "WireHostsModel" := rfl
theorem gf_M_237 {j : Nat} (hj : (tb_m j).1.cls = "WireHostsModel") : sv_gf j 237 10 46 := ⟨_, _, _, rfl, tu_10, by decide, Or.inl (by rw [hj]; exact tw_882)⟩
theorem sd_10_46 {q : Nat} (hq : sv_isO (sg q) 10 = true) : sv_dyn (sg q) 46 = true := sv_allb_of (f := fun q => sv_dyn (sg q) 46) (by decide +kernel) (by decide) hq
theorem gf_M_243 {j : Nat} (hj : (tb_m j).1.cls = "WireHostsModel") : sv_gf j 243 10 48 := ⟨_, _, _, rfl, tu_10, by decide, Or.inl (by rw [hj]; exact tw_884)⟩
theorem sd_10_48 {q : Nat} (hq : sv_isO (sg q) 10 = true) : sv_dyn (sg q) 48 = true := sv_allb_of (f := fun q => sv_dyn (sg q) 48) (by decide +kernel) (by decide) hq
theorem gf_M_240 {j : Nat} (hj : (tb_m j).1.cls = "WireHostsModel") : sv_gf j 240 10 47 := ⟨_, _, _, rfl, tu_10, by decide, Or.inl (by rw [hj]; exact tw_883)⟩
theorem sd_10_47 {q : Nat} (hq : sv_isO (sg q) 10 = true) : sv_dyn (sg q) 47 = true := sv_allb_of (f := fun q => sv_dyn (sg q) 47) (by decide +kernel) (by decide) hq
theorem mp_171 : plainName (tb_m 171).1.cls = true := by decide +kernel
theorem mc_172 : (tb_m 172).1.cls = "WireHostsModel" := rfl
theorem mp_172 : plainName (tb_m 172).1.cls = true := by decide +kernel
theorem mc_174 : (tb_m 174).1.cls = "WireHostsModel" := rfl
theorem fc_170 : fw_cal 170 0 := ⟨tw_1145, tw_12, ⟨by decide +kernel, by decide +kernel, by decide +kernel⟩, by decide +kernel⟩
theorem wv_M_252 {j : Nat} (hj : (tb_m j).1.cls = "WireHostsModel") : sv_wV j 252 170 0 := ⟨fc_170, by show Cond.methodLink _ _ _ ∈ tb_ws; rw [hj]; exact tw_1142, tw_1144, tp_63⟩
theorem mp_174 : plainName (tb_m 174).1.cls = true := by decide +kernel
theorem mc_175 : (tb_m 175).1.cls = "WireHostsModel" := rfl
theorem mp_175 : plainName (tb_m 175).1.cls = true := by decide +kernel
theorem mc_176 : (tb_m 176).1.cls = "WireHostsModel" := rfl
theorem mp_176 : plainName (tb_m 176).1.cls = true := by decide +kernel
theorem mc_177 : (tb_m 177).1.cls = "WireHostsModel" := rfl
theorem gf_M_107 {j : Nat} (hj : (tb_m j).1.cls = "WireHostsModel") : sv_gf j 107 10 33 := ⟨_, _, _, rfl, tu_10, by decide, Or.inl (by rw [hj]; exact tw_869)⟩
theorem sm_75_33 : sv_isR (sg 75) 33 108 = true := rfl
theorem sa_108 : sv_isA (sg 108) 0 128 = true := rfl
theorem mp_177 : plainName (tb_m 177).1.cls = true := by decide +kernel
theorem fc_174 : fw_cal 174 1 := ⟨tw_1161, tw_12, ⟨by decide +kernel, by decide +kernel, by decide +kernel⟩, by decide +kernel⟩
theorem wv_M_270 {j : Nat} (hj : (tb_m j).1.cls = "WireHostsModel") : sv_wV j 270 174 1 := ⟨fc_174, by show Cond.methodLink _ _ _ ∈ tb_ws; rw [hj]; exact tw_1158, tw_1160, tp_67⟩
theorem mc_173 : (tb_m 173).1.cls = "WireHostsModel" := rfl
theorem fc_175 : fw_cal 175 1 := ⟨tw_1165, tw_12, ⟨by decide +kernel, by decide +kernel, by decide +kernel⟩, by decide +kernel⟩
theorem wv_M_273 {j : Nat} (hj : (tb_m j).1.cls = "WireHostsModel") : sv_wV j 273 175 1 := ⟨fc_175, by show Cond.methodLink _ _ _ ∈ tb_ws; rw [hj]; exact tw_1162, tw_1164, tp_68⟩
theorem fc_176 : fw_cal 176 1 := ⟨tw_1169, tw_12, ⟨by decide +kernel, by decide +kernel, by decide +kernel⟩, by decide +kernel⟩
theorem wv_M_276 {j : Nat} (hj : (tb_m j).1.cls = "WireHostsModel") : sv_wV j 276 176 1 := ⟨fc_176, by show Cond.methodLink _ _ _ ∈ tb_ws; rw [hj]; exact tw_1166, tw_1168, tp_69⟩
theorem fc_177 : fw_cal 177 1 := ⟨tw_1173, tw_12, ⟨by decide +kernel, by decide +kernel, by decide +kernel⟩, by decide +kernel⟩
theorem wv_M_279 {j : Nat} (hj : (tb_m j).1.cls = "WireHostsModel") : sv_wV j 279 177 1 := ⟨fc_177, by show Cond.methodLink _ _ _ ∈ tb_ws; rw [hj]; exact tw_1170, tw_1172, tp_70⟩
theorem mp_173 : plainName (tb_m 173).1.cls = true := by decide +kernel
theorem mc_168 : (tb_m 168).1.cls = "WireHostsModel" := rfl
theorem pf_M_234 {j : Nat} (hj : (tb_m j).1.cls = "WireHostsModel") : sv_pf j 234 10 45 .int := ⟨_, _, _, tY_10, rfl, tu_10, by decide, Or.inl (by rw [hj]; exact tw_881), ty_10, tn_10, rfl, by decide +kernel⟩
theorem pf_M_237 {j : Nat} (hj : (tb_m j).1.cls = "WireHostsModel") : sv_pf j 237 10 46 .int := ⟨_, _, _, tY_10, rfl, tu_10, by decide, Or.inl (by rw [hj]; exact tw_882), ty_10, tn_10, rfl, by decide +kernel⟩
theorem pf_M_240 {j : Nat} (hj : (tb_m j).1.cls = "WireHostsModel") : sv_pf j 240 10 47 .int := ⟨_, _, _, tY_10, rfl, tu_10, by decide, Or.inl (by rw [hj]; exact tw_883), ty_10, tn_10, rfl, by decide +kernel⟩
theorem pf_M_243 {j : Nat} (hj : (tb_m j).1.cls = "WireHostsModel") : sv_pf j 243 10 48 .int := ⟨_, _, _, tY_10, rfl, tu_10, by decide, Or.inl (by rw [hj]; exact tw_884), ty_10, tn_10, rfl, by decide +kernel⟩
theorem pf_M_246 {j : Nat} (hj : (tb_m j).1.cls = "WireHostsModel") : sv_pf j 246 10 49 .int := ⟨_, _, _, tY_10, rfl, tu_10, by decide, Or.inl (by rw [hj]; exact tw_885), ty_10, tn_10, rfl, by decide +kernel⟩
theorem fc_173 : fw_cal 173 1 := ⟨tw_1157, tw_12, ⟨by decide +kernel, by decide +kernel, by decide +kernel⟩, by decide +kernel⟩
theorem wv_M_261 {j : Nat} (hj : (tb_m j).1.cls = "WireHostsModel") : sv_wV j 261 173 1 := ⟨fc_173, by show Cond.methodLink _ _ _ ∈ tb_ws; rw [hj]; exact tw_1154, tw_1156, tp_66⟩
theorem fc_172 : fw_cal 172 1 := ⟨tw_1153, tw_12, ⟨by decide +kernel, by decide +kernel, by decide +kernel⟩, by decide +kernel⟩
theorem wv_M_258 {j : Nat} (hj : (tb_m j).1.cls = "WireHostsModel") : sv_wV j 258 172 1 := ⟨fc_172, by show Cond.methodLink _ _ _ ∈ tb_ws; rw [hj]; exact tw_1150, tw_1152, tp_65⟩
theorem fc_171 : fw_cal 171 1 := ⟨tw_1149, tw_12, ⟨by decide +kernel, by decide +kernel, by decide +kernel⟩, by decide +kernel⟩
theorem wv_M_255 {j : Nat} (hj : (tb_m j).1.cls = "WireHostsModel") : sv_wV j 255 171 1 := ⟨fc_171, by show Cond.methodLink _ _ _ ∈ tb_ws; rw [hj]; exact tw_1146, tw_1148, tp_64⟩
theorem mp_168 : plainName (tb_m 168).1.cls = true := by decide +kernel
theorem fc_168 : fw_cal 168 1 := ⟨tw_1137, tw_12, ⟨by decide +kernel, by decide +kernel, by decide +kernel⟩, by decide +kernel⟩
theorem wv_M_190 {j : Nat} (hj : (tb_m j).1.cls = "WireHostsModel") : sv_wV j 190 168 1 := ⟨fc_168, by show Cond.methodLink _ _ _ ∈ tb_ws; rw [hj]; exact tw_1134, tw_1136, tp_61⟩
theorem mc_166 : (tb_m 166).1.cls = "WireHostsModel" := rfl
theorem fc_167 : fw_cal 167 1 := ⟨tw_1133, tw_12, ⟨by decide +kernel, by decide +kernel, by decide +kernel⟩, by decide +kernel⟩
theorem wv_M_187 {j : Nat} (hj : (tb_m j).1.cls = "WireHostsModel") : sv_wV j 187 167 1 := ⟨fc_167, by show Cond.methodLink _ _ _ ∈ tb_ws; rw [hj]; exact tw_1130, tw_1132, tp_60⟩
theorem mp_166 : plainName (tb_m 166).1.cls = true := by decide +kernel
theorem gf_M_46 {j : Nat} (hj : (tb_m j).1.cls = "WireHostsModel") : sv_gf j 46 10 13 := ⟨_, _, _, rfl, tu_10, by decide, Or.inl (by rw [hj]; exact tw_849)⟩
theorem mc_179 : (tb_m 179).1.cls = "WireHostsModel" := rfl
theorem sm_75_13 : sv_isR (sg 75) 13 88 = true := rfl
theorem sa_88 : sv_isA (sg 88) 1 4 = true := rfl
theorem gf_M_56 {j : Nat} (hj : (tb_m j).1.cls = "WireHostsModel") : sv_gf j 56 10 16 := ⟨_, _, _, rfl, tu_10, by decide, Or.inl (by rw [hj]; exact tw_852)⟩
theorem sm_75_16 : sv_isR (sg 75) 16 91 = true := rfl
theorem sa_91 : sv_isA (sg 91) 0 4 = true := rfl
theorem gf_M_50 {j : Nat} (hj : (tb_m j).1.cls = "WireHostsModel") : sv_gf j 50 10 14 := ⟨_, _, _, rfl, tu_10, by decide, Or.inl (by rw [hj]; exact tw_850)⟩
theorem sm_75_14 : sv_isR (sg 75) 14 89 = true := rfl
theorem sa_89 : sv_isA (sg 89) 0 4 = true := rfl
theorem gf_M_53 {j : Nat} (hj : (tb_m j).1.cls = "WireHostsModel") : sv_gf j 53 10 15 := ⟨_, _, _, rfl, tu_10, by decide, Or.inl (by rw [hj]; exact tw_851)⟩
theorem sm_75_15 : sv_isR (sg 75) 15 90 = true := rfl
theorem sa_90 : sv_isA (sg 90) 0 4 = true := rfl
theorem gf_M_59 {j : Nat} (hj : (tb_m j).1.cls = "WireHostsModel") : sv_gf j 59 10 17 := ⟨_, _, _, rfl, tu_10, by decide, Or.inl (by rw [hj]; exact tw_853)⟩
theorem sm_75_17 : sv_isR (sg 75) 17 92 = true := rfl
theorem sa_92 : sv_isA (sg 92) 0 4 = true := rfl
theorem gf_M_65 {j : Nat} (hj : (tb_m j).1.cls = "WireHostsModel") : sv_gf j 65 10 19 := ⟨_, _, _, rfl, tu_10, by decide, Or.inl (by rw [hj]; exact tw_855)⟩
theorem sm_75_19 : sv_isR (sg 75) 19 94 = true := rfl
theorem sa_94 : sv_isA (sg 94) 1 192 = true := rfl
theorem mp_179 : plainName (tb_m 179).1.cls = true := by decide +kernel
theorem mc_178 : (tb_m 178).1.cls = "WireHostsModel" := rfl
theorem fc_179 : fw_cal 179 1 := ⟨tw_1181, tw_12, ⟨by decide +kernel, by decide +kernel, by decide +kernel⟩, by decide +kernel⟩
theorem wv_M_183 {j : Nat} (hj : (tb_m j).1.cls = "WireHostsModel") : sv_wV j 183 179 1 := ⟨fc_179, by show Cond.methodLink _ _ _ ∈ tb_ws; rw [hj]; exact tw_1178, tw_1180, tp_72⟩
theorem gf_M_62 {j : Nat} (hj : (tb_m j).1.cls = "WireHostsModel") : sv_gf j 62 10 18 := ⟨_, _, _, rfl, tu_10, by decide, Or.inl (by rw [hj]; exact tw_854)⟩
theorem sm_75_18 : sv_isR (sg 75) 18 93 = true := rfl
theorem sa_93 : sv_isA (sg 93) 0 192 = true := rfl
theorem fc_166 : fw_cal 166 2 := ⟨tw_1129, tw_12, ⟨by decide +kernel, by decide +kernel, by decide +kernel⟩, by decide +kernel⟩
theorem wv_M_176 {j : Nat} (hj : (tb_m j).1.cls = "WireHostsModel") : sv_wV j 176 166 2 := ⟨fc_166, by show Cond.methodLink _ _ _ ∈ tb_ws; rw [hj]; exact tw_1126, tw_1128, tp_59⟩
theorem mp_178 : plainName (tb_m 178).1.cls = true := by decide +kernel
theorem mc_165 : (tb_m 165).1.cls = "WireHostsModel" := rfl
theorem fc_178 : fw_cal 178 2 := ⟨tw_1177, tw_12, ⟨by decide +kernel, by decide +kernel, by decide +kernel⟩, by decide +kernel⟩
theorem wv_M_180 {j : Nat} (hj : (tb_m j).1.cls = "WireHostsModel") : sv_wV j 180 178 2 := ⟨fc_178, by show Cond.methodLink _ _ _ ∈ tb_ws; rw [hj]; exact tw_1174, tw_1176, tp_71⟩
theorem mp_165 : plainName (tb_m 165).1.cls = true := by decide +kernel
theorem fc_162 : fw_cal 162 1 := ⟨tw_1113, tw_12, ⟨by decide +kernel, by decide +kernel, by decide +kernel⟩, by decide +kernel⟩
theorem wv_M_286 {j : Nat} (hj : (tb_m j).1.cls = "WireHostsModel") : sv_wV j 286 162 1 := ⟨fc_162, by show Cond.methodLink _ _ _ ∈ tb_ws; rw [hj]; exact tw_1110, tw_1112, tp_55⟩
theorem mc_161 : (tb_m 161).1.cls = "WireHostsModel" := rfl
theorem fc_163 : fw_cal 163 1 := ⟨tw_1117, tw_12, ⟨by decide +kernel, by decide +kernel, by decide +kernel⟩, by decide +kernel⟩
theorem wv_M_289 {j : Nat} (hj : (tb_m j).1.cls = "WireHostsModel") : sv_wV j 289 163 1 := ⟨fc_163, by show Cond.methodLink _ _ _ ∈ tb_ws; rw [hj]; exact tw_1114, tw_1116, tp_56⟩
theorem fc_165 : fw_cal 165 1 := ⟨tw_1125, tw_12, ⟨by decide +kernel, by decide +kernel, by decide +kernel⟩, by decide +kernel⟩
theorem wv_M_295 {j : Nat} (hj : (tb_m j).1.cls = "WireHostsModel") : sv_wV j 295 165 1 := ⟨fc_165, by show Cond.methodLink _ _ _ ∈ tb_ws; rw [hj]; exact tw_1122, tw_1124, tp_58⟩
theorem fc_164 : fw_cal 164 1 := ⟨tw_1121, tw_12, ⟨by decide +kernel, by decide +kernel, by decide +kernel⟩, by decide +kernel⟩
theorem wv_M_292 {j : Nat} (hj : (tb_m j).1.cls = "WireHostsModel") : sv_wV j 292 164 1 := ⟨fc_164, by show Cond.methodLink _ _ _ ∈ tb_ws; rw [hj]; exact tw_1118, tw_1120, tp_57⟩
theorem mp_161 : plainName (tb_m 161).1.cls = true := by decide +kernel
theorem mc_180 : (tb_m 180).1.cls = "WireHostsModel" := rfl
theorem mp_180 : plainName (tb_m 180).1.cls = true := by decide +kernel
theorem mc_181 : (tb_m 181).1.cls = "WireHostsModel" := rfl
theorem mp_181 : plainName (tb_m 181).1.cls = true := by decide +kernel
theorem mc_184 : (tb_m 184).1.cls = "WireHostsModel" := rfl
theorem mp_184 : plainName (tb_m 184).1.cls = true := by decide +kernel
theorem mc_183 : (tb_m 183).1.cls = "WireHostsModel" := rfl
theorem fc_184 : fw_cal 184 1 := ⟨tw_1201, tw_12, ⟨by decide +kernel, by decide +kernel, by decide +kernel⟩, by decide +kernel⟩
theorem wv_M_298 {j : Nat} (hj : (tb_m j).1.cls = "WireHostsModel") : sv_wV j 298 184 1 := ⟨fc_184, by show Cond.methodLink _ _ _ ∈ tb_ws; rw [hj]; exact tw_1198, tw_1200, tp_74⟩
theorem mp_183 : plainName (tb_m 183).1.cls = true := by decide +kernel
theorem mc_182 : (tb_m 182).1.cls = "WireHostsModel" := rfl
theorem pf_M_215 {j : Nat} (hj : (tb_m j).1.cls = "WireHostsModel") : sv_pf j 215 10 0 .int := ⟨_, _, _, tY_10, rfl, tu_10, by decide, Or.inl (by rw [hj]; exact tw_836), ty_10, tn_10, rfl, by decide +kernel⟩
theorem fc_183 : fw_cal 183 1 := ⟨tw_1197, tw_12, ⟨by decide +kernel, by decide +kernel, by decide +kernel⟩, by decide +kernel⟩
theorem wv_M_301 {j : Nat} (hj : (tb_m j).1.cls = "WireHostsModel") : sv_wV j 301 183 1 := ⟨fc_183, by show Cond.methodLink _ _ _ ∈ tb_ws; rw [hj]; exact tw_1194, tw_1196, tp_73⟩
theorem mp_182 : plainName (tb_m 182).1.cls = true := by decide +kernel
theorem mc_185 : (tb_m 185).1.cls = "WireHostsModel" := rfl
theorem mp_185 : plainName (tb_m 185).1.cls = true := by decide +kernel
theorem mc_186 : (tb_m 186).1.cls = "WireHostsModel" := rfl
theorem mp_186 : plainName (tb_m 186).1.cls = true := by decide +kernel
theorem mc_187 : (tb_m 187).1.cls = "WireHostsModel" := rfl
theorem mp_187 : plainName (tb_m 187).1.cls = true := by decide +kernel
theorem mc_188 : (tb_m 188).1.cls = "WireHostsModel" := rfl
theorem mp_188 : plainName (tb_m 188).1.cls = true := by decide +kernel
