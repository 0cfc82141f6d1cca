theorem ko_Rows_3 {j : Nat} (hj : (tb_m j).1.cls = "WireHosts$Rows") : kw_o j 3 := ⟨by rw [hj]; exact tw_29, tw_22, tw_23⟩
theorem mc_2 : (tb_m 2).1.cls = "WireHosts$Rows" := rfl
theorem kp_Rows_9 : kp_f 2 9 1 0 .int := ⟨_, _, _, tY_1, rfl, tu_1, by decide, tw_30, ty_1, tn_1, rfl, rfl, rfl, by decide +kernel⟩
theorem kp_Rows_15 : kp_f 2 15 1 1 .int := ⟨_, _, _, tY_1, rfl, tu_1, by decide, tw_31, ty_1, tn_1, rfl, rfl, rfl, by decide +kernel⟩
theorem kp_Rows_18 : kp_f 2 18 1 2 (.array .int) := ⟨_, _, _, tY_1, rfl, tu_1, by decide, tw_32, ty_1, tn_1, rfl, rfl, rfl, by decide +kernel⟩
theorem kp_Rows_22 : kp_f 2 22 1 3 (.array .int) := ⟨_, _, _, tY_1, rfl, tu_1, by decide, tw_33, ty_1, tn_1, rfl, rfl, rfl, by decide +kernel⟩
theorem mp_2 : plainName (tb_m 2).1.cls = true := by decide +kernel
theorem ko_Slot_3 {j : Nat} (hj : (tb_m j).1.cls = "WireHosts$Slot") : kw_o j 3 := ⟨by rw [hj]; exact tw_102, tw_22, tw_23⟩
theorem mc_6 : (tb_m 6).1.cls = "WireHosts$Slot" := rfl
theorem kp_Slot_11 : kp_f 6 11 5 0 (.array .int) := ⟨_, _, _, tY_5, rfl, tu_5, by decide, tw_103, ty_5, tn_5, rfl, rfl, rfl, by decide +kernel⟩
theorem mp_6 : plainName (tb_m 6).1.cls = true := by decide +kernel
theorem ko_Seg_5 {j : Nat} (hj : (tb_m j).1.cls = "WireHosts$Segment") : kw_o j 5 := ⟨by rw [hj]; exact tw_150, tw_22, tw_23⟩
theorem mc_7 : (tb_m 7).1.cls = "WireHosts$Segment" := rfl
theorem kp_Seg_11 : kp_f 7 11 6 0 (.array .int) := ⟨_, _, _, tY_6, rfl, tu_6, by decide, tw_151, ty_6, tn_6, rfl, rfl, rfl, by decide +kernel⟩
theorem mp_7 : plainName (tb_m 7).1.cls = true := by decide +kernel
theorem ko_Snd_1 {j : Nat} (hj : (tb_m j).1.cls = "WireHosts$Sending") : kw_o j 1 := ⟨by rw [hj]; exact tw_190, tw_22, tw_23⟩
theorem mc_9 : (tb_m 9).1.cls = "WireHosts$Sending" := rfl
theorem kp_Snd_9 : kp_f 9 9 8 0 (.array .int) := ⟨_, _, _, tY_8, rfl, tu_8, by decide, tw_191, ty_8, tn_8, rfl, rfl, rfl, by decide +kernel⟩
theorem mp_9 : plainName (tb_m 9).1.cls = true := by decide +kernel
theorem ko_Rcv_3 {j : Nat} (hj : (tb_m j).1.cls = "WireHosts$Receiving") : kw_o j 3 := ⟨by rw [hj]; exact tw_224, tw_22, tw_23⟩
theorem mc_10 : (tb_m 10).1.cls = "WireHosts$Receiving" := rfl
theorem kp_Rcv_11 : kp_f 10 11 9 0 (.array .int) := ⟨_, _, _, tY_9, rfl, tu_9, by decide, tw_228, ty_9, tn_9, rfl, rfl, rfl, by decide +kernel⟩
theorem kp_Rcv_15 : kp_f 10 15 9 1 (.array .int) := ⟨_, _, _, tY_9, rfl, tu_9, by decide, tw_229, ty_9, tn_9, rfl, rfl, rfl, by decide +kernel⟩
theorem mp_10 : plainName (tb_m 10).1.cls = true := by decide +kernel
theorem ko_Pieces_5 {j : Nat} (hj : (tb_m j).1.cls = "WireHosts$Pieces") : kw_o j 5 := ⟨by rw [hj]; exact tw_96, tw_22, tw_23⟩
theorem mc_5 : (tb_m 5).1.cls = "WireHosts$Pieces" := rfl
theorem kp_Pieces_11 : kp_f 5 11 4 2 (.array .int) := ⟨_, _, _, tY_4, rfl, tu_4, by decide, tw_129, ty_4, tn_4, rfl, rfl, rfl, by decide +kernel⟩
theorem kn_Pieces_15 {j : Nat} (hj : (tb_m j).1.cls = "WireHosts$Pieces") : kw_n j 15 5 6 [.null, .int 0, .int 0, .int 0, .int 0, .int 0] := ⟨_, _, tY_5, rfl, tu_5, ty_5, by rw [hj]; exact tw_97, tw_98, tw_6, fun i hi => match i, hi with | 0, _ => rfl | 1, _ => rfl | 2, _ => rfl | 3, _ => rfl | 4, _ => rfl | 5, _ => rfl | k + 6, h => absurd h (by omega), rfl⟩
theorem fc_6 : fw_cal 6 0 := ⟨tw_101, tw_6, ⟨by decide +kernel, by decide +kernel, by decide +kernel⟩, by decide +kernel⟩
theorem wi_Pieces_17 {j : Nat} (hj : (tb_m j).1.cls = "WireHosts$Pieces") : sv_wI j 17 6 0 := ⟨fc_6, by show Cond.methodLink _ _ _ ∈ tb_ws; rw [hj]; exact tw_99, tw_100, rfl, rfl⟩
theorem kp_Pieces_18 : kp_f 5 18 4 0 (.object "WireHosts$Slot") := ⟨_, _, _, tY_4, rfl, tu_4, by decide, tw_127, ty_4, tn_4, rfl, rfl, rfl, by decide +kernel⟩
theorem kp_Pieces_22 : kp_f 5 22 4 1 (.object "WireHosts$Slot") := ⟨_, _, _, tY_4, rfl, tu_4, by decide, tw_128, ty_4, tn_4, rfl, rfl, rfl, by decide +kernel⟩
theorem mp_5 : plainName (tb_m 5).1.cls = true := by decide +kernel
theorem ko_Link_3 {j : Nat} (hj : (tb_m j).1.cls = "WireHosts$Link") : kw_o j 3 := ⟨by rw [hj]; exact tw_62, tw_22, tw_23⟩
theorem mc_4 : (tb_m 4).1.cls = "WireHosts$Link" := rfl
theorem kp_Link_9 : kp_f 4 9 3 0 .int := ⟨_, _, _, tY_3, rfl, tu_3, by decide, tw_65, ty_3, tn_3, rfl, rfl, rfl, by decide +kernel⟩
theorem kp_Link_13 : kp_f 4 13 3 1 (.object "WireHosts$Rows") := ⟨_, _, _, tY_3, rfl, tu_3, by decide, tw_66, ty_3, tn_3, rfl, rfl, rfl, by decide +kernel⟩
theorem kn_Link_17 {j : Nat} (hj : (tb_m j).1.cls = "WireHosts$Link") : kw_n j 17 1 5 [.int 0, .int 0, .null, .null, .int 0] := ⟨_, _, tY_1, rfl, tu_1, ty_1, by rw [hj]; exact tw_63, tw_25, tw_2, fun i hi => match i, hi with | 0, _ => rfl | 1, _ => rfl | 2, _ => rfl | 3, _ => rfl | 4, _ => rfl | k + 5, h => absurd h (by omega), rfl⟩
theorem fc_2 : fw_cal 2 2 := ⟨tw_28, tw_2, ⟨by decide +kernel, by decide +kernel, by decide +kernel⟩, by decide +kernel⟩
theorem wi_Link_19 {j : Nat} (hj : (tb_m j).1.cls = "WireHosts$Link") : sv_wI j 19 2 2 := ⟨fc_2, by show Cond.methodLink _ _ _ ∈ tb_ws; rw [hj]; exact tw_64, tw_27, rfl, rfl⟩
theorem kp_Link_22 : kp_f 4 22 3 2 (.object "WireHosts$Rows") := ⟨_, _, _, tY_3, rfl, tu_3, by decide, tw_67, ty_3, tn_3, rfl, rfl, rfl, by decide +kernel⟩
theorem kp_Link_25 : kp_f 4 25 3 3 (.array .int) := ⟨_, _, _, tY_3, rfl, tu_3, by decide, tw_69, ty_3, tn_3, rfl, rfl, rfl, by decide +kernel⟩
theorem mp_4 : plainName (tb_m 4).1.cls = true := by decide +kernel
theorem ko_Ep_3 {j : Nat} (hj : (tb_m j).1.cls = "WireHosts$Endpoint") : kw_o j 3 := ⟨by rw [hj]; exact tw_184, tw_22, tw_23⟩
theorem mc_8 : (tb_m 8).1.cls = "WireHosts$Endpoint" := rfl
theorem kp_Ep_9 : kp_f 8 9 7 0 .int := ⟨_, _, _, tY_7, rfl, tu_7, by decide, tw_246, ty_7, tn_7, rfl, rfl, rfl, by decide +kernel⟩
theorem kp_Ep_15 : kp_f 8 15 7 1 .int := ⟨_, _, _, tY_7, rfl, tu_7, by decide, tw_247, ty_7, tn_7, rfl, rfl, rfl, by decide +kernel⟩
theorem kp_Ep_18 : kp_f 8 18 7 2 (.object "WireHosts$Rows") := ⟨_, _, _, tY_7, rfl, tu_7, by decide, tw_248, ty_7, tn_7, rfl, rfl, rfl, by decide +kernel⟩
theorem kp_Ep_24 : kp_f 8 24 7 3 (.array .int) := ⟨_, _, _, tY_7, rfl, tu_7, by decide, tw_249, ty_7, tn_7, rfl, rfl, rfl, by decide +kernel⟩
theorem kn_Ep_28 {j : Nat} (hj : (tb_m j).1.cls = "WireHosts$Endpoint") : kw_n j 28 8 7 [.null, .int 0, .int 0, .int 0, .int 0, .int 0, .int 0] := ⟨_, _, tY_8, rfl, tu_8, ty_8, by rw [hj]; exact tw_185, tw_186, tw_9, fun i hi => match i, hi with | 0, _ => rfl | 1, _ => rfl | 2, _ => rfl | 3, _ => rfl | 4, _ => rfl | 5, _ => rfl | 6, _ => rfl | k + 7, h => absurd h (by omega), rfl⟩
theorem fc_9 : fw_cal 9 0 := ⟨tw_189, tw_9, ⟨by decide +kernel, by decide +kernel, by decide +kernel⟩, by decide +kernel⟩
theorem wi_Ep_30 {j : Nat} (hj : (tb_m j).1.cls = "WireHosts$Endpoint") : sv_wI j 30 9 0 := ⟨fc_9, by show Cond.methodLink _ _ _ ∈ tb_ws; rw [hj]; exact tw_187, tw_188, rfl, rfl⟩
theorem kp_Ep_31 : kp_f 8 31 7 4 (.object "WireHosts$Sending") := ⟨_, _, _, tY_7, rfl, tu_7, by decide, tw_250, ty_7, tn_7, rfl, rfl, rfl, by decide +kernel⟩
theorem kn_Ep_35 {j : Nat} (hj : (tb_m j).1.cls = "WireHosts$Endpoint") : kw_n j 35 9 5 [.null, .null, .int 0, .int 0, .int 0] := ⟨_, _, tY_9, rfl, tu_9, ty_9, by rw [hj]; exact tw_219, tw_220, tw_10, fun i hi => match i, hi with | 0, _ => rfl | 1, _ => rfl | 2, _ => rfl | 3, _ => rfl | 4, _ => rfl | k + 5, h => absurd h (by omega), rfl⟩
theorem fc_10 : fw_cal 10 0 := ⟨tw_223, tw_10, ⟨by decide +kernel, by decide +kernel, by decide +kernel⟩, by decide +kernel⟩
theorem wi_Ep_37 {j : Nat} (hj : (tb_m j).1.cls = "WireHosts$Endpoint") : sv_wI j 37 10 0 := ⟨fc_10, by show Cond.methodLink _ _ _ ∈ tb_ws; rw [hj]; exact tw_221, tw_222, rfl, rfl⟩
theorem kp_Ep_38 : kp_f 8 38 7 5 (.object "WireHosts$Receiving") := ⟨_, _, _, tY_7, rfl, tu_7, by decide, tw_251, ty_7, tn_7, rfl, rfl, rfl, by decide +kernel⟩
theorem mp_8 : plainName (tb_m 8).1.cls = true := by decide +kernel
theorem ko_Host_7 {j : Nat} (hj : (tb_m j).1.cls = "WireHosts$Host") : kw_o j 7 := ⟨by rw [hj]; exact tw_54, tw_22, tw_23⟩
theorem mc_3 : (tb_m 3).1.cls = "WireHosts$Host" := rfl
theorem kn_Host_13 {j : Nat} (hj : (tb_m j).1.cls = "WireHosts$Host") : kw_n j 13 1 5 [.int 0, .int 0, .null, .null, .int 0] := ⟨_, _, tY_1, rfl, tu_1, ty_1, by rw [hj]; exact tw_55, tw_25, tw_2, fun i hi => match i, hi with | 0, _ => rfl | 1, _ => rfl | 2, _ => rfl | 3, _ => rfl | 4, _ => rfl | k + 5, h => absurd h (by omega), rfl⟩
theorem wi_Host_15 {j : Nat} (hj : (tb_m j).1.cls = "WireHosts$Host") : sv_wI j 15 2 2 := ⟨fc_2, by show Cond.methodLink _ _ _ ∈ tb_ws; rw [hj]; exact tw_56, tw_27, rfl, rfl⟩
theorem kp_Host_18 : kp_f 3 18 2 0 .int := ⟨_, _, _, tY_2, rfl, tu_2, by decide, tw_277, ty_2, tn_2, rfl, rfl, rfl, by decide +kernel⟩
theorem kn_Host_22 {j : Nat} (hj : (tb_m j).1.cls = "WireHosts$Host") : kw_n j 22 3 7 [.int 0, .null, .null, .null, .int 0, .int 0, .int 0] := ⟨_, _, tY_3, rfl, tu_3, ty_3, by rw [hj]; exact tw_57, tw_58, tw_4, fun i hi => match i, hi with | 0, _ => rfl | 1, _ => rfl | 2, _ => rfl | 3, _ => rfl | 4, _ => rfl | 5, _ => rfl | 6, _ => rfl | k + 7, h => absurd h (by omega), rfl⟩
theorem fc_4 : fw_cal 4 2 := ⟨tw_61, tw_4, ⟨by decide +kernel, by decide +kernel, by decide +kernel⟩, by decide +kernel⟩
theorem wi_Host_24 {j : Nat} (hj : (tb_m j).1.cls = "WireHosts$Host") : sv_wI j 24 4 2 := ⟨fc_4, by show Cond.methodLink _ _ _ ∈ tb_ws; rw [hj]; exact tw_59, tw_60, rfl, rfl⟩
theorem kp_Host_27 : kp_f 3 27 2 1 (.object "WireHosts$Link") := ⟨_, _, _, tY_2, rfl, tu_2, by decide, tw_278, ty_2, tn_2, rfl, rfl, rfl, by decide +kernel⟩
theorem kn_Host_3 {j : Nat} (hj : (tb_m j).1.cls = "WireHosts$Host") : kw_n j 3 4 5 [.null, .null, .null, .int 0, .int 0] := ⟨_, _, tY_4, rfl, tu_4, ty_4, by rw [hj]; exact tw_91, tw_92, tw_5, fun i hi => match i, hi with | 0, _ => rfl | 1, _ => rfl | 2, _ => rfl | 3, _ => rfl | 4, _ => rfl | k + 5, h => absurd h (by omega), rfl⟩
theorem fc_5 : fw_cal 5 1 := ⟨tw_95, tw_5, ⟨by decide +kernel, by decide +kernel, by decide +kernel⟩, by decide +kernel⟩
theorem wi_Host_31 {j : Nat} (hj : (tb_m j).1.cls = "WireHosts$Host") : sv_wI j 31 5 1 := ⟨fc_5, by show Cond.methodLink _ _ _ ∈ tb_ws; rw [hj]; exact tw_93, tw_94, rfl, rfl⟩
theorem kp_Host_34 : kp_f 3 34 2 2 (.object "WireHosts$Pieces") := ⟨_, _, _, tY_2, rfl, tu_2, by decide, tw_279, ty_2, tn_2, rfl, rfl, rfl, by decide +kernel⟩
theorem kn_Host_38 {j : Nat} (hj : (tb_m j).1.cls = "WireHosts$Host") : kw_n j 38 6 7 [.null, .int 0, .int 0, .int 0, .int 0, .int 0, .int 0] := ⟨_, _, tY_6, rfl, tu_6, ty_6, by rw [hj]; exact tw_145, tw_146, tw_7, fun i hi => match i, hi with | 0, _ => rfl | 1, _ => rfl | 2, _ => rfl | 3, _ => rfl | 4, _ => rfl | 5, _ => rfl | 6, _ => rfl | k + 7, h => absurd h (by omega), rfl⟩
theorem fc_7 : fw_cal 7 1 := ⟨tw_149, tw_7, ⟨by decide +kernel, by decide +kernel, by decide +kernel⟩, by decide +kernel⟩
theorem wi_Host_40 {j : Nat} (hj : (tb_m j).1.cls = "WireHosts$Host") : sv_wI j 40 7 1 := ⟨fc_7, by show Cond.methodLink _ _ _ ∈ tb_ws; rw [hj]; exact tw_147, tw_148, rfl, rfl⟩
theorem kp_Host_41 : kp_f 3 41 2 3 (.object "WireHosts$Segment") := ⟨_, _, _, tY_2, rfl, tu_2, by decide, tw_280, ty_2, tn_2, rfl, rfl, rfl, by decide +kernel⟩
theorem kn_Host_45 {j : Nat} (hj : (tb_m j).1.cls = "WireHosts$Host") : kw_n j 45 7 10 [.int 0, .int 0, .null, .null, .null, .null, .int 0, .int 0, .int 0, .int 0] := ⟨_, _, tY_7, rfl, tu_7, ty_7, by rw [hj]; exact tw_179, tw_180, tw_8, fun i hi => match i, hi with | 0, _ => rfl | 1, _ => rfl | 2, _ => rfl | 3, _ => rfl | 4, _ => rfl | 5, _ => rfl | 6, _ => rfl | 7, _ => rfl | 8, _ => rfl | 9, _ => rfl | k + 10, h => absurd h (by omega), rfl⟩
theorem fc_8 : fw_cal 8 3 := ⟨tw_183, tw_8, ⟨by decide +kernel, by decide +kernel, by decide +kernel⟩, by decide +kernel⟩
theorem wi_Host_47 {j : Nat} (hj : (tb_m j).1.cls = "WireHosts$Host") : sv_wI j 47 8 3 := ⟨fc_8, by show Cond.methodLink _ _ _ ∈ tb_ws; rw [hj]; exact tw_181, tw_182, rfl, rfl⟩
theorem kp_Host_50 : kp_f 3 50 2 4 (.object "WireHosts$Endpoint") := ⟨_, _, _, tY_2, rfl, tu_2, by decide, tw_281, ty_2, tn_2, rfl, rfl, rfl, by decide +kernel⟩
theorem kp_Host_54 : kp_f 3 54 2 5 (.object "WireHosts$Endpoint") := ⟨_, _, _, tY_2, rfl, tu_2, by decide, tw_282, ty_2, tn_2, rfl, rfl, rfl, by decide +kernel⟩
theorem kp_Host_57 : kp_f 3 57 2 6 (.object "WireHosts$Rows") := ⟨_, _, _, tY_2, rfl, tu_2, by decide, tw_283, ty_2, tn_2, rfl, rfl, rfl, by decide +kernel⟩
theorem kp_Host_61 : kp_f 3 61 2 7 (.array .int) := ⟨_, _, _, tY_2, rfl, tu_2, by decide, tw_284, ty_2, tn_2, rfl, rfl, rfl, by decide +kernel⟩
theorem kp_Host_65 : kp_f 3 65 2 8 (.array .int) := ⟨_, _, _, tY_2, rfl, tu_2, by decide, tw_285, ty_2, tn_2, rfl, rfl, rfl, by decide +kernel⟩
theorem kp_Host_68 : kp_f 3 68 2 9 (.array .int) := ⟨_, _, _, tY_2, rfl, tu_2, by decide, tw_286, ty_2, tn_2, rfl, rfl, rfl, by decide +kernel⟩
theorem kp_Host_71 : kp_f 3 71 2 10 (.array .int) := ⟨_, _, _, tY_2, rfl, tu_2, by decide, tw_287, ty_2, tn_2, rfl, rfl, rfl, by decide +kernel⟩
theorem mp_3 : plainName (tb_m 3).1.cls = true := by decide +kernel
theorem ko_W_1 {j : Nat} (hj : (tb_m j).1.cls = "WireHosts") : kw_o j 1 := ⟨by rw [hj]; exact tw_21, tw_22, tw_23⟩
theorem mc_0 : (tb_m 0).1.cls = "WireHosts" := rfl
theorem kn_W_7 {j : Nat} (hj : (tb_m j).1.cls = "WireHosts") : kw_n j 7 1 5 [.int 0, .int 0, .null, .null, .int 0] := ⟨_, _, tY_1, rfl, tu_1, ty_1, by rw [hj]; exact tw_24, tw_25, tw_2, fun i hi => match i, hi with | 0, _ => rfl | 1, _ => rfl | 2, _ => rfl | 3, _ => rfl | 4, _ => rfl | k + 5, h => absurd h (by omega), rfl⟩
theorem wi_W_13 {j : Nat} (hj : (tb_m j).1.cls = "WireHosts") : sv_wI j 13 2 2 := ⟨fc_2, by show Cond.methodLink _ _ _ ∈ tb_ws; rw [hj]; exact tw_26, tw_27, rfl, rfl⟩
theorem kq_7 {j : Nat} (hj : (tb_m j).1.cls = "WireHosts") : Cond.classLink (tb_m j).1.cls 7 "WireHosts$Rows" ∈ tb_ws := by rw [hj]; exact tw_24
theorem kp_W_16 : kp_f 0 16 0 0 (.array (.object "WireHosts$Rows")) := ⟨_, _, _, tY_0, rfl, tu_0, by decide, tw_320, ty_0, tn_0, rfl, rfl, rfl, by decide +kernel⟩
theorem kq_20 {j : Nat} (hj : (tb_m j).1.cls = "WireHosts") : Cond.classLink (tb_m j).1.cls 20 "WireHosts$Host" ∈ tb_ws := by rw [hj]; exact tw_48
theorem kn_W_20 {j : Nat} (hj : (tb_m j).1.cls = "WireHosts") : kw_n j 20 2 14 [.int 0, .null, .null, .null, .null, .null, .null, .null, .null, .null, .null, .int 0, .int 0, .int 0] := ⟨_, _, tY_2, rfl, tu_2, ty_2, by rw [hj]; exact tw_48, tw_50, tw_3, fun i hi => match i, hi with | 0, _ => rfl | 1, _ => rfl | 2, _ => rfl | 3, _ => rfl | 4, _ => rfl | 5, _ => rfl | 6, _ => rfl | 7, _ => rfl | 8, _ => rfl | 9, _ => rfl | 10, _ => rfl | 11, _ => rfl | 12, _ => rfl | 13, _ => rfl | k + 14, h => absurd h (by omega), rfl⟩
theorem fc_3 : fw_cal 3 2 := ⟨tw_53, tw_3, ⟨by decide +kernel, by decide +kernel, by decide +kernel⟩, by decide +kernel⟩
theorem wi_W_22 {j : Nat} (hj : (tb_m j).1.cls = "WireHosts") : sv_wI j 22 3 2 := ⟨fc_3, by show Cond.methodLink _ _ _ ∈ tb_ws; rw [hj]; exact tw_51, tw_52, rfl, rfl⟩
theorem kp_W_25 : kp_f 0 25 0 1 (.array (.object "WireHosts$Host")) := ⟨_, _, _, tY_0, rfl, tu_0, by decide, tw_321, ty_0, tn_0, rfl, rfl, rfl, by decide +kernel⟩
theorem mp_0 : plainName (tb_m 0).1.cls = true := by decide +kernel
theorem ko_M_1 {j : Nat} (hj : (tb_m j).1.cls = "WireHostsModel") : kw_o j 1 := ⟨by rw [hj]; exact tw_835, tw_22, tw_23⟩
theorem mc_130 : (tb_m 130).1.cls = "WireHostsModel" := rfl
theorem kp_M_7 : kp_f 130 7 10 1 (.array .int) := ⟨_, _, _, tY_10, rfl, tu_10, by decide, tw_837, ty_10, tn_10, rfl, rfl, rfl, by decide +kernel⟩
theorem kp_M_13 : kp_f 130 13 10 2 (.array .int) := ⟨_, _, _, tY_10, rfl, tu_10, by decide, tw_838, ty_10, tn_10, rfl, rfl, rfl, by decide +kernel⟩
theorem kp_M_16 : kp_f 130 16 10 3 (.array .int) := ⟨_, _, _, tY_10, rfl, tu_10, by decide, tw_839, ty_10, tn_10, rfl, rfl, rfl, by decide +kernel⟩
theorem kp_M_19 : kp_f 130 19 10 4 (.array .int) := ⟨_, _, _, tY_10, rfl, tu_10, by decide, tw_840, ty_10, tn_10, rfl, rfl, rfl, by decide +kernel⟩
theorem kp_M_22 : kp_f 130 22 10 5 (.array .int) := ⟨_, _, _, tY_10, rfl, tu_10, by decide, tw_841, ty_10, tn_10, rfl, rfl, rfl, by decide +kernel⟩
theorem kp_M_25 : kp_f 130 25 10 6 (.array .int) := ⟨_, _, _, tY_10, rfl, tu_10, by decide, tw_842, ty_10, tn_10, rfl, rfl, rfl, by decide +kernel⟩
theorem kp_M_28 : kp_f 130 28 10 7 (.array .int) := ⟨_, _, _, tY_10, rfl, tu_10, by decide, tw_843, ty_10, tn_10, rfl, rfl, rfl, by decide +kernel⟩
theorem kp_M_31 : kp_f 130 31 10 8 (.array .int) := ⟨_, _, _, tY_10, rfl, tu_10, by decide, tw_844, ty_10, tn_10, rfl, rfl, rfl, by decide +kernel⟩
theorem kp_M_34 : kp_f 130 34 10 9 (.array .int) := ⟨_, _, _, tY_10, rfl, tu_10, by decide, tw_845, ty_10, tn_10, rfl, rfl, rfl, by decide +kernel⟩
theorem kp_M_37 : kp_f 130 37 10 10 (.array .int) := ⟨_, _, _, tY_10, rfl, tu_10, by decide, tw_846, ty_10, tn_10, rfl, rfl, rfl, by decide +kernel⟩
theorem kp_M_40 : kp_f 130 40 10 11 (.array .int) := ⟨_, _, _, tY_10, rfl, tu_10, by decide, tw_847, ty_10, tn_10, rfl, rfl, rfl, by decide +kernel⟩
theorem kp_M_43 : kp_f 130 43 10 12 (.array .int) := ⟨_, _, _, tY_10, rfl, tu_10, by decide, tw_848, ty_10, tn_10, rfl, rfl, rfl, by decide +kernel⟩
theorem kp_M_46 : kp_f 130 46 10 13 (.array .boolean) := ⟨_, _, _, tY_10, rfl, tu_10, by decide, tw_849, ty_10, tn_10, rfl, rfl, rfl, by decide +kernel⟩
theorem kp_M_50 : kp_f 130 50 10 14 (.array .int) := ⟨_, _, _, tY_10, rfl, tu_10, by decide, tw_850, ty_10, tn_10, rfl, rfl, rfl, by decide +kernel⟩
theorem kp_M_53 : kp_f 130 53 10 15 (.array .int) := ⟨_, _, _, tY_10, rfl, tu_10, by decide, tw_851, ty_10, tn_10, rfl, rfl, rfl, by decide +kernel⟩
theorem kp_M_56 : kp_f 130 56 10 16 (.array .int) := ⟨_, _, _, tY_10, rfl, tu_10, by decide, tw_852, ty_10, tn_10, rfl, rfl, rfl, by decide +kernel⟩
theorem kp_M_59 : kp_f 130 59 10 17 (.array .int) := ⟨_, _, _, tY_10, rfl, tu_10, by decide, tw_853, ty_10, tn_10, rfl, rfl, rfl, by decide +kernel⟩
theorem kp_M_62 : kp_f 130 62 10 18 (.array .int) := ⟨_, _, _, tY_10, rfl, tu_10, by decide, tw_854, ty_10, tn_10, rfl, rfl, rfl, by decide +kernel⟩
theorem kp_M_65 : kp_f 130 65 10 19 (.array .boolean) := ⟨_, _, _, tY_10, rfl, tu_10, by decide, tw_855, ty_10, tn_10, rfl, rfl, rfl, by decide +kernel⟩
theorem kp_M_68 : kp_f 130 68 10 20 (.array .int) := ⟨_, _, _, tY_10, rfl, tu_10, by decide, tw_856, ty_10, tn_10, rfl, rfl, rfl, by decide +kernel⟩
theorem kp_M_71 : kp_f 130 71 10 21 (.array .int) := ⟨_, _, _, tY_10, rfl, tu_10, by decide, tw_857, ty_10, tn_10, rfl, rfl, rfl, by decide +kernel⟩
theorem kp_M_74 : kp_f 130 74 10 22 (.array .int) := ⟨_, _, _, tY_10, rfl, tu_10, by decide, tw_858, ty_10, tn_10, rfl, rfl, rfl, by decide +kernel⟩
theorem kp_M_77 : kp_f 130 77 10 23 (.array .int) := ⟨_, _, _, tY_10, rfl, tu_10, by decide, tw_859, ty_10, tn_10, rfl, rfl, rfl, by decide +kernel⟩
theorem kp_M_80 : kp_f 130 80 10 24 (.array .int) := ⟨_, _, _, tY_10, rfl, tu_10, by decide, tw_860, ty_10, tn_10, rfl, rfl, rfl, by decide +kernel⟩
theorem kp_M_83 : kp_f 130 83 10 25 (.array .int) := ⟨_, _, _, tY_10, rfl, tu_10, by decide, tw_861, ty_10, tn_10, rfl, rfl, rfl, by decide +kernel⟩
theorem kp_M_86 : kp_f 130 86 10 26 (.array .int) := ⟨_, _, _, tY_10, rfl, tu_10, by decide, tw_862, ty_10, tn_10, rfl, rfl, rfl, by decide +kernel⟩
theorem kp_M_89 : kp_f 130 89 10 27 (.array .int) := ⟨_, _, _, tY_10, rfl, tu_10, by decide, tw_863, ty_10, tn_10, rfl, rfl, rfl, by decide +kernel⟩
theorem kp_M_92 : kp_f 130 92 10 28 (.array .boolean) := ⟨_, _, _, tY_10, rfl, tu_10, by decide, tw_864, ty_10, tn_10, rfl, rfl, rfl, by decide +kernel⟩
theorem kp_M_95 : kp_f 130 95 10 29 (.array .boolean) := ⟨_, _, _, tY_10, rfl, tu_10, by decide, tw_865, ty_10, tn_10, rfl, rfl, rfl, by decide +kernel⟩
theorem kp_M_98 : kp_f 130 98 10 30 (.array .int) := ⟨_, _, _, tY_10, rfl, tu_10, by decide, tw_866, ty_10, tn_10, rfl, rfl, rfl, by decide +kernel⟩
theorem kp_M_101 : kp_f 130 101 10 31 (.array .int) := ⟨_, _, _, tY_10, rfl, tu_10, by decide, tw_867, ty_10, tn_10, rfl, rfl, rfl, by decide +kernel⟩
theorem kp_M_104 : kp_f 130 104 10 32 (.array .boolean) := ⟨_, _, _, tY_10, rfl, tu_10, by decide, tw_868, ty_10, tn_10, rfl, rfl, rfl, by decide +kernel⟩
theorem kp_M_107 : kp_f 130 107 10 33 (.array .int) := ⟨_, _, _, tY_10, rfl, tu_10, by decide, tw_869, ty_10, tn_10, rfl, rfl, rfl, by decide +kernel⟩
theorem kp_M_110 : kp_f 130 110 10 34 (.array .int) := ⟨_, _, _, tY_10, rfl, tu_10, by decide, tw_870, ty_10, tn_10, rfl, rfl, rfl, by decide +kernel⟩
theorem kp_M_113 : kp_f 130 113 10 35 (.array .int) := ⟨_, _, _, tY_10, rfl, tu_10, by decide, tw_871, ty_10, tn_10, rfl, rfl, rfl, by decide +kernel⟩
theorem kp_M_116 : kp_f 130 116 10 36 (.array .int) := ⟨_, _, _, tY_10, rfl, tu_10, by decide, tw_872, ty_10, tn_10, rfl, rfl, rfl, by decide +kernel⟩
theorem kp_M_119 : kp_f 130 119 10 37 (.array .int) := ⟨_, _, _, tY_10, rfl, tu_10, by decide, tw_873, ty_10, tn_10, rfl, rfl, rfl, by decide +kernel⟩
theorem kp_M_122 : kp_f 130 122 10 38 (.array .int) := ⟨_, _, _, tY_10, rfl, tu_10, by decide, tw_874, ty_10, tn_10, rfl, rfl, rfl, by decide +kernel⟩
theorem kp_M_125 : kp_f 130 125 10 40 (.array .int) := ⟨_, _, _, tY_10, rfl, tu_10, by decide, tw_876, ty_10, tn_10, rfl, rfl, rfl, by decide +kernel⟩
theorem kp_M_128 : kp_f 130 128 10 42 (.array .int) := ⟨_, _, _, tY_10, rfl, tu_10, by decide, tw_878, ty_10, tn_10, rfl, rfl, rfl, by decide +kernel⟩
theorem kp_M_131 : kp_f 130 131 10 44 (.array .int) := ⟨_, _, _, tY_10, rfl, tu_10, by decide, tw_880, ty_10, tn_10, rfl, rfl, rfl, by decide +kernel⟩
theorem mp_130 : plainName (tb_m 130).1.cls = true := by decide +kernel
theorem d_Rows_init_0 : sv_D 2 0 (.aload_n 0) 1 1 := ⟨by decide +kernel, rfl⟩
theorem d_Rows_init_1 : sv_D 2 1 (.invokespecial 3) 3 4 := ⟨by decide +kernel, rfl⟩
theorem d_Rows_init_4 : sv_D 2 4 (.aload_n 0) 1 5 := ⟨by decide +kernel, rfl⟩
theorem d_Rows_init_5 : sv_D 2 5 (.iload_n 1) 1 6 := ⟨by decide +kernel, rfl⟩
theorem d_Rows_init_6 : sv_D 2 6 (.putfield 9) 3 9 := ⟨by decide +kernel, rfl⟩
theorem d_Rows_init_9 : sv_D 2 9 (.aload_n 0) 1 10 := ⟨by decide +kernel, rfl⟩
theorem d_Rows_init_10 : sv_D 2 10 (.iload_n 2) 1 11 := ⟨by decide +kernel, rfl⟩
theorem d_Rows_init_11 : sv_D 2 11 (.putfield 15) 3 14 := ⟨by decide +kernel, rfl⟩
theorem d_Rows_init_14 : sv_D 2 14 (.aload_n 0) 1 15 := ⟨by decide +kernel, rfl⟩
theorem d_Rows_init_15 : sv_D 2 15 (.iload_n 1) 1 16 := ⟨by decide +kernel, rfl⟩
theorem d_Rows_init_16 : sv_D 2 16 (.iconst 1) 1 17 := ⟨by decide +kernel, rfl⟩
theorem d_Rows_init_17 : sv_D 2 17 (.iadd) 1 18 := ⟨by decide +kernel, rfl⟩
theorem d_Rows_init_18 : sv_D 2 18 (.iload_n 2) 1 19 := ⟨by decide +kernel, rfl⟩
theorem d_Rows_init_19 : sv_D 2 19 (.imul) 1 20 := ⟨by decide +kernel, rfl⟩
theorem d_Rows_init_20 : sv_D 2 20 (.newarray .int) 2 22 := ⟨by decide +kernel, rfl⟩
theorem d_Rows_init_22 : sv_D 2 22 (.putfield 18) 3 25 := ⟨by decide +kernel, rfl⟩
theorem d_Rows_init_25 : sv_D 2 25 (.aload_n 0) 1 26 := ⟨by decide +kernel, rfl⟩
theorem d_Rows_init_26 : sv_D 2 26 (.iload_n 1) 1 27 := ⟨by decide +kernel, rfl⟩
theorem d_Rows_init_27 : sv_D 2 27 (.iconst 1) 1 28 := ⟨by decide +kernel, rfl⟩
theorem d_Rows_init_28 : sv_D 2 28 (.iadd) 1 29 := ⟨by decide +kernel, rfl⟩
theorem d_Rows_init_29 : sv_D 2 29 (.newarray .int) 2 31 := ⟨by decide +kernel, rfl⟩
theorem d_Rows_init_31 : sv_D 2 31 (.putfield 22) 3 34 := ⟨by decide +kernel, rfl⟩
theorem d_Rows_init_34 : sv_D 2 34 (.return_) 1 35 := ⟨by decide +kernel, rfl⟩
theorem d_Slot_init_0 : sv_D 6 0 (.aload_n 0) 1 1 := ⟨by decide +kernel, rfl⟩
theorem d_Slot_init_1 : sv_D 6 1 (.invokespecial 3) 3 4 := ⟨by decide +kernel, rfl⟩
theorem d_Slot_init_4 : sv_D 6 4 (.aload_n 0) 1 5 := ⟨by decide +kernel, rfl⟩
theorem d_Slot_init_5 : sv_D 6 5 (.bipush 48) 2 7 := ⟨by decide +kernel, rfl⟩
theorem d_Slot_init_7 : sv_D 6 7 (.newarray .int) 2 9 := ⟨by decide +kernel, rfl⟩
theorem d_Slot_init_9 : sv_D 6 9 (.putfield 11) 3 12 := ⟨by decide +kernel, rfl⟩
theorem d_Slot_init_12 : sv_D 6 12 (.return_) 1 13 := ⟨by decide +kernel, rfl⟩
theorem d_Seg_init_0 : sv_D 7 0 (.aload_n 0) 1 1 := ⟨by decide +kernel, rfl⟩
theorem d_Seg_init_1 : sv_D 7 1 (.invokespecial 5) 3 4 := ⟨by decide +kernel, rfl⟩
theorem d_Seg_init_4 : sv_D 7 4 (.aload_n 0) 1 5 := ⟨by decide +kernel, rfl⟩
theorem d_Seg_init_5 : sv_D 7 5 (.aload_n 1) 1 6 := ⟨by decide +kernel, rfl⟩
theorem d_Seg_init_6 : sv_D 7 6 (.putfield 11) 3 9 := ⟨by decide +kernel, rfl⟩
theorem d_Seg_init_9 : sv_D 7 9 (.return_) 1 10 := ⟨by decide +kernel, rfl⟩
theorem d_Snd_init_0 : sv_D 9 0 (.aload_n 0) 1 1 := ⟨by decide +kernel, rfl⟩
theorem d_Snd_init_1 : sv_D 9 1 (.invokespecial 1) 3 4 := ⟨by decide +kernel, rfl⟩
theorem d_Snd_init_4 : sv_D 9 4 (.aload_n 0) 1 5 := ⟨by decide +kernel, rfl⟩
theorem d_Snd_init_5 : sv_D 9 5 (.bipush 64) 2 7 := ⟨by decide +kernel, rfl⟩
theorem d_Snd_init_7 : sv_D 9 7 (.newarray .int) 2 9 := ⟨by decide +kernel, rfl⟩
theorem d_Snd_init_9 : sv_D 9 9 (.putfield 9) 3 12 := ⟨by decide +kernel, rfl⟩
theorem d_Snd_init_12 : sv_D 9 12 (.return_) 1 13 := ⟨by decide +kernel, rfl⟩
theorem d_Rcv_init_0 : sv_D 10 0 (.aload_n 0) 1 1 := ⟨by decide +kernel, rfl⟩
theorem d_Rcv_init_1 : sv_D 10 1 (.invokespecial 3) 3 4 := ⟨by decide +kernel, rfl⟩
theorem d_Rcv_init_4 : sv_D 10 4 (.aload_n 0) 1 5 := ⟨by decide +kernel, rfl⟩
theorem d_Rcv_init_5 : sv_D 10 5 (.bipush 24) 2 7 := ⟨by decide +kernel, rfl⟩
theorem d_Rcv_init_7 : sv_D 10 7 (.newarray .int) 2 9 := ⟨by decide +kernel, rfl⟩
theorem d_Rcv_init_9 : sv_D 10 9 (.putfield 11) 3 12 := ⟨by decide +kernel, rfl⟩
theorem d_Rcv_init_12 : sv_D 10 12 (.aload_n 0) 1 13 := ⟨by decide +kernel, rfl⟩
theorem d_Rcv_init_13 : sv_D 10 13 (.bipush 32) 2 15 := ⟨by decide +kernel, rfl⟩
theorem d_Rcv_init_15 : sv_D 10 15 (.newarray .int) 2 17 := ⟨by decide +kernel, rfl⟩
theorem d_Rcv_init_17 : sv_D 10 17 (.putfield 15) 3 20 := ⟨by decide +kernel, rfl⟩
theorem d_Rcv_init_20 : sv_D 10 20 (.aload_n 0) 1 21 := ⟨by decide +kernel, rfl⟩
theorem d_Rcv_init_21 : sv_D 10 21 (.getfield 15) 3 24 := ⟨by decide +kernel, rfl⟩
theorem d_Rcv_init_24 : sv_D 10 24 (.iconst (-1)) 1 25 := ⟨by decide +kernel, rfl⟩
theorem d_Rcv_init_25 : sv_D 10 25 (.invokestatic 18) 3 28 := ⟨by decide +kernel, rfl⟩
theorem d_Rcv_init_28 : sv_D 10 28 (.aload_n 0) 1 29 := ⟨by decide +kernel, rfl⟩
theorem d_Rcv_init_29 : sv_D 10 29 (.iconst (-1)) 1 30 := ⟨by decide +kernel, rfl⟩
theorem d_Rcv_init_30 : sv_D 10 30 (.putfield 24) 3 33 := ⟨by decide +kernel, rfl⟩
theorem d_Rcv_init_33 : sv_D 10 33 (.return_) 1 34 := ⟨by decide +kernel, rfl⟩
theorem d_Pieces_init_0 : sv_D 5 0 (.aload_n 0) 1 1 := ⟨by decide +kernel, rfl⟩
theorem d_Pieces_init_1 : sv_D 5 1 (.invokespecial 5) 3 4 := ⟨by decide +kernel, rfl⟩
theorem d_Pieces_init_4 : sv_D 5 4 (.aload_n 0) 1 5 := ⟨by decide +kernel, rfl⟩
theorem d_Pieces_init_5 : sv_D 5 5 (.aload_n 1) 1 6 := ⟨by decide +kernel, rfl⟩
theorem d_Pieces_init_6 : sv_D 5 6 (.putfield 11) 3 9 := ⟨by decide +kernel, rfl⟩
theorem d_Pieces_init_9 : sv_D 5 9 (.aload_n 0) 1 10 := ⟨by decide +kernel, rfl⟩
theorem d_Pieces_init_10 : sv_D 5 10 (.new 15) 3 13 := ⟨by decide +kernel, rfl⟩
theorem d_Pieces_init_13 : sv_D 5 13 (.dup) 1 14 := ⟨by decide +kernel, rfl⟩
theorem d_Pieces_init_14 : sv_D 5 14 (.invokespecial 17) 3 17 := ⟨by decide +kernel, rfl⟩
theorem d_Pieces_init_17 : sv_D 5 17 (.putfield 18) 3 20 := ⟨by decide +kernel, rfl⟩
theorem d_Pieces_init_20 : sv_D 5 20 (.aload_n 0) 1 21 := ⟨by decide +kernel, rfl⟩
theorem d_Pieces_init_21 : sv_D 5 21 (.new 15) 3 24 := ⟨by decide +kernel, rfl⟩
theorem d_Pieces_init_24 : sv_D 5 24 (.dup) 1 25 := ⟨by decide +kernel, rfl⟩
theorem d_Pieces_init_25 : sv_D 5 25 (.invokespecial 17) 3 28 := ⟨by decide +kernel, rfl⟩
theorem d_Pieces_init_28 : sv_D 5 28 (.putfield 22) 3 31 := ⟨by decide +kernel, rfl⟩
theorem d_Pieces_init_31 : sv_D 5 31 (.return_) 1 32 := ⟨by decide +kernel, rfl⟩
theorem d_Link_init_0 : sv_D 4 0 (.aload_n 0) 1 1 := ⟨by decide +kernel, rfl⟩
theorem d_Link_init_1 : sv_D 4 1 (.invokespecial 3) 3 4 := ⟨by decide +kernel, rfl⟩
theorem d_Link_init_4 : sv_D 4 4 (.aload_n 0) 1 5 := ⟨by decide +kernel, rfl⟩
theorem d_Link_init_5 : sv_D 4 5 (.iload_n 1) 1 6 := ⟨by decide +kernel, rfl⟩
theorem d_Link_init_6 : sv_D 4 6 (.putfield 9) 3 9 := ⟨by decide +kernel, rfl⟩
theorem d_Link_init_9 : sv_D 4 9 (.aload_n 0) 1 10 := ⟨by decide +kernel, rfl⟩
theorem d_Link_init_10 : sv_D 4 10 (.aload_n 2) 1 11 := ⟨by decide +kernel, rfl⟩
theorem d_Link_init_11 : sv_D 4 11 (.putfield 13) 3 14 := ⟨by decide +kernel, rfl⟩
theorem d_Link_init_14 : sv_D 4 14 (.aload_n 0) 1 15 := ⟨by decide +kernel, rfl⟩
theorem d_Link_init_15 : sv_D 4 15 (.new 17) 3 18 := ⟨by decide +kernel, rfl⟩
theorem d_Link_init_18 : sv_D 4 18 (.dup) 1 19 := ⟨by decide +kernel, rfl⟩
theorem d_Link_init_19 : sv_D 4 19 (.iconst 4) 1 20 := ⟨by decide +kernel, rfl⟩
theorem d_Link_init_20 : sv_D 4 20 (.bipush 34) 2 22 := ⟨by decide +kernel, rfl⟩
theorem d_Link_init_22 : sv_D 4 22 (.invokespecial 19) 3 25 := ⟨by decide +kernel, rfl⟩
theorem d_Link_init_25 : sv_D 4 25 (.putfield 22) 3 28 := ⟨by decide +kernel, rfl⟩
theorem d_Link_init_28 : sv_D 4 28 (.aload_n 0) 1 29 := ⟨by decide +kernel, rfl⟩
theorem d_Link_init_29 : sv_D 4 29 (.bipush 37) 2 31 := ⟨by decide +kernel, rfl⟩
theorem d_Link_init_31 : sv_D 4 31 (.newarray .int) 2 33 := ⟨by decide +kernel, rfl⟩
theorem d_Link_init_33 : sv_D 4 33 (.putfield 25) 3 36 := ⟨by decide +kernel, rfl⟩
theorem d_Link_init_36 : sv_D 4 36 (.return_) 1 37 := ⟨by decide +kernel, rfl⟩
theorem d_Ep_init_0 : sv_D 8 0 (.aload_n 0) 1 1 := ⟨by decide +kernel, rfl⟩
theorem d_Ep_init_1 : sv_D 8 1 (.invokespecial 3) 3 4 := ⟨by decide +kernel, rfl⟩
theorem d_Ep_init_4 : sv_D 8 4 (.aload_n 0) 1 5 := ⟨by decide +kernel, rfl⟩
theorem d_Ep_init_5 : sv_D 8 5 (.iload_n 1) 1 6 := ⟨by decide +kernel, rfl⟩
theorem d_Ep_init_6 : sv_D 8 6 (.putfield 9) 3 9 := ⟨by decide +kernel, rfl⟩
theorem d_Ep_init_9 : sv_D 8 9 (.aload_n 0) 1 10 := ⟨by decide +kernel, rfl⟩
theorem d_Ep_init_10 : sv_D 8 10 (.iload_n 2) 1 11 := ⟨by decide +kernel, rfl⟩
theorem d_Ep_init_11 : sv_D 8 11 (.putfield 15) 3 14 := ⟨by decide +kernel, rfl⟩
theorem d_Ep_init_14 : sv_D 8 14 (.aload_n 0) 1 15 := ⟨by decide +kernel, rfl⟩
theorem d_Ep_init_15 : sv_D 8 15 (.aload_n 3) 1 16 := ⟨by decide +kernel, rfl⟩
theorem d_Ep_init_16 : sv_D 8 16 (.putfield 18) 3 19 := ⟨by decide +kernel, rfl⟩
theorem d_Ep_init_19 : sv_D 8 19 (.aload_n 0) 1 20 := ⟨by decide +kernel, rfl⟩
theorem d_Ep_init_20 : sv_D 8 20 (.bipush 49) 2 22 := ⟨by decide +kernel, rfl⟩
theorem d_Ep_init_22 : sv_D 8 22 (.newarray .int) 2 24 := ⟨by decide +kernel, rfl⟩
theorem d_Ep_init_24 : sv_D 8 24 (.putfield 24) 3 27 := ⟨by decide +kernel, rfl⟩
theorem d_Ep_init_27 : sv_D 8 27 (.aload_n 0) 1 28 := ⟨by decide +kernel, rfl⟩
theorem d_Ep_init_28 : sv_D 8 28 (.new 28) 3 31 := ⟨by decide +kernel, rfl⟩
theorem d_Ep_init_31 : sv_D 8 31 (.dup) 1 32 := ⟨by decide +kernel, rfl⟩
theorem d_Ep_init_32 : sv_D 8 32 (.invokespecial 30) 3 35 := ⟨by decide +kernel, rfl⟩
theorem d_Ep_init_35 : sv_D 8 35 (.putfield 31) 3 38 := ⟨by decide +kernel, rfl⟩
theorem d_Ep_init_38 : sv_D 8 38 (.aload_n 0) 1 39 := ⟨by decide +kernel, rfl⟩
theorem d_Ep_init_39 : sv_D 8 39 (.new 35) 3 42 := ⟨by decide +kernel, rfl⟩
theorem d_Ep_init_42 : sv_D 8 42 (.dup) 1 43 := ⟨by decide +kernel, rfl⟩
theorem d_Ep_init_43 : sv_D 8 43 (.invokespecial 37) 3 46 := ⟨by decide +kernel, rfl⟩
theorem d_Ep_init_46 : sv_D 8 46 (.putfield 38) 3 49 := ⟨by decide +kernel, rfl⟩
theorem d_Ep_init_49 : sv_D 8 49 (.aload_n 0) 1 50 := ⟨by decide +kernel, rfl⟩
theorem d_Ep_init_50 : sv_D 8 50 (.iconst 4) 1 51 := ⟨by decide +kernel, rfl⟩
theorem d_Ep_init_51 : sv_D 8 51 (.putfield 42) 3 54 := ⟨by decide +kernel, rfl⟩
theorem d_Ep_init_54 : sv_D 8 54 (.return_) 1 55 := ⟨by decide +kernel, rfl⟩
theorem d_Host_init_0 : sv_D 3 0 (.aload_n 0) 1 1 := ⟨by decide +kernel, rfl⟩
theorem d_Host_init_1 : sv_D 3 1 (.invokespecial 7) 3 4 := ⟨by decide +kernel, rfl⟩
theorem d_Host_init_4 : sv_D 3 4 (.bipush 48) 2 6 := ⟨by decide +kernel, rfl⟩
theorem d_Host_init_6 : sv_D 3 6 (.newarray .int) 2 8 := ⟨by decide +kernel, rfl⟩
theorem d_Host_init_8 : sv_D 3 8 (.astore_n 3) 1 9 := ⟨by decide +kernel, rfl⟩
theorem d_Host_init_9 : sv_D 3 9 (.new 13) 3 12 := ⟨by decide +kernel, rfl⟩
theorem d_Host_init_12 : sv_D 3 12 (.dup) 1 13 := ⟨by decide +kernel, rfl⟩
theorem d_Host_init_13 : sv_D 3 13 (.bipush 8) 2 15 := ⟨by decide +kernel, rfl⟩
theorem d_Host_init_15 : sv_D 3 15 (.bipush 49) 2 17 := ⟨by decide +kernel, rfl⟩
theorem d_Host_init_17 : sv_D 3 17 (.invokespecial 15) 3 20 := ⟨by decide +kernel, rfl⟩
theorem d_Host_init_20 : sv_D 3 20 (.astore 4) 2 22 := ⟨by decide +kernel, rfl⟩
theorem d_Host_init_22 : sv_D 3 22 (.aload_n 0) 1 23 := ⟨by decide +kernel, rfl⟩
theorem d_Host_init_23 : sv_D 3 23 (.iload_n 1) 1 24 := ⟨by decide +kernel, rfl⟩
theorem d_Host_init_24 : sv_D 3 24 (.putfield 18) 3 27 := ⟨by decide +kernel, rfl⟩
theorem d_Host_init_27 : sv_D 3 27 (.aload_n 0) 1 28 := ⟨by decide +kernel, rfl⟩
theorem d_Host_init_28 : sv_D 3 28 (.new 22) 3 31 := ⟨by decide +kernel, rfl⟩
theorem d_Host_init_31 : sv_D 3 31 (.dup) 1 32 := ⟨by decide +kernel, rfl⟩
theorem d_Host_init_32 : sv_D 3 32 (.iload_n 1) 1 33 := ⟨by decide +kernel, rfl⟩
theorem d_Host_init_33 : sv_D 3 33 (.aload_n 2) 1 34 := ⟨by decide +kernel, rfl⟩
theorem d_Host_init_34 : sv_D 3 34 (.invokespecial 24) 3 37 := ⟨by decide +kernel, rfl⟩
theorem d_Host_init_37 : sv_D 3 37 (.putfield 27) 3 40 := ⟨by decide +kernel, rfl⟩
theorem d_Host_init_40 : sv_D 3 40 (.aload_n 0) 1 41 := ⟨by decide +kernel, rfl⟩
theorem d_Host_init_41 : sv_D 3 41 (.new 3) 3 44 := ⟨by decide +kernel, rfl⟩
theorem d_Host_init_44 : sv_D 3 44 (.dup) 1 45 := ⟨by decide +kernel, rfl⟩
theorem d_Host_init_45 : sv_D 3 45 (.aload_n 3) 1 46 := ⟨by decide +kernel, rfl⟩
theorem d_Host_init_46 : sv_D 3 46 (.invokespecial 31) 3 49 := ⟨by decide +kernel, rfl⟩
theorem d_Host_init_49 : sv_D 3 49 (.putfield 34) 3 52 := ⟨by decide +kernel, rfl⟩
theorem d_Host_init_52 : sv_D 3 52 (.aload_n 0) 1 53 := ⟨by decide +kernel, rfl⟩
theorem d_Host_init_53 : sv_D 3 53 (.new 38) 3 56 := ⟨by decide +kernel, rfl⟩
theorem d_Host_init_56 : sv_D 3 56 (.dup) 1 57 := ⟨by decide +kernel, rfl⟩
theorem d_Host_init_57 : sv_D 3 57 (.aload_n 3) 1 58 := ⟨by decide +kernel, rfl⟩
theorem d_Host_init_58 : sv_D 3 58 (.invokespecial 40) 3 61 := ⟨by decide +kernel, rfl⟩
theorem d_Host_init_61 : sv_D 3 61 (.putfield 41) 3 64 := ⟨by decide +kernel, rfl⟩
theorem d_Host_init_64 : sv_D 3 64 (.aload_n 0) 1 65 := ⟨by decide +kernel, rfl⟩
theorem d_Host_init_65 : sv_D 3 65 (.new 45) 3 68 := ⟨by decide +kernel, rfl⟩
theorem d_Host_init_68 : sv_D 3 68 (.dup) 1 69 := ⟨by decide +kernel, rfl⟩
theorem d_Host_init_69 : sv_D 3 69 (.iload_n 1) 1 70 := ⟨by decide +kernel, rfl⟩
theorem d_Host_init_70 : sv_D 3 70 (.iconst 1) 1 71 := ⟨by decide +kernel, rfl⟩
theorem d_Host_init_71 : sv_D 3 71 (.aload 4) 2 73 := ⟨by decide +kernel, rfl⟩
theorem d_Host_init_73 : sv_D 3 73 (.invokespecial 47) 3 76 := ⟨by decide +kernel, rfl⟩
theorem d_Host_init_76 : sv_D 3 76 (.putfield 50) 3 79 := ⟨by decide +kernel, rfl⟩
theorem d_Host_init_79 : sv_D 3 79 (.aload_n 0) 1 80 := ⟨by decide +kernel, rfl⟩
theorem d_Host_init_80 : sv_D 3 80 (.new 45) 3 83 := ⟨by decide +kernel, rfl⟩
theorem d_Host_init_83 : sv_D 3 83 (.dup) 1 84 := ⟨by decide +kernel, rfl⟩
theorem d_Host_init_84 : sv_D 3 84 (.iload_n 1) 1 85 := ⟨by decide +kernel, rfl⟩
theorem d_Host_init_85 : sv_D 3 85 (.iconst 2) 1 86 := ⟨by decide +kernel, rfl⟩
theorem d_Host_init_86 : sv_D 3 86 (.aload 4) 2 88 := ⟨by decide +kernel, rfl⟩
theorem d_Host_init_88 : sv_D 3 88 (.invokespecial 47) 3 91 := ⟨by decide +kernel, rfl⟩
theorem d_Host_init_91 : sv_D 3 91 (.putfield 54) 3 94 := ⟨by decide +kernel, rfl⟩
theorem d_Host_init_94 : sv_D 3 94 (.aload_n 0) 1 95 := ⟨by decide +kernel, rfl⟩
theorem d_Host_init_95 : sv_D 3 95 (.aload 4) 2 97 := ⟨by decide +kernel, rfl⟩
theorem d_Host_init_97 : sv_D 3 97 (.putfield 57) 3 100 := ⟨by decide +kernel, rfl⟩
theorem d_Host_init_100 : sv_D 3 100 (.aload_n 0) 1 101 := ⟨by decide +kernel, rfl⟩
theorem d_Host_init_101 : sv_D 3 101 (.aload_n 3) 1 102 := ⟨by decide +kernel, rfl⟩
theorem d_Host_init_102 : sv_D 3 102 (.putfield 61) 3 105 := ⟨by decide +kernel, rfl⟩
theorem d_Host_init_105 : sv_D 3 105 (.aload_n 0) 1 106 := ⟨by decide +kernel, rfl⟩
theorem d_Host_init_106 : sv_D 3 106 (.bipush 37) 2 108 := ⟨by decide +kernel, rfl⟩
theorem d_Host_init_108 : sv_D 3 108 (.newarray .int) 2 110 := ⟨by decide +kernel, rfl⟩
theorem d_Host_init_110 : sv_D 3 110 (.putfield 65) 3 113 := ⟨by decide +kernel, rfl⟩
theorem d_Host_init_113 : sv_D 3 113 (.aload_n 0) 1 114 := ⟨by decide +kernel, rfl⟩
theorem d_Host_init_114 : sv_D 3 114 (.bipush 34) 2 116 := ⟨by decide +kernel, rfl⟩
theorem d_Host_init_116 : sv_D 3 116 (.newarray .int) 2 118 := ⟨by decide +kernel, rfl⟩
theorem d_Host_init_118 : sv_D 3 118 (.putfield 68) 3 121 := ⟨by decide +kernel, rfl⟩
theorem d_Host_init_121 : sv_D 3 121 (.aload_n 0) 1 122 := ⟨by decide +kernel, rfl⟩
theorem d_Host_init_122 : sv_D 3 122 (.bipush 49) 2 124 := ⟨by decide +kernel, rfl⟩
theorem d_Host_init_124 : sv_D 3 124 (.newarray .int) 2 126 := ⟨by decide +kernel, rfl⟩
theorem d_Host_init_126 : sv_D 3 126 (.putfield 71) 3 129 := ⟨by decide +kernel, rfl⟩
theorem d_Host_init_129 : sv_D 3 129 (.aload_n 0) 1 130 := ⟨by decide +kernel, rfl⟩
theorem d_Host_init_130 : sv_D 3 130 (.iconst (-1)) 1 131 := ⟨by decide +kernel, rfl⟩
theorem d_Host_init_131 : sv_D 3 131 (.putfield 74) 3 134 := ⟨by decide +kernel, rfl⟩
theorem d_Host_init_134 : sv_D 3 134 (.return_) 1 135 := ⟨by decide +kernel, rfl⟩
theorem d_W_init_0 : sv_D 0 0 (.aload_n 0) 1 1 := ⟨by decide +kernel, rfl⟩
theorem d_W_init_1 : sv_D 0 1 (.invokespecial 1) 3 4 := ⟨by decide +kernel, rfl⟩
theorem d_W_init_4 : sv_D 0 4 (.new 7) 3 7 := ⟨by decide +kernel, rfl⟩
theorem d_W_init_7 : sv_D 0 7 (.dup) 1 8 := ⟨by decide +kernel, rfl⟩
theorem d_W_init_8 : sv_D 0 8 (.bipush 16) 2 10 := ⟨by decide +kernel, rfl⟩
theorem d_W_init_10 : sv_D 0 10 (.bipush 37) 2 12 := ⟨by decide +kernel, rfl⟩
theorem d_W_init_12 : sv_D 0 12 (.invokespecial 13) 3 15 := ⟨by decide +kernel, rfl⟩
theorem d_W_init_15 : sv_D 0 15 (.astore_n 1) 1 16 := ⟨by decide +kernel, rfl⟩
theorem d_W_init_16 : sv_D 0 16 (.new 7) 3 19 := ⟨by decide +kernel, rfl⟩
theorem d_W_init_19 : sv_D 0 19 (.dup) 1 20 := ⟨by decide +kernel, rfl⟩
theorem d_W_init_20 : sv_D 0 20 (.bipush 16) 2 22 := ⟨by decide +kernel, rfl⟩
theorem d_W_init_22 : sv_D 0 22 (.bipush 37) 2 24 := ⟨by decide +kernel, rfl⟩
theorem d_W_init_24 : sv_D 0 24 (.invokespecial 13) 3 27 := ⟨by decide +kernel, rfl⟩
theorem d_W_init_27 : sv_D 0 27 (.astore_n 2) 1 28 := ⟨by decide +kernel, rfl⟩
theorem d_W_init_28 : sv_D 0 28 (.aload_n 0) 1 29 := ⟨by decide +kernel, rfl⟩
theorem d_W_init_29 : sv_D 0 29 (.iconst 2) 1 30 := ⟨by decide +kernel, rfl⟩
theorem d_W_init_30 : sv_D 0 30 (.anewarray 7) 3 33 := ⟨by decide +kernel, rfl⟩
theorem d_W_init_33 : sv_D 0 33 (.dup) 1 34 := ⟨by decide +kernel, rfl⟩
theorem d_W_init_34 : sv_D 0 34 (.iconst 0) 1 35 := ⟨by decide +kernel, rfl⟩
theorem d_W_init_35 : sv_D 0 35 (.aload_n 1) 1 36 := ⟨by decide +kernel, rfl⟩
theorem d_W_init_36 : sv_D 0 36 (.aastore) 1 37 := ⟨by decide +kernel, rfl⟩
theorem d_W_init_37 : sv_D 0 37 (.dup) 1 38 := ⟨by decide +kernel, rfl⟩
theorem d_W_init_38 : sv_D 0 38 (.iconst 1) 1 39 := ⟨by decide +kernel, rfl⟩
theorem d_W_init_39 : sv_D 0 39 (.aload_n 2) 1 40 := ⟨by decide +kernel, rfl⟩
theorem d_W_init_40 : sv_D 0 40 (.aastore) 1 41 := ⟨by decide +kernel, rfl⟩
theorem d_W_init_41 : sv_D 0 41 (.putfield 16) 3 44 := ⟨by decide +kernel, rfl⟩
theorem d_W_init_44 : sv_D 0 44 (.aload_n 0) 1 45 := ⟨by decide +kernel, rfl⟩
theorem d_W_init_45 : sv_D 0 45 (.iconst 2) 1 46 := ⟨by decide +kernel, rfl⟩
theorem d_W_init_46 : sv_D 0 46 (.anewarray 20) 3 49 := ⟨by decide +kernel, rfl⟩
theorem d_W_init_49 : sv_D 0 49 (.dup) 1 50 := ⟨by decide +kernel, rfl⟩
theorem d_W_init_50 : sv_D 0 50 (.iconst 0) 1 51 := ⟨by decide +kernel, rfl⟩
theorem d_W_init_51 : sv_D 0 51 (.new 20) 3 54 := ⟨by decide +kernel, rfl⟩
theorem d_W_init_54 : sv_D 0 54 (.dup) 1 55 := ⟨by decide +kernel, rfl⟩
theorem d_W_init_55 : sv_D 0 55 (.iconst 0) 1 56 := ⟨by decide +kernel, rfl⟩
theorem d_W_init_56 : sv_D 0 56 (.aload_n 2) 1 57 := ⟨by decide +kernel, rfl⟩
theorem d_W_init_57 : sv_D 0 57 (.invokespecial 22) 3 60 := ⟨by decide +kernel, rfl⟩
theorem d_W_init_60 : sv_D 0 60 (.aastore) 1 61 := ⟨by decide +kernel, rfl⟩
theorem d_W_init_61 : sv_D 0 61 (.dup) 1 62 := ⟨by decide +kernel, rfl⟩
theorem d_W_init_62 : sv_D 0 62 (.iconst 1) 1 63 := ⟨by decide +kernel, rfl⟩
theorem d_W_init_63 : sv_D 0 63 (.new 20) 3 66 := ⟨by decide +kernel, rfl⟩
theorem d_W_init_66 : sv_D 0 66 (.dup) 1 67 := ⟨by decide +kernel, rfl⟩
theorem d_W_init_67 : sv_D 0 67 (.iconst 1) 1 68 := ⟨by decide +kernel, rfl⟩
theorem d_W_init_68 : sv_D 0 68 (.aload_n 1) 1 69 := ⟨by decide +kernel, rfl⟩
theorem d_W_init_69 : sv_D 0 69 (.invokespecial 22) 3 72 := ⟨by decide +kernel, rfl⟩
theorem d_W_init_72 : sv_D 0 72 (.aastore) 1 73 := ⟨by decide +kernel, rfl⟩
theorem d_W_init_73 : sv_D 0 73 (.putfield 25) 3 76 := ⟨by decide +kernel, rfl⟩
theorem d_W_init_76 : sv_D 0 76 (.return_) 1 77 := ⟨by decide +kernel, rfl⟩
theorem d_M_init_0 : sv_D 130 0 (.aload_n 0) 1 1 := ⟨by decide +kernel, rfl⟩
theorem d_M_init_1 : sv_D 130 1 (.invokespecial 1) 3 4 := ⟨by decide +kernel, rfl⟩
theorem d_M_init_4 : sv_D 130 4 (.aload_n 0) 1 5 := ⟨by decide +kernel, rfl⟩
theorem d_M_init_5 : sv_D 130 5 (.iconst 2) 1 6 := ⟨by decide +kernel, rfl⟩
theorem d_M_init_6 : sv_D 130 6 (.newarray .int) 2 8 := ⟨by decide +kernel, rfl⟩
theorem d_M_init_8 : sv_D 130 8 (.putfield 7) 3 11 := ⟨by decide +kernel, rfl⟩
theorem d_M_init_11 : sv_D 130 11 (.aload_n 0) 1 12 := ⟨by decide +kernel, rfl⟩
theorem d_M_init_12 : sv_D 130 12 (.bipush 32) 2 14 := ⟨by decide +kernel, rfl⟩
theorem d_M_init_14 : sv_D 130 14 (.newarray .int) 2 16 := ⟨by decide +kernel, rfl⟩
theorem d_M_init_16 : sv_D 130 16 (.putfield 13) 3 19 := ⟨by decide +kernel, rfl⟩
theorem d_M_init_19 : sv_D 130 19 (.aload_n 0) 1 20 := ⟨by decide +kernel, rfl⟩
theorem d_M_init_20 : sv_D 130 20 (.sipush 1280) 3 23 := ⟨by decide +kernel, rfl⟩
theorem d_M_init_23 : sv_D 130 23 (.newarray .int) 2 25 := ⟨by decide +kernel, rfl⟩
theorem d_M_init_25 : sv_D 130 25 (.putfield 16) 3 28 := ⟨by decide +kernel, rfl⟩
theorem d_M_init_28 : sv_D 130 28 (.aload_n 0) 1 29 := ⟨by decide +kernel, rfl⟩
theorem d_M_init_29 : sv_D 130 29 (.iconst 2) 1 30 := ⟨by decide +kernel, rfl⟩
theorem d_M_init_30 : sv_D 130 30 (.newarray .int) 2 32 := ⟨by decide +kernel, rfl⟩
theorem d_M_init_32 : sv_D 130 32 (.putfield 19) 3 35 := ⟨by decide +kernel, rfl⟩
theorem d_M_init_35 : sv_D 130 35 (.aload_n 0) 1 36 := ⟨by decide +kernel, rfl⟩
theorem d_M_init_36 : sv_D 130 36 (.bipush 8) 2 38 := ⟨by decide +kernel, rfl⟩
theorem d_M_init_38 : sv_D 130 38 (.newarray .int) 2 40 := ⟨by decide +kernel, rfl⟩
theorem d_M_init_40 : sv_D 130 40 (.putfield 22) 3 43 := ⟨by decide +kernel, rfl⟩
theorem d_M_init_43 : sv_D 130 43 (.aload_n 0) 1 44 := ⟨by decide +kernel, rfl⟩
theorem d_M_init_44 : sv_D 130 44 (.sipush 320) 3 47 := ⟨by decide +kernel, rfl⟩
theorem d_M_init_47 : sv_D 130 47 (.newarray .int) 2 49 := ⟨by decide +kernel, rfl⟩
theorem d_M_init_49 : sv_D 130 49 (.putfield 25) 3 52 := ⟨by decide +kernel, rfl⟩
theorem d_M_init_52 : sv_D 130 52 (.aload_n 0) 1 53 := ⟨by decide +kernel, rfl⟩
theorem d_M_init_53 : sv_D 130 53 (.iconst 2) 1 54 := ⟨by decide +kernel, rfl⟩
theorem d_M_init_54 : sv_D 130 54 (.newarray .int) 2 56 := ⟨by decide +kernel, rfl⟩
theorem d_M_init_56 : sv_D 130 56 (.putfield 28) 3 59 := ⟨by decide +kernel, rfl⟩
theorem d_M_init_59 : sv_D 130 59 (.aload_n 0) 1 60 := ⟨by decide +kernel, rfl⟩
theorem d_M_init_60 : sv_D 130 60 (.iconst 2) 1 61 := ⟨by decide +kernel, rfl⟩
theorem d_M_init_61 : sv_D 130 61 (.newarray .int) 2 63 := ⟨by decide +kernel, rfl⟩
theorem d_M_init_63 : sv_D 130 63 (.putfield 31) 3 66 := ⟨by decide +kernel, rfl⟩
theorem d_M_init_66 : sv_D 130 66 (.aload_n 0) 1 67 := ⟨by decide +kernel, rfl⟩
theorem d_M_init_67 : sv_D 130 67 (.iconst 2) 1 68 := ⟨by decide +kernel, rfl⟩
theorem d_M_init_68 : sv_D 130 68 (.newarray .int) 2 70 := ⟨by decide +kernel, rfl⟩
theorem d_M_init_70 : sv_D 130 70 (.putfield 34) 3 73 := ⟨by decide +kernel, rfl⟩
theorem d_M_init_73 : sv_D 130 73 (.aload_n 0) 1 74 := ⟨by decide +kernel, rfl⟩
theorem d_M_init_74 : sv_D 130 74 (.iconst 2) 1 75 := ⟨by decide +kernel, rfl⟩
theorem d_M_init_75 : sv_D 130 75 (.newarray .int) 2 77 := ⟨by decide +kernel, rfl⟩
theorem d_M_init_77 : sv_D 130 77 (.putfield 37) 3 80 := ⟨by decide +kernel, rfl⟩
theorem d_M_init_80 : sv_D 130 80 (.aload_n 0) 1 81 := ⟨by decide +kernel, rfl⟩
theorem d_M_init_81 : sv_D 130 81 (.iconst 2) 1 82 := ⟨by decide +kernel, rfl⟩
theorem d_M_init_82 : sv_D 130 82 (.newarray .int) 2 84 := ⟨by decide +kernel, rfl⟩
theorem d_M_init_84 : sv_D 130 84 (.putfield 40) 3 87 := ⟨by decide +kernel, rfl⟩
theorem d_M_init_87 : sv_D 130 87 (.aload_n 0) 1 88 := ⟨by decide +kernel, rfl⟩
theorem d_M_init_88 : sv_D 130 88 (.iconst 2) 1 89 := ⟨by decide +kernel, rfl⟩
theorem d_M_init_89 : sv_D 130 89 (.newarray .int) 2 91 := ⟨by decide +kernel, rfl⟩
theorem d_M_init_91 : sv_D 130 91 (.dup) 1 92 := ⟨by decide +kernel, rfl⟩
theorem d_M_init_92 : sv_D 130 92 (.iconst 0) 1 93 := ⟨by decide +kernel, rfl⟩
theorem d_M_init_93 : sv_D 130 93 (.iconst (-1)) 1 94 := ⟨by decide +kernel, rfl⟩
theorem d_M_init_94 : sv_D 130 94 (.iastore) 1 95 := ⟨by decide +kernel, rfl⟩
theorem d_M_init_95 : sv_D 130 95 (.dup) 1 96 := ⟨by decide +kernel, rfl⟩
theorem d_M_init_96 : sv_D 130 96 (.iconst 1) 1 97 := ⟨by decide +kernel, rfl⟩
theorem d_M_init_97 : sv_D 130 97 (.iconst (-1)) 1 98 := ⟨by decide +kernel, rfl⟩
theorem d_M_init_98 : sv_D 130 98 (.iastore) 1 99 := ⟨by decide +kernel, rfl⟩
theorem d_M_init_99 : sv_D 130 99 (.putfield 43) 3 102 := ⟨by decide +kernel, rfl⟩
theorem d_M_init_102 : sv_D 130 102 (.aload_n 0) 1 103 := ⟨by decide +kernel, rfl⟩
theorem d_M_init_103 : sv_D 130 103 (.iconst 4) 1 104 := ⟨by decide +kernel, rfl⟩
theorem d_M_init_104 : sv_D 130 104 (.newarray .boolean) 2 106 := ⟨by decide +kernel, rfl⟩
theorem d_M_init_106 : sv_D 130 106 (.putfield 46) 3 109 := ⟨by decide +kernel, rfl⟩
theorem d_M_init_109 : sv_D 130 109 (.aload_n 0) 1 110 := ⟨by decide +kernel, rfl⟩
theorem d_M_init_110 : sv_D 130 110 (.iconst 4) 1 111 := ⟨by decide +kernel, rfl⟩
theorem d_M_init_111 : sv_D 130 111 (.newarray .int) 2 113 := ⟨by decide +kernel, rfl⟩
theorem d_M_init_113 : sv_D 130 113 (.putfield 50) 3 116 := ⟨by decide +kernel, rfl⟩
theorem d_M_init_116 : sv_D 130 116 (.aload_n 0) 1 117 := ⟨by decide +kernel, rfl⟩
theorem d_M_init_117 : sv_D 130 117 (.iconst 4) 1 118 := ⟨by decide +kernel, rfl⟩
theorem d_M_init_118 : sv_D 130 118 (.newarray .int) 2 120 := ⟨by decide +kernel, rfl⟩
theorem d_M_init_120 : sv_D 130 120 (.putfield 53) 3 123 := ⟨by decide +kernel, rfl⟩
theorem d_M_init_123 : sv_D 130 123 (.aload_n 0) 1 124 := ⟨by decide +kernel, rfl⟩
theorem d_M_init_124 : sv_D 130 124 (.iconst 4) 1 125 := ⟨by decide +kernel, rfl⟩
theorem d_M_init_125 : sv_D 130 125 (.newarray .int) 2 127 := ⟨by decide +kernel, rfl⟩
theorem d_M_init_127 : sv_D 130 127 (.putfield 56) 3 130 := ⟨by decide +kernel, rfl⟩
theorem d_M_init_130 : sv_D 130 130 (.aload_n 0) 1 131 := ⟨by decide +kernel, rfl⟩
theorem d_M_init_131 : sv_D 130 131 (.iconst 4) 1 132 := ⟨by decide +kernel, rfl⟩
theorem d_M_init_132 : sv_D 130 132 (.newarray .int) 2 134 := ⟨by decide +kernel, rfl⟩
theorem d_M_init_134 : sv_D 130 134 (.putfield 59) 3 137 := ⟨by decide +kernel, rfl⟩
theorem d_M_init_137 : sv_D 130 137 (.aload_n 0) 1 138 := ⟨by decide +kernel, rfl⟩
theorem d_M_init_138 : sv_D 130 138 (.sipush 192) 3 141 := ⟨by decide +kernel, rfl⟩
theorem d_M_init_141 : sv_D 130 141 (.newarray .int) 2 143 := ⟨by decide +kernel, rfl⟩
theorem d_M_init_143 : sv_D 130 143 (.putfield 62) 3 146 := ⟨by decide +kernel, rfl⟩
theorem d_M_init_146 : sv_D 130 146 (.aload_n 0) 1 147 := ⟨by decide +kernel, rfl⟩
theorem d_M_init_147 : sv_D 130 147 (.sipush 192) 3 150 := ⟨by decide +kernel, rfl⟩
theorem d_M_init_150 : sv_D 130 150 (.newarray .boolean) 2 152 := ⟨by decide +kernel, rfl⟩
theorem d_M_init_152 : sv_D 130 152 (.putfield 65) 3 155 := ⟨by decide +kernel, rfl⟩
theorem d_M_init_155 : sv_D 130 155 (.aload_n 0) 1 156 := ⟨by decide +kernel, rfl⟩
theorem d_M_init_156 : sv_D 130 156 (.iconst 4) 1 157 := ⟨by decide +kernel, rfl⟩
theorem d_M_init_157 : sv_D 130 157 (.newarray .int) 2 159 := ⟨by decide +kernel, rfl⟩
theorem d_M_init_159 : sv_D 130 159 (.putfield 68) 3 162 := ⟨by decide +kernel, rfl⟩
theorem d_M_init_162 : sv_D 130 162 (.aload_n 0) 1 163 := ⟨by decide +kernel, rfl⟩
theorem d_M_init_163 : sv_D 130 163 (.iconst 4) 1 164 := ⟨by decide +kernel, rfl⟩
theorem d_M_init_164 : sv_D 130 164 (.newarray .int) 2 166 := ⟨by decide +kernel, rfl⟩
theorem d_M_init_166 : sv_D 130 166 (.putfield 71) 3 169 := ⟨by decide +kernel, rfl⟩
theorem d_M_init_169 : sv_D 130 169 (.aload_n 0) 1 170 := ⟨by decide +kernel, rfl⟩
theorem d_M_init_170 : sv_D 130 170 (.iconst 4) 1 171 := ⟨by decide +kernel, rfl⟩
theorem d_M_init_171 : sv_D 130 171 (.newarray .int) 2 173 := ⟨by decide +kernel, rfl⟩
theorem d_M_init_173 : sv_D 130 173 (.putfield 74) 3 176 := ⟨by decide +kernel, rfl⟩
theorem d_M_init_176 : sv_D 130 176 (.aload_n 0) 1 177 := ⟨by decide +kernel, rfl⟩
theorem d_M_init_177 : sv_D 130 177 (.iconst 4) 1 178 := ⟨by decide +kernel, rfl⟩
theorem d_M_init_178 : sv_D 130 178 (.newarray .int) 2 180 := ⟨by decide +kernel, rfl⟩
theorem d_M_init_180 : sv_D 130 180 (.putfield 77) 3 183 := ⟨by decide +kernel, rfl⟩
theorem d_M_init_183 : sv_D 130 183 (.aload_n 0) 1 184 := ⟨by decide +kernel, rfl⟩
theorem d_M_init_184 : sv_D 130 184 (.iconst 4) 1 185 := ⟨by decide +kernel, rfl⟩
theorem d_M_init_185 : sv_D 130 185 (.newarray .int) 2 187 := ⟨by decide +kernel, rfl⟩
theorem d_M_init_187 : sv_D 130 187 (.putfield 80) 3 190 := ⟨by decide +kernel, rfl⟩
theorem d_M_init_190 : sv_D 130 190 (.aload_n 0) 1 191 := ⟨by decide +kernel, rfl⟩
theorem d_M_init_191 : sv_D 130 191 (.iconst 4) 1 192 := ⟨by decide +kernel, rfl⟩
theorem d_M_init_192 : sv_D 130 192 (.newarray .int) 2 194 := ⟨by decide +kernel, rfl⟩
theorem d_M_init_194 : sv_D 130 194 (.putfield 83) 3 197 := ⟨by decide +kernel, rfl⟩
theorem d_M_init_197 : sv_D 130 197 (.aload_n 0) 1 198 := ⟨by decide +kernel, rfl⟩
theorem d_M_init_198 : sv_D 130 198 (.iconst 4) 1 199 := ⟨by decide +kernel, rfl⟩
theorem d_M_init_199 : sv_D 130 199 (.newarray .int) 2 201 := ⟨by decide +kernel, rfl⟩
theorem d_M_init_201 : sv_D 130 201 (.putfield 86) 3 204 := ⟨by decide +kernel, rfl⟩
theorem d_M_init_204 : sv_D 130 204 (.aload_n 0) 1 205 := ⟨by decide +kernel, rfl⟩
theorem d_M_init_205 : sv_D 130 205 (.sipush 256) 3 208 := ⟨by decide +kernel, rfl⟩
theorem d_M_init_208 : sv_D 130 208 (.newarray .int) 2 210 := ⟨by decide +kernel, rfl⟩
theorem d_M_init_210 : sv_D 130 210 (.putfield 89) 3 213 := ⟨by decide +kernel, rfl⟩
theorem d_M_init_213 : sv_D 130 213 (.aload_n 0) 1 214 := ⟨by decide +kernel, rfl⟩
theorem d_M_init_214 : sv_D 130 214 (.iconst 4) 1 215 := ⟨by decide +kernel, rfl⟩
theorem d_M_init_215 : sv_D 130 215 (.newarray .boolean) 2 217 := ⟨by decide +kernel, rfl⟩
theorem d_M_init_217 : sv_D 130 217 (.putfield 92) 3 220 := ⟨by decide +kernel, rfl⟩
theorem d_M_init_220 : sv_D 130 220 (.aload_n 0) 1 221 := ⟨by decide +kernel, rfl⟩
theorem d_M_init_221 : sv_D 130 221 (.iconst 4) 1 222 := ⟨by decide +kernel, rfl⟩
theorem d_M_init_222 : sv_D 130 222 (.newarray .boolean) 2 224 := ⟨by decide +kernel, rfl⟩
theorem d_M_init_224 : sv_D 130 224 (.putfield 95) 3 227 := ⟨by decide +kernel, rfl⟩
theorem d_M_init_227 : sv_D 130 227 (.aload_n 0) 1 228 := ⟨by decide +kernel, rfl⟩
theorem d_M_init_228 : sv_D 130 228 (.iconst 4) 1 229 := ⟨by decide +kernel, rfl⟩
theorem d_M_init_229 : sv_D 130 229 (.newarray .int) 2 231 := ⟨by decide +kernel, rfl⟩
theorem d_M_init_231 : sv_D 130 231 (.putfield 98) 3 234 := ⟨by decide +kernel, rfl⟩
theorem d_M_init_234 : sv_D 130 234 (.aload_n 0) 1 235 := ⟨by decide +kernel, rfl⟩
theorem d_M_init_235 : sv_D 130 235 (.sipush 128) 3 238 := ⟨by decide +kernel, rfl⟩
theorem d_M_init_238 : sv_D 130 238 (.newarray .int) 2 240 := ⟨by decide +kernel, rfl⟩
theorem d_M_init_240 : sv_D 130 240 (.putfield 101) 3 243 := ⟨by decide +kernel, rfl⟩
theorem d_M_init_243 : sv_D 130 243 (.aload_n 0) 1 244 := ⟨by decide +kernel, rfl⟩
theorem d_M_init_244 : sv_D 130 244 (.sipush 128) 3 247 := ⟨by decide +kernel, rfl⟩
theorem d_M_init_247 : sv_D 130 247 (.newarray .boolean) 2 249 := ⟨by decide +kernel, rfl⟩
theorem d_M_init_249 : sv_D 130 249 (.putfield 104) 3 252 := ⟨by decide +kernel, rfl⟩
theorem d_M_init_252 : sv_D 130 252 (.aload_n 0) 1 253 := ⟨by decide +kernel, rfl⟩
theorem d_M_init_253 : sv_D 130 253 (.sipush 128) 3 256 := ⟨by decide +kernel, rfl⟩
theorem d_M_init_256 : sv_D 130 256 (.newarray .int) 2 258 := ⟨by decide +kernel, rfl⟩
theorem d_M_init_258 : sv_D 130 258 (.putfield 107) 3 261 := ⟨by decide +kernel, rfl⟩
theorem d_M_init_261 : sv_D 130 261 (.aload_n 0) 1 262 := ⟨by decide +kernel, rfl⟩
theorem d_M_init_262 : sv_D 130 262 (.iconst 4) 1 263 := ⟨by decide +kernel, rfl⟩
theorem d_M_init_263 : sv_D 130 263 (.newarray .int) 2 265 := ⟨by decide +kernel, rfl⟩
theorem d_M_init_265 : sv_D 130 265 (.dup) 1 266 := ⟨by decide +kernel, rfl⟩
theorem d_M_init_266 : sv_D 130 266 (.iconst 0) 1 267 := ⟨by decide +kernel, rfl⟩
theorem d_M_init_267 : sv_D 130 267 (.iconst (-1)) 1 268 := ⟨by decide +kernel, rfl⟩
theorem d_M_init_268 : sv_D 130 268 (.iastore) 1 269 := ⟨by decide +kernel, rfl⟩
theorem d_M_init_269 : sv_D 130 269 (.dup) 1 270 := ⟨by decide +kernel, rfl⟩
theorem d_M_init_270 : sv_D 130 270 (.iconst 1) 1 271 := ⟨by decide +kernel, rfl⟩
theorem d_M_init_271 : sv_D 130 271 (.iconst (-1)) 1 272 := ⟨by decide +kernel, rfl⟩
theorem d_M_init_272 : sv_D 130 272 (.iastore) 1 273 := ⟨by decide +kernel, rfl⟩
theorem d_M_init_273 : sv_D 130 273 (.dup) 1 274 := ⟨by decide +kernel, rfl⟩
theorem d_M_init_274 : sv_D 130 274 (.iconst 2) 1 275 := ⟨by decide +kernel, rfl⟩
theorem d_M_init_275 : sv_D 130 275 (.iconst (-1)) 1 276 := ⟨by decide +kernel, rfl⟩
theorem d_M_init_276 : sv_D 130 276 (.iastore) 1 277 := ⟨by decide +kernel, rfl⟩
theorem d_M_init_277 : sv_D 130 277 (.dup) 1 278 := ⟨by decide +kernel, rfl⟩
theorem d_M_init_278 : sv_D 130 278 (.iconst 3) 1 279 := ⟨by decide +kernel, rfl⟩
theorem d_M_init_279 : sv_D 130 279 (.iconst (-1)) 1 280 := ⟨by decide +kernel, rfl⟩
theorem d_M_init_280 : sv_D 130 280 (.iastore) 1 281 := ⟨by decide +kernel, rfl⟩
theorem d_M_init_281 : sv_D 130 281 (.putfield 110) 3 284 := ⟨by decide +kernel, rfl⟩
theorem d_M_init_284 : sv_D 130 284 (.aload_n 0) 1 285 := ⟨by decide +kernel, rfl⟩
theorem d_M_init_285 : sv_D 130 285 (.iconst 4) 1 286 := ⟨by decide +kernel, rfl⟩
theorem d_M_init_286 : sv_D 130 286 (.newarray .int) 2 288 := ⟨by decide +kernel, rfl⟩
theorem d_M_init_288 : sv_D 130 288 (.putfield 113) 3 291 := ⟨by decide +kernel, rfl⟩
theorem d_M_init_291 : sv_D 130 291 (.aload_n 0) 1 292 := ⟨by decide +kernel, rfl⟩
theorem d_M_init_292 : sv_D 130 292 (.iconst 4) 1 293 := ⟨by decide +kernel, rfl⟩
theorem d_M_init_293 : sv_D 130 293 (.newarray .int) 2 295 := ⟨by decide +kernel, rfl⟩
theorem d_M_init_295 : sv_D 130 295 (.dup) 1 296 := ⟨by decide +kernel, rfl⟩
theorem d_M_init_296 : sv_D 130 296 (.iconst 0) 1 297 := ⟨by decide +kernel, rfl⟩
theorem d_M_init_297 : sv_D 130 297 (.iconst 4) 1 298 := ⟨by decide +kernel, rfl⟩
theorem d_M_init_298 : sv_D 130 298 (.iastore) 1 299 := ⟨by decide +kernel, rfl⟩
theorem d_M_init_299 : sv_D 130 299 (.dup) 1 300 := ⟨by decide +kernel, rfl⟩
theorem d_M_init_300 : sv_D 130 300 (.iconst 1) 1 301 := ⟨by decide +kernel, rfl⟩
theorem d_M_init_301 : sv_D 130 301 (.iconst 4) 1 302 := ⟨by decide +kernel, rfl⟩
theorem d_M_init_302 : sv_D 130 302 (.iastore) 1 303 := ⟨by decide +kernel, rfl⟩
theorem d_M_init_303 : sv_D 130 303 (.dup) 1 304 := ⟨by decide +kernel, rfl⟩
theorem d_M_init_304 : sv_D 130 304 (.iconst 2) 1 305 := ⟨by decide +kernel, rfl⟩
theorem d_M_init_305 : sv_D 130 305 (.iconst 4) 1 306 := ⟨by decide +kernel, rfl⟩
theorem d_M_init_306 : sv_D 130 306 (.iastore) 1 307 := ⟨by decide +kernel, rfl⟩
theorem d_M_init_307 : sv_D 130 307 (.dup) 1 308 := ⟨by decide +kernel, rfl⟩
theorem d_M_init_308 : sv_D 130 308 (.iconst 3) 1 309 := ⟨by decide +kernel, rfl⟩
theorem d_M_init_309 : sv_D 130 309 (.iconst 4) 1 310 := ⟨by decide +kernel, rfl⟩
theorem d_M_init_310 : sv_D 130 310 (.iastore) 1 311 := ⟨by decide +kernel, rfl⟩
theorem d_M_init_311 : sv_D 130 311 (.putfield 116) 3 314 := ⟨by decide +kernel, rfl⟩
theorem d_M_init_314 : sv_D 130 314 (.aload_n 0) 1 315 := ⟨by decide +kernel, rfl⟩
theorem d_M_init_315 : sv_D 130 315 (.iconst 4) 1 316 := ⟨by decide +kernel, rfl⟩
theorem d_M_init_316 : sv_D 130 316 (.newarray .int) 2 318 := ⟨by decide +kernel, rfl⟩
theorem d_M_init_318 : sv_D 130 318 (.putfield 119) 3 321 := ⟨by decide +kernel, rfl⟩
theorem d_M_init_321 : sv_D 130 321 (.aload_n 0) 1 322 := ⟨by decide +kernel, rfl⟩
theorem d_M_init_322 : sv_D 130 322 (.bipush 40) 2 324 := ⟨by decide +kernel, rfl⟩
theorem d_M_init_324 : sv_D 130 324 (.newarray .int) 2 326 := ⟨by decide +kernel, rfl⟩
theorem d_M_init_326 : sv_D 130 326 (.putfield 122) 3 329 := ⟨by decide +kernel, rfl⟩
theorem d_M_init_329 : sv_D 130 329 (.aload_n 0) 1 330 := ⟨by decide +kernel, rfl⟩
theorem d_M_init_330 : sv_D 130 330 (.bipush 64) 2 332 := ⟨by decide +kernel, rfl⟩
theorem d_M_init_332 : sv_D 130 332 (.newarray .int) 2 334 := ⟨by decide +kernel, rfl⟩
theorem d_M_init_334 : sv_D 130 334 (.putfield 125) 3 337 := ⟨by decide +kernel, rfl⟩
theorem d_M_init_337 : sv_D 130 337 (.aload_n 0) 1 338 := ⟨by decide +kernel, rfl⟩
theorem d_M_init_338 : sv_D 130 338 (.bipush 64) 2 340 := ⟨by decide +kernel, rfl⟩
theorem d_M_init_340 : sv_D 130 340 (.newarray .int) 2 342 := ⟨by decide +kernel, rfl⟩
theorem d_M_init_342 : sv_D 130 342 (.putfield 128) 3 345 := ⟨by decide +kernel, rfl⟩
theorem d_M_init_345 : sv_D 130 345 (.aload_n 0) 1 346 := ⟨by decide +kernel, rfl⟩
theorem d_M_init_346 : sv_D 130 346 (.bipush 40) 2 348 := ⟨by decide +kernel, rfl⟩
theorem d_M_init_348 : sv_D 130 348 (.newarray .int) 2 350 := ⟨by decide +kernel, rfl⟩
theorem d_M_init_350 : sv_D 130 350 (.putfield 131) 3 353 := ⟨by decide +kernel, rfl⟩
theorem d_M_init_353 : sv_D 130 353 (.return_) 1 354 := ⟨by decide +kernel, rfl⟩
theorem kf_loop (d : Nat) {n q N : Nat} {h : fw_H} {f : Nat → Int32} {x : Int32} {P : fw_P} (hN : N < 2 ^ 31) (hP : P none n (fw_up h q (.inl (0, N, .inl (fun i => if i < N then x else f i))))) : ∀ m k : Nat, k + m = N →
    fw_Go d 11 5 [some (.ref q), some (.int x), some (.int (nI k)), some (.int (nI N))] [] n (fw_up h q (.inl (0, N, .inl (fun i => if i < k then x else f i)))) 0 0 P := by
  intro m
  induction m with
  | zero =>
    intro k hk
    have hk : k = N := by omega
    subst hk
    refine fw_iload_n d_Arrays_fill_5.1 rfl ?_
    refine fw_iload_n d_Arrays_fill_6.1 rfl ?_
    refine fw_icmp_ge 20 d_Arrays_fill_7.1 rfl (fun _ => ?_) (fun g => absurd (Int32.le_refl _) g)
    exact fw_vret rfl d_Arrays_fill_20.1 hP
  | succ m ih =>
    intro k hk
    refine fw_iload_n d_Arrays_fill_5.1 rfl ?_
    refine fw_iload_n d_Arrays_fill_6.1 rfl ?_
    refine fw_icmp_ge 20 d_Arrays_fill_7.1 rfl (fun g => absurd g (nI_ge (by omega) hN)) (fun _ => ?_)
    refine fw_aload_n d_Arrays_fill_10.1 rfl ?_
    refine fw_iload_n d_Arrays_fill_11.1 rfl ?_
    refine fw_iload_n d_Arrays_fill_12.1 rfl ?_
    refine fw_iast tb_ty0 (fw_up_s _ _ _) (nI_in (by omega) hN) d_Arrays_fill_13.1 ?_
    rw [fw_up_up, nI_clamp (by omega)]
    refine fw_iinc (v := nI (k + 1)) d_Arrays_fill_14.1 rfl (nI_succ k).symm ?_
    refine fw_goto 5 d_Arrays_fill_17.1 rfl ?_
    have e : upd (fun i => if i < k then x else f i) k x = (fun i => if i < k + 1 then x else f i) := by
      funext i
      unfold upd
      by_cases e1 : i = k
      · rw [if_pos e1, if_pos (by omega)]
      · rw [if_neg e1]
        show (if i < k then x else f i) = _
        by_cases e2 : i < k
        · rw [if_pos e2, if_pos (by omega)]
        · rw [if_neg e2, if_neg (by omega)]
    rw [e]
    exact ih (k + 1) (by omega)
theorem kf_fill (d : Nat) {n q N : Nat} {h : fw_H} {f : Nat → Int32} {x : Int32} (hq : h q = .inl (0, N, .inl f)) (hN : N < 2 ^ 31) : fw_Sp d 11 [.ref q, .int x] n h 0 0 (fun r n' h' => r = none ∧ n' = n ∧ h' = fw_up h q (.inl (0, N, .inl (fun i => if i < N then x else f i)))) := by
  refine fw_spec mp_11 (Nat.le_of_ble_eq_true rfl) ?_
  show fw_Go d 11 0 [some (.ref q), some (.int x), none, none] [] n h 0 0 _
  refine fw_iconst (v := 0) d_Arrays_fill_0.1 (by decide) ?_
  refine fw_istore_n d_Arrays_fill_1.1 (by decide) ?_
  refine fw_aload_n d_Arrays_fill_2.1 rfl ?_
  refine fw_alen (x := (N, .inl f)) (by decide) hq (v := nI N) rfl d_Arrays_fill_3.1 ?_
  refine fw_istore_n d_Arrays_fill_4.1 (by decide) ?_
  have e : h = fw_up h q (.inl (0, N, .inl (fun i => if i < 0 then x else f i))) := by
    have e2 : (fun i => if i < 0 then x else f i) = f := by
      funext i
      rw [if_neg (Nat.not_lt_zero i)]
    rw [e2, ← hq, fw_up_id]
  have k := kf_loop d (n := n) (q := q) (N := N) (h := h) (f := f) (x := x) (P := fun r n' h' => r = none ∧ n' = n ∧ h' = fw_up h q (.inl (0, N, .inl (fun i => if i < N then x else f i)))) hN ⟨rfl, rfl, rfl⟩ N 0 (by omega)
  rw [← e] at k
  exact k
section KF
variable {d j pc nx : Nat} {ls : List (Option Value)} {st : List Value} {n : Nat} {h : fw_H} {a b : Nat} {P : fw_P} {o : Nat} {c : fw_E} {l l' : List fw_E}
theorem kc_fill {idx i0 N n0 : Nat} {f : Nat → Int32} {x : Int32} (hd : sv_D j pc (.invokestatic idx) 3 nx) (hw : sv_wS j idx 11 2) (hst : st.length ≤ 8) (ho : o < n) (hi0 : l[i0]? = some (.inl (0, N, .inl f))) (hN : N < 2 ^ 31) (hl : l.set i0 (.inl (0, N, .inl (fun i => if i < N then x else f i))) = l') (k : fw_Go (d + 1) j nx ls st n0 (fw_st h o c n l') a b P) : fw_Go (d + 1) j pc ls (.int x :: .ref (n + i0) :: st) n0 (fw_st h o c n l) a b P := by
  obtain ⟨hd, rfl⟩ := hd
  subst hl
  refine hw.callS (a' := 0) (b' := 0) (as := [.ref (n + i0), .int x]) rfl hst rfl hd (kf_fill d (fw_st_n ho hi0) hN) (fun r n' h' hz => ?_)
  obtain ⟨rfl, rfl, rfl⟩ := hz
  rw [fw_st_set ho (List.getElem?_eq_some_iff.mp hi0).1]
  exact k
end KF
