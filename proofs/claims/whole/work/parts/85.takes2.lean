/-- the contents, when they are taken -/
theorem ty_go {v w w0 : sv_T} {h j E B s G A fl sq ak wn dc st ti ro tr ou fi un nx wi en ic rc : Nat} {dt ob ib : Nat → Nat} {ms : List MG} (hh : h ≤ 1) (hj : j ≤ 1) (hE : E = 25 + 33 * h + 7 * j) (hB : B = 9 + 33 * h) (hs : s = 2 * h + j) (hG : G = B + 15) (hA : A = B + 1) (P : PN h B w0 ms v w) (hl : ms.length < 8) (K : SK v w E s st ti ro tr ou fi un nx wi en ic rc ob ib) (I : IV st ti ro tr ou fi un nx wi en ic rc) (hst : st = 4 ∨ st = 5 ∨ st = 6) (Q : KP v w E s rc ic) (S : SG v w G A fl sq ak wn dc dt) (h114 : ∀ i, i < dc → w 114 (10 + i) = nI (dt i)) : OP h B E s w0 ms v w 1 (f_Ep_takeContents E G v) (f_M_takes (nI s) w) := by
  obtain ⟨s1, s2, s3, s4, s5, s6, s7, s8, s9, s10, s11, s12, s13⟩ := sh_E hh hj hE hB
  have hs4 : s < 4 := by omega
  have S0 := S
  obtain ⟨g1, g2, g3, g4, g5, g6, g7, g8, g9, g10, g11⟩ := S
  obtain ⟨⟨i1, i2, i3, i4, i5, i6, i7, i8, i9, i10, i11, i12, i13⟩, j1, j2, j3, j4, j5⟩ := I
  have k1 := K.1
  have k11 := K.2.2.2.2.2.2.2.2.2.2.1
  have k12 := K.2.2.2.2.2.2.2.2.2.2.2.1
  have e24 : (24 : Int32) - nI ic = nI (24 - ic) := pk_sub (a := 24) i12
  obtain ⟨v1, w1, a1, a2, a3, a4, a5, a6⟩ := kl_go (fl := fl) (sq := sq) (ak := ak) (wn := wn) (dc := dc) (dt := dt) hh hj hE hB hs hG hA i12 i13 dc 0 100000 v w (by omega) (by omega) S0 h114 k11 k12 Q
  have S1 : SG v1 w1 G A fl sq ak wn dc dt := S0.keep (a4 G (by omega)) (a4 A (by omega)) (fun i _ _ => by rw [a5 75 (by omega) (by omega)])
  have K1 : SK v1 w1 E s st ti ro tr ou fi un nx wi en ic rc ob ib := K.same2 (fun p hp => a4 p (by omega)) (by rw [a4 (E + 4) (by omega)]) (by rw [a4 (E + 4) (by omega)]) (fun p h1 h2 h3 h4 _ => a5 p h3 h4)
  have k11' := K1.2.2.2.2.2.2.2.2.2.2.1
  have k12' := K1.2.2.2.2.2.2.2.2.2.2.2.1
  have h1' := S1.1
  have h2' := S1.2.1
  have h3' := S1.2.2.1
  -- the FIN's number
  have fin : ∃ v2 w2, f_Rcv_keep_x69 (E + 4) G (nI (24 - ic)) v1 = some v2 ∧ f_M_takes_x182 (nI s) w1 = Option.bind (sv_loop (fun (t : sv_T) => f_M_takes_l236 (nI s) t) 100000 w2) (fun (t : sv_T) => f_M_takes_x366 (nI s) t) ∧ SK v2 w2 E s st ti ro tr ou fi un nx wi en ic rc ob ib ∧ KP v2 w2 E s rc ic ∧ (∀ p, p ≠ E + 4 → v2 p = v1 p) ∧ (∀ p, p ≠ 109 → w2 p = w1 p) ∧ MX s w1 w2 := by
    have hb1 := @hb_le fl 1
    have hd : du (sq + dc) rc < 65536 := Nat.mod_lt _ (by omega)
    have em : du ((sq + dc) % 65536) rc = du (sq + dc) rc := by unfold du; omega
    have eAnd : (nI sq + nI dc) &&& (65535 : Int32) = nI ((sq + dc) % 65536) := add16 (by omega) (by omega)
    have hC : f_Rcv_keep_x69 (E + 4) G (nI (24 - ic)) v1 = if hb fl 1 = 0 then some v1 else if du (sq + dc) rc < 24 - ic + 1 then some (sv_up v1 (E + 4) 4 (nI ((sq + dc) % 65536))) else some v1 := by
      unfold f_Rcv_keep_x69
      simp only [sv_le, sv_bi, sv_ls, has_c h2'.1, Option.bind_some, h1'.1, h3'.1, eAnd]
      rw [hb_if, nI_1, near_c k12'.1 i13 (by omega) (by omega), em]
      simp only [Option.bind_some, if01]
    have hM : f_M_takes_x182 (nI s) w1 = if hb fl 1 = 0 then Option.bind (sv_loop (fun (t : sv_T) => f_M_takes_l236 (nI s) t) 100000 w1) (fun (t : sv_T) => f_M_takes_x366 (nI s) t) else if du (sq + dc) rc < 24 - ic + 1 then Option.bind (sv_loop (fun (t : sv_T) => f_M_takes_l236 (nI s) t) 100000 (sv_up w1 109 s (nI ((sq + dc) % 65536)))) (fun (t : sv_T) => f_M_takes_x366 (nI s) t) else Option.bind (sv_loop (fun (t : sv_T) => f_M_takes_l236 (nI s) t) 100000 w1) (fun (t : sv_T) => f_M_takes_x366 (nI s) t) := by
      unfold f_M_takes_x182 f_M_less f_M_room
      simp only [sv_bi, sv_ls, has_m h2'.2, Option.bind_some, h1'.2, h3'.2, ck_n hs4 (show 4 < 2 ^ 31 by omega), nI_clamp (show s < 2 ^ 31 by omega), k11'.2, k12'.2, e24, eAnd, hb_if]
      rw [nI_1, nI_add, sub16 (by omega) i13, if_lt (by omega) (by omega)]
    by_cases z : hb fl 1 = 0
    · rw [if_pos z] at hC hM
      exact ⟨v1, w1, hC, hM, K1, a3, fun _ _ => rfl, fun _ _ => rfl, MX.rf⟩
    · rw [if_neg z] at hC hM
      by_cases z2 : du (sq + dc) rc < 24 - ic + 1
      · rw [if_pos z2] at hC hM
        refine ⟨_, _, hC, hM, K1.same2 (fun p hp => sv_up_off _ _ _ (by omega)) (up_i (by omega)) (up_i (by omega)) (fun p h1 h2 h3 h4 h5 => sv_up_off _ _ _ h5), ⟨⟨?_, Or.inr ⟨(sq + dc) % 65536, by omega, up_s⟩⟩, fun d hd => ?_⟩, fun p hp => sv_up_off _ _ _ hp, fun p hp => sv_up_off _ _ _ hp, mx_up (by omega) (by omega) (by omega) (by omega) (by omega) (by omega)⟩
        · rw [up_s, up_s]
        · rw [up_q (by omega), up_q (by omega), up_q (by omega)]
          exact a3.2 d hd
      · rw [if_neg z2] at hC hM
        exact ⟨v1, w1, hC, hM, K1, a3, fun _ _ => rfl, fun _ _ => rfl, MX.rf⟩
  obtain ⟨v2, w2, b1, b2, b3, b4, b5, b6, b7⟩ := fin
  obtain ⟨v3, w3, ic3, rc3, ib3, c1, c2, c3, c4, c5, c6, c7, c8, c9⟩ := ad_go hh hj hE hB hs (24 - ic) ic 0 100000 100000 v2 w2 rc ib (by omega) (by omega) (by omega) (by omega) b3 i13 b4
  have hCX : ∀ p, p < E + 4 ∨ E + 6 < p → v3 p = v p := fun p hp => by rw [c7 p hp, b5 p (by omega), a4 p (by omega)]
  have hMX : MX s w w3 := (a6.tr b7).tr c9
  have hwf : ∀ p, p < 99 ∨ (99 < p ∧ p < 105) ∨ 109 < p → w3 p = w p := fun p hp => by rw [c8 p (by omega) (by omega) (by omega) (by omega) (by omega), b6 p (by omega), a5 p (by omega) (by omega)]
  have hC : f_Ep_takeContents E G v = sv_bi (f_Rcv_advance_b89 (E + 4) v3) fun x11 v10 => if x11 = 0 then f_Ep_takeContents_b54 E G v10 else sv_bv (f_Ep_otherIsAtEnd E v10) fun v12 => f_Ep_takeContents_b54 E G v12 := by
    have eK : f_Rcv_keep (E + 4) G v = some v2 := by
      unfold f_Rcv_keep f_Rcv_room
      simp only [sv_bi, Option.bind_some, k11.1, e24]
      rw [show ((0 : Int32), v) = (nI 0, v) from rfl, a1]
      exact b1
    have eR : f_Ep_isReceivingState E v = some (1, v) := by
      unfold f_Ep_isReceivingState
      rw [k1.1, show (4 : Int32) = nI 4 from rfl, show (5 : Int32) = nI 5 from rfl, show (6 : Int32) = nI 6 from rfl, if_eq (by omega) (by omega), if_eq (by omega) (by omega), if_eq (by omega) (by omega)]
      rcases hst with z | z | z
      · rw [if_pos z]
      · rw [if_neg (by omega), if_pos z]
      · rw [if_neg (by omega), if_neg (by omega), if_pos z]
    unfold f_Ep_takeContents
    rw [eR]
    simp only [sv_bi, Option.bind_some]
    rw [if_neg (by decide), s6, eK]
    simp only [sv_bv, Option.bind_some]
    unfold f_Rcv_advance
    rw [show ((0 : Int32), v2) = (nI 0, v2) from rfl, c1]
  have hM : f_M_takes (nI s) w = f_M_takes_x366 (nI s) w3 := by
    have e36 : f_M_takes_b31 (nI s) w = f_M_takes_x366 (nI s) w3 := by
      unfold f_M_takes_b31 f_M_takes_b36
      rw [if_neg (by decide), show ((0 : Int32), w) = (nI 0, w) from rfl, a2]
      show f_M_takes_x182 (nI s) w1 = _
      rw [b2, c2]
      rfl
    unfold f_M_takes
    simp only [ck_n hs4 (show 4 < 2 ^ 31 by omega), nI_clamp (show s < 2 ^ 31 by omega), k1.2]
    rw [show (4 : Int32) = nI 4 from rfl, show (5 : Int32) = nI 5 from rfl, show (6 : Int32) = nI 6 from rfl, if_eq (by omega) (by omega), if_eq (by omega) (by omega), if_eq (by omega) (by omega), e36]
    rcases hst with z | z | z
    · rw [if_pos z]
    · rw [if_neg (by omega), if_pos z]
    · rw [if_neg (by omega), if_neg (by omega), if_pos z]
  have P3 : PN h B w0 ms v3 w3 := P.keep hh hj hE hB (fun p hp => hCX p (by omega)) (fun p h1 h2 => hwf p (by omega))
  have S3 : ∀ (v4 w4 : sv_T), (∀ p, p < E ∨ E + 6 < p → v4 p = v3 p) → w4 75 = w3 75 → SG v4 w4 G A fl sq ak wn dc dt := fun v4 w4 h1 h2 => S0.keep (by rw [h1 G (by omega), hCX G (by omega)]) (by rw [h1 A (by omega), hCX A (by omega)]) (fun i _ _ => by rw [h2, hwf 75 (by omega)])
  rw [hC, hM]
  have q12 := c3.2.2.2.2.2.2.2.2.2.2.2.1
  have q1 := c3.1
  have q2 := c3.2.1
  unfold f_Rcv_advance_b89 f_M_takes_x366
  simp only [ck_n hs4 (show 4 < 2 ^ 31 by omega), nI_clamp (show s < 2 ^ 31 by omega), q12.1, q12.2, c6.1.1]
  by_cases zf : w3 109 s = nI rc3
  · rw [if_pos zf.symm, if_pos zf]
    have e16 : (nI rc3 + 1) &&& 65535 = nI ((rc3 + 1) % 65536) := add16 (b := 1) (by omega) (by omega)
    have r99 : sv_up w3 109 s (-1) 99 s = nI rc3 := by rw [up_q (by omega)]; exact q12.2
    simp only [sv_ls, sv_bi, Option.bind_some, e16, r99]
    rw [if_neg (by decide)]
    have K5 := (c3.same2 (v' := v3) (w' := sv_up w3 109 s (-1)) (fun _ _ => rfl) rfl rfl (fun p h1 h2 h3 h4 h5 => sv_up_off _ _ _ h5)).s_rc (x := (rc3 + 1) % 65536)
    generalize hv5 : sv_up v3 (E + 4) 3 (nI ((rc3 + 1) % 65536)) = v5
    generalize hw5 : sv_up (sv_up w3 109 s (-1)) 99 s (nI ((rc3 + 1) % 65536)) = w5
    rw [hv5, hw5] at K5
    have f5 : ∀ p, p ≠ E + 4 → v5 p = v3 p := fun p hp => by rw [← hv5, sv_up_off _ _ _ hp]
    have g5' : ∀ p, p ≠ 99 → p ≠ 109 → w5 p = w3 p := fun p h1 h2 => by rw [← hw5, sv_up_off _ _ _ h1, sv_up_off _ _ _ h2]
    have m5 : MX s w w5 := hMX.tr (by rw [← hw5]; exact (mx_up (by omega) (by omega) (by omega) (by omega) (by omega) (by omega)).tr (mx_up (by omega) (by omega) (by omega) (by omega) (by omega) (by omega)))
    have c5' : CX E B v v5 := fun p h1 _ => by rw [f5 p (by omega), hCX p (by omega)]
    have P5 : PN h B w0 ms v5 w5 := P3.keep hh hj hE hB (fun p hp => f5 p (by omega)) (fun p h1 h2 => g5' p (by omega) (by omega))
    have t1 := K5.1
    have t2 := K5.2.1
    unfold f_Ep_otherIsAtEnd f_Ep_startTime f_M_takes_b432 f_M_takes_b470
    simp only [ck_n hs4 (show 4 < 2 ^ 31 by omega), nI_clamp (show s < 2 ^ 31 by omega), t1.1, t1.2, t2.2, sv_ls, sv_bv, Option.bind_some, up_q (show 95 ≠ 110 by decide)]
    rw [show (4 : Int32) = nI 4 from rfl, show (5 : Int32) = nI 5 from rfl, show (6 : Int32) = nI 6 from rfl]
    rw [if_eq (by omega) (by omega), if_eq (by omega) (by omega), if_eq (a := st) (b := 6) (by omega) (by omega), if_eq (a := st) (b := 4) (by omega) (by omega), if_eq (a := st) (b := 5) (by omega) (by omega), if_eq (a := st) (b := 4) (by omega) (by omega), if_eq (a := st) (b := 5) (by omega) (by omega)]
    rcases hst with z | z | z
    · have ef : fsOf 7 = fsOf st := by rw [z]; rfl
      simp only [if_pos z, if_neg (show ¬ st = 6 by omega), Option.bind_some, up_same t2.2]
      refine op_pre (c5'.tr cx_e) (m5.tr (mx_up (p0 := 95) (x := nI 7) (by omega) (by omega) (by omega) (by omega) (by omega) (by omega))) (tail_go hh hj hE hB hs (P5.keep hh hj hE hB (fun p hp => sv_up_off _ _ _ (by omega)) (fun p h1 h2 => sv_up_off _ _ _ (by omega))) hl ⟨_, _, _, _, _, _, _, _, _, _, _, _, _, _, K5.s_st (x := 7) ef, ⟨⟨by omega, i2, i3, i4, i5, i6, i7, i8, i9, i10, i11, c4, by omega⟩, fun z => by omega, fun z => by omega, fun y => by first | omega | exact j3 (by omega), fun y => by first | omega | exact j4 (by omega), fun y => by omega⟩, fun z => by omega, fun _ z => by omega⟩ (S3 _ _ (fun p hp => by rw [sv_up_off _ _ _ (by omega), f5 p (by omega)]) (by rw [sv_up_off _ _ _ (by omega), g5' 75 (by omega) (by omega)])))
    · have ef : fsOf 8 = fsOf st := by rw [z]; rfl
      simp only [if_pos z, if_neg (show ¬ st = 6 by omega), if_neg (show ¬ st = 4 by omega), Option.bind_some, up_same t2.2]
      refine op_pre (c5'.tr cx_e) (m5.tr (mx_up (p0 := 95) (x := nI 8) (by omega) (by omega) (by omega) (by omega) (by omega) (by omega))) (tail_go hh hj hE hB hs (P5.keep hh hj hE hB (fun p hp => sv_up_off _ _ _ (by omega)) (fun p h1 h2 => sv_up_off _ _ _ (by omega))) hl ⟨_, _, _, _, _, _, _, _, _, _, _, _, _, _, K5.s_st (x := 8) ef, ⟨⟨by omega, i2, i3, i4, i5, i6, i7, i8, i9, i10, i11, c4, by omega⟩, fun z => by omega, fun z => by omega, fun y => by first | omega | exact j3 (by omega), fun y => by first | omega | exact j4 (by omega), fun y => by omega⟩, fun z => by omega, fun _ z => by omega⟩ (S3 _ _ (fun p hp => by rw [sv_up_off _ _ _ (by omega), f5 p (by omega)]) (by rw [sv_up_off _ _ _ (by omega), g5' 75 (by omega) (by omega)])))
    · have ef : fsOf 10 = fsOf st := by rw [z]; rfl
      simp only [if_pos z, if_neg (show ¬ st = 4 by omega), if_neg (show ¬ st = 5 by omega), Option.bind_some]
      have ec : sv_up (sv_up w5 110 s 8) 95 s 10 = sv_up (sv_up w5 95 s (nI 10)) 110 s (nI 8) := up_comm (by omega)
      rw [ec]
      refine op_pre (c5'.tr (cx_e.tr cx_e)) (m5.tr ((mx_up (p0 := 95) (x := nI 10) (by omega) (by omega) (by omega) (by omega) (by omega) (by omega)).tr (mx_up (p0 := 110) (x := nI 8) (by omega) (by omega) (by omega) (by omega) (by omega) (by omega)))) (tail_go hh hj hE hB hs (P5.keep hh hj hE hB (fun p hp => by rw [sv_up_off _ _ _ (by omega), sv_up_off _ _ _ (by omega)]) (fun p h1 h2 => by rw [sv_up_off _ _ _ (by omega), sv_up_off _ _ _ (by omega)])) hl ⟨_, _, _, _, _, _, _, _, _, _, _, _, _, _, (K5.s_st (x := 10) ef).s_ti (x := 8), ⟨⟨by omega, by omega, i3, i4, i5, i6, i7, i8, i9, i10, i11, c4, by omega⟩, fun z => by omega, fun z => by omega, fun y => by omega, fun y => by omega, fun y => j5 (by omega)⟩, fun z => by omega, fun _ z => by omega⟩ (S3 _ _ (fun p hp => by rw [sv_up_off _ _ _ (by omega), sv_up_off _ _ _ (by omega), f5 p (by omega)]) (by rw [sv_up_off _ _ _ (by omega), sv_up_off _ _ _ (by omega), g5' 75 (by omega) (by omega)])))
  · rw [if_neg (fun y => zf y.symm), if_neg zf]
    simp only [sv_bi, Option.bind_some]
    rw [if_pos trivial]
    refine op_pre (fun p h1 _ => hCX p (by omega)) hMX (tail_go hh hj hE hB hs P3 hl ⟨_, _, _, _, _, _, _, _, _, _, _, _, _, _, c3, ⟨⟨i1, i2, i3, i4, i5, i6, i7, i8, i9, i10, i11, c4, c5⟩, fun z => by omega, fun z => by omega, j3, j4, j5⟩, fun z => by omega, fun _ _ => c6⟩ (S3 v3 w3 (fun _ _ => rfl) rfl))
