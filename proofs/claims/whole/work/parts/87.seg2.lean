theorem pu_no {v : sv_T} {E st : Nat} (h : v E 6 = nI st) (h1 : st ≤ 10) (h4 : st ≠ 4) (h7 : st ≠ 7) : f_Ep_push E v = some v := by
  unfold f_Ep_push f_Ep_isSendingState
  rw [h, show (4 : Int32) = nI 4 from rfl, show (7 : Int32) = nI 7 from rfl, if_eq (by omega) (by omega), if_eq (by omega) (by omega), if_neg h4, if_neg h7]
  rfl
/-- when SYN SENT -/
theorem sy_go {v w w0 : sv_T} {h j E B s G A fl sq ak wn dc st ti ro tr ou fi un nx wi en ic rc : Nat} {dt ob ib : Nat → Nat} {ms : List MG} (hh : h ≤ 1) (hj : j ≤ 1) (hE : E = 25 + 33 * h + 7 * j) (hB : B = 9 + 33 * h) (hs : s = 2 * h + j) (hG : G = B + 15) (P : PN h B w0 ms v w) (hl : ms.length ≤ 3) (K : SK v w E s st ti ro tr ou fi un nx wi en ic rc ob ib) (I : IV st ti ro tr ou fi un nx wi en ic rc) (KE1 : KE v w E s) (hst : st = 2) (S : SG v w G A fl sq ak wn dc dt) : OP h B E s w0 ms v w 4 (sv_bv (f_Ep_answerWhenSynSent E G v) fun v9 => sv_bv (f_Ep_push E v9) fun v10 => some v10) (f_M_awaits (nI s) w) := by
  obtain ⟨s1, s2, s3, s4, s5, s6, s7, s8, s9, s10, s11, s12, s13⟩ := sh_E hh hj hE hB
  have hs4 : s < 4 := by omega
  subst hst
  have S0 := S
  obtain ⟨g1, g2, g3, g4, g5, g6, g7, g8, g9, g10, g11⟩ := S
  have I0 := I
  obtain ⟨⟨i1, i2, i3, i4, i5, i6, i7, i8, i9, i10, i11, i12, i13⟩, j1, j2, j3, j4, j5⟩ := I
  obtain ⟨l1, l2, l3, l4⟩ := j2 (by omega)
  subst l1
  subst l2
  subst l3
  have K0 := K
  obtain ⟨k1, k2, k3, k4, k5, k6, k7, k8, k9, k10, k11, k12, k13, k14, k15⟩ := K
  have H0 : SR v w E s := ⟨_, _, _, _, _, _, _, _, _, _, _, _, _, _, K0, I0, fun _ => KE1, fun z => by omega⟩
  have noth : OP h B E s w0 ms v w 4 (sv_bv (some v) fun v9 => sv_bv (f_Ep_push E v9) fun v10 => some v10) (some w) := by
    refine ⟨v, w, [], ?_, rfl, by rw [List.append_nil]; exact P, by simp, H0, CX.rf, MX.rf⟩
    simp only [sv_bv, Option.bind_some]
    rw [pu_no k1.1 (by omega) (by omega) (by omega)]
    rfl
  -- the rest, if the ACK number is right or there is none
  have rest : (hb fl 16 = 0 ∨ ak = nx) → OP h B E s w0 ms v w 4 (sv_bv (f_Ep_answerWhenSynSent_b43 E G v) fun v9 => sv_bv (f_Ep_push E v9) fun v10 => some v10) (f_M_awaits_b43 (nI s) w) := by
    intro hak
    unfold f_Ep_answerWhenSynSent_b43 f_M_awaits_b43
    simp only [sv_bi, Option.bind_some, has_c g2.1, has_m g2.2, hb_if]
    by_cases z4 : hb fl 4 = 0
    · rw [if_pos z4, if_pos z4]
      by_cases z2 : hb fl 2 = 0
      · rw [if_pos z2, if_pos z2]
        exact noth
      · rw [if_neg z2, if_neg z2]
        have e2 : (nI sq + 1) &&& 65535 = nI ((sq + 1) % 65536) := add16 (b := 1) (by omega) (by omega)
        have n1 : G ≠ E + 4 := by omega
        have n3 : G ≠ E + 2 := by omega
        have Kr := (K0.s_rc (x := (sq + 1) % 65536)).s_wi (x := wn)
        generalize hv2 : sv_up (sv_up v (E + 4) 3 (nI ((sq + 1) % 65536))) (E + 2) 5 (nI wn) = v2 at Kr
        generalize hw2 : sv_up (sv_up w 99 s (nI ((sq + 1) % 65536))) 100 s (nI wn) = w2 at Kr
        have fv : ∀ p, p ≠ E + 2 → p ≠ E + 4 → v2 p = v p := fun p h1 h2 => by rw [← hv2, sv_up_off _ _ _ h1, sv_up_off _ _ _ h2]
        have fw : ∀ p, p ≠ 99 → p ≠ 100 → w2 p = w p := fun p h1 h2 => by rw [← hw2, sv_up_off _ _ _ h2, sv_up_off _ _ _ h1]
        have C2 : CX E B v v2 := fun p h1 _ => fv p (by omega) (by omega)
        have M2 : MX s w w2 := by
          rw [← hw2]
          exact (mx_up (by omega) (by omega) (by omega) (by omega) (by omega) (by omega)).tr (mx_up (by omega) (by omega) (by omega) (by omega) (by omega) (by omega))
        have KE2 : KE v2 w2 E s := KE1.at (by rw [← hv2, up_q (by omega), up_i (by omega)]) (fv _ (by omega) (by omega)) (fw _ (by omega) (by omega)) (fw _ (by omega) (by omega))
        have P2 : PN h B w0 ms v2 w2 := P.keep hh hj hE hB (fun p hp => fv p (by omega) (by omega)) (fun p h1 h2 => fw p (by omega) (by omega))
        simp only [sv_bv, sv_ls, Option.bind_some, f_Rcv_startAfter, s5, s6, g3.1, g3.2, e2, ck_n hs4 (show 4 < 2 ^ 31 by omega), nI_clamp (show s < 2 ^ 31 by omega), sv_up_off _ _ _ n1, up_q (show 75 ≠ 99 by decide), g5.1, g5.2, hv2, hw2]
        have h2c : v2 G 3 = nI fl := by rw [fv G n3 n1]; exact g2.1
        have h2m : w2 75 45 = nI fl := by rw [fw 75 (by omega) (by omega)]; exact g2.2
        simp only [has_c h2c, has_m h2m, Option.bind_some, hb_if]
        have q8 := Kr.2.2.2.2.2.2.2.1
        have q7 := Kr.2.2.2.2.2.2.1
        have q5 := Kr.2.2.2.2.1
        by_cases z16 : hb fl 16 = 0
        · rw [if_pos z16, if_pos z16]
          have K3 := Kr.s_st (x := 3) rfl
          have q6 := K3.2.2.2.2.2.1
          have I3 : IV 3 ti ro tr 0 fi un nx wn 0 0 ((sq + 1) % 65536) := ⟨⟨by omega, i2, i3, i4, i5, i6, i7, i8, i9, g10, i11, i12, by omega⟩, fun z => by omega, fun _ => ⟨rfl, rfl, rfl, l4⟩, fun z => by omega, fun z => by omega, fun z => by omega⟩
          rw [show (3 : Int32) = nI 3 from rfl, q6.1, q6.2]
          obtain ⟨v', w', m, a1, a2, a3, a4, a5, a6⟩ := em_go (fl := 18) (sq := fi) hh hj hE hB hs (P2.keep (v1 := sv_up v2 E 6 (nI 3)) (w1 := sv_up w2 95 s (nI 3)) hh hj hE hB (fun p hp => sv_up_off _ _ _ (by omega)) (fun p h1 h2 => sv_up_off _ _ _ (by omega))) (by omega) K3 I3 (by omega) (by omega)
          refine ⟨v', w', [m], ?_, ?_, a3, by simp, ⟨_, _, _, _, _, _, _, _, _, _, _, _, _, _, a4, I3, fun _ => (KE2.same (fun p hp => ?_) (fun p hp => ?_)), fun z => by omega⟩, (C2.tr cx_e).tr a5.cx, (M2.tr (mx_up (by omega) (by omega) (by omega) (by omega) (by omega) (by omega))).tr a6.mx⟩
          · rw [show f_Ep_emit E 18 (nI fi) _ = some v' from a1]
            simp only [Option.bind_some]
            rw [pu_no a4.1.1 (by omega) (by omega) (by omega)]
            rfl
          · rw [show f_M_go (nI s) 18 (nI fi) _ = some w' from a2]
            rfl
          · rw [a5 p (by omega) (by omega), sv_up_off _ _ _ (by omega)]
          · rw [a6.1 p (by omega) (by omega) (by omega) (by omega) (by omega), sv_up_off _ _ _ (by omega)]
        · rw [if_neg z16, if_neg z16]
          have ea : ak = nx := hak.resolve_left z16
          have e5 : v2 G 5 = nI nx := by rw [fv G n3 n1, g4.1, ea]
          have hd0 : min (du nx un) 0 = 0 := by omega
          have eC : f_Snd_confirm (E + 2) (nI nx) v2 = some (sv_up v2 (E + 2) 3 (nI nx)) := by
            unfold f_Snd_confirm
            simp only [sv_ls, sv_le, q7.1, q5.1, sub16 (show nx < 2 ^ 31 by omega) i8, sv_min_n (show du nx un < 2 ^ 31 from Nat.lt_trans (Nat.mod_lt _ (by omega)) (by omega)) (show 0 < 2 ^ 31 by omega), hd0]
            rw [pk_sub (by omega), up_same q5.1, q5.1, show (0 : Int32) = nI 0 from rfl, cc_n (by omega) (by omega) (by omega) (by omega), nI_clamp (by omega), s7, cp_0]
          have n4 : E + 2 ≠ E := by omega
          have eT : f_Ep_restartTimer E (sv_up v2 (E + 2) 3 (nI nx)) = some (sv_up (sv_up (sv_up (sv_up v2 (E + 2) 3 (nI nx)) E 9 (nI 0)) E 8 (nI 4)) E 7 (nI 0)) := by
            unfold f_Ep_restartTimer f_Ep_restartTimer_b29 f_Snd_isAllConfirmed
            simp only [sv_ls, sv_bi, s5, up_q n4, up_s, up_i (show 4 ≠ 3 by decide), q8.1]
            rw [if_pos trivial]
            rfl
          have K5 := ((((Kr.s_un (x := nx)).s_tr (x := 0)).s_ro (x := 4)).s_ti (x := 0)).s_st (x := 4) rfl
          rw [up_comm (v := sv_up (sv_up w2 97 s (nI nx)) 112 s (nI 0)) (show 111 ≠ 110 by decide)] at K5
          have I5 : IV 4 0 4 0 0 fi nx nx wn 0 0 ((sq + 1) % 65536) := ⟨⟨by omega, by omega, by omega, by omega, by omega, i6, i7, i9, i9, g10, i11, i12, by omega⟩, fun z => by omega, fun z => by omega, fun _ => by unfold du; omega, fun z => by omega, fun z => by omega⟩
          rw [e5, eC]
          simp only [Option.bind_some]
          rw [eT, q8.2]
          simp only [Option.bind_some]
          have x8 := K5.2.2.2.2.2.2.2.1
          generalize hv6 : sv_up (sv_up (sv_up (sv_up (sv_up v2 (E + 2) 3 (nI nx)) E 9 (nI 0)) E 8 (nI 4)) E 7 (nI 0)) E 6 (nI 4) = v6 at K5 x8
          generalize hw6 : sv_up (sv_up (sv_up (sv_up (sv_up w2 97 s (nI nx)) 112 s (nI 0)) 110 s (nI 0)) 111 s (nI 4)) 95 s (nI 4) = w6 at K5 x8
          rw [show sv_up (sv_up (sv_up (sv_up (sv_up v2 (E + 2) 3 (nI nx)) E 9 (nI 0)) E 8 (nI 4)) E 7 (nI 0)) E 6 4 = v6 from hv6, show sv_up (sv_up (sv_up (sv_up (sv_up w2 97 s (nI nx)) 112 s 0) 110 s 0) 111 s 4) 95 s 4 = w6 from hw6]
          have f6 : ∀ p, p ≠ E → p ≠ E + 2 → v6 p = v2 p := fun p h1 h2 => by rw [← hv6, sv_up_off _ _ _ h1, sv_up_off _ _ _ h1, sv_up_off _ _ _ h1, sv_up_off _ _ _ h1, sv_up_off _ _ _ h2]
          have f7 : ∀ p, p ≠ 97 → p ≠ 112 → p ≠ 110 → p ≠ 111 → p ≠ 95 → w6 p = w2 p := fun p h1 h2 h3 h4 h5 => by rw [← hw6, sv_up_off _ _ _ h5, sv_up_off _ _ _ h4, sv_up_off _ _ _ h3, sv_up_off _ _ _ h2, sv_up_off _ _ _ h1]
          have M6 : MX s w2 w6 := by
            rw [← hw6]
            exact ((mx_up (by omega) (by omega) (by omega) (by omega) (by omega) (by omega)).tr (mx_up (by omega) (by omega) (by omega) (by omega) (by omega) (by omega))).tr (((mx_up (by omega) (by omega) (by omega) (by omega) (by omega) (by omega)).tr (mx_up (by omega) (by omega) (by omega) (by omega) (by omega) (by omega))).tr (mx_up (by omega) (by omega) (by omega) (by omega) (by omega) (by omega)))
          have H6 : SR v6 w6 E s := ⟨_, _, _, _, _, _, _, _, _, _, _, _, _, _, K5, I5, fun z => by omega, fun _ _ => KE.kp (KE2.same (fun p hp => f6 p (by omega) (by omega)) (fun p hp => f7 p (by omega) (by omega) (by omega) (by omega) (by omega)))⟩
          have P6 : PN h B w0 ms v6 w6 := P2.keep hh hj hE hB (fun p hp => f6 p (by omega) (by omega)) (fun p h1 h2 => f7 p (by omega) (by omega) (by omega) (by omega) (by omega))
          rw [ack_c, s5, x8.1, x8.2]
          obtain ⟨v', w', ms', a1, a2, a3, a4, a5, a6, a7⟩ := op_bind (k := 1) (k1 := 3) (op_em (fl := 16) (sq := nx) hh hj hE hB hs P6 (by omega) H6 (by omega) (by omega)) (fun v2 w2 ms2 P2 l2 H2 _ _ => op_pu hh hj hE hB hs P2 (by rw [List.length_append]; omega) H2)
          refine ⟨v', w', ms', ?_, a2, a3, a4, a5, (C2.tr (fun p h1 _ => f6 p (by omega) (by omega))).tr a6, (M2.tr M6).tr a7⟩
          rw [← a1]
          show Option.bind (Option.bind (f_Ep_emit E (nI 16) (nI nx) v6) _) _ = Option.bind (f_Ep_emit E (nI 16) (nI nx) v6) _
          cases f_Ep_emit E (nI 16) (nI nx) v6 <;> rfl
    · rw [if_neg z4, if_neg z4]
      by_cases z16 : hb fl 16 = 0
      · rw [if_pos z16, if_pos z16]
        exact noth
      · rw [if_neg z16, if_neg z16]
        obtain ⟨v', w', a1, a2, ⟨a3, a4⟩, a5, a6, a7⟩ := sh_go (v := v) (w := w) hh hj hE hB hs
        refine ⟨v', w', [], ?_, ?_, ?_, by simp, ⟨_, _, _, _, _, _, _, _, _, _, _, _, _, _, a3, IV.fresh (by omega), fun _ => a4, fun z => by omega⟩, fun p h1 _ => a5 p h1, a6⟩
        · rw [a1]
          simp only [sv_bv, Option.bind_some]
          rw [pu_no a3.1.1 (by omega) (by omega) (by omega)]
          rfl
        · rw [a2]
          rfl
        · rw [List.append_nil]
          exact P.keep hh hj hE hB (fun p hp => a5 p hp) (fun p h1 h2 => a7 p (by omega))
  unfold f_Ep_answerWhenSynSent f_M_awaits
  simp only [sv_bi, Option.bind_some, has_c g2.1, has_m g2.2, hb_if, ck_n hs4 (show 4 < 2 ^ 31 by omega), nI_clamp (show s < 2 ^ 31 by omega), g4.1, g4.2, s5, k8.1, k8.2]
  by_cases z16 : hb fl 16 = 0
  · rw [if_pos z16, if_pos z16]
    exact rest (Or.inl z16)
  · rw [if_neg z16, if_neg z16, if_eq (by omega) (by omega), if_eq (by omega) (by omega)]
    by_cases za : ak = nx
    · rw [if_pos za, if_pos za]
      exact rest (Or.inr za)
    · rw [if_neg za, if_neg za]
      by_cases z4 : hb fl 4 = 0
      · rw [if_pos z4, if_pos z4]
        obtain ⟨v', w', m, a1, a2, a3, a4, a5, a6⟩ := em_go (fl := 4) (sq := ak) hh hj hE hB hs P (by omega) K0 I0 (by omega) (by omega)
        refine ⟨v', w', [m], ?_, ?_, a3, by simp, H0.same (fun p hp => a5 p (by omega) (by omega)) (fun p h1 h2 => a6.1 p (by omega) (by omega) (by omega) (by omega) (by omega)), a5.cx, a6.mx⟩
        · rw [show f_Ep_emit E 4 (nI ak) v = some v' from a1]
          simp only [sv_bv, Option.bind_some]
          rw [pu_no a4.1.1 (by omega) (by omega) (by omega)]
          rfl
        · rw [show f_M_go (nI s) 4 (nI ak) w = some w' from a2]
          rfl
      · rw [if_neg z4, if_neg z4]
        exact noth
/-- what the reference does with a segment that is right -/
def msg (x5 : Int32) (v10 : sv_T) : Option sv_T := sv_ck x5 4 <| if (v10 95 x5.toNatClampNeg) = 0 then sv_bi (f_M_has (4 : Int32) v10) fun x15 v14 => if x15 = 0 then sv_bi (f_M_span v14) fun x17 v16 => sv_bv (f_M_segmentGoes x5 (20 : Int32) (v14 75 47) (((v14 75 46) + x17) &&& (65535 : Int32)) (0 : Int32) (0 : Int32) v16) fun v18 => some v18 else some v14 else sv_ck x5 4 <| if (v10 95 x5.toNatClampNeg) = (1 : Int32) then sv_bv (f_M_listens x5 v10) fun v13 => some v13 else sv_ck x5 4 <| if (v10 95 x5.toNatClampNeg) = (2 : Int32) then sv_bv (f_M_awaits x5 v10) fun v12 => some v12 else sv_bv (f_M_other x5 v10) fun v11 => some v11
theorem bv_id {X : Option sv_T} : (sv_bv X fun v => some v) = X := by
  cases X <;> rfl
/-- a segment, on both sides -/
theorem ts_go {v w w0 : sv_T} {h j E B s G A fl sq ak wn dc : Nat} {dt : Nat → Nat} {c : Int32} {ms : List MG} (hh : h ≤ 1) (hj : j ≤ 1) (hE : E = 25 + 33 * h + 7 * j) (hB : B = 9 + 33 * h) (hs : s = 2 * h + j) (hG : G = B + 15) (hA : A = B + 1) (P : PN h B w0 ms v w) (hl : ms.length ≤ 3) (H : SR v w E s) (hc : w 75 0 = c) (S : SG v w G A fl sq ak wn dc dt) (h114 : ∀ i, i < dc → w 114 (10 + i) = nI (dt i)) : OP h B E s w0 ms v w 4 (f_Ep_takeSegment E G c v) (msg (nI s) w) := by
  have hs4 : s < 4 := by omega
  have H0 := H
  obtain ⟨st, ti, ro, tr, ou, fi, un, nx, wi, en, ic, rc, ob, ib, K, I, K1, K2⟩ := H
  have k1 := K.1
  have i1 := I.1.1
  unfold f_Ep_takeSegment msg
  simp only [bv_id, ck_n hs4 (show 4 < 2 ^ 31 by omega), nI_clamp (show s < 2 ^ 31 by omega), k1.1, k1.2, show (1 : Int32) = nI 1 from rfl, show (2 : Int32) = nI 2 from rfl, if_eq (show st < 2 ^ 31 by omega) (show 1 < 2 ^ 31 by omega), if_eq (show st < 2 ^ 31 by omega) (show 2 < 2 ^ 31 by omega), if_eq0 (show st < 2 ^ 31 by omega)]
  by_cases z0 : st = 0
  · rw [if_pos z0, if_pos z0]
    have := cl_go hh hj hE hB hs P (by omega) H0 S
    simp only [bv_id] at this
    exact op_le this (by omega)
  · rw [if_neg z0, if_neg z0]
    by_cases z1 : st = 1
    · rw [if_pos z1, if_pos z1]
      exact op_le (li_go hh hj hE hB hs hG P (by omega) H0 (by rw [k1.1, z1]) hc S) (by omega)
    · rw [if_neg z1, if_neg z1]
      by_cases z2 : st = 2
      · rw [if_pos z2, if_pos z2]
        have := sy_go hh hj hE hB hs hG P hl K I (K1 (by omega)) z2 S
        simp only [bv_id] at this
        exact this
      · rw [if_neg z2, if_neg z2]
        have := ot_go hh hj hE hB hs hG hA P hl K I K1 K2 (by omega) S h114
        unfold cot at this
        simp only [bv_id] at this
        exact this
