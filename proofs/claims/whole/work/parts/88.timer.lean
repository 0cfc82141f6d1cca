theorem em_sk {v w w0 : sv_T} {h j E B s st ti ro tr ou fi un nx wi en ic rc fl sq : Nat} {ob ib : Nat → Nat} {ms : List MG} (hh : h ≤ 1) (hj : j ≤ 1) (hE : E = 25 + 33 * h + 7 * j) (hB : B = 9 + 33 * h) (hs : s = 2 * h + j) (P : PN h B w0 ms v w) (hl : ms.length < 8) (K : SK v w E s st ti ro tr ou fi un nx wi en ic rc ob ib) (i6 : ou ≤ 64) (i12 : ic ≤ 24) (i13 : rc < 65536) (hf : fl < 256) (hsq : sq < 2 ^ 31) :
    ∃ v' w' m, f_Ep_emit E (nI fl) (nI sq) v = some v' ∧ f_M_go (nI s) (nI fl) (nI sq) w = some w' ∧ PN h B w0 (ms ++ [m]) v' w' ∧ SK v' w' E s st ti ro tr ou fi un nx wi en ic rc ob ib ∧ CE E B v v' ∧ ME w w' := by
  obtain ⟨s1, s2, s3, s4, s5, s6, s7, s8, s9, s10, s11, s12, s13⟩ := sh_E hh hj hE hB
  have k12 := K.2.2.2.2.2.2.2.2.2.2.2.1
  obtain ⟨v', w', m, c1, m1, P1, C1, M1⟩ := pn_emit (fl := fl) (sq := sq) (ak := rc) (fr := 0) (n := 0) hh hj hE hB hs P hl K i6 i12 hf hsq (by omega) (by omega) (by omega)
  refine ⟨v', w', m, ?_, ?_, P1, K.same (fun p hp => C1 p (by omega) (by omega)) (fun p h1 h2 => M1.1 p (by omega) (by omega) (by omega) (by omega) (by omega)), C1, M1⟩
  · unfold f_Ep_emit
    rw [s6, k12.1, show f_Ep_emitWhole E (nI fl) (nI sq) (nI rc) 0 0 v = some v' from c1]
    rfl
  · unfold f_M_go
    rw [ck_n (by omega) (by omega), nI_clamp (by omega), k12.2, show f_M_segmentGoes (nI s) (nI fl) (nI sq) (nI rc) 0 0 w = some w' from m1]
    rfl
/-- what is not confirmed goes again -/
theorem ag_go {v w w0 : sv_T} {h j E B s st ti ro tr ou fi un nx wi en ic rc : Nat} {ob ib : Nat → Nat} {ms : List MG} (hh : h ≤ 1) (hj : j ≤ 1) (hE : E = 25 + 33 * h + 7 * j) (hB : B = 9 + 33 * h) (hs : s = 2 * h + j) (P : PN h B w0 ms v w) (hl : ms.length < 8) (K : SK v w E s st ti ro tr ou fi un nx wi en ic rc ob ib) (I : IV st ti ro tr ou fi un nx wi en ic rc) (K2 : 4 ≤ st → st ≤ 6 → KP v w E s rc ic) (hst : 4 ≤ st) :
    OP h B E s w0 ms v w 1 (f_Ep_sendAgain E v) (sv_bi (f_M_sent (nI s) w) fun x5 v4 => if 0 < x5 then sv_ck (nI s) 4 <| sv_ck (nI s) 4 <| sv_bi (f_M_sent (nI s) v4) fun x10 v9 => if x10 < (32 : Int32) then sv_bi (f_M_sent (nI s) v9) fun x13 v12 => f_M_due_b196 x13 (0 : Int32) (v4 99 (nI s).toNatClampNeg) (v4 97 (nI s).toNatClampNeg) (16 : Int32) (nI s) v12 else f_M_due_b196 (32 : Int32) (0 : Int32) (v4 99 (nI s).toNatClampNeg) (v4 97 (nI s).toNatClampNeg) (16 : Int32) (nI s) v9 else sv_ck (nI s) 4 <| if 0 < (v4 101 (nI s).toNatClampNeg) then sv_ck (nI s) 4 <| sv_ck (nI s) 4 <| sv_bv (f_M_segmentGoes (nI s) (16 : Int32) (v4 97 (nI s).toNatClampNeg) (v4 99 (nI s).toNatClampNeg) (0 : Int32) (1 : Int32) v4) fun v7 => sv_ck (nI s) 4 <| sv_ck (nI s) 4 <| sv_ls (sv_up v7 98 (nI s).toNatClampNeg (((v7 98 (nI s).toNatClampNeg) + (1 : Int32)) &&& (65535 : Int32))) fun v8 => some v8 else sv_ck (nI s) 4 <| sv_bv (f_M_go (nI s) (17 : Int32) (v4 97 (nI s).toNatClampNeg) v4) fun v6 => some v6) := by
  obtain ⟨s1, s2, s3, s4, s5, s6, s7, s8, s9, s10, s11, s12, s13⟩ := sh_E hh hj hE hB
  have hs4 : s < 4 := by omega
  have I0 := I
  obtain ⟨⟨i1, i2, i3, i4, i5, i6, i7, i8, i9, i10, i11, i12, i13⟩, j1, j2, j3, j4, j5⟩ := I
  have K0 := K
  obtain ⟨k1, k2, k3, k4, k5, k6, k7, k8, k9, k10, k11, k12, k13, k14, k15⟩ := K
  have H0 : SR v w E s := ⟨_, _, _, _, _, _, _, _, _, _, _, _, _, _, K0, I0, fun z => by omega, K2⟩
  have em := sn_m hs4 K0 I0
  have hm : min (du nx un) ou ≤ 64 := by omega
  unfold f_Ep_sendAgain
  simp only [sn_c k5.1 k7.1 k8.1 i6 i8 i9, em, s5, s6, sv_bi, Option.bind_some, ck_n hs4 (show 4 < 2 ^ 31 by omega), nI_clamp (show s < 2 ^ 31 by omega), k7.1, k7.2, k12.1, k12.2, k5.1, k5.2, gt0 (show min (du nx un) ou < 2 ^ 31 by omega), gt0 (show ou < 2 ^ 31 by omega), show (32 : Int32) = nI 32 from rfl, if_lt (show min (du nx un) ou < 2 ^ 31 by omega) (show 32 < 2 ^ 31 by omega), sv_min_n (show min (du nx un) ou < 2 ^ 31 by omega) (show 32 < 2 ^ 31 by omega)]
  by_cases z : 0 < min (du nx un) ou
  · rw [if_pos z, if_pos z]
    obtain ⟨v', w', m, c1, m1, P1, C1, M1⟩ := pn_emit (fl := 16) (sq := un) (ak := rc) (fr := 0) (n := min (min (du nx un) ou) 32) hh hj hE hB hs P hl K0 i6 i12 (by omega) (by omega) (by omega) (by omega) (by omega)
    refine ⟨v', w', [m], ?_, ?_, P1, Nat.le_refl _, H0.same (fun p hp => C1 p (by omega) (by omega)) (fun p h1 h2 => M1.1 p (by omega) (by omega) (by omega) (by omega) (by omega)), C1.cx, M1.mx⟩
    · rw [show f_Ep_emitWhole E 16 (nI un) (nI rc) 0 (nI (min (min (du nx un) ou) 32)) v = some v' from c1]
      rfl
    · unfold f_M_due_b196
      by_cases z3 : min (du nx un) ou < 32
      · rw [if_pos z3]
        rw [show min (min (du nx un) ou) 32 = min (du nx un) ou by omega] at m1
        rw [show f_M_segmentGoes (nI s) 16 (nI un) (nI rc) 0 (nI (min (du nx un) ou)) w = some w' from m1]
        rfl
      · rw [if_neg z3]
        rw [show min (min (du nx un) ou) 32 = 32 by omega] at m1
        rw [show f_M_segmentGoes (nI s) 16 (nI un) (nI rc) 0 (nI 32) w = some w' from m1]
        rfl
  · rw [if_neg z, if_neg z]
    by_cases zo : 0 < ou
    · rw [if_pos zo, if_pos zo]
      obtain ⟨v', w', m, c1, m1, P1, C1, M1⟩ := pn_emit (fl := 16) (sq := un) (ak := rc) (fr := 0) (n := 1) hh hj hE hB hs P hl K0 i6 i12 (by omega) (by omega) (by omega) (by omega) (by omega)
      have K3 := K0.same (v' := v') (w' := w') (fun p hp => C1 p (by omega) (by omega)) (fun p h1 h2 => M1.1 p (by omega) (by omega) (by omega) (by omega) (by omega))
      have q8 := K3.2.2.2.2.2.2.2.1
      have e16 : (nI nx + 1) &&& 65535 = nI ((nx + 1) % 65536) := add16 (b := 1) (by omega) (by omega)
      have hd : du nx un = 0 := by omega
      have h47 : st = 4 ∨ st = 7 := by
        rcases (show (st = 4 ∨ st = 7) ∨ (st = 5 ∨ st = 8 ∨ st = 9) ∨ (st = 6 ∨ st = 10) by omega) with y | y | y
        · exact y
        · have := j4 y
          omega
        · have := (j5 y).2
          omega
      have I3 : IV st ti ro tr ou fi un ((nx + 1) % 65536) wi en ic rc := ⟨⟨i1, i2, i3, i4, i5, i6, i7, i8, by omega, i10, i11, i12, i13⟩, fun z => by omega, fun z => by omega, fun z => by rw [du_add i9 i8 (by omega)]; omega, fun z => by omega, fun z => by omega⟩
      refine ⟨sv_up v' (E + 2) 4 (nI ((nx + 1) % 65536)), sv_up w' 98 s (nI ((nx + 1) % 65536)), [m], ?_, ?_, P1.keep hh hj hE hB (fun p hp => sv_up_off _ _ _ (by omega)) (fun p h1 h2 => sv_up_off _ _ _ (by omega)), Nat.le_refl _, ⟨_, _, _, _, _, _, _, _, _, _, _, _, _, _, K3.s_nx (x := (nx + 1) % 65536), I3, fun z => by omega, fun y1 y2 => (K2 y1 y2).same (fun p hp => by rw [sv_up_off _ _ _ (by omega), C1 p (by omega) (by omega)]) (fun p h1 h2 => by rw [sv_up_off _ _ _ (by omega), M1.1 p (by omega) (by omega) (by omega) (by omega) (by omega)])⟩, C1.cx.tr (cx_up (k := 2) (by omega)), M1.mx.tr (mx_up (by omega) (by omega) (by omega) (by omega) (by omega) (by omega))⟩
      · rw [show f_Ep_emitWhole E 16 (nI un) (nI rc) 0 1 v = some v' from c1]
        simp only [sv_bv, Option.bind_some, f_Snd_countSent, sv_ls, q8.1, e16]
      · rw [show f_M_segmentGoes (nI s) 16 (nI un) (nI rc) 0 1 w = some w' from m1]
        simp only [sv_bv, Option.bind_some, sv_ls, q8.2, e16]
    · rw [if_neg zo, if_neg zo]
      obtain ⟨v', w', ms', a1, a2, a3, a4, a5, a6, a7⟩ := op_em (fl := 17) (sq := un) hh hj hE hB hs P hl H0 (by omega) (by omega)
      refine ⟨v', w', ms', ?_, ?_, a3, a4, a5, a6, a7⟩
      · unfold f_Ep_emit at a1
        rw [s6, k12.1] at a1
        exact a1
      · rw [show f_M_go (nI s) 17 (nI un) w = some w' from a2]
        rfl
/-- the timer starts anew and what is to go goes -/
theorem db_go {v w w0 : sv_T} {h j E B s st ti ro tr ou fi un nx wi en ic rc x : Nat} {ob ib : Nat → Nat} {ms : List MG} (hh : h ≤ 1) (hj : j ≤ 1) (hE : E = 25 + 33 * h + 7 * j) (hB : B = 9 + 33 * h) (hs : s = 2 * h + j) (P : PN h B w0 ms v w) (hl : ms.length < 8) (K : SK v w E s st ti ro tr ou fi un nx wi en ic rc ob ib) (I : IV st ti ro tr ou fi un nx wi en ic rc) (K1 : st ≤ 3 → KE v w E s) (K2 : 4 ≤ st → st ≤ 6 → KP v w E s rc ic) (hst : 2 ≤ st) (hx : 4 ≤ x) (hx2 : x ≤ 32) :
    OP h B E s w0 ms v w 1 (if (sv_up (sv_up v E 8 (nI x)) E 7 (nI x) E 6) = (2 : Int32) then sv_bv (f_Ep_emit E (2 : Int32) (sv_up (sv_up v E 8 (nI x)) E 7 (nI x) (E + 2) 2) (sv_up (sv_up v E 8 (nI x)) E 7 (nI x))) fun v6 => some v6 else if (sv_up (sv_up v E 8 (nI x)) E 7 (nI x) E 6) = (3 : Int32) then sv_bv (f_Ep_emit E (18 : Int32) (sv_up (sv_up v E 8 (nI x)) E 7 (nI x) (E + 2) 2) (sv_up (sv_up v E 8 (nI x)) E 7 (nI x))) fun v5 => some v5 else sv_bv (f_Ep_sendAgain E (sv_up (sv_up v E 8 (nI x)) E 7 (nI x))) fun v4 => some v4) (f_M_due_b87 (nI s) (nI x) (nI s) w) := by
  have hs4 : s < 4 := by omega
  have I0 := I
  obtain ⟨⟨i1, i2, i3, i4, i5, i6, i7, i8, i9, i10, i11, i12, i13⟩, j1, j2, j3, j4, j5⟩ := I
  have K3 := (K.s_ro (x := x)).s_ti (x := x)
  have I3 : IV st x x tr ou fi un nx wi en ic rc := ⟨⟨i1, hx2, hx, hx2, i5, i6, i7, i8, i9, i10, i11, i12, i13⟩, fun z => by omega, j2, j3, j4, j5⟩
  have P3 : PN h B w0 ms (sv_up (sv_up v E 8 (nI x)) E 7 (nI x)) (sv_up (sv_up w 111 s (nI x)) 110 s (nI x)) := P.keep hh hj hE hB (fun p hp => by rw [sv_up_off _ _ _ (by omega), sv_up_off _ _ _ (by omega)]) (fun p h1 h2 => by rw [sv_up_off _ _ _ (by omega), sv_up_off _ _ _ (by omega)])
  have C3 : CX E B v (sv_up (sv_up v E 8 (nI x)) E 7 (nI x)) := cx_e.tr cx_e
  have M3 : MX s w (sv_up (sv_up w 111 s (nI x)) 110 s (nI x)) := (mx_up (by omega) (by omega) (by omega) (by omega) (by omega) (by omega)).tr (mx_up (by omega) (by omega) (by omega) (by omega) (by omega) (by omega))
  have KE3 : st ≤ 3 → KE (sv_up (sv_up v E 8 (nI x)) E 7 (nI x)) (sv_up (sv_up w 111 s (nI x)) 110 s (nI x)) E s := fun z => (K1 z).same (fun p hp => by rw [sv_up_off _ _ _ (by omega), sv_up_off _ _ _ (by omega)]) (fun p hp => by rw [sv_up_off _ _ _ (by omega), sv_up_off _ _ _ (by omega)])
  have KP3 : 4 ≤ st → st ≤ 6 → KP (sv_up (sv_up v E 8 (nI x)) E 7 (nI x)) (sv_up (sv_up w 111 s (nI x)) 110 s (nI x)) E s rc ic := fun z1 z2 => (K2 z1 z2).same (fun p hp => by rw [sv_up_off _ _ _ (by omega), sv_up_off _ _ _ (by omega)]) (fun p h1 h2 => by rw [sv_up_off _ _ _ (by omega), sv_up_off _ _ _ (by omega)])
  refine op_pre C3 M3 ?_
  unfold f_M_due_b87
  simp only [sv_ls, ck_n hs4 (show 4 < 2 ^ 31 by omega), nI_clamp (show s < 2 ^ 31 by omega), up_s]
  generalize sv_up (sv_up v E 8 (nI x)) E 7 (nI x) = v3 at *
  generalize sv_up (sv_up w 111 s (nI x)) 110 s (nI x) = w3 at *
  have q1 := K3.1
  have q6 := K3.2.2.2.2.2.1
  have H3 : SR v3 w3 E s := ⟨_, _, _, _, _, _, _, _, _, _, _, _, _, _, K3, I3, KE3, KP3⟩
  simp only [q1.1, q1.2, q6.1, q6.2, show (2 : Int32) = nI 2 from rfl, show (3 : Int32) = nI 3 from rfl, if_eq (show st < 2 ^ 31 by omega) (show 2 < 2 ^ 31 by omega), if_eq (show st < 2 ^ 31 by omega) (show 3 < 2 ^ 31 by omega)]
  by_cases z2 : st = 2
  · rw [if_pos z2, if_pos z2]
    exact op_em1 (fl := 2) (sq := fi) hh hj hE hB hs P3 hl H3 (by omega) (by omega)
  · rw [if_neg z2, if_neg z2]
    by_cases z3 : st = 3
    · rw [if_pos z3, if_pos z3]
      exact op_em1 (fl := 18) (sq := fi) hh hj hE hB hs P3 hl H3 (by omega) (by omega)
    · rw [if_neg z3, if_neg z3, bv_id]
      have := ag_go hh hj hE hB hs P3 hl K3 I3 KP3 (by omega)
      simp only [sv_ls, ck_n hs4 (show 4 < 2 ^ 31 by omega), nI_clamp (show s < 2 ^ 31 by omega)] at this
      exact this
/-- a timer is over, on both sides -/
theorem dv_go {v w w0 : sv_T} {h j E B s st ti ro tr ou fi un nx wi en ic rc : Nat} {ob ib : Nat → Nat} {ms : List MG} (hh : h ≤ 1) (hj : j ≤ 1) (hE : E = 25 + 33 * h + 7 * j) (hB : B = 9 + 33 * h) (hs : s = 2 * h + j) (P : PN h B w0 ms v w) (hl : ms.length < 8) (K : SK v w E s st ti ro tr ou fi un nx wi en ic rc ob ib) (I : IV st ti ro tr ou fi un nx wi en ic rc) (K1 : st ≤ 3 → KE v w E s) (K2 : 4 ≤ st → st ≤ 6 → KP v w E s rc ic) (hst : 2 ≤ st) : OP h B E s w0 ms v w 1 (f_Ep_timeIsOver E v) (f_M_due (nI s) w) := by
  obtain ⟨s1, s2, s3, s4, s5, s6, s7, s8, s9, s10, s11, s12, s13⟩ := sh_E hh hj hE hB
  have hs4 : s < 4 := by omega
  have I0 := I
  obtain ⟨⟨i1, i2, i3, i4, i5, i6, i7, i8, i9, i10, i11, i12, i13⟩, j1, j2, j3, j4, j5⟩ := I
  have K0 := K
  obtain ⟨k1, k2, k3, k4, k5, k6, k7, k8, k9, k10, k11, k12, k13, k14, k15⟩ := K
  unfold f_Ep_timeIsOver f_M_due
  simp only [ck_n hs4 (show 4 < 2 ^ 31 by omega), nI_clamp (show s < 2 ^ 31 by omega), k1.1, k1.2, k4.1, k4.2, nI_1, show (10 : Int32) = nI 10 from rfl, if_eq (show st < 2 ^ 31 by omega) (show 10 < 2 ^ 31 by omega), sv_ls]
  by_cases z : st = 10
  · rw [if_pos z, if_pos z]
    exact op_le (op_shut1 hh hj hE hB hs P) (by omega)
  · rw [if_neg z, if_neg z]
    have Kt := K0.s_tr (x := tr + 1)
    have Pt : PN h B w0 ms (sv_up v E 9 (nI (tr + 1))) (sv_up w 112 s (nI (tr + 1))) := P.keep hh hj hE hB (fun p hp => sv_up_off _ _ _ (by omega)) (fun p h1 h2 => sv_up_off _ _ _ (by omega))
    have Mt : MX s w (sv_up w 112 s (nI (tr + 1))) := mx_up (by omega) (by omega) (by omega) (by omega) (by omega) (by omega)
    have Ct : CX E B v (sv_up v E 9 (nI (tr + 1))) := cx_e
    have KEt : st ≤ 3 → KE (sv_up v E 9 (nI (tr + 1))) (sv_up w 112 s (nI (tr + 1))) E s := fun z => (K1 z).same (fun p hp => sv_up_off _ _ _ (by omega)) (fun p hp => sv_up_off _ _ _ (by omega))
    have KPt : 4 ≤ st → st ≤ 6 → KP (sv_up v E 9 (nI (tr + 1))) (sv_up w 112 s (nI (tr + 1))) E s rc ic := fun z1 z2 => (K2 z1 z2).same (fun p hp => sv_up_off _ _ _ (by omega)) (fun p h1 h2 => sv_up_off _ _ _ (by omega))
    have q8 := Kt.2.2.2.2.2.2.2.1
    have q3 := Kt.2.2.1
    have q4 := Kt.2.2.2.1
    generalize sv_up v E 9 (nI (tr + 1)) = v1 at *
    generalize sv_up w 112 s (nI (tr + 1)) = w1 at *
    have e2 : (2 : Int32) * nI ro = nI (2 * ro) := pk_mul 2 ro
    simp only [q4.1, q4.2, q3.1, q3.2, e2, show (7 : Int32) = nI 7 from rfl, show (32 : Int32) = nI 32 from rfl, if_lt (show tr + 1 < 2 ^ 31 by omega) (show 7 < 2 ^ 31 by omega), if_eq (show tr + 1 < 2 ^ 31 by omega) (show 7 < 2 ^ 31 by omega), if_lt (show 2 * ro < 2 ^ 31 by omega) (show 32 < 2 ^ 31 by omega), sv_min_n (show 2 * ro < 2 ^ 31 by omega) (show 32 < 2 ^ 31 by omega), up_s]
    refine op_pre Ct Mt ?_
    by_cases z7 : tr + 1 < 7
    · rw [if_pos z7, if_neg (show ¬ tr + 1 = 7 by omega), s5]
      have It : IV st ti ro (tr + 1) ou fi un nx wi en ic rc := ⟨⟨i1, i2, i3, i4, by omega, i6, i7, i8, i9, i10, i11, i12, i13⟩, fun z => by omega, j2, j3, j4, j5⟩
      have := db_go (x := min (2 * ro) 32) hh hj hE hB hs Pt hl Kt It KEt KPt hst (by omega) (by omega)
      by_cases zr : 2 * ro < 32
      · rw [if_pos zr]
        rw [show min (2 * ro) 32 = 2 * ro by omega] at this ⊢
        exact this
      · rw [if_neg zr]
        rw [show min (2 * ro) 32 = 32 by omega] at this ⊢
        exact this
    · rw [if_neg z7, if_pos (show tr + 1 = 7 by omega), s5, q8.1, q8.2]
      obtain ⟨v', w', m, a1, a2, a3, a4, a5, a6⟩ := em_sk (fl := 4) (sq := nx) hh hj hE hB hs Pt hl Kt i6 i12 i13 (by omega) (by omega)
      obtain ⟨v2, w2, ms2, b1, b2, b3, b4, b5, b6, b7⟩ := op_shut1 hh hj hE hB hs a3
      refine ⟨v2, w2, [m] ++ ms2, ?_, ?_, by rw [← List.append_assoc]; exact b3, by rw [List.length_append]; simp only [List.length_singleton]; omega, b5, a5.cx.tr b6, a6.mx.tr b7⟩
      · rw [show f_Ep_emit E 4 (nI nx) _ = some v' from a1]
        exact b1
      · rw [show f_M_go (nI s) 4 (nI nx) _ = some w' from a2]
        exact b2
/-- the reference's tick of a socket -/
def mtk (s : Nat) (w : sv_T) : Option sv_T := if 0 < (w 110 s) then (if (sv_up w 110 s ((w 110 s) - (1 : Int32)) 110 s) = 0 then f_M_due (nI s) (sv_up w 110 s ((w 110 s) - (1 : Int32))) else some (sv_up w 110 s ((w 110 s) - (1 : Int32)))) else some w
theorem tick_go {v w w0 : sv_T} {h j E B s : Nat} {ms : List MG} (hh : h ≤ 1) (hj : j ≤ 1) (hE : E = 25 + 33 * h + 7 * j) (hB : B = 9 + 33 * h) (hs : s = 2 * h + j) (P : PN h B w0 ms v w) (hl : ms.length < 8) (H : SR v w E s) : OP h B E s w0 ms v w 1 (f_Ep_passTick E v) (mtk s w) := by
  have H0 := H
  obtain ⟨st, ti, ro, tr, ou, fi, un, nx, wi, en, ic, rc, ob, ib, K, I, K1, K2⟩ := H
  have k2 := K.2.1
  have i2 := I.1.2.1
  unfold f_Ep_passTick mtk
  rw [k2.1, k2.2, if_eq0 (by omega), gt0 (by omega)]
  by_cases z : ti = 0
  · rw [if_pos z, if_neg (by omega)]
    exact op_done P H0
  · rw [if_neg z, if_pos (by omega), show nI ti - 1 = nI (ti - 1) from pk_sub (b := 1) (by omega)]
    simp only [sv_ls, bv_id]
    rw [up_s, up_s, if_eq0 (by omega), if_eq0 (by omega)]
    have hst : 2 ≤ st := by
      by_cases y : 2 ≤ st
      · exact y
      · exact absurd (I.2.1 (by omega)).1 z
    have K3 := K.s_ti (x := ti - 1)
    have I3 := I.ti (t := ti - 1) (by omega) (by omega)
    have P3 : PN h B w0 ms (sv_up v E 7 (nI (ti - 1))) (sv_up w 110 s (nI (ti - 1))) := P.keep hh hj hE hB (fun p hp => sv_up_off _ _ _ (by omega)) (fun p h1 h2 => sv_up_off _ _ _ (by omega))
    have KE3 : st ≤ 3 → KE (sv_up v E 7 (nI (ti - 1))) (sv_up w 110 s (nI (ti - 1))) E s := fun z => (K1 z).same (fun p hp => sv_up_off _ _ _ (by omega)) (fun p hp => sv_up_off _ _ _ (by omega))
    have KP3 : 4 ≤ st → st ≤ 6 → KP (sv_up v E 7 (nI (ti - 1))) (sv_up w 110 s (nI (ti - 1))) E s rc ic := fun z1 z2 => (K2 z1 z2).same (fun p hp => sv_up_off _ _ _ (by omega)) (fun p h1 h2 => sv_up_off _ _ _ (by omega))
    refine op_pre (cx_e (i := 7) (x := nI (ti - 1))) (mx_up (p0 := 110) (x := nI (ti - 1)) (by omega) (by omega) (by omega) (by omega) (by omega) (by omega)) ?_
    by_cases z1 : ti - 1 = 0
    · rw [if_pos z1, if_pos z1]
      exact dv_go hh hj hE hB hs P3 hl K3 I3 KE3 KP3 hst
    · rw [if_neg z1, if_neg z1]
      exact op_done P3 ⟨_, _, _, _, _, _, _, _, _, _, _, _, _, _, K3, I3, KE3, KP3⟩
