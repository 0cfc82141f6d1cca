theorem op_pu {v w w0 : sv_T} {h j E B s : Nat} {ms : List MG} (hh : h ≤ 1) (hj : j ≤ 1) (hE : E = 25 + 33 * h + 7 * j) (hB : B = 9 + 33 * h) (hs : s = 2 * h + j) (P : PN h B w0 ms v w) (hl : ms.length ≤ 4) (H : SR v w E s) : OP h B E s w0 ms v w 3 (sv_bv (f_Ep_push E v) fun v1 => some v1) (sv_bv (f_M_push (nI s) w) fun v1 => some v1) :=
  op_bind (k := 3) (k1 := 0) (pu_go hh hj hE hB hs P hl H) (fun _ _ _ P1 _ H1 _ _ => op_done P1 H1)
/-- the contents, on both sides -/
theorem tk_go {v w w0 : sv_T} {h j E B s G A fl sq ak wn dc st' : Nat} {dt : Nat → Nat} {ms : List MG} (hh : h ≤ 1) (hj : j ≤ 1) (hE : E = 25 + 33 * h + 7 * j) (hB : B = 9 + 33 * h) (hs : s = 2 * h + j) (hG : G = B + 15) (hA : A = B + 1) (P : PN h B w0 ms v w) (hl : ms.length < 8) (H : SR v w E s) (h4 : 4 ≤ st') (h10 : st' ≤ 10) (h6 : v E 6 = nI st') (S : SG v w G A fl sq ak wn dc dt) (h114 : ∀ i, i < dc → w 114 (10 + i) = nI (dt i)) : OP h B E s w0 ms v w 1 (f_Ep_takeContents E G v) (f_M_takes (nI s) w) := by
  obtain ⟨st, ti, ro, tr, ou, fi, un, nx, wi, en, ic, rc, ob, ib, K, I, K1, K2⟩ := H
  have e : st = st' := (nI_eq (by have := I.1.1; omega) (by omega)).mp (K.1.1.symm.trans h6)
  by_cases z : st ≤ 6
  · exact ty_go hh hj hE hB hs hG hA P hl K I (by omega) (K2 (by omega) z) S h114
  · exact tn_go hh hj hE hB hs hG P hl K I (by omega) S
/-- the class's way of a segment in the later states -/
def cot (E G : Nat) (v : sv_T) : Option sv_T := sv_bi (f_Ep_isAdmitted E G v) fun x2 v1 => if x2 = 0 then some v1 else sv_bi (f_Ep_isOpenFor E G v1) fun x4 v3 => if x4 = 0 then some v3 else sv_bi (f_Ep_takeConfirmation E G v3) fun x6 v5 => if x6 = 0 then some v5 else sv_bv (f_Ep_takeContents E G v5) fun v7 => sv_bv (f_Ep_push E v7) fun v8 => some v8
theorem ot_go {v w w0 : sv_T} {h j E B s G A fl sq ak wn dc st ti ro tr ou fi un nx wi en ic rc : Nat} {dt ob ib : Nat → Nat} {ms : List MG} (hh : h ≤ 1) (hj : j ≤ 1) (hE : E = 25 + 33 * h + 7 * j) (hB : B = 9 + 33 * h) (hs : s = 2 * h + j) (hG : G = B + 15) (hA : A = B + 1) (P : PN h B w0 ms v w) (hl : ms.length ≤ 3) (K : SK v w E s st ti ro tr ou fi un nx wi en ic rc ob ib) (I : IV st ti ro tr ou fi un nx wi en ic rc) (K1 : st ≤ 3 → KE v w E s) (K2 : 4 ≤ st → st ≤ 6 → KP v w E s rc ic) (hst : 3 ≤ st) (S : SG v w G A fl sq ak wn dc dt) (h114 : ∀ i, i < dc → w 114 (10 + i) = nI (dt i)) : OP h B E s w0 ms v w 4 (cot E G v) (f_M_other (nI s) w) := by
  obtain ⟨s1, s2, s3, s4, s5, s6, s7, s8, s9, s10, s11, s12, s13⟩ := sh_E hh hj hE hB
  have hs4 : s < 4 := by omega
  have S0 := S
  obtain ⟨g1, g2, g3, g4, g5, g6, g7, g8, g9, g10, g11⟩ := S
  have I0 := I
  have b0 := I.1
  obtain ⟨⟨i1, i2, i3, i4, i5, i6, i7, i8, i9, i10, i11, i12, i13⟩, j1, j2, j3, j4, j5⟩ := I
  have K0 := K
  obtain ⟨k1, k2, k3, k4, k5, k6, k7, k8, k9, k10, k11, k12, k13, k14, k15⟩ := K
  have H0 : SR v w E s := ⟨_, _, _, _, _, _, _, _, _, _, _, _, _, _, K0, I0, K1, K2⟩
  obtain ⟨b, hb1, fc, fm⟩ := fits_go (q := E + 4) hs4 S0 k11 k12 i12 i13
  unfold cot f_Ep_isAdmitted f_M_other
  rw [s6, fc, fm]
  simp only [sv_bi, Option.bind_some, has_c g2.1, has_m g2.2, hb_if, ck_n hs4 (show 4 < 2 ^ 31 by omega), nI_clamp (show s < 2 ^ 31 by omega), k8.2]
  rw [if_eq0 (a := b) (by omega), if_eq0 (a := b) (by omega)]
  by_cases zb : b = 0
  · rw [if_pos zb, if_pos zb]
    -- the segment does not fit
    have last : ∀ (v1 w1 : sv_T) (ms1 : List MG), PN h B w0 ms1 v1 w1 → SK v1 w1 E s st ti ro tr ou fi un nx wi en ic rc ob ib → SR v1 w1 E s → OP h B E s w0 ms1 v1 w1 0 (Option.bind (f_Ep_isAdmitted_b23 E v1) fun p => if p.1 = 0 then some p.2 else Option.bind (f_Ep_isOpenFor E G p.2) fun q => if q.1 = 0 then some q.2 else Option.bind (f_Ep_takeConfirmation E G q.2) fun r => if r.1 = 0 then some r.2 else sv_bv (f_Ep_takeContents E G r.2) fun v7 => sv_bv (f_Ep_push E v7) fun v8 => some v8) (f_M_other_b29 (nI s) w1) := by
      intro v1 w1 ms1 P1 KK HH
      have t1 := KK.1
      unfold f_Ep_isAdmitted_b23 f_M_other_b29 f_M_other_b56
      simp only [ck_n hs4 (show 4 < 2 ^ 31 by omega), nI_clamp (show s < 2 ^ 31 by omega), t1.1, t1.2, sv_ls]
      rw [show (10 : Int32) = nI 10 from rfl, if_eq (by omega) (by omega), if_eq (by omega) (by omega)]
      by_cases z : st = 10
      · rw [if_pos z, if_pos z]
        simp only [Option.bind_some]
        rw [if_pos trivial]
        refine op_pre cx_e (mx_up (p0 := 110) (x := nI 8) (by omega) (by omega) (by omega) (by omega) (by omega) (by omega)) (op_done (P1.keep hh hj hE hB (fun p hp => sv_up_off _ _ _ (by omega)) (fun p h1 h2 => sv_up_off _ _ _ (by omega))) ⟨_, _, _, _, _, _, _, _, _, _, _, _, _, _, KK.s_ti (x := 8), I0.ti (by omega) (by omega), fun z => by omega, fun _ z => by omega⟩)
      · rw [if_neg z, if_neg z]
        simp only [Option.bind_some]
        rw [if_pos trivial, up_same rfl]
        exact op_done P1 HH
    by_cases z4 : hb fl 4 = 0
    · rw [if_pos z4, if_pos z4, ack_c, s5, k8.1]
      obtain ⟨v', w', m, a1, a2, a3, a4, a5, a6⟩ := em_go (fl := 16) (sq := nx) hh hj hE hB hs P (by omega) K0 I0 (by omega) (by omega)
      have HH : SR v' w' E s := H0.same (fun p hp => a5 p (by omega) (by omega)) (fun p h1 h2 => a6.1 p (by omega) (by omega) (by omega) (by omega) (by omega))
      obtain ⟨v2, w2, ms2, c1, c2, c3, c4, c5, c6, c7⟩ := last v' w' (ms ++ [m]) a3 a4 HH
      refine ⟨v2, w2, [m] ++ ms2, ?_, ?_, by rw [← List.append_assoc]; exact c3, by rw [List.length_append]; simp only [List.length_singleton]; omega, c5, a5.cx.tr c6, a6.mx.tr c7⟩
      · rw [show f_Ep_emit E 16 (nI nx) v = some v' from a1]
        exact c1
      · rw [show f_M_go (nI s) 16 (nI nx) w = some w' from a2]
        exact c2
    · rw [if_neg z4, if_neg z4]
      exact op_le (last v w ms P K0 H0) (by omega)
  · rw [if_neg zb, if_neg zb]
    by_cases z4 : hb fl 4 = 0
    · rw [if_pos z4, if_pos z4]
      by_cases z2 : hb fl 2 = 0
      · rw [if_pos z2, if_pos z2]
        by_cases z16 : hb fl 16 = 0
        · rw [if_pos z16, z16]
          rw [show nI 0 = (0 : Int32) from rfl, bl_0]
          simp only [Option.bind_some]
          rw [if_pos trivial]
          exact op_done P H0
        · have e16 : hb fl 16 = 1 := by have := @hb_le fl 16; omega
          rw [if_neg z16, e16, show nI 1 = (1 : Int32) from rfl, bl_1]
          simp only [Option.bind_some]
          rw [if_neg (by decide)]
          -- from the confirming on
          have go : ∀ (v1 w1 : sv_T) (st1 : Nat), 4 ≤ st1 → PN h B w0 ms v1 w1 → SK v1 w1 E s st1 ti ro tr ou fi un nx wi en ic rc ob ib → (st1 ≤ 10 ∧ ti ≤ 32 ∧ 4 ≤ ro ∧ ro ≤ 32 ∧ tr ≤ 6 ∧ ou ≤ 64 ∧ fi < 65536 ∧ un < 65536 ∧ nx < 65536 ∧ wi < 256 ∧ en ≤ 1 ∧ ic ≤ 24 ∧ rc < 65536) → (IV st1 ti ro tr ou fi un nx wi en ic rc ∨ (st1 = 4 ∧ ou = 0 ∧ nx = (un + 1) % 65536 ∧ ak = nx)) → (st1 ≤ 6 → KP v1 w1 E s rc ic) → CX E B v v1 → MX s w w1 → w1 114 = w 114 → OP h B E s w0 ms v w 4 (Option.bind (f_Ep_takeConfirmation E G v1) fun r => if r.1 = 0 then some r.2 else sv_bv (f_Ep_takeContents E G r.2) fun v7 => sv_bv (f_Ep_push E v7) fun v8 => some v8) (mtc s w1 fun v12 => sv_bv (f_M_takes (nI s) v12) fun v14 => sv_bv (f_M_push (nI s) v14) fun v15 => some v15) := by
            intro v1 w1 st1 h4 P1 KK bb JJ KK2 C1 M1 h14
            have S1 : SG v1 w1 G A fl sq ak wn dc dt := S0.keep (C1 G (by omega) (by omega)) (C1 A (by omega) (by omega)) (fun i h1 h2 => M1.2 i (by omega) (by omega) (by omega))
            rcases tc_go hh hj hE hB hs hG P1 (by omega) KK bb JJ h4 KK2 S1 with ⟨v', w', ms', a1, a2, a3, a4, a5, a6, a7⟩ | ⟨v', w', a1, a2, a3, a4, a5, a6, ⟨st', c1, c2, c3⟩, a8⟩
            · rw [a1, a2]
              exact ⟨v', w', ms', rfl, rfl, a3, by omega, a5, C1.tr a6, M1.tr a7⟩
            · rw [a1, a2]
              simp only [Option.bind_some]
              rw [if_neg (by decide)]
              have S2 : SG v' w' G A fl sq ak wn dc dt := S1.keep (a5 G (by omega) (by omega)) (a5 A (by omega) (by omega)) (fun i h1 h2 => a6.2 i (by omega) (by omega) (by omega))
              refine op_pre (C1.tr a5) (M1.tr a6) (op_bind (k := 1) (k1 := 3) (tk_go hh hj hE hB hs hG hA a3 (by omega) a4 c1 c2 c3 S2 (fun i hi => by rw [a8, h14]; exact h114 i hi)) (fun v2 w2 ms2 P2 l2 H2 _ _ => op_pu hh hj hE hB hs P2 (by rw [List.length_append]; omega) H2))
          unfold f_Ep_isOpenFor f_M_other_b145 f_M_other_b170
          simp only [ck_n hs4 (show 4 < 2 ^ 31 by omega), nI_clamp (show s < 2 ^ 31 by omega), k1.1, k1.2, s5, g4.1, g4.2, k8.1, sv_ls]
          simp only [show (3 : Int32) = nI 3 from rfl, if_eq (show st < 2 ^ 31 by omega) (show 3 < 2 ^ 31 by omega)]
          by_cases z3 : st = 3
          · simp only [if_pos z3]
            rw [if_eq (a := ak) (by omega) (by omega), if_eq (a := ak) (by omega) (by omega)]
            by_cases za : ak = nx
            · rw [if_pos za, if_pos za]
              simp only [Option.bind_some]
              rw [if_neg (by decide)]
              obtain ⟨l1, l2, l3, l4⟩ := j2 (by omega)
              exact go (sv_up v E 6 (nI 4)) (sv_up w 95 s (nI 4)) 4 (by omega) (P.keep hh hj hE hB (fun p hp => sv_up_off _ _ _ (by omega)) (fun p h1 h2 => sv_up_off _ _ _ (by omega))) (K0.s_st (x := 4) (by rw [z3]; rfl)) ⟨by omega, i2, i3, i4, i5, i6, i7, i8, i9, i10, i11, i12, i13⟩ (Or.inr ⟨rfl, l1, l4, za⟩) (fun _ => (K1 (by omega)).kp.same (fun p hp => sv_up_off _ _ _ (by omega)) (fun p h1 h2 => sv_up_off _ _ _ (by omega))) cx_e (mx_up (by omega) (by omega) (by omega) (by omega) (by omega) (by omega)) (sv_up_off _ _ _ (by omega))
            · rw [if_neg za, if_neg za]
              refine op_le ?_ (show 1 ≤ 4 by omega)
              obtain ⟨v', w', ms', a1, a2, a3, a4, a5, a6, a7⟩ := op_em (fl := 4) (sq := ak) hh hj hE hB hs P (by omega) H0 (by omega) (by omega)
              refine ⟨v', w', ms', ?_, ?_, a3, a4, a5, a6, a7⟩
              · rw [show f_Ep_emit E 4 (nI ak) v = some v' from a1]
                rfl
              · rw [show f_M_go (nI s) 4 (nI ak) w = some w' from a2]
                rfl
          · simp only [if_neg z3, Option.bind_some]
            rw [if_neg (by decide), up_same k1.2]
            exact go v w st (by omega) P K0 b0 (Or.inl I0) (fun z => K2 (by omega) z) CX.rf MX.rf rfl
      · rw [if_neg z2, if_neg z2]
        rw [s5, k8.1]
        refine op_le ?_ (show 1 ≤ 4 by omega)
        obtain ⟨v', w', ms', a1, a2, a3, a4, a5, a6, a7⟩ := op_rst (fl := 4) (sq := nx) hh hj hE hB hs P (by omega) H0 (by omega) (by omega)
        refine ⟨v', w', ms', ?_, a2, a3, a4, a5, a6, a7⟩
        rw [← a1]
        show Option.bind (Option.bind (f_Ep_emit E (nI 4) (nI nx) v) _) _ = Option.bind (f_Ep_emit E (nI 4) (nI nx) v) _
        cases f_Ep_emit E (nI 4) (nI nx) v with
        | none => rfl
        | some v9 =>
          show Option.bind (Option.bind (f_Ep_shut E v9) _) _ = Option.bind (f_Ep_shut E v9) _
          cases f_Ep_shut E v9 <;> rfl
    · rw [if_neg z4, if_neg z4]
      refine op_le ?_ (show 0 ≤ 4 by omega)
      obtain ⟨v', w', ms', a1, a2, a3, a4, a5, a6, a7⟩ := op_shut1 hh hj hE hB hs P
      refine ⟨v', w', ms', ?_, a2, a3, a4, a5, a6, a7⟩
      rw [← a1]
      show Option.bind (Option.bind (f_Ep_shut E v) _) _ = Option.bind (f_Ep_shut E v) _
      cases f_Ep_shut E v <;> rfl
