theorem up_same {v : sv_T} {p i : Nat} {x : Int32} (h : v p i = x) : sv_up v p i x = v := by
  funext p' i'
  rw [up_a]
  by_cases z : p' = p ∧ i' = i
  · rw [if_pos z, z.1, z.2, h]
  · rw [if_neg z]
theorem SK.same2 {v v' w w' : sv_T} {E s st ti ro tr ou fi un nx wi en ic rc : Nat} {ob ib : Nat → Nat} (K : SK v w E s st ti ro tr ou fi un nx wi en ic rc ob ib) (hv : ∀ p, p = E ∨ p = E + 2 ∨ p = E + 3 ∨ p = E + 5 → v' p = v p) (h42 : v' (E + 4) 2 = v (E + 4) 2) (h43 : v' (E + 4) 3 = v (E + 4) 3) (hw : ∀ p, 95 ≤ p → p ≤ 112 → p ≠ 107 → p ≠ 108 → p ≠ 109 → w' p = w p) : SK v' w' E s st ti ro tr ou fi un nx wi en ic rc ob ib := by
  unfold SK at K ⊢
  rw [hv E (by omega), hv (E + 2) (by omega), hv (E + 3) (by omega), h42, h43, hv (E + 5) (by omega), hw 95 (by omega) (by omega) (by omega) (by omega) (by omega), hw 96 (by omega) (by omega) (by omega) (by omega) (by omega), hw 97 (by omega) (by omega) (by omega) (by omega) (by omega), hw 98 (by omega) (by omega) (by omega) (by omega) (by omega), hw 99 (by omega) (by omega) (by omega) (by omega) (by omega), hw 100 (by omega) (by omega) (by omega) (by omega) (by omega), hw 101 (by omega) (by omega) (by omega) (by omega) (by omega), hw 102 (by omega) (by omega) (by omega) (by omega) (by omega), hw 103 (by omega) (by omega) (by omega) (by omega) (by omega), hw 104 (by omega) (by omega) (by omega) (by omega) (by omega), hw 105 (by omega) (by omega) (by omega) (by omega) (by omega), hw 106 (by omega) (by omega) (by omega) (by omega) (by omega), hw 110 (by omega) (by omega) (by omega) (by omega) (by omega), hw 111 (by omega) (by omega) (by omega) (by omega) (by omega), hw 112 (by omega) (by omega) (by omega) (by omega) (by omega)]
  exact K
/-- a segment without data goes, from stores whose timers may differ -/
theorem em_sep {v w w0 : sv_T} {h j E B s ou ic fl sq ak : Nat} {ms : List MG} (hh : h ≤ 1) (hj : j ≤ 1) (hE : E = 25 + 33 * h + 7 * j) (hB : B = 9 + 33 * h) (hs : s = 2 * h + j) (P : PN h B w0 ms v w) (hl : ms.length < 8) (k5 : v (E + 2) 1 = nI ou) (hou : ou ≤ 64) (k11 : v (E + 4) 2 = nI ic ∧ w 105 s = nI ic) (hic : ic ≤ 24) (hf : fl < 256) (hsq : sq < 2 ^ 31) (hak : ak < 2 ^ 31) :
    ∃ v' w' m, f_Ep_emitWhole E (nI fl) (nI sq) (nI ak) (nI 0) (nI 0) v = some v' ∧ f_M_segmentGoes (nI s) (nI fl) (nI sq) (nI ak) (nI 0) (nI 0) w = some w' ∧ PN h B w0 (ms ++ [m]) v' w' ∧ CE E B v v' ∧ ME w w' := by
  obtain ⟨p1, p2, p3, p4⟩ := P
  obtain ⟨v', c1, c2, c3⟩ := ce_go (fl := fl) (sq := sq) (ak := ak) (fr := 0) (n := 0) (rm := 24 - ic) (d := fun _ => 0) hh hj hE hB p3 hl hf hsq hak (by omega) hou (by omega) (by omega) k5 (by rw [k11.1]; congr 1; omega) (fun i hi => by omega) (fun i hi => by omega)
  obtain ⟨w', m1, m2, m3, m4⟩ := me_go (s := s) (fl := fl) (sq := sq) (ak := ak) (fr := 0) (n := 0) (rm := 24 - ic) (d := fun _ => 0) hh (by omega) p4 hf hsq hak (by omega) (by omega) (by omega) (by rw [k11.2]; congr 1; omega) (fun i hi => by omega) (fun i hi => by omega)
  have es : s % 2 + 1 = 1 + j := by omega
  rw [es] at m2
  exact ⟨v', w', _, c1, m1, ⟨p1.keep (fun p hp => c3 p (by omega) (by omega)) (fun _ _ _ => rfl), p2.app m2, c2, m3⟩, c3, m4⟩
theorem gt0 {α : Type} {n : Nat} {X Y : α} (h : n < 2 ^ 31) : (if (0 : Int32) < nI n then X else Y) = if 0 < n then X else Y := if_lt0 h
/-- the answer to what has a number -/
theorem tail_go {v w w0 : sv_T} {h j E B s G A fl sq ak wn dc : Nat} {dt : Nat → Nat} {ms : List MG} (hh : h ≤ 1) (hj : j ≤ 1) (hE : E = 25 + 33 * h + 7 * j) (hB : B = 9 + 33 * h) (hs : s = 2 * h + j) (P : PN h B w0 ms v w) (hl : ms.length < 8) (H : SR v w E s) (S : SG v w G A fl sq ak wn dc dt) : OP h B E s w0 ms v w 1 (f_Ep_takeContents_b54 E G v) (f_M_takes_b471 (nI s) w) := by
  obtain ⟨s1, s2, s3, s4, s5, s6, s7, s8, s9, s10, s11, s12, s13⟩ := sh_E hh hj hE hB
  have hs4 : s < 4 := by omega
  obtain ⟨g1, g2, g3, g4, g5, g6, g7, g8, g9, g10, g11⟩ := S
  have a := @hb_le fl 2
  have b := @hb_le fl 1
  have hlen : sg_len fl dc ≤ 34 := by unfold sg_len; omega
  have H0 := H
  obtain ⟨st, ti, ro, tr, ou, fi, un, nx, wi, en, ic, rc, ob, ib, K, I, K1, K2⟩ := H
  have k8 := K.2.2.2.2.2.2.2.1
  have i9 := I.1.2.2.2.2.2.2.2.2.1
  unfold f_Ep_takeContents_b54 f_M_takes_b471
  simp only [len_c g2.1 g1.1, len_m g2.2 g1.2, sv_bi, Option.bind_some, ack_c, s5, k8.1, k8.2, ck_n hs4 (show 4 < 2 ^ 31 by omega), nI_clamp (show s < 2 ^ 31 by omega), gt0 (show sg_len fl dc < 2 ^ 31 by omega)]
  by_cases z : 0 < sg_len fl dc
  · rw [if_pos z, if_pos z]
    exact op_em1 (fl := 16) (sq := nx) hh hj hE hB hs P hl H0 (by omega) (by omega)
  · rw [if_neg z, if_neg z]
    exact op_done P H0
/-- the contents, when nothing is taken any more -/
theorem tn_go {v w w0 : sv_T} {h j E B s G A fl sq ak wn dc st ti ro tr ou fi un nx wi en ic rc : Nat} {dt ob ib : Nat → Nat} {ms : List MG} (hh : h ≤ 1) (hj : j ≤ 1) (hE : E = 25 + 33 * h + 7 * j) (hB : B = 9 + 33 * h) (hs : s = 2 * h + j) (hG : G = B + 15) (P : PN h B w0 ms v w) (hl : ms.length < 8) (K : SK v w E s st ti ro tr ou fi un nx wi en ic rc ob ib) (I : IV st ti ro tr ou fi un nx wi en ic rc) (hst : 7 ≤ st) (S : SG v w G A fl sq ak wn dc dt) : OP h B E s w0 ms v w 1 (f_Ep_takeContents E G v) (f_M_takes (nI s) w) := by
  obtain ⟨s1, s2, s3, s4, s5, s6, s7, s8, s9, s10, s11, s12, s13⟩ := sh_E hh hj hE hB
  have hs4 : s < 4 := by omega
  have S0 := S
  obtain ⟨g1, g2, g3, g4, g5, g6, g7, g8, g9, g10, g11⟩ := S
  have a := @hb_le fl 2
  have b := @hb_le fl 1
  have hlen : sg_len fl dc ≤ 34 := by unfold sg_len; omega
  have I0 := I
  obtain ⟨⟨i1, i2, i3, i4, i5, i6, i7, i8, i9, i10, i11, i12, i13⟩, j1, j2, j3, j4, j5⟩ := I
  have K0 := K
  obtain ⟨k1, k2, k3, k4, k5, k6, k7, k8, k9, k10, k11, k12, k13, k14, k15⟩ := K
  have H0 : SR v w E s := ⟨_, _, _, _, _, _, _, _, _, _, _, _, _, _, K0, I0, fun z => by omega, fun _ z => by omega⟩
  have hC : f_Ep_takeContents E G v = if st = 10 ∧ 0 < sg_len fl dc then f_Ep_takeContents_b54 E G (sv_up v E 7 (nI 8)) else f_Ep_takeContents_b54 E G v := by
    unfold f_Ep_takeContents f_Ep_isReceivingState
    rw [k1.1, show (4 : Int32) = nI 4 from rfl, show (5 : Int32) = nI 5 from rfl, show (6 : Int32) = nI 6 from rfl, show (10 : Int32) = nI 10 from rfl, if_eq (by omega) (by omega), if_eq (by omega) (by omega), if_eq (by omega) (by omega), if_neg (by omega), if_neg (by omega), if_neg (by omega)]
    simp only [sv_bi, Option.bind_some, k1.1, len_c g2.1 g1.1, sv_ls]
    rw [if_pos trivial, if_eq (by omega) (by omega), gt0 (by omega)]
    by_cases z : st = 10
    · rw [if_pos z]
      by_cases z2 : 0 < sg_len fl dc
      · rw [if_pos z2, if_pos ⟨z, z2⟩]
        rfl
      · rw [if_neg z2, if_neg (fun y => z2 y.2)]
    · rw [if_neg z, if_neg (fun y => z y.1)]
  have hM : f_M_takes (nI s) w = if 0 < sg_len fl dc then sv_bv (f_M_go (nI s) (nI 16) (nI nx) w) fun v32 => if (v32 95 s) = (10 : Int32) then some (sv_up v32 110 s (nI 8)) else some (sv_up v32 110 s (v32 110 s)) else some w := by
    unfold f_M_takes f_M_takes_b36 f_M_takes_b88
    simp only [ck_n hs4 (show 4 < 2 ^ 31 by omega), nI_clamp (show s < 2 ^ 31 by omega), k1.2, sv_bi, Option.bind_some, len_m g2.2 g1.2, k8.2, sv_ls]
    rw [show (4 : Int32) = nI 4 from rfl, show (5 : Int32) = nI 5 from rfl, show (6 : Int32) = nI 6 from rfl, if_eq (by omega) (by omega), if_eq (by omega) (by omega), if_eq (by omega) (by omega), if_neg (by omega), if_neg (by omega), if_neg (by omega), if_pos trivial, gt0 (by omega)]
    rfl
  rw [hC, hM]
  by_cases z2 : 0 < sg_len fl dc
  · rw [if_pos z2]
    by_cases z : st = 10
    · rw [if_pos ⟨z, z2⟩]
      obtain ⟨v', w', m, a1, a2, a3, a4, a5⟩ := em_sep (v := sv_up v E 7 (nI 8)) (w := w) (fl := 16) (sq := nx) (ak := rc) (ou := ou) (ic := ic) hh hj hE hB hs (P.keep hh hj hE hB (fun p hp => sv_up_off _ _ _ (by omega)) (fun _ _ _ => rfl)) hl (by rw [up_q (by omega)]; exact k5.1) i6 (by rw [up_q (by omega)]; exact k11) i12 (by omega) (by omega) (by omega)
      have r95 : w' 95 = w 95 := a5.1 95 (by omega) (by omega) (by omega) (by omega) (by omega)
      have r110 : w' 110 = w 110 := a5.1 110 (by omega) (by omega) (by omega) (by omega) (by omega)
      refine ⟨v', sv_up w' 110 s (nI 8), [m], ?_, ?_, a3.keep hh hj hE hB (fun _ _ => rfl) (fun p h1 h2 => sv_up_off _ _ _ (by omega)), Nat.le_refl _, ⟨_, _, _, _, _, _, _, _, _, _, _, _, _, _, (K0.s_ti (x := 8)).same (fun p hp => a4 p (by omega) (by omega)) (fun p h1 h2 => ?_), I0.ti (by omega) (by omega), fun z => by omega, fun _ z => by omega⟩, cx_e.tr a4.cx, a5.mx.tr (mx_up (by omega) (by omega) (by omega) (by omega) (by omega) (by omega))⟩
      · unfold f_Ep_takeContents_b54
        rw [len_c (fl := fl) (dc := dc) (by rw [up_q (by omega)]; exact g2.1) (by rw [up_q (by omega)]; exact g1.1)]
        simp only [sv_bi, Option.bind_some]
        rw [gt0 (by omega), if_pos z2]
        unfold f_Ep_emitAck
        rw [s5, s6, up_q (by omega), up_q (by omega), k8.1, k12.1, show f_Ep_emitWhole E 16 (nI nx) (nI rc) 0 0 _ = some v' from a1]
        rfl
      · unfold f_M_go
        rw [ck_n hs4 (by omega), nI_clamp (by omega), k12.2, show f_M_segmentGoes (nI s) (nI 16) (nI nx) (nI rc) 0 0 w = some w' from a2]
        simp only [sv_bv, Option.bind_some]
        rw [r95, k1.2, z]
        rfl
      · funext i
        rw [up_a, up_a, a5.1 p (by omega) (by omega) (by omega) (by omega) (by omega)]
    · rw [if_neg (fun y => z y.1)]
      obtain ⟨v', w', m, a1, a2, a3, a4, a5, a6⟩ := em_go (fl := 16) (sq := nx) hh hj hE hB hs P hl K0 I0 (by omega) (by omega)
      refine ⟨v', w', [m], ?_, ?_, a3, Nat.le_refl _, ⟨_, _, _, _, _, _, _, _, _, _, _, _, _, _, a4, I0, fun z => by omega, fun _ z => by omega⟩, a5.cx, a6.mx⟩
      · unfold f_Ep_takeContents_b54
        rw [len_c g2.1 g1.1]
        simp only [sv_bi, Option.bind_some]
        rw [gt0 (by omega), if_pos z2, ack_c, s5, k8.1, show f_Ep_emit E 16 (nI nx) v = some v' from a1]
        rfl
      · rw [a2]
        simp only [sv_bv, Option.bind_some]
        rw [a4.1.2, show (10 : Int32) = nI 10 from rfl, if_eq (by omega) (by omega), if_neg z, up_same rfl]
  · rw [if_neg z2, if_neg (fun y => z2 y.2)]
    unfold f_Ep_takeContents_b54
    rw [len_c g2.1 g1.1]
    simp only [sv_bi, Option.bind_some]
    rw [gt0 (by omega), if_neg z2]
    exact op_done P H0
