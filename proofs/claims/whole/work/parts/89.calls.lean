/-- a call with an answer, on both sides -/
def OR (h B E s : Nat) (w0 : sv_T) (ms : List MG) (v w : sv_T) (k : Nat) (X Y : Option (Int32 × sv_T)) : Prop := ∃ r v' w' ms', X = some (r, v') ∧ Y = some (r, w') ∧ PN h B w0 (ms ++ ms') v' w' ∧ ms'.length ≤ k ∧ SR v' w' E s ∧ CX E B v v' ∧ MX s w w'
theorem or_done {h B E s k : Nat} {w0 v w : sv_T} {ms : List MG} (r : Int32) (P : PN h B w0 ms v w) (H : SR v w E s) : OR h B E s w0 ms v w k (some (r, v)) (some (r, w)) :=
  ⟨r, v, w, [], rfl, rfl, by rw [List.append_nil]; exact P, Nat.zero_le _, H, CX.rf, MX.rf⟩
theorem op_or {h B E s k : Nat} {w0 v w : sv_T} {ms : List MG} {X Y : Option sv_T} (r : Int32) (H : OP h B E s w0 ms v w k X Y) : OR h B E s w0 ms v w k (sv_bv X fun v1 => some (r, v1)) (sv_bv Y fun v1 => some (r, v1)) := by
  obtain ⟨v', w', ms', a1, a2, a3⟩ := H
  exact ⟨r, v', w', ms', by rw [a1]; rfl, by rw [a2]; rfl, a3⟩
theorem or_pre {h B E s k : Nat} {w0 v w v1 w1 : sv_T} {ms : List MG} {X Y : Option (Int32 × sv_T)} (C : CX E B v v1) (M : MX s w w1) (H : OR h B E s w0 ms v1 w1 k X Y) : OR h B E s w0 ms v w k X Y := by
  obtain ⟨r, v', w', ms', a1, a2, a3, a4, a5, a6, a7⟩ := H
  exact ⟨r, v', w', ms', a1, a2, a3, a4, a5, C.tr a6, M.tr a7⟩
theorem or_le {h B E s k k' : Nat} {w0 v w : sv_T} {ms : List MG} {X Y : Option (Int32 × sv_T)} (H : OR h B E s w0 ms v w k X Y) (hk : k ≤ k') : OR h B E s w0 ms v w k' X Y := by
  obtain ⟨r, v', w', ms', a1, a2, a3, a4, a5⟩ := H
  exact ⟨r, v', w', ms', a1, a2, a3, Nat.le_trans a4 hk, a5⟩
theorem sok {h j : Nat} {w : sv_T} (hh : h ≤ 1) (hj : j ≤ 1) : f_M_isSocket (nI h) (nI (1 + j)) w = some (1, w) := by
  rcases (show h = 0 ∨ h = 1 by omega) with rfl | rfl <;> rcases (show j = 0 ∨ j = 1 by omega) with rfl | rfl <;> rfl
theorem sat {h j s : Nat} {w : sv_T} (hh : h ≤ 1) (hj : j ≤ 1) (hs : s = 2 * h + j) : f_M_at (nI h) (nI (1 + j)) w = some (nI s, w) := by
  subst hs
  rcases (show h = 0 ∨ h = 1 by omega) with rfl | rfl <;> rcases (show j = 0 ∨ j = 1 by omega) with rfl | rfl <;> rfl
/-- fresh on a closed socket changes nothing that counts -/
theorem fz_go {v w : sv_T} {E s ti ro tr ou fi un nx wi en ic rc : Nat} {ob ib : Nat → Nat} (hs : s < 4) (K : SK v w E s 0 ti ro tr ou fi un nx wi en ic rc ob ib) (I : IV 0 ti ro tr ou fi un nx wi en ic rc) (K1 : KE v w E s) : ∃ w', f_M_fresh (nI s) w = some w' ∧ SK v w' E s 0 0 4 0 0 0 0 0 0 0 0 0 ob ib ∧ KE v w' E s ∧ MX s w w' ∧ ∀ p, p < 95 ∨ 112 < p → w' p = w p := by
  obtain ⟨rfl, rfl, rfl, rfl, rfl, rfl, rfl, rfl, rfl, rfl, rfl⟩ := I.2.1 (by omega)
  obtain ⟨k1, k2, k3, k4, k5, k6, k7, k8, k9, k10, k11, k12, k13, k14, k15⟩ := K
  obtain ⟨w', f0, f1, f2, f3, f4, f5, f6, f7, f8, f9, f10, f11, f12, f13, f14, f15, f16, f17, f18, f19, f20⟩ := mfr_go (w := w) hs
  refine ⟨w', f0, ⟨⟨k1.1, by rw [f16]; exact k1.2⟩, ⟨k2.1, f12⟩, ⟨k3.1, f13⟩, ⟨k4.1, f14⟩, ⟨k5.1, f6⟩, ⟨k6.1, f1⟩, ⟨k7.1, f2⟩, ⟨k8.1, f3⟩, ⟨k9.1, f5⟩, ⟨k10.1, f7⟩, ⟨k11.1, f9⟩, ⟨k12.1, f4⟩, f8, fun i hi => absurd hi (by omega), fun i hi => absurd hi (by omega)⟩, ⟨K1.1, f11, fun d hd => ⟨f10 d hd, (K1.2.2 d hd).2⟩⟩, ⟨fun p i h1 h2 h3 h4 h5 hm => f15 p i hm, fun i _ _ _ => by rw [f20 75 (by omega)]⟩, f20⟩
/-- listen -/
theorem ls_go {v w w0 : sv_T} {h j E B s : Nat} {ms : List MG} (hh : h ≤ 1) (hj : j ≤ 1) (hE : E = 25 + 33 * h + 7 * j) (hB : B = 9 + 33 * h) (hs : s = 2 * h + j) (P : PN h B w0 ms v w) (H : SR v w E s) : OR h B E s w0 ms v w 0 (f_Ep_startListening E v) (f_M_listen (nI h) (nI (1 + j)) w) := by
  have hs4 : s < 4 := by omega
  have H0 := H
  obtain ⟨st, ti, ro, tr, ou, fi, un, nx, wi, en, ic, rc, ob, ib, K, I, K1, K2⟩ := H
  have k1 := K.1
  have i1 := I.1.1
  unfold f_Ep_startListening f_M_listen
  simp only [sok hh hj, sat hh hj hs, sv_bi, Option.bind_some, ck_n hs4 (show 4 < 2 ^ 31 by omega), nI_clamp (show s < 2 ^ 31 by omega), k1.1, k1.2, if_eq0 (show st < 2 ^ 31 by omega), sv_ls]
  rw [if_neg (show ¬ (1 : Int32) = 0 by decide)]
  by_cases z : st = 0
  · rw [if_pos z, if_pos z]
    subst z
    obtain ⟨w', a1, a2, a3, a4, a5⟩ := fz_go hs4 K I (K1 (by omega))
    rw [a1]
    simp only [sv_bv, Option.bind_some]
    refine or_pre (cx_e (i := 6) (x := nI 1)) (a4.tr (mx_up (p0 := 95) (x := nI 1) (by omega) (by omega) (by omega) (by omega) (by omega) (by omega))) (or_done 1 (P.keep hh hj hE hB (fun p hp => sv_up_off _ _ _ (by omega)) (fun p h1 h2 => by rw [sv_up_off _ _ _ (by omega), a5 p (by omega)])) ⟨_, _, _, _, _, _, _, _, _, _, _, _, _, _, a2.s_st (x := 1) rfl, IV.fresh (by omega), fun _ => a3.same (fun p hp => sv_up_off _ _ _ (by omega)) (fun p hp => sv_up_off _ _ _ (by omega)), fun z => by omega⟩)
  · rw [if_neg z, if_neg z]
    exact or_done 0 P H0
/-- connect -/
theorem cn_go {v w w0 : sv_T} {h j E B s : Nat} {c : Int32} {ms : List MG} (hh : h ≤ 1) (hj : j ≤ 1) (hE : E = 25 + 33 * h + 7 * j) (hB : B = 9 + 33 * h) (hs : s = 2 * h + j) (P : PN h B w0 ms v w) (hl : ms.length < 8) (H : SR v w E s) (hc : w 75 0 = c) : OR h B E s w0 ms v w 1 (f_Ep_startConnecting E c v) (f_M_connect (nI h) (nI (1 + j)) w) := by
  obtain ⟨s1, s2, s3, s4, s5, s6, s7, s8, s9, s10, s11, s12, s13⟩ := sh_E hh hj hE hB
  have hs4 : s < 4 := by omega
  have H0 := H
  obtain ⟨st, ti, ro, tr, ou, fi, un, nx, wi, en, ic, rc, ob, ib, K, I, K1, K2⟩ := H
  have k1 := K.1
  have i1 := I.1.1
  unfold f_Ep_startConnecting f_M_connect
  simp only [sok hh hj, sat hh hj hs, sv_bi, Option.bind_some, ck_n hs4 (show 4 < 2 ^ 31 by omega), nI_clamp (show s < 2 ^ 31 by omega), k1.1, k1.2, if_eq0 (show st < 2 ^ 31 by omega), sv_ls]
  rw [if_neg (show ¬ (1 : Int32) = 0 by decide)]
  by_cases z : st = 0
  · rw [if_pos z, if_pos z]
    subst z
    obtain ⟨w', a1, a2, a3, a4, a5⟩ := fz_go hs4 K I (K1 (by omega))
    obtain ⟨v1, w1, f, b1, b2, b3, b4, b5, b6, b7⟩ := bg_go hh hj hE hB hs a2 (c := c) (by rw [a5 75 (by omega)]; exact hc)
    rw [a1, b1]
    simp only [sv_bv, Option.bind_some]
    rw [b2]
    simp only [Option.bind_some]
    have K3 := b4.s_st (x := 2) rfl
    have q6 := K3.2.2.2.2.2.1
    have I3 : IV 2 4 4 0 0 f f ((f + 1) % 65536) 0 0 0 0 := ⟨⟨by omega, by omega, by omega, by omega, by omega, by omega, by omega, by omega, by omega, by omega, by omega, by omega, by omega⟩, fun z => by omega, fun _ => ⟨rfl, rfl, rfl, rfl⟩, fun z => by omega, fun z => by omega, fun z => by omega⟩
    rw [s5, show (2 : Int32) = nI 2 from rfl, q6.1, q6.2]
    refine or_pre (v1 := sv_up v1 E 6 (nI 2)) (w1 := sv_up w1 95 s (nI 2)) ?_ ((a4.tr b7).tr (mx_up (by omega) (by omega) (by omega) (by omega) (by omega) (by omega))) (op_or 1 (op_em (fl := 2) (sq := f) hh hj hE hB hs (P.keep hh hj hE hB (fun p hp => ?_) (fun p h1 h2 => ?_)) hl ⟨_, _, _, _, _, _, _, _, _, _, _, _, _, _, K3, I3, fun _ => a3.at ?_ ?_ ?_ ?_, fun z => by omega⟩ (by omega) (by omega)))
    · intro p h1 _
      rw [sv_up_off _ _ _ (by omega), b5 p (by omega) (by omega)]
    · rw [sv_up_off _ _ _ (by omega), b5 p (by omega) (by omega)]
    · rw [sv_up_off _ _ _ (by omega), b6 p (by omega), a5 p (by omega)]
    · rw [up_q (by omega), b5 _ (by omega) (by omega)]
    · rw [sv_up_off _ _ _ (by omega), b5 _ (by omega) (by omega)]
    · rw [sv_up_off _ _ _ (by omega), b6 _ (by omega)]
    · rw [sv_up_off _ _ _ (by omega), b6 _ (by omega)]
  · rw [if_neg z, if_neg z]
    exact or_done 0 P H0
/-- close -/
theorem ce2_go {v w w0 : sv_T} {h j E B s : Nat} {ms : List MG} (hh : h ≤ 1) (hj : j ≤ 1) (hE : E = 25 + 33 * h + 7 * j) (hB : B = 9 + 33 * h) (hs : s = 2 * h + j) (P : PN h B w0 ms v w) (hl : ms.length ≤ 4) (H : SR v w E s) : OR h B E s w0 ms v w 3 (f_Ep_startEnding E v) (f_M_close (nI h) (nI (1 + j)) w) := by
  obtain ⟨s1, s2, s3, s4, s5, s6, s7, s8, s9, s10, s11, s12, s13⟩ := sh_E hh hj hE hB
  have hs4 : s < 4 := by omega
  have H0 := H
  obtain ⟨st, ti, ro, tr, ou, fi, un, nx, wi, en, ic, rc, ob, ib, K, I, K1, K2⟩ := H
  have k1 := K.1
  have k10 := K.2.2.2.2.2.2.2.2.2.1
  obtain ⟨⟨i1, i2, i3, i4, i5, i6, i7, i8, i9, i10, i11, i12, i13⟩, j1, j2, j3, j4, j5⟩ := I
  have shut : OR h B E s w0 ms v w 3 (f_Ep_startEnding_b16 E v) (f_M_close_b36 (nI s) w) := or_le (op_or 1 (op_sh hh hj hE hB hs P)) (by omega)
  have endg : (st = 4 ∨ st = 7) → OR h B E s w0 ms v w 3 (if en = 0 then sv_bv (f_Ep_push E (sv_up v (E + 2) 6 (nI 1))) fun v5 => some (1, v5) else some (0, v)) (f_M_close_b64 (nI s) w) := by
    intro hst
    unfold f_M_close_b64
    simp only [ck_n hs4 (show 4 < 2 ^ 31 by omega), nI_clamp (show s < 2 ^ 31 by omega), k10.2, if_eq0 (show en < 2 ^ 31 by omega), sv_ls]
    by_cases z : en = 0
    · rw [if_pos z, if_pos z]
      refine or_pre (cx_up (k := 2) (i := 6) (x := nI 1) (by omega)) (mx_up (p0 := 103) (x := nI 1) (by omega) (by omega) (by omega) (by omega) (by omega) (by omega)) (op_or 1 (pu_go hh hj hE hB hs (P.keep hh hj hE hB (fun p hp => sv_up_off _ _ _ (by omega)) (fun p h1 h2 => sv_up_off _ _ _ (by omega))) hl ⟨_, _, _, _, _, _, _, _, _, _, _, _, _, _, K.s_en (x := 1), ⟨⟨i1, i2, i3, i4, i5, i6, i7, i8, i9, i10, by omega, i12, i13⟩, fun z => by omega, fun z => by omega, j3, j4, j5⟩, fun z => by omega, fun z1 z2 => (K2 z1 z2).same (fun p hp => sv_up_off _ _ _ (by omega)) (fun p h1 h2 => sv_up_off _ _ _ (by omega))⟩))
    · rw [if_neg z, if_neg z]
      exact or_done 0 P H0
  unfold f_Ep_startEnding f_Ep_isSendingState f_M_close
  simp only [sok hh hj, sat hh hj hs, sv_bi, Option.bind_some, ck_n hs4 (show 4 < 2 ^ 31 by omega), nI_clamp (show s < 2 ^ 31 by omega), k1.1, k1.2, show (1 : Int32) = nI 1 from rfl, show (2 : Int32) = nI 2 from rfl, show (4 : Int32) = nI 4 from rfl, show (7 : Int32) = nI 7 from rfl, if_eq (show st < 2 ^ 31 by omega) (show 1 < 2 ^ 31 by omega), if_eq (show st < 2 ^ 31 by omega) (show 2 < 2 ^ 31 by omega), if_eq (show st < 2 ^ 31 by omega) (show 4 < 2 ^ 31 by omega), if_eq (show st < 2 ^ 31 by omega) (show 7 < 2 ^ 31 by omega), sv_ls]
  rw [if_neg (show ¬ nI 1 = (0 : Int32) by decide)]
  by_cases z1 : st = 1
  · rw [if_pos z1, if_pos z1]
    exact shut
  · rw [if_neg z1, if_neg z1]
    by_cases z2 : st = 2
    · rw [if_pos z2, if_pos z2]
      exact shut
    · rw [if_neg z2, if_neg z2]
      by_cases z4 : st = 4
      · rw [if_pos z4, if_pos z4]
        simp only [Option.bind_some]
        rw [if_neg (show ¬ nI 1 = (0 : Int32) by decide), s5, k10.1, if_eq0 (by omega)]
        exact endg (Or.inl z4)
      · rw [if_neg z4, if_neg z4]
        by_cases z7 : st = 7
        · rw [if_pos z7, if_pos z7]
          simp only [Option.bind_some]
          rw [if_neg (show ¬ nI 1 = (0 : Int32) by decide), s5, k10.1, if_eq0 (by omega)]
          exact endg (Or.inr z7)
        · rw [if_neg z7, if_neg z7]
          simp only [Option.bind_some]
          rw [if_pos trivial]
          exact or_done 0 P H0
/-- abort -/
theorem ab_go {v w w0 : sv_T} {h j E B s : Nat} {ms : List MG} (hh : h ≤ 1) (hj : j ≤ 1) (hE : E = 25 + 33 * h + 7 * j) (hB : B = 9 + 33 * h) (hs : s = 2 * h + j) (P : PN h B w0 ms v w) (hl : ms.length < 8) (H : SR v w E s) : OR h B E s w0 ms v w 1 (f_Ep_breakOff E v) (f_M_abort (nI h) (nI (1 + j)) w) := by
  obtain ⟨s1, s2, s3, s4, s5, s6, s7, s8, s9, s10, s11, s12, s13⟩ := sh_E hh hj hE hB
  have hs4 : s < 4 := by omega
  have H0 := H
  obtain ⟨st, ti, ro, tr, ou, fi, un, nx, wi, en, ic, rc, ob, ib, K, I, K1, K2⟩ := H
  have k1 := K.1
  have k8 := K.2.2.2.2.2.2.2.1
  obtain ⟨⟨i1, i2, i3, i4, i5, i6, i7, i8, i9, i10, i11, i12, i13⟩, j1, j2, j3, j4, j5⟩ := I
  have shut : ∀ (v1 w1 : sv_T) (ms1 : List MG), PN h B w0 ms1 v1 w1 → OR h B E s w0 ms1 v1 w1 0 (f_Ep_breakOff_b46 E v1) (f_M_abort_b72 (nI s) w1) := fun v1 w1 ms1 P1 => op_or 1 (op_sh hh hj hE hB hs P1)
  unfold f_Ep_breakOff f_M_abort
  simp only [sok hh hj, sat hh hj hs, sv_bi, Option.bind_some, ck_n hs4 (show 4 < 2 ^ 31 by omega), nI_clamp (show s < 2 ^ 31 by omega), k1.1, k1.2, show (1 : Int32) = nI 1 from rfl, show (2 : Int32) = nI 2 from rfl, show (10 : Int32) = nI 10 from rfl, if_eq0 (show st < 2 ^ 31 by omega), if_eq (show st < 2 ^ 31 by omega) (show 1 < 2 ^ 31 by omega), if_eq (show st < 2 ^ 31 by omega) (show 2 < 2 ^ 31 by omega), if_eq (show st < 2 ^ 31 by omega) (show 10 < 2 ^ 31 by omega)]
  rw [if_neg (show ¬ nI 1 = (0 : Int32) by decide)]
  by_cases z0 : st = 0
  · rw [if_pos z0, if_pos z0]
    exact or_done 0 P H0
  · rw [if_neg z0, if_neg z0]
    by_cases z1 : st = 1
    · rw [if_pos z1, if_pos z1]
      exact or_le (shut v w ms P) (by omega)
    · rw [if_neg z1, if_neg z1]
      by_cases z2 : st = 2
      · rw [if_pos z2, if_pos z2]
        exact or_le (shut v w ms P) (by omega)
      · rw [if_neg z2, if_neg z2]
        by_cases z10 : st = 10
        · rw [if_pos z10, if_pos z10]
          exact or_le (shut v w ms P) (by omega)
        · rw [if_neg z10, if_neg z10, s5, k8.1, k8.2]
          obtain ⟨v', w', ms', a1, a2, a3, a4, a5, a6, a7⟩ := op_em (fl := 4) (sq := nx) hh hj hE hB hs P hl H0 (by omega) (by omega)
          obtain ⟨r, v2, w2, ms2, b1, b2, b3, b4, b5, b6, b7⟩ := shut v' w' _ a3
          refine ⟨r, v2, w2, ms' ++ ms2, ?_, ?_, by rw [← List.append_assoc]; exact b3, by rw [List.length_append]; omega, b5, a6.tr b6, a7.tr b7⟩
          · rw [show f_Ep_emit E 4 (nI nx) v = some v' from a1]
            exact b1
          · rw [show f_M_go (nI s) 4 (nI nx) w = some w' from a2]
            exact b2
