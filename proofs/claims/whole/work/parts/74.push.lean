theorem sc_c {v : sv_T} {q ou un nx wi : Nat} (h1 : v q 1 = nI ou) (h3 : v q 3 = nI un) (h4 : v q 4 = nI nx) (h5 : v q 5 = nI wi) (hou : ou ≤ 64) (hun : un < 65536) (hnx : nx < 65536) (hwi : wi < 256) (hu : du nx un ≤ ou) :
    (du nx un < min wi 48 → f_Snd_sendableCount q v = some (nI (min (min (ou - du nx un) (min wi 48 - du nx un)) 32), v)) ∧ (min wi 48 ≤ du nx un → ∃ x : Int32, x ≤ 0 ∧ f_Snd_sendableCount q v = some (x, v)) := by
  have e : f_Snd_sendableCount q v = some (sv_min (sv_min (nI (ou - du nx un)) (nI (min wi 48) - nI (du nx un))) 32, v) := by
    unfold f_Snd_sendableCount
    rw [sn_c h1 h3 h4 hou hun hnx]
    dsimp only [sv_bi, sv_le, Option.bind]
    rw [h1, h5, show (48 : Int32) = nI 48 from rfl, sv_min_n (by omega) (by omega), show min (du nx un) ou = du nx un by omega, pk_sub hu]
  refine ⟨fun h => ?_, fun h => ?_⟩
  · rw [e, pk_sub (by omega), sv_min_n (by omega) (by omega), show (32 : Int32) = nI 32 from rfl, sv_min_n (by omega) (by omega)]
  · by_cases z : min wi 48 = du nx un
    · refine ⟨nI 0, by decide, ?_⟩
      rw [e, z, pk_sub (by omega), Nat.sub_self, sv_min_n (by omega) (by omega), show (32 : Int32) = nI 32 from rfl, sv_min_n (by omega) (by omega), show min (min (ou - du nx un) 0) 32 = 0 by omega]
    · have hn : nI (min wi 48) - nI (du nx un) < 0 := pk_sneg (by omega) (by omega)
      refine ⟨nI (min wi 48) - nI (du nx un), Int32.le_of_lt hn, ?_⟩
      rw [e]
      have e1 : sv_min (nI (ou - du nx un)) (nI (min wi 48) - nI (du nx un)) = nI (min wi 48) - nI (du nx un) := if_pos (Int32.lt_of_lt_of_le hn (nI_pos' (by omega)))
      have e2 : sv_min (nI (min wi 48) - nI (du nx un)) 32 = nI (min wi 48) - nI (du nx un) := if_neg (fun z => absurd (Int32.lt_trans z hn) (by decide))
      rw [e1, e2]
theorem du_add {nx un n : Nat} (hnx : nx < 65536) (hun : un < 65536) (hn : du nx un + n < 65536) : du ((nx + n) % 65536) un = du nx un + n := by
  unfold du at hn ⊢
  omega
/-- one segment of data goes -/
theorem pb_step {v w w0 : sv_T} {h j E B s st ti ro tr ou fi un nx wi en ic rc k : Nat} {ob ib : Nat → Nat} {ms : List MG} (hh : h ≤ 1) (hj : j ≤ 1) (hE : E = 25 + 33 * h + 7 * j) (hB : B = 9 + 33 * h) (hs : s = 2 * h + j) (P : PN h B w0 ms v w) (hl : ms.length < 8) (K : SK v w E s st ti ro tr ou fi un nx wi en ic rc ob ib) (I : IV st ti ro tr ou fi un nx wi en ic rc) (hst : st = 4 ∨ st = 7) (hk : k < 64) (h1 : du nx un < ou) (h2 : du nx un < min wi 48) :
    ∃ v' w' m n, n = min (min (ou - du nx un) (min wi 48 - du nx un)) 32 ∧ f_Ep_pushBytes_l2 E (nI k) v = some (.inl (nI (k + 1), v')) ∧ f_M_push_l45 (nI s) (nI (min wi 48)) w = some (.inl w') ∧ PN h B w0 (ms ++ [m]) v' w' ∧ SK v' w' E s st ti ro tr ou fi un ((nx + n) % 65536) wi en ic rc ob ib ∧ CX E B v v' ∧ MX s w w' ∧ (∀ p, p = E + 4 ∨ p = E + 6 → v' p = v p) ∧ (∀ p, 107 ≤ p → p ≤ 109 → w' p = w p) := by
  obtain ⟨s1, s2, s3, s4, s5, s6, s7, s8, s9, s10, s11, s12, s13⟩ := sh_E hh hj hE hB
  have K0 := K
  obtain ⟨k1, k2, k3, k4, k5, k6, k7, k8, k9, k10, k11, k12, k13, k14, k15⟩ := K
  have I0 := I
  obtain ⟨⟨i1, i2, i3, i4, i5, i6, i7, i8, i9, i10, i11, i12, i13⟩, j1, j2, j3, j4, j5⟩ := I
  have hs4 : s < 4 := by omega
  have hu := j3 hst
  generalize hn : min (min (ou - du nx un) (min wi 48 - du nx un)) 32 = n
  obtain ⟨v5, w5, m, c1, m1, P5, C5, M5⟩ := pn_emit (fl := 16) (sq := nx) (ak := rc) (fr := du nx un) (n := n) hh hj hE hB hs P hl K0 i6 i12 (by omega) (by omega) (by omega) (by omega) (by omega)
  have K5 : SK v5 w5 E s st ti ro tr ou fi un nx wi en ic rc ob ib := K0.same (fun p hp => C5 p (by omega) (by omega)) (fun p h1 h2 => M5.1 p (by omega) (by omega) (by omega) (by omega) (by omega))
  have en16 : (nI nx + nI n) &&& 65535 = nI ((nx + n) % 65536) := add16 (by omega) (by omega)
  refine ⟨sv_up v5 (E + 2) 4 (nI ((nx + n) % 65536)), sv_up w5 98 s (nI ((nx + n) % 65536)), m, n, rfl, ?_, ?_, ?_, K5.s_nx, C5.cx.tr (cx_up (by omega)), (M5.mx (s := s)).tr (mx_up (by omega) (by omega) (by omega) (by omega) (by omega) (by omega)), fun p hp => (sv_up_off _ _ _ (by omega)).trans (C5 p (by omega) (by omega)), fun p h1 h2 => (sv_up_off _ _ _ (by omega)).trans (M5.1 p (by omega) (by omega) (by omega) (by omega) (by omega))⟩
  · unfold f_Ep_pushBytes_l2
    rw [s5, s6, show (64 : Int32) = nI 64 from rfl, if_lt (by omega) (by omega), if_pos hk, (sc_c k5.1 k7.1 k8.1 k9.1 i6 i8 i9 i10 hu).1 h2, hn]
    dsimp only [sv_bi, Option.bind]
    rw [show (0 : Int32) = nI 0 from rfl, if_le (by omega) (by omega), if_neg (by omega), sn_c k5.1 k7.1 k8.1 i6 i8 i9]
    dsimp only [Option.bind]
    rw [show min (du nx un) ou = du nx un by omega, k8.1, k12.1, show f_Ep_emitWhole E 16 (nI nx) (nI rc) (nI (du nx un)) (nI n) v = some v5 from c1]
    dsimp only [sv_bv, sv_le, Option.bind]
    unfold f_Snd_countSent
    dsimp only [sv_ls, Option.bind]
    rw [K5.2.2.2.2.2.2.2.1.1, en16, nI_1]
  · unfold f_M_push_l45 f_M_less f_M_push_b122 f_M_push_b135
    simp only [sv_bi, sv_le, sn_m hs4 K0 I0, Option.bind_some, ck_n hs4 (show 4 < 2 ^ 31 by omega), nI_clamp (show s < 2 ^ 31 by omega), k5.2, k8.2, k7.2, k12.2, sub16 (show nx < 2 ^ 31 by omega) i8, show min (du nx un) ou = du nx un by omega]
    rw [if_lt (by omega) (by omega), if_pos h1, if_lt (by omega) (by omega), if_pos h2, pk_sub (by omega), pk_sub (by omega), if_lt (by omega) (by omega)]
    have fin : ∀ a : Nat, a < 2 ^ 20 → min a 32 = n → (if nI a < 32 then sv_bv (f_M_segmentGoes (nI s) 16 (nI nx) (nI rc) (nI (du nx un)) (nI a) w) (fun v13 => sv_ls (sv_up v13 98 s (v13 98 s + nI a &&& 65535)) fun v14 => some (Sum.inl v14)) else sv_bv (f_M_segmentGoes (nI s) 16 (nI nx) (nI rc) (nI (du nx un)) 32 w) (fun v13 => sv_ls (sv_up v13 98 s (v13 98 s + 32 &&& 65535)) fun v14 => some (Sum.inl v14))) = (some (Sum.inl (sv_up w5 98 s (nI ((nx + n) % 65536)))) : Option (sv_T ⊕ sv_T)) := by
      intro a ha hmin
      rw [show (32 : Int32) = nI 32 from rfl, if_lt (by omega) (by omega)]
      by_cases z : a < 32
      · have : a = n := by omega
        subst this
        rw [if_pos z, show f_M_segmentGoes (nI s) 16 (nI nx) (nI rc) (nI (du nx un)) (nI a) w = some w5 from m1]
        dsimp only [sv_bv, sv_ls, Option.bind]
        rw [K5.2.2.2.2.2.2.2.1.2, en16]
      · have : 32 = n := by omega
        subst this
        rw [if_neg z, show f_M_segmentGoes (nI s) 16 (nI nx) (nI rc) (nI (du nx un)) (nI 32) w = some w5 from m1]
        dsimp only [sv_bv, sv_ls, Option.bind]
        rw [K5.2.2.2.2.2.2.2.1.2, en16]
    by_cases z : ou - du nx un < min wi 48 - du nx un
    · rw [if_pos z]
      exact fin _ (by omega) (by omega)
    · rw [if_neg z]
      exact fin _ (by omega) (by omega)
  · exact P5.keep hh hj hE hB (fun p hp => sv_up_off _ _ _ (by omega)) (fun p h1 h2 => sv_up_off _ _ _ (by omega))
theorem pb_stop {v w : sv_T} {h j E B s st ti ro tr ou fi un nx wi en ic rc k : Nat} {ob ib : Nat → Nat} (hh : h ≤ 1) (hj : j ≤ 1) (hE : E = 25 + 33 * h + 7 * j) (hB : B = 9 + 33 * h) (hs : s = 2 * h + j) (K : SK v w E s st ti ro tr ou fi un nx wi en ic rc ob ib) (I : IV st ti ro tr ou fi un nx wi en ic rc) (hst : st = 4 ∨ st = 7) (hk : k < 64) (h1 : du nx un = ou ∨ min wi 48 ≤ du nx un) : f_Ep_pushBytes_l2 E (nI k) v = some (.inr v) ∧ f_M_push_l45 (nI s) (nI (min wi 48)) w = some (.inr w) := by
  obtain ⟨s1, s2, s3, s4, s5, s6, s7, s8, s9, s10, s11, s12, s13⟩ := sh_E hh hj hE hB
  have K0 := K
  obtain ⟨k1, k2, k3, k4, k5, k6, k7, k8, k9, k10, k11, k12, k13, k14, k15⟩ := K
  have I0 := I
  obtain ⟨⟨i1, i2, i3, i4, i5, i6, i7, i8, i9, i10, i11, i12, i13⟩, j1, j2, j3, j4, j5⟩ := I
  have hs4 : s < 4 := by omega
  have hu := j3 hst
  constructor
  · unfold f_Ep_pushBytes_l2
    rw [s5, s6, show (64 : Int32) = nI 64 from rfl, if_lt (by omega) (by omega), if_pos hk]
    obtain ⟨x, hx, e⟩ : ∃ x : Int32, x ≤ 0 ∧ f_Snd_sendableCount (E + 2) v = some (x, v) := by
      by_cases z : min wi 48 ≤ du nx un
      · exact (sc_c k5.1 k7.1 k8.1 k9.1 i6 i8 i9 i10 hu).2 z
      · refine ⟨_, ?_, (sc_c k5.1 k7.1 k8.1 k9.1 i6 i8 i9 i10 hu).1 (by omega)⟩
        rw [show min (min (ou - du nx un) (min wi 48 - du nx un)) 32 = 0 by omega]
        decide
    rw [e]
    dsimp only [sv_bi, Option.bind]
    rw [if_pos hx]
    rfl
  · unfold f_M_push_l45 f_M_less
    dsimp only [sv_le]
    rw [sn_m hs4 K0 I0]
    dsimp only [sv_bi, Option.bind]
    simp only [ck_n hs4 (show 4 < 2 ^ 31 by omega), nI_clamp (show s < 2 ^ 31 by omega)]
    rw [k5.2, k8.2, k7.2, sub16 (by omega) i8, show min (du nx un) ou = du nx un by omega, if_lt (by omega) (by omega)]
    by_cases z : du nx un < ou
    · rw [if_pos z, if_lt (by omega) (by omega), if_neg (by omega)]
    · rw [if_neg z]
/-- the numbers after some more bytes were sent -/
theorem IV.sent {st ti ro tr ou fi un nx wi en ic rc n : Nat} (I : IV st ti ro tr ou fi un nx wi en ic rc) (hst : st = 4 ∨ st = 7) (hn : du nx un + n ≤ ou) : IV st ti ro tr ou fi un ((nx + n) % 65536) wi en ic rc ∧ du ((nx + n) % 65536) un = du nx un + n := by
  obtain ⟨⟨i1, i2, i3, i4, i5, i6, i7, i8, i9, i10, i11, i12, i13⟩, j1, j2, j3, j4, j5⟩ := I
  have e := du_add (n := n) i9 i8 (by omega)
  exact ⟨⟨⟨i1, i2, i3, i4, i5, i6, i7, i8, by omega, i10, i11, i12, i13⟩, fun z => by omega, fun z => by omega, fun _ => by rw [e]; exact hn, fun z => by omega, fun z => by omega⟩, e⟩
/-- all the data that may go goes: two segments at most -/
theorem pb_all {v w w0 : sv_T} {h j E B s st ti ro tr ou fi un nx wi en ic rc : Nat} {ob ib : Nat → Nat} {ms : List MG} (hh : h ≤ 1) (hj : j ≤ 1) (hE : E = 25 + 33 * h + 7 * j) (hB : B = 9 + 33 * h) (hs : s = 2 * h + j) (P : PN h B w0 ms v w) (hl : ms.length ≤ 5) (K : SK v w E s st ti ro tr ou fi un nx wi en ic rc ob ib) (I : IV st ti ro tr ou fi un nx wi en ic rc) (hst : st = 4 ∨ st = 7) :
    ∃ v' w' ms' nx', f_Ep_pushBytes E v = some v' ∧ sv_loop (fun (t : sv_T) => f_M_push_l45 (nI s) (nI (min wi 48)) t) 100000 w = some w' ∧ PN h B w0 (ms ++ ms') v' w' ∧ ms'.length ≤ 2 ∧ SK v' w' E s st ti ro tr ou fi un nx' wi en ic rc ob ib ∧ IV st ti ro tr ou fi un nx' wi en ic rc ∧ CX E B v v' ∧ MX s w w' ∧ (∀ p, p = E + 4 ∨ p = E + 6 → v' p = v p) ∧ (∀ p, 107 ≤ p → p ≤ 109 → w' p = w p) := by
  have hu := I.2.2.2.1 hst
  have hou := I.1.2.2.2.2.2.1
  unfold f_Ep_pushBytes
  by_cases z1 : du nx un = ou ∨ min wi 48 ≤ du nx un
  · obtain ⟨a1, a2⟩ := pb_stop (k := 0) hh hj hE hB hs K I hst (by omega) z1
    exact ⟨v, w, [], nx, lp_e (by omega) a1, lp_e (by omega) a2, by rw [List.append_nil]; exact P, by simp, K, I, CX.rf, MX.rf, fun _ _ => rfl, fun _ _ _ => rfl⟩
  · obtain ⟨v1, w1, m1, n1, hn1, b1, b2, b3, b4, b5, b6, b7, b8⟩ := pb_step (k := 0) hh hj hE hB hs P (by omega) K I hst (by omega) (by omega) (by omega)
    obtain ⟨I1, e1⟩ := I.sent (n := n1) hst (by omega)
    by_cases z2 : du ((nx + n1) % 65536) un = ou ∨ min wi 48 ≤ du ((nx + n1) % 65536) un
    · obtain ⟨a1, a2⟩ := pb_stop (k := 1) hh hj hE hB hs b4 I1 hst (by omega) z2
      refine ⟨v1, w1, [m1], _, ?_, ?_, b3, by simp, b4, I1, b5, b6, b7, b8⟩
      · rw [show ((0 : Int32), v) = (nI 0, v) from rfl, lp_s (by omega) b1]
        exact lp_e (by omega) a1
      · rw [lp_s (by omega) b2]
        exact lp_e (by omega) a2
    · obtain ⟨v2, w2, m2, n2, hn2, c1, c2, c3, c4, c5, c6, c7, c8⟩ := pb_step (k := 1) hh hj hE hB hs b3 (by simp; omega) b4 I1 hst (by omega) (by omega) (by omega)
      obtain ⟨I2, e2⟩ := I1.sent (n := n2) hst (by omega)
      obtain ⟨a1, a2⟩ := pb_stop (k := 2) hh hj hE hB hs c4 I2 hst (by omega) (by omega)
      refine ⟨v2, w2, [m1, m2], _, ?_, ?_, by rw [List.append_assoc] at c3; exact c3, by simp, c4, I2, b5.tr c5, b6.tr c6, fun p hp => (c7 p hp).trans (b7 p hp), fun p h1 h2 => (c8 p h1 h2).trans (b8 p h1 h2)⟩
      · rw [show ((0 : Int32), v) = (nI 0, v) from rfl, lp_s (by omega) b1, lp_s (by omega) c1]
        exact lp_e (by omega) a1
      · rw [lp_s (by omega) b2, lp_s (by omega) c2]
        exact lp_e (by omega) a2
