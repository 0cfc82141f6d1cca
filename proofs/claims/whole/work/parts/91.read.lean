/-- the first byte IN goes, on both sides -/
theorem rf_go {v w : sv_T} {h j E B s st ti ro tr ou fi un nx wi en ic rc : Nat} {l5 l4 : Int32} {ob ib : Nat → Nat} (hh : h ≤ 1) (hj : j ≤ 1) (hE : E = 25 + 33 * h + 7 * j) (hB : B = 9 + 33 * h) (hs : s = 2 * h + j) (K : SK v w E s st ti ro tr ou fi un nx wi en ic rc ob ib) (h0 : 0 < ic) (hic : ic ≤ 24) :
    ∃ v' w', f_Rcv_takeFirst (E + 4) v = some (nI (ib 0), v') ∧ sv_loop (fun (t : Int32 × sv_T) => f_M_read_l71 (nI s) l4 l5 t.1 (t.2)) 100000 (nI (32 * s), sv_up w 105 s (nI (ic - 1))) = some w' ∧ SK v' w' E s st ti ro tr ou fi un nx wi en (ic - 1) rc ob (fun i => ib (i + 1)) ∧ (∀ p, p ≠ E + 4 → p ≠ E + 5 → v' p = v p) ∧ v' (E + 4) 4 = v (E + 4) 4 ∧ (∀ p, p ≠ 105 → p ≠ 106 → w' p = w p) ∧ MX s w w' := by
  obtain ⟨s1, s2, s3, s4, s5, s6, s7, s8, s9, s10, s11, s12, s13⟩ := sh_E hh hj hE hB
  have hs4 : s < 4 := by omega
  obtain ⟨k1, k2, k3, k4, k5, k6, k7, k8, k9, k10, k11, k12, k13, k14, k15⟩ := K
  generalize hvA : sv_up v (E + 4) 2 (nI (ic - 1)) = vA
  generalize hvB : sv_cp vA (E + 5) 1 (E + 5) 0 (ic - 1) = vB
  generalize hwA : sv_up w 105 s (nI (ic - 1)) = wA
  generalize hwB : sv_cp wA 106 (32 * s + 1) 106 (32 * s) (ic - 1) = wB
  have fv : ∀ p, p ≠ E + 4 → p ≠ E + 5 → vB p = v p := fun p h1 h2 => by rw [← hvB, ← hvA, cp_off h2, sv_up_off _ _ _ h1]
  have fw : ∀ p, p ≠ 105 → p ≠ 106 → wB p = w p := fun p h1 h2 => by rw [← hwB, ← hwA, cp_off h2, sv_up_off _ _ _ h1]
  have f4 : ∀ i, i ≠ 2 → vB (E + 4) i = v (E + 4) i := fun i hi => by rw [← hvB, ← hvA, cp_q (by omega), up_i hi]
  refine ⟨vB, wB, ?_, ?_, ⟨?_, ?_, ?_, ?_, ?_, ?_, ?_, ?_, ?_, ?_, ?_, ?_, ?_, fun i hi => ?_, fun i hi => ⟨?_, ?_, (k15 (i + 1) (by omega)).2.2⟩⟩, fv, f4 4 (by omega), fw, ⟨fun p i h1 _ _ _ _ hm => ?_, fun i _ _ _ => by rw [fw 75 (by omega) (by omega)]⟩⟩
  · unfold f_Rcv_takeFirst
    simp only [sv_ls, sv_le, k11.1, s8, (k15 0 h0).1]
    rw [if_eq0 (by omega), if_neg (by omega), show nI ic - 1 = nI (ic - 1) from pk_sub (b := 1) (by omega), hvA, show vA (E + 4) 2 = nI (ic - 1) by rw [← hvA, up_s], show (1 : Int32) = nI 1 from rfl, show (0 : Int32) = nI 0 from rfl, cc_n (by omega) (by omega) (by omega) (by omega), nI_clamp (by omega), nI_clamp (by omega), nI_clamp (by omega), hvB]
  · have eA : wA 105 s = nI (ic - 1) := by rw [← hwA]; exact up_s
    have key := lp_to (f := fun (t : Int32 × sv_T) => f_M_read_l71 (nI s) l4 l5 t.1 (t.2)) (fun k => (nI (32 * s + k), sv_cp wA 106 (32 * s + 1) 106 (32 * s) k)) (ic - 1) (a := wB) (fun k hk => ?_) ?_ (n := 100000) (by omega)
    · rw [cp_0] at key
      exact key
    · show f_M_read_l71 (nI s) l4 l5 (nI (32 * s + k)) (sv_cp wA 106 (32 * s + 1) 106 (32 * s) k) = _
      unfold f_M_read_l71
      dsimp only [sv_ls, sv_le]
      rw [ck_n hs4 (by omega), nI_clamp (by omega), cp_q (by omega), eA, show (32 : Int32) = nI 32 from rfl, pk_mul, nI_add, if_lt (by omega) (by omega), if_pos (by omega), nI_1, ck_n (by omega) (by omega), ck_n (by omega) (by omega), nI_clamp (by omega), nI_clamp (by omega), up_cp rfl ?_]
      · rfl
      · rw [cp_out (by omega)]
        congr 1
        omega
    · show f_M_read_l71 (nI s) l4 l5 (nI (32 * s + (ic - 1))) (sv_cp wA 106 (32 * s + 1) 106 (32 * s) (ic - 1)) = _
      unfold f_M_read_l71
      rw [hwB, ck_n hs4 (by omega), nI_clamp (by omega), show wB 105 = wA 105 by rw [← hwB, cp_off (by omega)], eA, show (32 : Int32) = nI 32 from rfl, pk_mul, nI_add, if_lt (by omega) (by omega), if_neg (by omega)]
  · rw [fv E (by omega) (by omega), fw 95 (by omega) (by omega)]; exact k1
  · rw [fv E (by omega) (by omega), fw 110 (by omega) (by omega)]; exact k2
  · rw [fv E (by omega) (by omega), fw 111 (by omega) (by omega)]; exact k3
  · rw [fv E (by omega) (by omega), fw 112 (by omega) (by omega)]; exact k4
  · rw [fv (E + 2) (by omega) (by omega), fw 101 (by omega) (by omega)]; exact k5
  · rw [fv (E + 2) (by omega) (by omega), fw 96 (by omega) (by omega)]; exact k6
  · rw [fv (E + 2) (by omega) (by omega), fw 97 (by omega) (by omega)]; exact k7
  · rw [fv (E + 2) (by omega) (by omega), fw 98 (by omega) (by omega)]; exact k8
  · rw [fv (E + 2) (by omega) (by omega), fw 100 (by omega) (by omega)]; exact k9
  · rw [fv (E + 2) (by omega) (by omega), fw 103 (by omega) (by omega)]; exact k10
  · rw [← hvB, ← hvA, cp_q (by omega), up_s, ← hwB, ← hwA, cp_q (by omega), up_s]; exact ⟨rfl, rfl⟩
  · rw [f4 3 (by omega), fw 99 (by omega) (by omega)]; exact k12
  · rw [fw 104 (by omega) (by omega)]; exact k13
  · rw [fv (E + 3) (by omega) (by omega), fw 102 (by omega) (by omega)]; exact k14 i hi
  · have e := cp_in (v := vA) (q := E + 5) (sp := 1) (q1 := E + 5) (dp := 0) (n := ic - 1) hi
    rw [Nat.zero_add] at e
    rw [← hvB, e, ← hvA, up_q (by omega), Nat.add_comm 1 i, (k15 (i + 1) (by omega)).1]
  · rw [← hwB, cp_in hi, ← hwA, up_q (by omega), show 32 * s + 1 + i = 32 * s + (i + 1) by omega, (k15 (i + 1) (by omega)).2.1]
  · by_cases z : p = 106
    · subst z
      have := hm.2.1 (by omega)
      rw [← hwB, cp_out (by omega), ← hwA, up_q (by omega)]
    · rw [← hwB, cp_q z, ← hwA, up_a]
      exact if_neg fun y => by
        have := hm.2.2 (by omega) (by omega) (by omega) (by omega) (by omega) (by omega)
        omega
/-- read -/
theorem rd_go {v w w0 : sv_T} {h j E B s : Nat} {ms : List MG} (hh : h ≤ 1) (hj : j ≤ 1) (hE : E = 25 + 33 * h + 7 * j) (hB : B = 9 + 33 * h) (hs : s = 2 * h + j) (P : PN h B w0 ms v w) (hl : ms.length < 8) (H : SR v w E s) : OR h B E s w0 ms v w 1 (f_Ep_takeByte E v) (f_M_read (nI h) (nI (1 + j)) w) := by
  obtain ⟨s1, s2, s3, s4, s5, s6, s7, s8, s9, s10, s11, s12, s13⟩ := sh_E hh hj hE hB
  have hs4 : s < 4 := by omega
  have H0 := H
  obtain ⟨st, ti, ro, tr, ou, fi, un, nx, wi, en, ic, rc, ob, ib, K, I, K1, K2⟩ := H
  have k11 := K.2.2.2.2.2.2.2.2.2.2.1
  have k15 := K.2.2.2.2.2.2.2.2.2.2.2.2.2.2
  obtain ⟨⟨i1, i2, i3, i4, i5, i6, i7, i8, i9, i10, i11, i12, i13⟩, j1, j2, j3, j4, j5⟩ := I
  have e24 : (24 : Int32) - nI ic = nI (24 - ic) := pk_sub (a := 24) i12
  unfold f_Ep_takeByte f_Rcv_room f_M_read f_M_room
  simp only [sok hh hj, sat hh hj hs, sv_bi, Option.bind_some, ck_n hs4 (show 4 < 2 ^ 31 by omega), nI_clamp (show s < 2 ^ 31 by omega), s6, k11.1, k11.2, e24, if_eq0 (show ic < 2 ^ 31 by omega), if_eq0 (show 24 - ic < 2 ^ 31 by omega)]
  rw [if_neg (show ¬ (1 : Int32) = 0 by decide)]
  by_cases z0 : ic = 0
  · rw [if_pos z0, if_neg (show ¬ 24 - ic = 0 by omega)]
    unfold f_Ep_takeByte_b15 f_Rcv_takeFirst
    rw [s6, k11.1, if_eq0 (by omega), if_pos z0]
    simp only [sv_bi, Option.bind_some]
    rw [if_pos trivial]
    exact or_done (-1) P H0
  · rw [if_neg z0]
    have e32 : (32 : Int32) * nI s = nI (32 * s) := pk_mul 32 s
    have e1 : nI ic - 1 = nI (ic - 1) := pk_sub (b := 1) (by omega)
    have main : ∀ b : Nat, b ≤ 1 → OR h B E s w0 ms v w 1 (f_Ep_takeByte_b15 E (nI b) v) (f_M_read_b42 (nI s) (nI b) w) := by
      intro b hb
      obtain ⟨v1, w1, a1, a2, a3, a4, a4b, a5, a6⟩ := rf_go (l5 := nI (ib 0)) (l4 := nI b) hh hj hE hB hs K (by omega) i12
      have t1 := a3.1
      have t8 := a3.2.2.2.2.2.2.2.1
      have P1 : PN h B w0 ms v1 w1 := P.keep hh hj hE hB (fun p hp => a4 p (by omega) (by omega)) (fun p h1 h2 => a5 p (by omega) (by omega))
      have H1 : SR v1 w1 E s := ⟨_, _, _, _, _, _, _, _, _, _, _, _, _, _, a3, ⟨⟨i1, i2, i3, i4, i5, i6, i7, i8, i9, i10, i11, by omega, i13⟩, fun z => by have := (j1 z).2.2.2.2.2.2.2.2.2.1; omega, fun z => by have := (j2 z).2.1; omega, j3, j4, j5⟩, fun z => (K1 z).at a4b (a4 _ (by omega) (by omega)) (a5 _ (by omega) (by omega)) (a5 _ (by omega) (by omega)), fun z1 z2 => by
        obtain ⟨q1, q2⟩ := K2 z1 z2
        refine ⟨?_, fun d hd => ?_⟩
        · rw [a4b, a5 109 (by omega) (by omega)]; exact q1
        · rw [a4 (E + 6) (by omega) (by omega), a5 107 (by omega) (by omega), a5 108 (by omega) (by omega)]
          rcases q2 d hd with q | ⟨r1, r2, r3⟩
          · exact Or.inl q
          · exact Or.inr ⟨r1, by omega, r3⟩⟩
      refine or_pre (v1 := v1) (w1 := w1) (fun p h1 _ => a4 p (by omega) (by omega)) a6 ?_
      unfold f_Ep_takeByte_b15 f_M_read_b42
      simp only [sv_ls, sv_le, e32, ck_n hs4 (show 4 < 2 ^ 31 by omega), nI_clamp (show s < 2 ^ 31 by omega), k11.2, e1]
      rw [ck_n (by omega) (by omega), nI_clamp (by omega), show w 106 (32 * s) = nI (ib 0) from (k15 0 (by omega)).2.1, a2, s6, a1]
      simp only [sv_bi, Option.bind_some]
      unfold f_M_read_x109 f_Ep_isReceivingState f_M_read_b145
      simp only [ck_n hs4 (show 4 < 2 ^ 31 by omega), nI_clamp (show s < 2 ^ 31 by omega), t1.1, t1.2, t8.2, ack_c, s5, t8.1, show (4 : Int32) = nI 4 from rfl, show (5 : Int32) = nI 5 from rfl, show (6 : Int32) = nI 6 from rfl, if_eq (show st < 2 ^ 31 by omega) (show 4 < 2 ^ 31 by omega), if_eq (show st < 2 ^ 31 by omega) (show 5 < 2 ^ 31 by omega), if_eq (show st < 2 ^ 31 by omega) (show 6 < 2 ^ 31 by omega), if_eq0 (show b < 2 ^ 31 by omega)]
      by_cases zb : b = 0
      · rw [if_pos zb, if_pos zb]
        exact or_done _ P1 H1
      · rw [if_neg zb, if_neg zb]
        have emit : OR h B E s w0 ms v1 w1 1 (sv_bv (f_Ep_emit E 16 (nI nx) v1) fun v7 => some (nI (ib 0), v7)) (sv_bv (f_M_go (nI s) 16 (nI nx) w1) fun v14 => some (nI (ib 0), v14)) := op_or (nI (ib 0)) (op_em (fl := 16) (sq := nx) hh hj hE hB hs P1 hl H1 (by omega) (by omega))
        by_cases z4 : st = 4
        · rw [if_pos z4, if_pos z4]
          simp only [Option.bind_some, t8.1]
          rw [if_neg (by decide)]
          exact emit
        · rw [if_neg z4, if_neg z4]
          by_cases z5 : st = 5
          · rw [if_pos z5, if_pos z5]
            simp only [Option.bind_some, t8.1]
            rw [if_neg (by decide)]
            exact emit
          · rw [if_neg z5, if_neg z5]
            by_cases z6 : st = 6
            · rw [if_pos z6, if_pos z6]
              simp only [Option.bind_some, t8.1]
              rw [if_neg (by decide)]
              exact emit
            · rw [if_neg z6, if_neg z6]
              exact or_done _ P1 H1
    by_cases z : 24 - ic = 0
    · rw [if_pos z, if_pos z]
      exact main 1 (by omega)
    · rw [if_neg z, if_neg z]
      exact main 0 (by omega)
