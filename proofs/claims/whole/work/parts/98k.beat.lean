/-- the link's two timers -/
theorem NR.timers {v w : sv_T} {h B x y : Nat} (N : NR v w) (hh : h ≤ 1) (hB : B = 9 + 33 * h) (hx : x < 5) (hy : y < 31) : NR (sv_up (sv_up v (B + 5) 6 (nI x)) (B + 5) 4 (nI y)) (sv_up (sv_up w 82 h (nI x)) 83 h (nI y)) := by
  have kv : ∀ p, p ≠ B + 5 → (sv_up (sv_up v (B + 5) 6 (nI x)) (B + 5) 4 (nI y)) p = v p := fun p hp => by rw [sv_up_off _ _ _ hp, sv_up_off _ _ _ hp]
  have kw : ∀ p, p ≠ 82 → p ≠ 83 → (sv_up (sv_up w 82 h (nI x)) 83 h (nI y)) p = w p := fun p h1 h2 => by rw [sv_up_off _ _ _ h2, sv_up_off _ _ _ h1]
  have d : h = 0 ∨ h = 1 := by omega
  refine ⟨N.1.frame (kv _ (by omega)) (kv _ (by omega)) (kv _ (by omega)) (kw _ (by omega) (by omega)) (kw _ (by omega) (by omega)) (kw _ (by omega) (by omega)), N.2.1.frame (kv _ (by omega)) (kv _ (by omega)) (kv _ (by omega)) (kw _ (by omega) (by omega)) (kw _ (by omega) (by omega)) (kw _ (by omega) (by omega)), fun h' hh' => ?_⟩
  obtain ⟨m1, m2, m3, m4, m5⟩ := N.2.2 h' hh'
  have d' : h' = 0 ∨ h' = 1 := by omega
  refine ⟨m1.frame (kv _ (by omega)) (kv _ (by omega)) (kv _ (by omega)) (kw _ (by omega) (by omega)) (kw _ (by omega) (by omega)) (kw _ (by omega) (by omega)), ?_, ?_, ?_, ?_⟩
  · by_cases z : h' = h
    · subst z
      rw [← hB, up_s, up_s]
      exact EQ.of hy
    · rw [kv _ (by omega), up_i z, up_q (by decide)]
      exact m2
  · by_cases z : h' = h
    · subst z
      rw [← hB, up_i (by decide), up_i (by decide), kw 84 (by decide) (by decide), hB]
      exact m3
    · rw [kv _ (by omega), kw 84 (by decide) (by decide)]
      exact m3
  · by_cases z : h' = h
    · subst z
      rw [← hB, up_i (by decide), up_s, up_q (by decide), up_s]
      exact EQ.of hx
    · rw [kv _ (by omega), up_q (by decide), up_i z]
      exact m4
  · rw [kv _ (by omega), kw 85 (by decide) (by decide)]
    exact m5
/-- a slot grows older, on both sides -/
theorem so_go {v w : sv_T} {h q s : Nat} (hh : h ≤ 1) (hs : s < 2 * h + 2) (H : SL v w q s) : ∃ v' w', f_Slot_passTick q v = some v' ∧ f_M_beats_l50 (nI h) (nI s) w = some (.inl (nI (s + 1), w')) ∧ SL v' w' q s ∧ (∀ p, p ≠ q → v' p = v p) ∧ MT s w w' := by
  obtain ⟨u, a1, a2, a3, a4⟩ := H
  have hs4 : s < 4 := by omega
  have b0 : (vp_nar .boolean 0 : Int32) = 0 := by decide
  have b1 : (vp_nar .boolean 1 : Int32) = 1 := by decide
  unfold f_Slot_passTick f_M_beats_l50 f_M_beats_b80 f_M_beats_b111 f_M_beats_b112
  rw [show (2 : Int32) * nI h + 2 = nI (2 * h + 2) by rw [show (2 : Int32) = nI 2 from rfl, pk_mul, nI_add], if_lt (by omega) (by omega), if_pos hs]
  simp only [sv_ls, sv_le, ck_n hs4 (show 4 < 2 ^ 31 by omega), nI_clamp (show s < 2 ^ 31 by omega), up_s, up_q (show (88 : Nat) ≠ 91 by decide), a3, if_eq0 (show u < 2 ^ 31 by omega), b0, b1, nI_1]
  obtain rfl | rfl : u = 0 ∨ u = 1 := by omega
  · rw [if_pos rfl, if_pos rfl]
    by_cases z : v q 4 + 1 < 10
    · rw [if_pos z]
      exact ⟨_, _, rfl, rfl, ⟨0, by omega, by rw [up_i (by decide)]; exact a2, by rw [up_s]; rfl, fun t => by omega⟩, fun p hp => sv_up_off _ _ _ hp, (mt_up (by omega) (by omega)).tr (mt_up (by omega) (by omega))⟩
    · rw [if_neg z]
      exact ⟨_, _, rfl, rfl, ⟨0, by omega, by rw [up_s]; rfl, by rw [up_s]; rfl, fun t => by omega⟩, fun p hp => by rw [sv_up_off _ _ _ hp, sv_up_off _ _ _ hp], (mt_up (by omega) (by omega)).tr (mt_up (by omega) (by omega))⟩
  · obtain ⟨c1, c2, ⟨g, e0, e1, e2⟩, c4, c5⟩ := a4 rfl
    rw [if_neg (show ¬ (1 : Nat) = 0 by decide), if_neg (show ¬ (1 : Nat) = 0 by decide), e1, e2, nI_1, show (10 : Int32) = nI 10 from rfl, if_lt (by omega) (by omega), if_lt (by omega) (by omega)]
    by_cases z : g + 1 < 10
    · rw [if_pos z, if_pos z]
      refine ⟨_, _, rfl, rfl, ⟨1, by omega, by rw [up_i (by decide)]; exact a2, by rw [up_s]; rfl, fun _ => ⟨?_, ?_, ?_, ?_, fun i hi => ?_⟩⟩, fun p hp => sv_up_off _ _ _ hp, (mt_up (by omega) (by omega)).tr (mt_up (by omega) (by omega))⟩
      · rw [up_i (by decide), up_q (by decide), up_q (by decide)]; exact c1
      · rw [up_i (by decide), up_q (by decide), up_q (by decide)]; exact c2
      · rw [up_s, up_q (by decide), up_s]; exact EQ.of z
      · rw [up_i (by decide), up_q (by decide), up_q (by decide)]; exact c4
      · rw [up_q (show q + 1 ≠ q by omega), up_q (by decide), up_q (by decide), up_q (by decide), up_q (by decide)]; exact c5 i hi
    · rw [if_neg z, if_neg z]
      exact ⟨_, _, rfl, rfl, ⟨0, by omega, by rw [up_s]; rfl, by rw [up_s]; rfl, fun t => by omega⟩, fun p hp => by rw [sv_up_off _ _ _ hp, sv_up_off _ _ _ hp], (mt_up (by omega) (by omega)).tr (mt_up (by omega) (by omega))⟩
theorem bt_l123 {w : sv_T} {h s : Nat} (hh : h ≤ 1) (hs : s < 2 * h + 2) : f_M_beats_l123 (nI h) (nI s) w = Option.bind (mtk s w) fun w' => some (.inl (nI (s + 1), w')) := by
  have hs4 : s < 4 := by omega
  unfold f_M_beats_l123 f_M_beats_b165 mtk
  rw [show (2 : Int32) * nI h + 2 = nI (2 * h + 2) by rw [show (2 : Int32) = nI 2 from rfl, pk_mul, nI_add], if_lt (by omega) (by omega), if_pos hs]
  simp only [sv_ls, sv_le, ck_n hs4 (show 4 < 2 ^ 31 by omega), nI_clamp (show s < 2 ^ 31 by omega), nI_1]
  by_cases z : 0 < w 110 s
  · rw [if_pos z, if_pos z]
    by_cases y : sv_up w 110 s (w 110 s - 1) 110 s = 0
    · rw [if_pos y, if_pos y]
      rfl
    · rw [if_neg y, if_neg y]
      rfl
  · rw [if_neg z, if_neg z]
    rfl
set_option maxHeartbeats 1000000 in
/-- a beat at one host, on both sides -/
theorem bt_go {v w : sv_T} {h B : Nat} (hh : h ≤ 1) (hB : B = 9 + 33 * h) (R : RI v w) : ∃ v1 v2 w', f_Host_passTick B v = some v1 ∧ f_Host_sendOut B v1 = some (1, v2) ∧ f_M_beats (nI h) w = some w' ∧ RI v2 w' ∧ LO v v2 ∧ HO w w' := by
  obtain ⟨s1, s2, s3, s4, s5, s6, s7, s8, s9, s10, s11, s12, s13, s14, s15, s16⟩ := sh_H hh hB
  obtain ⟨p1, p2, p3, p4, p5, p6, p7, p8, p9⟩ := sh_P hh hB
  have d : h = 0 ∨ h = 1 := by omega
  obtain ⟨n1, ⟨k, k1, k2, k3⟩, n3, ⟨t, t1, t2, t3⟩, n5⟩ := R.1.2.2 h hh
  rw [← hB] at k2 t2
  -- the link
  generalize hv1 : sv_up (sv_up v (B + 5) 6 (nI (t - 1))) (B + 5) 4 (nI (k - 1)) = v1
  generalize hw1 : sv_up (sv_up w 82 h (nI (t - 1))) 83 h (nI (k - 1)) = w1
  have N1 : NR v1 w1 := by
    rw [← hv1, ← hw1]
    exact R.1.timers hh hB (by omega) (by omega)
  have kv1 : ∀ p, p ≠ B + 5 → v1 p = v p := fun p hp => by rw [← hv1, sv_up_off _ _ _ hp, sv_up_off _ _ _ hp]
  have kw1 : ∀ p, p ≠ 82 → p ≠ 83 → w1 p = w p := fun p h1 h2 => by rw [← hw1, sv_up_off _ _ _ h2, sv_up_off _ _ _ h1]
  have R1 : RI v1 w1 := R.net hh N1 (fun p h1 h2 => kv1 p (by omega)) ⟨fun p h1 h2 h3 h4 => kw1 p (by omega) (by omega), fun i _ _ => by rw [kw1 75 (by decide) (by decide)]⟩
  have lk : f_Link_passTick (B + 5) v = some v1 := by
    have st : f_Link_passTick_b17 (B + 5) (sv_up v (B + 5) 6 (nI (t - 1))) = some v1 := by
      unfold f_Link_passTick_b17
      rw [up_i (by decide), k2, gt0 (by omega)]
      by_cases z : 0 < k
      · rw [if_pos z, sv_ls, show nI k - 1 = nI (k - 1) from pk_sub (b := 1) z, hv1]
      · rw [if_neg z, ← hv1]
        have e : k - 1 = k := by omega
        have e2 : sv_up (sv_up v (B + 5) 6 (nI (t - 1))) (B + 5) 4 (nI k) = sv_up v (B + 5) 6 (nI (t - 1)) := up_same (by rw [up_i (by decide)]; exact k2)
        rw [e, e2]
    unfold f_Link_passTick
    rw [t2, gt0 (by omega)]
    by_cases z : 0 < t
    · rw [if_pos z, sv_ls, show nI t - 1 = nI (t - 1) from pk_sub (b := 1) z]
      exact st
    · rw [if_neg z]
      have e : t - 1 = t := by omega
      rw [e, up_same t2] at st
      exact st
  -- the slots
  have H1 := R1.hi hh
  have S0 : SL v1 w1 (B + 11) (2 * h) := by
    have := H1.2.1.2.1 h 0 hh (by omega)
    rw [show 20 + 33 * h + 2 * 0 = B + 11 by omega] at this
    exact this
  obtain ⟨v2, w2, a1, a2, a3, a4, a5⟩ := so_go (h := h) hh (by omega) S0
  have H2 : HI h w1 [] v2 w2 := H1.slot (k := 0) hh (by omega) (fun p _ _ _ _ _ _ h7 _ => a4 p (by omega)) a5.mz (by rw [show 9 + 33 * h + 11 + 2 * 0 = B + 11 by omega]; exact a3)
  have S1 : SL v2 w2 (B + 13) (2 * h + 1) := by
    have := H2.2.1.2.1 h 1 hh (by omega)
    rw [show 20 + 33 * h + 2 * 1 = B + 13 by omega] at this
    exact this
  obtain ⟨v3, w3, b1, b2, b3, b4, b5⟩ := so_go (h := h) hh (by omega) S1
  have H3 : HI h w1 [] v3 w3 := H2.slot (k := 1) hh (by omega) (fun p _ _ _ _ _ _ h7 _ => b4 p (by omega)) b5.mz (by rw [show 9 + 33 * h + 11 + 2 * 1 = B + 13 by omega]; exact b3)
  -- the sockets
  have T1 := tick_go (j := 0) hh (by omega) rfl rfl rfl H3.1 (by show 0 < 8; omega) (H3.2.1.1 h 0 hh (by omega))
  obtain ⟨v4, w4, m4, c1, c2, c3, c4, c5, c6, c7⟩ := T1
  have c3' : PN h (9 + 33 * h) w1 m4 v4 w4 := c3
  have H4 := H3.sock hh (by omega) rfl rfl rfl c3' c5 c6 c7
  have T2 := tick_go (j := 1) hh (by omega) rfl rfl rfl H4.1 (by omega) (H4.2.1.1 h 1 hh (by omega))
  obtain ⟨v5, w5, m5, d1, d2, d3, d4, d5, d6, d7⟩ := T2
  have H5 := H4.sock hh (by omega) rfl rfl rfl d3 d5 d6 d7
  obtain ⟨v6, e1, e2, e3⟩ := H5.out hh (by rw [List.length_append]; omega)
  have L5 : LO v v5 := by
    refine LO.tr (v' := v1) (fun p hp => kv1 p (by omega)) (LO.tr (v' := v2) (fun p hp => a4 p (by omega)) (LO.tr (v' := v3) (fun p hp => b4 p (by omega)) (LO.tr (c6.lo hh (by omega) rfl rfl) (d6.lo hh (by omega) rfl rfl))))
  have O5 : HO w w5 := HO.tr (v' := w1) (fun p hp => kw1 p (by omega) (by omega)) (a5.mz.ho.tr (b5.mz.ho.tr (c7.ho.tr d7.ho)))
  refine ⟨v5, v6, w5, ?_, by rw [hB]; exact e1, ?_, e2, L5.tr e3, O5⟩
  · unfold f_Host_passTick f_Pieces_passTick
    rw [s2, s3, s5, s6, lk, bvs, p1, p2, a1, bvs, b1, bvs, bvs, show B + 16 = 25 + 33 * h + 7 * 0 by omega, c1, bvs, show B + 23 = 25 + 33 * h + 7 * 1 by omega, d1, bvs]
  · have rest : ∀ x y : Int32, x - y = nI (t - 1) → f_M_beats_b21 (nI h) y x (nI h) w = Option.bind (sv_loop (fun (s : Int32 × sv_T) => f_M_beats_l50 (nI h) s.1 (s.2)) 100000 (nI (2 * h), w1)) (fun (s : sv_T) => f_M_beats_x119 (nI h) s) := fun x y e => by
      unfold f_M_beats_b21 f_M_beats_b44
      simp only [ck_n (show h < 2 by omega) (show 2 < 2 ^ 31 by omega), nI_clamp (show h < 2 ^ 31 by omega), sv_ls, sv_le, e, up_q (show (83 : Nat) ≠ 82 by decide), k3, gt0 (show k < 2 ^ 31 by omega), show (2 : Int32) * nI h = nI (2 * h) from pk_mul 2 h]
      by_cases z : 0 < k
      · rw [if_pos z, show nI k - 1 = nI (k - 1) from pk_sub (b := 1) z, hw1]
      · rw [if_neg z, show nI k - 0 = nI (k - 1) by rw [show (0 : Int32) = nI 0 from rfl, pk_sub (by omega), show k - 0 = k - 1 by omega], hw1]
    have top : f_M_beats (nI h) w = Option.bind (sv_loop (fun (s : Int32 × sv_T) => f_M_beats_l50 (nI h) s.1 (s.2)) 100000 (nI (2 * h), w1)) (fun (s : sv_T) => f_M_beats_x119 (nI h) s) := by
      unfold f_M_beats
      simp only [ck_n (show h < 2 by omega) (show 2 < 2 ^ 31 by omega), nI_clamp (show h < 2 ^ 31 by omega), t3, gt0 (show t < 2 ^ 31 by omega)]
      by_cases z : 0 < t
      · rw [if_pos z]
        exact rest _ _ (pk_sub (b := 1) z)
      · rw [if_neg z]
        exact rest _ _ (by rw [show (0 : Int32) = nI 0 from rfl, pk_sub (by omega), show t - 0 = t - 1 by omega])
    have l50e : f_M_beats_l50 (nI h) (nI (2 * h + 1 + 1)) w3 = some (.inr w3) := by
      unfold f_M_beats_l50
      rw [show (2 : Int32) * nI h + 2 = nI (2 * h + 2) by rw [show (2 : Int32) = nI 2 from rfl, pk_mul, nI_add], if_lt (by omega) (by omega), if_neg (by omega)]
    have l123e : f_M_beats_l123 (nI h) (nI (2 * h + 1 + 1)) w5 = some (.inr w5) := by
      unfold f_M_beats_l123
      rw [show (2 : Int32) * nI h + 2 = nI (2 * h + 2) by rw [show (2 : Int32) = nI 2 from rfl, pk_mul, nI_add], if_lt (by omega) (by omega), if_neg (by omega)]
    have c2' : f_M_beats_l123 (nI h) (nI (2 * h)) w3 = some (.inl (nI (2 * h + 1), w4)) := by
      rw [bt_l123 hh (by omega), show mtk (2 * h) w3 = some w4 from c2]
      rfl
    have d2' : f_M_beats_l123 (nI h) (nI (2 * h + 1)) w4 = some (.inl (nI (2 * h + 1 + 1), w5)) := by
      rw [bt_l123 hh (by omega), show mtk (2 * h + 1) w4 = some w5 from d2]
      rfl
    rw [top, lp_s (by omega) a2, lp_s (by omega) b2, lp_e (by omega) l50e]
    simp only [Option.bind_some]
    unfold f_M_beats_x119
    rw [sv_le, show (2 : Int32) * nI h = nI (2 * h) from pk_mul 2 h, lp_s (by omega) c2', lp_s (by omega) d2', lp_e (by omega) l123e]
    rfl
