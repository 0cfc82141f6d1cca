theorem NR.known {v w : sv_T} {h B x y : Nat} (N : NR v w) (hh : h ≤ 1) (hB : B = 9 + 33 * h) (hx : x < 256) (hy : y < 31) : NR (sv_up (sv_up v (B + 5) 5 (nI x)) (B + 5) 4 (nI y)) (sv_up (sv_up w 84 h (nI x)) 83 h (nI y)) := by
  have kv : ∀ p, p ≠ B + 5 → (sv_up (sv_up v (B + 5) 5 (nI x)) (B + 5) 4 (nI y)) p = v p := fun p hp => by rw [sv_up_off _ _ _ hp, sv_up_off _ _ _ hp]
  have kw : ∀ p, p ≠ 83 → p ≠ 84 → (sv_up (sv_up w 84 h (nI x)) 83 h (nI y)) p = w p := fun p h1 h2 => by rw [sv_up_off _ _ _ h1, sv_up_off _ _ _ h2]
  have d : h = 0 ∨ h = 1 := by omega
  refine ⟨N.1.frame (kv _ (by omega)) (kv _ (by omega)) (kv _ (by omega)) (kw _ (by omega) (by omega)) (kw _ (by omega) (by omega)) (kw _ (by omega) (by omega)), N.2.1.frame (kv _ (by omega)) (kv _ (by omega)) (kv _ (by omega)) (kw _ (by omega) (by omega)) (kw _ (by omega) (by omega)) (kw _ (by omega) (by omega)), fun h' hh' => ?_⟩
  obtain ⟨m1, m2, m3, m4, m5⟩ := N.2.2 h' hh'
  have d' : h' = 0 ∨ h' = 1 := by omega
  refine ⟨m1.frame (kv _ (by omega)) (kv _ (by omega)) (kv _ (by omega)) (kw _ (by omega) (by omega)) (kw _ (by omega) (by omega)) (kw _ (by omega) (by omega)), ?_, ?_, ?_, ?_⟩
  · by_cases z : h' = h
    · subst z
      rw [← hB, up_s, up_s]
      exact EQ.of hy
    · rw [kv _ (by omega), up_i z, up_q (by decide)]
      exact m2
  · by_cases z : h' = h
    · subst z
      rw [← hB, up_i (by decide), up_s, up_q (by decide), up_s]
      exact EQ.of hx
    · rw [kv _ (by omega), up_q (by decide), up_i z]
      exact m3
  · by_cases z : h' = h
    · subst z
      rw [← hB, up_i (by decide), up_i (by decide), kw 82 (by decide) (by decide), hB]
      exact m4
    · rw [kv _ (by omega), kw 82 (by decide) (by decide)]
      exact m4
  · rw [kv _ (by omega), kw 85 (by decide) (by decide)]
    exact m5
theorem bq_go {v w : sv_T} {h B : Nat} (hh : h ≤ 1) (hB : B = 9 + 33 * h) (N : NR v w) : ∃ v' w', f_Link_takeAsk_b39 (B + 5) v = some v' ∧ f_M_asked_b107 (nI h) w = some w' ∧ NR v' w' ∧ CF h v v' ∧ MS w w' := by
  have hg : h + (1 - h) = 1 := by omega
  have d : h = 0 ∨ h = 1 := by omega
  obtain ⟨s1, s2, s3, s4, s5, s6, s7⟩ := sh_L (h := h) (B := B) (q := 4 - 3 * h) hh hB rfl
  obtain ⟨W1, W2⟩ := N.way (h := h) (g := 1 - h) (q := 4 - 3 * h) hg rfl
  obtain ⟨⟨c, sz, bs, n1, n2, n3, n4, n5⟩, m2, ⟨st, i1, i2, i3⟩, m4, m5⟩ := N.2.2 h hh
  rw [← hB] at n1 i2
  generalize hw1 : sv_up w 79 h (0 : Int32) = w1
  have kw : ∀ p, p ≠ 79 → w1 p = w p := fun p hp => by rw [← hw1, sv_up_off _ _ _ hp]
  obtain ⟨v', w', a1, a2, a3, a4, a5, a6, a7, a8⟩ := tq_go (v := v) (w := w1) (m := 100000) (m' := 100000) hg hB rfl n4 n3 n5 i1 c 0 (by omega) (by omega) (by omega) (W1.frame rfl rfl rfl (kw _ (by decide)) (kw _ (by decide)) (kw _ (by decide))) (W2.frame rfl rfl rfl (kw _ (by decide)) (kw _ (by decide)) (kw _ (by decide))) (by
    have e1 : (fun t => sz (0 + t)) = sz := funext fun t => by rw [Nat.zero_add]
    have e2 : (fun t i => bs (0 + t) i) = bs := funext fun t => funext fun i => by rw [Nat.zero_add]
    rw [e1, e2]
    exact n1) i2 (by rw [kw 84 (by decide)]; exact i3) (fun t _ ht => by
    rw [kw 80 (by decide), kw 81 (by decide)]
    exact n2.2 t ht)
  have hw79 : w' 79 h = nI 0 := by
    rw [a7 79 (by decide) (by decide) (by decide) (by decide) (by decide) (by decide), ← hw1, up_s]; rfl
  refine ⟨v', w', ?_, ?_, ⟨?_, ?_, fun h' hh' => ?_⟩, fun p h1 h2 => a6 p (by omega) (by omega) (by omega) (by omega), ⟨fun p h1 h2 h3 h4 => ?_, fun i h1 h2 => ?_⟩⟩
  · unfold f_Link_takeAsk_b39 f_Rows_count
    rw [s3]
    simp only [sv_bi, Option.bind_some]
    rw [n1.1, a1]
    rfl
  · unfold f_M_asked_b107
    simp only [ck_n (show h < 2 by omega) (show 2 < 2 ^ 31 by omega), nI_clamp (show h < 2 ^ 31 by omega), sv_ls, sv_le]
    rw [n2.1, hw1, show (4 : Int32) * nI h = nI (4 * h) from pk_mul 4 h]
    rw [Nat.add_zero] at a2
    rw [a2]
    rfl
  · rcases d with rfl | rfl
    · exact a4
    · exact a3
  · rcases d with rfl | rfl
    · exact a3
    · exact a4
  · obtain ⟨k1, k2, k3, k4, k5⟩ := N.2.2 h' hh'
    have d' : h' = 0 ∨ h' = 1 := by omega
    have kw' : ∀ p, 82 ≤ p → p ≤ 85 → w' p = w p := fun p h1 h2 => by
      rw [a7 p (by omega) (by omega) (by omega) (by omega) (by omega) (by omega), kw p (by omega)]
    refine ⟨?_, ?_, ?_, ?_, ?_⟩
    · by_cases z : h' = h
      · subst z
        rw [← hB]
        exact ⟨0, fun _ => 0, fun _ _ => 0, ⟨a5, fun k hk => absurd hk (by omega)⟩, ⟨hw79, fun k hk => absurd hk (by omega)⟩, fun k hk => absurd hk (by omega), by omega, fun k hk => absurd hk (by omega)⟩
      · obtain ⟨c', sz', bs', l1, l2, l3, l4, l5⟩ := k1
        refine ⟨c', sz', bs', l1.same (a6 _ (by omega) (by omega) (by omega) (by omega)) (a6 _ (by omega) (by omega) (by omega) (by omega)) (a6 _ (by omega) (by omega) (by omega) (by omega)), ?_, l3, l4, l5⟩
        refine ⟨?_, fun k hk => ?_⟩
        · rw [a7 79 (by decide) (by decide) (by decide) (by decide) (by decide) (by decide), ← hw1, up_i z]
          exact l2.1
        · have := l2.2 k hk
          show w' 80 (4 * h' + k) = _ ∧ ∀ i, i < sz' k → w' 81 (40 * (4 * h' + k) + i) = _
          rw [a7 80 (by decide) (by decide) (by decide) (by decide) (by decide) (by decide), kw 80 (by decide), a7 81 (by decide) (by decide) (by decide) (by decide) (by decide) (by decide), kw 81 (by decide)]
          exact this
    · rw [a6 _ (by omega) (by omega) (by omega) (by omega), kw' 83 (by omega) (by omega)]; exact k2
    · rw [a6 _ (by omega) (by omega) (by omega) (by omega), kw' 84 (by omega) (by omega)]; exact k3
    · rw [a6 _ (by omega) (by omega) (by omega) (by omega), kw' 82 (by omega) (by omega)]; exact k4
    · rw [a6 _ (by omega) (by omega) (by omega) (by omega), kw' 85 (by omega) (by omega)]; exact k5
  · rw [a7 p (by omega) (by omega) (by omega) (by omega) h2 h4, kw p (by omega)]
  · rw [a8 i h1, kw 75 (by decide)]
set_option maxHeartbeats 1000000 in
/-- an ask or its answer is taken, on both sides -/
theorem ta_go {v w : sv_T} {h B n : Nat} {f : Nat → Nat} (hh : h ≤ 1) (hB : B = 9 + 33 * h) (N : NR v w) (hn : n ≤ 37) (h39 : w 75 39 = nI n) (hv : ∀ i, i < n → v (B + 30) i = nI (f i)) (hw : ∀ i, i < n → w 113 i = nI (f i)) (hf : ∀ i, i < n → f i < 256) : ∃ v' w', f_Link_takeAsk (B + 5) (B + 30) (nI n) v = some v' ∧ f_M_asked (nI h) w = some w' ∧ NR v' w' ∧ CF h v v' ∧ MS w w' := by
  obtain ⟨s1, s2, s3, s4, s5, s6, s7⟩ := sh_L (h := h) (B := B) (q := 4 - 3 * h) hh hB rfl
  have l30 := (sh_H hh hB).2.2.2.2.2.2.2.2.2.2.2.2.2.1
  have ad : (1 : Int32) + ((1 : Int32) - nI h) = nI (2 - h) := by
    rw [show (1 : Int32) = nI 1 from rfl, pk_sub hh, nI_add, show 1 + (1 - h) = 2 - h by omega]
  have ad2 : (1 : Int32) + nI h = nI (1 + h) := nI_add 1 h
  have ad3 : (2 : Int32) - nI h = nI (2 - h) := pk_sub (show h ≤ 2 by omega)
  unfold f_M_asked
  rw [h39, ad2, ad3]
  by_cases z : n = 7
  · subst z
    have f3 := hf 3 (by omega)
    have f5 := hf 5 (by omega)
    have f6 := hf 6 (by omega)
    rw [if_pos (show nI 7 = (7 : Int32) from rfl), hw 3 (by omega), hw 5 (by omega), hw 6 (by omega), show (1 : Int32) = nI 1 from rfl, show (2 : Int32) = nI 2 from rfl, if_lt (a := f 3) (by omega) (by omega), if_le (a := f 3) (by omega) (by omega), if_eq (a := f 5) (by omega) (by omega), if_eq (a := f 6) (by omega) (by omega), if_eq (a := f 3) (by omega) (by omega)]
    have isR : f_Link_isRightAsk (B + 5) (B + 30) (nI 7) v = some (nI (if (f 3 = 1 ∨ f 3 = 2) ∧ f 5 = 2 - h ∧ f 6 = 1 + h then 1 else 0), v) := by
      unfold f_Link_isRightAsk f_Link_isRightAsk_b20 f_Link_addressOf
      rw [if_pos (show nI 7 = (7 : Int32) from rfl), l30, s1, ad, ad2]
      simp only [sv_bi, Option.bind_some]
      rw [show (3 : Int32) = nI 3 from rfl, show (5 : Int32) = nI 5 from rfl, show (6 : Int32) = nI 6 from rfl]
      simp only [ck_n (show 3 < 37 by omega) (show 37 < 2 ^ 31 by omega), ck_n (show 5 < 37 by omega) (show 37 < 2 ^ 31 by omega), ck_n (show 6 < 37 by omega) (show 37 < 2 ^ 31 by omega), nI_clamp (show 3 < 2 ^ 31 by omega), nI_clamp (show 5 < 2 ^ 31 by omega), nI_clamp (show 6 < 2 ^ 31 by omega), hv 3 (by omega), hv 5 (by omega), hv 6 (by omega), show (1 : Int32) = nI 1 from rfl, show (2 : Int32) = nI 2 from rfl, if_eq (show f 5 < 2 ^ 31 by omega) (show 2 - h < 2 ^ 31 by omega), if_eq (show f 6 < 2 ^ 31 by omega) (show 1 + h < 2 ^ 31 by omega), if_eq (show f 3 < 2 ^ 31 by omega) (show 1 < 2 ^ 31 by omega), if_eq (show f 3 < 2 ^ 31 by omega) (show 2 < 2 ^ 31 by omega)]
      by_cases y3 : f 3 = 1
      · rw [if_pos y3]
        by_cases y5 : f 5 = 2 - h
        · rw [if_pos y5]
          by_cases y6 : f 6 = 1 + h
          · rw [if_pos y6, if_pos ⟨Or.inl y3, y5, y6⟩]
          · rw [if_neg y6, if_neg (fun t => y6 t.2.2)]; rfl
        · rw [if_neg y5, if_neg (fun t => y5 t.2.1)]; rfl
      · rw [if_neg y3]
        by_cases y4 : f 3 = 2
        · rw [if_pos y4]
          by_cases y5 : f 5 = 2 - h
          · rw [if_pos y5]
            by_cases y6 : f 6 = 1 + h
            · rw [if_pos y6, if_pos ⟨Or.inr y4, y5, y6⟩]
            · rw [if_neg y6, if_neg (fun t => y6 t.2.2)]; rfl
          · rw [if_neg y5, if_neg (fun t => y5 t.2.1)]; rfl
        · rw [if_neg y4, if_neg (fun t => by omega)]; rfl
    unfold f_Link_takeAsk
    rw [isR, bis, if01]
    by_cases y : (f 3 = 1 ∨ f 3 = 2) ∧ f 5 = 2 - h ∧ f 6 = 1 + h
    · rw [if_pos y, if_neg (show ¬ f 3 < 1 by omega), if_pos (show f 3 ≤ 2 by omega), if_pos y.2.1, if_pos y.2.2, l30, show (4 : Int32) = nI 4 from rfl, show (3 : Int32) = nI 3 from rfl, ck_n (by omega) (by omega), nI_clamp (n := 4) (by omega), hv 4 (by omega)]
      simp only [sv_ls]
      rw [ck_n (by omega) (by omega), nI_clamp (n := 3) (by omega)]
      have f4 := hf 4 (by omega)
      have N3 := N.known (x := f 4) (y := 30) hh hB f4 (by omega)
      generalize hv3 : sv_up (sv_up v (B + 5) 5 (nI (f 4))) (B + 5) 4 (nI 30) = v3 at N3
      generalize hw3 : sv_up (sv_up w 84 h (nI (f 4))) 83 h (nI 30) = w3 at N3
      have kv3 : ∀ p, p ≠ B + 5 → v3 p = v p := fun p hp => by rw [← hv3, sv_up_off _ _ _ hp, sv_up_off _ _ _ hp]
      have kw3 : ∀ p, p ≠ 83 → p ≠ 84 → w3 p = w p := fun p h1 h2 => by rw [← hw3, sv_up_off _ _ _ h1, sv_up_off _ _ _ h2]
      have C3 : CF h v v3 := fun p h1 h2 => kv3 p (by omega)
      have M3 : MS w w3 := ⟨fun p h1 h2 h3 h4 => kw3 p (by omega) (by omega), fun i h1 h2 => by rw [kw3 75 (by decide) (by decide)]⟩
      have e5 : v3 (B + 5) 5 = nI (f 4) := by rw [← hv3, up_i (by decide), up_s]
      have e84 : w3 84 h = nI (f 4) := by rw [← hw3, up_q (by decide), up_s]
      rw [show sv_up (sv_up v (B + 5) 5 (nI (f 4))) (B + 5) 4 30 = v3 from hv3, kv3 (B + 30) (by omega), hv 3 (by omega), show (1 : Int32) = nI 1 from rfl, if_eq (a := f 3) (by omega) (by omega), e5]
      by_cases y3 : f 3 = 1
      · rw [if_pos y3, if_pos y3]
        obtain ⟨v4, w4, a1, a2, a3, a4, a5, a6, a7, a8, a9, a10, a11⟩ := nr_ask (to := f 4) (kind := 2) hh hB N3 f4 (by omega)
        obtain ⟨v5, w5, b1, b2, b3, b4, b5⟩ := bq_go hh hB a3
        refine ⟨v5, w5, ?_, ?_, b3, (C3.tr a4).tr b4, (M3.tr a5).tr b5⟩
        · rw [show (2 : Int32) = nI 2 from rfl, a1, bvs]
          exact b1
        · unfold f_M_asked_b70
          simp only [ck_n (show h < 2 by omega) (show 2 < 2 ^ 31 by omega), nI_clamp (show h < 2 ^ 31 by omega), sv_ls]
          rw [hw 4 (by omega), show sv_up (sv_up w 84 h (nI (f 4))) 83 h 30 = w3 from hw3, if_neg (show ¬ nI 1 = 0 by decide), e84, show (2 : Int32) = nI 2 from rfl, a2, bvs]
          exact b2
      · rw [if_neg y3, if_neg y3]
        obtain ⟨v5, w5, b1, b2, b3, b4, b5⟩ := bq_go hh hB N3
        refine ⟨v5, w5, b1, ?_, b3, C3.tr b4, M3.tr b5⟩
        unfold f_M_asked_b70
        simp only [ck_n (show h < 2 by omega) (show 2 < 2 ^ 31 by omega), nI_clamp (show h < 2 ^ 31 by omega), sv_ls]
        rw [hw 4 (by omega), show sv_up (sv_up w 84 h (nI (f 4))) 83 h 30 = w3 from hw3, if_pos trivial]
        exact b2
    · rw [if_neg y]
      refine ⟨v, w, rfl, ?_, N, CF.rf, MS.rf⟩
      by_cases y1 : f 3 < 1
      · rw [if_pos y1]
      · rw [if_neg y1]
        by_cases y2 : f 3 ≤ 2
        · rw [if_pos y2]
          by_cases y5 : f 5 = 2 - h
          · rw [if_pos y5]
            by_cases y6 : f 6 = 1 + h
            · exact absurd ⟨by omega, y5, y6⟩ y
            · rw [if_neg y6]
          · rw [if_neg y5]
        · rw [if_neg y2]
  · have z' : ¬ nI n = (7 : Int32) := fun t => z ((nI_eq (a := n) (b := 7) (by omega) (by omega)).mp t)
    rw [if_neg z']
    refine ⟨v, w, ?_, rfl, N, CF.rf, MS.rf⟩
    unfold f_Link_takeAsk f_Link_isRightAsk
    rw [if_neg z']
    rfl
