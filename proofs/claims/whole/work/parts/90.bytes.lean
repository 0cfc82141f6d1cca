/-- send -/
theorem sd_go {v w w0 : sv_T} {h j E B s : Nat} {a : Int32} {ms : List MG} (hh : h ≤ 1) (hj : j ≤ 1) (hE : E = 25 + 33 * h + 7 * j) (hB : B = 9 + 33 * h) (hs : s = 2 * h + j) (P : PN h B w0 ms v w) (hl : ms.length ≤ 4) (H : SR v w E s) : OR h B E s w0 ms v w 3 (f_Ep_offerByte E a v) (f_M_send (nI h) (nI (1 + j)) a w) := by
  obtain ⟨s1, s2, s3, s4, s5, s6, s7, s8, s9, s10, s11, s12, s13⟩ := sh_E hh hj hE hB
  have hs4 : s < 4 := by omega
  have H0 := H
  obtain ⟨st, ti, ro, tr, ou, fi, un, nx, wi, en, ic, rc, ob, ib, K, I, K1, K2⟩ := H
  have K0 := K
  obtain ⟨k1, k2, k3, k4, k5, k6, k7, k8, k9, k10, k11, k12, k13, k14, k15⟩ := K
  obtain ⟨⟨i1, i2, i3, i4, i5, i6, i7, i8, i9, i10, i11, i12, i13⟩, j1, j2, j3, j4, j5⟩ := I
  have hC : f_Ep_offerByte E a v = if st = 4 ∨ st = 7 then (if en = 0 then (if a < 0 then some (0, v) else if a ≤ 255 then (if ou < 64 then sv_bv (f_Snd_add (E + 2) a v) fun v5 => sv_bv (f_Ep_push E v5) fun v6 => some (1, v6) else some (0, v)) else some (0, v)) else some (0, v)) else some (0, v) := by
    unfold f_Ep_offerByte f_Ep_isSendingState f_Snd_isFull
    rw [k1.1, show (4 : Int32) = nI 4 from rfl, show (7 : Int32) = nI 7 from rfl, if_eq (by omega) (by omega), if_eq (by omega) (by omega)]
    have key : (if (v (E + 2) 6) = 0 then (if a < 0 then some ((0 : Int32), v) else if a ≤ (255 : Int32) then sv_bi (if (v (E + 2) 1) < (64 : Int32) then some ((0 : Int32), v) else some ((1 : Int32), v)) fun x4 v3 => if x4 = 0 then sv_bv (f_Snd_add (E + 2) a v3) fun v5 => sv_bv (f_Ep_push E v5) fun v6 => some ((1 : Int32), v6) else some ((0 : Int32), v3) else some ((0 : Int32), v)) else some ((0 : Int32), v)) = if en = 0 then (if a < 0 then some (0, v) else if a ≤ 255 then (if ou < 64 then sv_bv (f_Snd_add (E + 2) a v) fun v5 => sv_bv (f_Ep_push E v5) fun v6 => some (1, v6) else some (0, v)) else some (0, v)) else some (0, v) := by
      rw [k10.1, k5.1, if_eq0 (by omega), show (64 : Int32) = nI 64 from rfl, if_lt (by omega) (by omega)]
      by_cases z : ou < 64
      · rw [if_pos z, if_pos z]
        rfl
      · rw [if_neg z, if_neg z]
        rfl
    by_cases z4 : st = 4
    · rw [if_pos z4, if_pos (Or.inl z4)]
      simp only [sv_bi, Option.bind_some, s5]
      rw [if_neg (by decide)]
      exact key
    · rw [if_neg z4]
      by_cases z7 : st = 7
      · rw [if_pos z7, if_pos (Or.inr z7)]
        simp only [sv_bi, Option.bind_some, s5]
        rw [if_neg (by decide)]
        exact key
      · rw [if_neg z7, if_neg (by omega)]
        rfl
  have hM : f_M_send (nI h) (nI (1 + j)) a w = if a < 0 then some (0, w) else if 255 < a then some (0, w) else if st = 4 ∨ st = 7 then f_M_send_b51 a (nI s) w else some (0, w) := by
    unfold f_M_send
    simp only [sok hh hj, sat hh hj hs, sv_bi, Option.bind_some, ck_n hs4 (show 4 < 2 ^ 31 by omega), nI_clamp (show s < 2 ^ 31 by omega), k1.2, show (4 : Int32) = nI 4 from rfl, show (7 : Int32) = nI 7 from rfl, if_eq (show st < 2 ^ 31 by omega) (show 4 < 2 ^ 31 by omega), if_eq (show st < 2 ^ 31 by omega) (show 7 < 2 ^ 31 by omega)]
    rw [if_neg (show ¬ (1 : Int32) = 0 by decide)]
    by_cases z4 : st = 4
    · rw [if_pos z4, if_pos (Or.inl z4)]
    · rw [if_neg z4]
      by_cases z7 : st = 7
      · rw [if_pos z7, if_pos (Or.inr z7)]
      · rw [if_neg z7, if_neg (show ¬ (st = 4 ∨ st = 7) by omega)]
  have hMb : f_M_send_b51 a (nI s) w = if en = 0 then (if ou = 64 then some (0, w) else sv_bv (f_M_push (nI s) (sv_up (sv_up w 102 (64 * s + ou) a) 101 s (nI (ou + 1)))) fun v7 => some (1, v7)) else some (0, w) := by
    unfold f_M_send_b51
    simp only [ck_n hs4 (show 4 < 2 ^ 31 by omega), nI_clamp (show s < 2 ^ 31 by omega), k10.2, k5.2, if_eq0 (show en < 2 ^ 31 by omega), sv_ls, show (64 : Int32) = nI 64 from rfl, if_eq (show ou < 2 ^ 31 by omega) (show 64 < 2 ^ 31 by omega), pk_mul, nI_add]
    by_cases z : ou = 64
    · simp only [if_pos z]
    · simp only [if_neg z]
      rw [ck_n (by omega) (by omega), nI_clamp (by omega), up_q (by omega), k5.2, nI_1]
  rw [hC, hM, hMb]
  by_cases hst : st = 4 ∨ st = 7
  · rw [if_pos hst, if_pos hst]
    by_cases ze : en = 0
    · rw [if_pos ze, if_pos ze]
      by_cases za : a < 0
      · rw [if_pos za, if_pos za]
        exact or_done 0 P H0
      · rw [if_neg za, if_neg za]
        obtain ⟨n, hn, rfl⟩ := nI_of za
        rw [show (255 : Int32) = nI 255 from rfl, if_le (by omega) (by omega), if_lt (by omega) (by omega)]
        by_cases zn : n ≤ 255
        · rw [if_pos zn, if_neg (show ¬ 255 < n by omega)]
          by_cases zo : ou < 64
          · rw [if_pos zo, if_neg (show ¬ ou = 64 by omega)]
            have eA : f_Snd_add (E + 2) (nI n) v = some (sv_up (sv_up v (E + 3) ou (nI n)) (E + 2) 1 (nI (ou + 1))) := by
              unfold f_Snd_add
              simp only [sv_ls, k5.1, s7]
              rw [show (64 : Int32) = nI 64 from rfl, if_lt (by omega) (by omega), if_pos zo, ck_n (by omega) (by omega), nI_clamp (by omega), up_q (by omega), k5.1, nI_1]
            rw [eA]
            simp only [sv_bv, Option.bind_some]
            generalize hv1 : sv_up (sv_up v (E + 3) ou (nI n)) (E + 2) 1 (nI (ou + 1)) = v1
            generalize hw1 : sv_up (sv_up w 102 (64 * s + ou) (nI n)) 101 s (nI (ou + 1)) = w1
            have fv : ∀ p, p ≠ E + 2 → p ≠ E + 3 → v1 p = v p := fun p h1 h2 => by rw [← hv1, sv_up_off _ _ _ h1, sv_up_off _ _ _ h2]
            have fw : ∀ p, p ≠ 101 → p ≠ 102 → w1 p = w p := fun p h1 h2 => by rw [← hw1, sv_up_off _ _ _ h1, sv_up_off _ _ _ h2]
            have f2 : ∀ i, i ≠ 1 → v1 (E + 2) i = v (E + 2) i := fun i hi => by rw [← hv1, up_i hi, up_q (by omega)]
            have M1 : MX s w w1 := by
              refine ⟨fun p i h1 _ _ _ _ hm => ?_, fun i _ _ _ => by rw [fw 75 (by omega) (by omega)]⟩
              rw [← hw1, up_a, up_a]
              rw [if_neg (fun y => by have := hm.2.2 (by omega) (by omega) (by omega) (by omega) (by omega) (by omega); omega), if_neg (fun y => by have := hm.1 (by omega); omega)]
            have K3 : SK v1 w1 E s st ti ro tr (ou + 1) fi un nx wi en ic rc (fun i => if i = ou then n else ob i) ib := by
              refine ⟨?_, ?_, ?_, ?_, ?_, ?_, ?_, ?_, ?_, ?_, ?_, ?_, ?_, fun i hi => ?_, fun i hi => ?_⟩
              · rw [fv E (by omega) (by omega), fw 95 (by omega) (by omega)]; exact k1
              · rw [fv E (by omega) (by omega), fw 110 (by omega) (by omega)]; exact k2
              · rw [fv E (by omega) (by omega), fw 111 (by omega) (by omega)]; exact k3
              · rw [fv E (by omega) (by omega), fw 112 (by omega) (by omega)]; exact k4
              · rw [← hv1, ← hw1, up_s, up_s]; exact ⟨rfl, rfl⟩
              · rw [f2 2 (by omega), fw 96 (by omega) (by omega)]; exact k6
              · rw [f2 3 (by omega), fw 97 (by omega) (by omega)]; exact k7
              · rw [f2 4 (by omega), fw 98 (by omega) (by omega)]; exact k8
              · rw [f2 5 (by omega), fw 100 (by omega) (by omega)]; exact k9
              · rw [f2 6 (by omega), fw 103 (by omega) (by omega)]; exact k10
              · rw [fv (E + 4) (by omega) (by omega), fw 105 (by omega) (by omega)]; exact k11
              · rw [fv (E + 4) (by omega) (by omega), fw 99 (by omega) (by omega)]; exact k12
              · rw [fw 104 (by omega) (by omega)]; exact k13
              · by_cases y : i = ou
                · simp only [if_pos y]
                  rw [← hv1, ← hw1, y, up_q (by omega), up_s, up_q (by omega), up_s]
                  exact ⟨rfl, rfl, by omega⟩
                · simp only [if_neg y]
                  rw [← hv1, ← hw1, up_q (by omega), up_i y, up_q (by omega), up_i (by omega)]
                  exact k14 i (by omega)
              · rw [fv (E + 5) (by omega) (by omega), fw 106 (by omega) (by omega)]; exact k15 i hi
            exact or_pre (v1 := v1) (w1 := w1) (fun p h1 _ => fv p (by omega) (by omega)) M1 (op_or 1 (pu_go hh hj hE hB hs (P.keep hh hj hE hB (fun p hp => fv p (by omega) (by omega)) (fun p h1 h2 => fw p (by omega) (by omega))) hl ⟨_, _, _, _, _, _, _, _, _, _, _, _, _, _, K3, ⟨⟨i1, i2, i3, i4, i5, by omega, i7, i8, i9, i10, i11, i12, i13⟩, fun z => by omega, fun z => by omega, fun z => by have := j3 z; omega, fun z => by omega, fun z => by omega⟩, fun z => by omega, fun z1 z2 => (K2 z1 z2).same (fun p hp => fv p (by omega) (by omega)) (fun p h1 h2 => fw p (by omega) (by omega))⟩))
          · rw [if_neg zo, if_pos (show ou = 64 by omega)]
            exact or_done 0 P H0
        · rw [if_neg zn, if_pos (show 255 < n by omega)]
          exact or_done 0 P H0
    · rw [if_neg ze, if_neg ze]
      by_cases za : a < 0
      · rw [if_pos za]
        exact or_done 0 P H0
      · rw [if_neg za]
        by_cases zb : 255 < a
        · rw [if_pos zb]
          exact or_done 0 P H0
        · rw [if_neg zb]
          exact or_done 0 P H0
  · rw [if_neg hst, if_neg hst]
    by_cases za : a < 0
    · rw [if_pos za]
      exact or_done 0 P H0
    · rw [if_neg za]
      by_cases zb : 255 < a
      · rw [if_pos zb]
        exact or_done 0 P H0
      · rw [if_neg zb]
        exact or_done 0 P H0
