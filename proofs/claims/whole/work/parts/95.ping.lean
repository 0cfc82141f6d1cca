theorem and8 {n : Nat} (h : n < 2 ^ 31) : nI n &&& 255 = nI (n % 256) := pk_andN (m := 255) (by omega) 8 (by decide)
theorem pc_loop {h B a c : Nat} {v : sv_T} (hh : h ≤ 1) (hB : B = 9 + 33 * h) (ha : a < 256) (hc : c ≤ 43) : ∃ v', sv_loop (fun (s : Int32 × sv_T) => f_Host_askEcho_l47 B (nI a) (nI c) s.1 (s.2)) 100000 ((0 : Int32), v) = some v' ∧ (∀ p, p ≠ B + 32 → v' p = v p) ∧ (∀ i, i < 6 → v' (B + 32) i = v (B + 32) i) ∧ ∀ i, i < c → v' (B + 32) (6 + i) = nI ((a + i) % 256) := by
  have s11 := (sh_H hh hB).2.2.2.2.2.2.2.2.2.2.1
  refine lp_inv (fun k s => ∃ i, s.1 = nI i ∧ i + k = c + 1 ∧ 0 < k ∧ (∀ p, p ≠ B + 32 → s.2 p = v p) ∧ (∀ i, i < 6 → s.2 (B + 32) i = v (B + 32) i) ∧ ∀ t, t < i → s.2 (B + 32) (6 + t) = nI ((a + t) % 256)) _ (fun k s H => ?_) 100000 (c + 1) _ ⟨0, rfl, by omega, by omega, fun _ _ => rfl, fun _ _ => rfl, fun t ht => absurd ht (by omega)⟩ (by omega)
  obtain ⟨i, e, hk, h0, f1, f2, f3⟩ := H
  obtain ⟨x, u⟩ := s
  have e' : x = nI i := e
  subst e'
  show (∃ k' s', f_Host_askEcho_l47 B (nI a) (nI c) (nI i) u = _ ∧ _) ∨ ∃ b, f_Host_askEcho_l47 B (nI a) (nI c) (nI i) u = _ ∧ _
  unfold f_Host_askEcho_l47
  rw [if_lt (by omega) (by omega), s11]
  by_cases z : i < c
  · left
    rw [if_pos z, show (6 : Int32) + nI i = nI (6 + i) from nI_add 6 i, ck_n (by omega) (by omega), nI_clamp (by omega), nI_add a i, and8 (by omega)]
    refine ⟨k - 1, (nI (i + 1), sv_up u (B + 32) (6 + i) (nI ((a + i) % 256))), ?_, by omega, i + 1, rfl, by omega, by omega, fun p hp => ?_, fun t ht => ?_, fun t ht => ?_⟩
    · show some (Sum.inl (nI i + 1, _)) = _
      rw [nI_1]
    · show sv_up u (B + 32) (6 + i) _ p = _
      rw [sv_up_off _ _ _ hp]
      exact f1 p hp
    · show sv_up u (B + 32) (6 + i) _ (B + 32) t = _
      rw [up_i (by omega)]
      exact f2 t ht
    · show sv_up u (B + 32) (6 + i) _ (B + 32) (6 + t) = _
      by_cases z2 : t = i
      · rw [z2, up_s]
      · rw [up_i (by omega)]
        exact f3 t (by omega)
  · right
    rw [if_neg z]
    have ei : i = c := by omega
    subst ei
    exact ⟨u, rfl, f1, f2, f3⟩
theorem pm_loop {x : Int32} {a c : Nat} {v : sv_T} (ha : a < 256) (hc : c ≤ 43) : ∃ v', sv_loop (fun (s : Int32 × sv_T) => f_M_ping_l54 x (nI a) (nI c) s.1 (s.2)) 100000 ((0 : Int32), v) = some v' ∧ (∀ p, p ≠ 114 → v' p = v p) ∧ (∀ i, i < 5 → v' 114 i = v 114 i) ∧ ∀ i, i < c → v' 114 (5 + i) = nI ((a + i) % 256) := by
  refine lp_inv (fun k s => ∃ i, s.1 = nI i ∧ i + k = c + 1 ∧ 0 < k ∧ (∀ p, p ≠ 114 → s.2 p = v p) ∧ (∀ i, i < 5 → s.2 114 i = v 114 i) ∧ ∀ t, t < i → s.2 114 (5 + t) = nI ((a + t) % 256)) _ (fun k s H => ?_) 100000 (c + 1) _ ⟨0, rfl, by omega, by omega, fun _ _ => rfl, fun _ _ => rfl, fun t ht => absurd ht (by omega)⟩ (by omega)
  obtain ⟨i, e, hk, h0, f1, f2, f3⟩ := H
  obtain ⟨y, u⟩ := s
  have e' : y = nI i := e
  subst e'
  show (∃ k' s', f_M_ping_l54 x (nI a) (nI c) (nI i) u = _ ∧ _) ∨ ∃ b, f_M_ping_l54 x (nI a) (nI c) (nI i) u = _ ∧ _
  unfold f_M_ping_l54
  rw [if_lt (by omega) (by omega)]
  by_cases z : i < c
  · left
    rw [if_pos z, show (5 : Int32) + nI i = nI (5 + i) from nI_add 5 i, ck_n (by omega) (by omega), nI_clamp (by omega), nI_add a i, and8 (by omega)]
    refine ⟨k - 1, (nI (i + 1), sv_up u 114 (5 + i) (nI ((a + i) % 256))), ?_, by omega, i + 1, rfl, by omega, by omega, fun p hp => ?_, fun t ht => ?_, fun t ht => ?_⟩
    · show some (Sum.inl (nI i + 1, _)) = _
      rw [nI_1]
    · show sv_up u 114 (5 + i) _ p = _
      rw [sv_up_off _ _ _ hp]
      exact f1 p hp
    · show sv_up u 114 (5 + i) _ 114 t = _
      rw [up_i (by omega)]
      exact f2 t ht
    · show sv_up u 114 (5 + i) _ 114 (5 + t) = _
      by_cases z2 : t = i
      · rw [z2, up_s]
      · rw [up_i (by omega)]
        exact f3 t (by omega)
  · right
    rw [if_neg z]
    have ei : i = c := by omega
    subst ei
    exact ⟨u, rfl, f1, f2, f3⟩
def pg_f (a : Nat) : Nat → Nat := fun i => if i = 0 then 8 else if i < 4 then 0 else if i = 4 then a else (a + (i - 5)) % 256
/-- in the midst of a call, stores that differ in scratch places alone -/
theorem HI.keep {h : Nat} {w0 v w v1 w1 : sv_T} {ms : List MG} (hh : h ≤ 1) (H : HI h w0 ms v w) (hv : ∀ p, p ≠ 9 + 33 * h + 1 → p ≠ 9 + 33 * h + 10 → p ≠ 9 + 33 * h + 15 → p ≠ 9 + 33 * h + 30 → p ≠ 9 + 33 * h + 31 → p ≠ 9 + 33 * h + 32 → v1 p = v p) (M : ME w w1) (hM : ∀ p, 76 ≤ p → p ≤ 85 → w1 p = w p) : HI h w0 ms v1 w1 := by
  obtain ⟨⟨p1, p2, p3, p4⟩, ⟨a1, a2, a3, a4⟩, H3⟩ := H
  have d : h = 0 ∨ h = 1 := by omega
  have hr : HR v1 w := by
    refine ⟨fun h' j x y => ?_, fun h' k x y => ?_, fun h' x => ?_, ?_⟩
    · have d' : h' = 0 ∨ h' = 1 := by omega
      have dj : j = 0 ∨ j = 1 := by omega
      exact (a1 h' j x y).same (fun p hp => hv p (by omega) (by omega) (by omega) (by omega) (by omega) (by omega)) (fun _ _ _ => rfl)
    · have d' : h' = 0 ∨ h' = 1 := by omega
      have dk : k = 0 ∨ k = 1 := by omega
      exact (a2 h' k x y).same (hv _ (by omega) (by omega) (by omega) (by omega) (by omega) (by omega)) (hv _ (by omega) (by omega) (by omega) (by omega) (by omega) (by omega)) (fun _ _ _ => rfl) (fun _ _ => ⟨rfl, rfl⟩)
    · have d' : h' = 0 ∨ h' = 1 := by omega
      rw [hv (9 + 33 * h') (by omega) (by omega) (by omega) (by omega) (by omega) (by omega)]
      exact a3 h' x
    · rw [hv 0 (by omega) (by omega) (by omega) (by omega) (by omega) (by omega)]
      exact a4
  refine ⟨⟨p1.keep (fun p hp => hv p (by omega) (by omega) (by omega) (by omega) (by omega) (by omega)) (fun _ _ _ => rfl), ?_, p3.same (hv _ (by omega) (by omega) (by omega) (by omega) (by omega) (by omega)) (hv _ (by omega) (by omega) (by omega) (by omega) (by omega) (by omega)) (hv _ (by omega) (by omega) (by omega) (by omega) (by omega) (by omega)), p4.keep hM⟩, hr.me M, H3.same (hv _ (by omega) (by omega) (by omega) (by omega) (by omega) (by omega)) (hv _ (by omega) (by omega) (by omega) (by omega) (by omega) (by omega)) (hv _ (by omega) (by omega) (by omega) (by omega) (by omega) (by omega))⟩
  have := p2.app (ms' := []) hM
  rwa [List.append_nil] at this
/-- ping -/
theorem w_ping {v w : sv_T} (a b c : Int32) (R : RI v w) : ST v w (f_W_ping a b c v) (f_M_ping a b c w) := by
  rcases eh_of a with ⟨h, hh, rfl⟩ | ha
  · unfold f_W_ping f_M_ping
    rw [(wh_yes hh).1, (wh_yes hh).2]
    simp only [sv_bi, Option.bind_some]
    rw [if_neg (show ¬ (1 : Int32) = 0 by decide), if_neg (show ¬ (1 : Int32) = 0 by decide), hs_at hh]
    unfold f_Host_askEcho
    by_cases z1 : b < 0
    · simp only [if_pos z1]
      exact st_same 0 R
    · simp only [if_neg z1]
      by_cases z2 : b ≤ 255
      · simp only [if_pos z2]
        by_cases z3 : c < 0
        · simp only [if_pos z3]
          exact st_same 0 R
        · simp only [if_neg z3]
          by_cases z4 : 43 < c
          · simp only [if_pos z4]
            exact st_same 0 R
          · simp only [if_neg z4]
            obtain ⟨x, hx, rfl⟩ := nI_of z1
            obtain ⟨n, hn, rfl⟩ := nI_of z3
            have hx2 : x ≤ 255 := (nI_leI (a := x) (b := 255) (by omega) (by omega)).mp z2
            have hn2 : n ≤ 43 := by
              rw [show (43 : Int32) = nI 43 from rfl, nI_ltI (by omega) (by omega)] at z4
              omega
            rw [(sh_H hh rfl).2.2.2.2.2.2.2.2.2.2.1]
            simp only [sv_ls]
            obtain ⟨v1, a1, a2, a3, a4⟩ := pc_loop (v := sv_up (sv_up (sv_up v (9 + 33 * h + 32) 1 8) (9 + 33 * h + 32) 2 0) (9 + 33 * h + 32) 5 (nI x)) (a := x) (c := n) hh rfl (by omega) hn2
            obtain ⟨w1, b1, b2, b3, b4⟩ := pm_loop (x := nI h) (v := sv_up (sv_up (sv_up w 75 41 (5 + nI n)) 114 1 0) 114 4 (nI x)) (a := x) (c := n) (by omega) hn2
            rw [a1, b1]
            simp only [Option.bind_some]
            have hv1 : ∀ p, p ≠ 9 + 33 * h + 32 → v1 p = v p := fun p hp => by
              rw [a2 p hp]
              simp only [sv_up_off _ _ _ hp]
            have hw1 : ∀ p, p ≠ 114 → p ≠ 75 → w1 p = w p := fun p h1 h2 => by
              rw [b2 p h1]
              simp only [sv_up_off _ _ _ h1, sv_up_off _ _ _ h2]
            have hw75 : ∀ i, i ≠ 41 → w1 75 i = w 75 i := fun i hi => by
              rw [b2 75 (by decide), up_q (by decide), up_q (by decide), up_i hi]
            have H1 : HI h w [] v1 w1 := (R.hi hh).keep hh (fun p _ _ _ _ _ h5 => hv1 p h5) ⟨fun p h1 _ h3 _ _ => hw1 p h3 (by omega), fun i _ h2 _ => hw75 i h2⟩ (fun p h1 h2 => hw1 p (by omega) (by omega))
            obtain ⟨v2, w2, m, c1, c2, c3, c4, c5⟩ := H1.echo (B := 9 + 33 * h) (n := 5 + n) (f := pg_f x) hh rfl (by decide) (by omega) (by omega) (fun i hi => by
              unfold pg_f
              split
              · omega
              · split
                · omega
                · split
                  · omega
                  · omega) (fun i hi h2 h3 => by
              unfold pg_f
              by_cases z : i < 5
              · rw [a3 (1 + i) (by omega)]
                rcases (show i = 0 ∨ i = 1 ∨ i = 4 by omega) with rfl | rfl | rfl
                · simp [up_a]
                  rfl
                · simp [up_a]
                  rfl
                · simp [up_a]
              · rw [show 1 + i = 6 + (i - 5) by omega, a4 (i - 5) (by omega), if_neg (by omega), if_neg (by omega), if_neg (by omega)]) (by
              rw [b2 75 (by decide), up_q (by decide), up_q (by decide), up_s]
              exact nI_add 5 n) (fun i hi h0 h2 h3 => by
              unfold pg_f
              by_cases z : i < 5
              · rw [b3 i z]
                rcases (show i = 1 ∨ i = 4 by omega) with rfl | rfl
                · simp [up_a]
                  rfl
                · simp [up_a]
              · obtain ⟨t, rfl⟩ : ∃ t, i = 5 + t := ⟨i - 5, by omega⟩
                rw [b4 t (by omega), if_neg (by omega), if_neg (by omega), if_neg (by omega), show 5 + t - 5 = t by omega])
            have c2' : f_M_sendEcho (nI h) 8 w1 = some w2 := c2
            unfold f_Host_askEcho_x74 f_M_ping_x83
            rw [show (5 : Int32) + nI n = nI (5 + n) from nI_add 5 n, c1, c2']
            simp only [sv_bv, Option.bind_some]
            rw [if_neg (show ¬ (1 : Int32) = 0 by decide), hs_at hh]
            obtain ⟨v3, d1, d2, d3⟩ := c3.out hh (by show 1 ≤ 8; omega)
            refine ⟨1, v3, w2, ?_, rfl, d2, LO.tr (fun p hp => hv1 p (by omega)) (c4.tr d3), HO.tr (fun p hp => hw1 p (by omega) (by omega)) c5⟩
            rw [d1]
            rfl
      · simp only [if_neg z2]
        exact st_same 0 R
  · unfold f_W_ping f_M_ping
    rw [(wh_no ha).1, (wh_no ha).2]
    exact st_same 0 R
