theorem du_mod {a b : Nat} : du (a % 65536) b = du a b ∨ 65536 ≤ b := by
  unfold du
  omega
theorem nI_m1 {b : Nat} (h : b < 2 ^ 31) : ¬ nI b = -1 := fun e => by
  have h1 := congrArg (fun x : Int32 => x.toBitVec.toNat) e
  have h2 : (nI b).toBitVec.toNat = b := pk_tn (by omega)
  have h3 : (-1 : Int32).toBitVec.toNat = 4294967295 := by decide
  simp only [h2, h3] at h1
  omega
/-- the data of a segment are kept, on both sides -/
theorem kl_go {E s G A B h j ic rc fl sq ak wn dc : Nat} {dt : Nat → Nat} (hh : h ≤ 1) (hj : j ≤ 1) (hE : E = 25 + 33 * h + 7 * j) (hB : B = 9 + 33 * h) (hs : s = 2 * h + j) (hG : G = B + 15) (hA : A = B + 1) (hic : ic ≤ 24) (hrc : rc < 65536) : ∀ (n k m : Nat) (v w : sv_T), k + n = dc → n < m → SG v w G A fl sq ak wn dc dt → (∀ i, i < dc → w 114 (10 + i) = nI (dt i)) → v (E + 4) 2 = nI ic ∧ w 105 s = nI ic → v (E + 4) 3 = nI rc ∧ w 99 s = nI rc → KP v w E s rc ic →
    ∃ v' w', sv_loop (fun (t : Int32 × sv_T) => f_Rcv_keep_l7 (E + 4) G (nI (24 - ic)) t.1 (t.2)) m (nI k, v) = some v' ∧ sv_loop (fun (t : Int32 × sv_T) => f_M_takes_l92 (nI s) t.1 (t.2)) m (nI k, w) = some w' ∧ KP v' w' E s rc ic ∧ (∀ p, p ≠ E + 6 → v' p = v p) ∧ (∀ p, p ≠ 107 → p ≠ 108 → w' p = w p) ∧ MX s w w' := by
  obtain ⟨s1, s2, s3, s4, s5, s6, s7, s8, s9, s10, s11, s12, s13⟩ := sh_E hh hj hE hB
  have hs4 : s < 4 := by omega
  have hGr : sv_ref (sg G) 0 = A := by
    subst hG
    subst hA
    subst hB
    rcases (show h = 0 ∨ h = 1 by omega) with rfl | rfl <;> rfl
  intro n
  induction n with
  | zero =>
    intro k m v w hk hm S h114 q2 q3 Q
    obtain ⟨g1, g2, g3, g4, g5, g6, g7, g8, g9, g10, g11⟩ := S
    refine ⟨v, w, lp_e (by omega) ?_, lp_e (by omega) ?_, Q, fun _ _ => rfl, fun _ _ _ => rfl, MX.rf⟩
    · show f_Rcv_keep_l7 (E + 4) G (nI (24 - ic)) (nI k) v = _
      unfold f_Rcv_keep_l7
      rw [g1.1, if_lt (by omega) (by omega), if_neg (by omega)]
    · show f_M_takes_l92 (nI s) (nI k) w = _
      unfold f_M_takes_l92
      rw [g1.2, if_lt (by omega) (by omega), if_neg (by omega)]
  | succ n ih =>
    intro k m v w hk hm S h114 q2 q3 Q
    have S0 := S
    obtain ⟨g1, g2, g3, g4, g5, g6, g7, g8, g9, g10, g11⟩ := S
    have hdu : du (sq + k) rc < 65536 := Nat.mod_lt _ (by omega)
    have eP : (nI sq + nI k) &&& (31 : Int32) = nI ((sq + k) % 32) := by
      rw [nI_add]
      exact pk_andN (m := 31) (by omega) 5 (by decide)
    have e24 : (24 : Int32) - nI ic = nI (24 - ic) := pk_sub (a := 24) hic
    have hC : f_Rcv_keep_l7 (E + 4) G (nI (24 - ic)) (nI k) v = if du (sq + k) rc < 24 - ic ∧ v (E + 6) ((sq + k) % 32) = -1 then some (.inl (nI (k + 1), sv_up v (E + 6) ((sq + k) % 32) (nI (dt k)))) else some (.inl (nI (k + 1), v)) := by
      unfold f_Rcv_keep_l7 f_Rcv_keep_b63
      simp only [sv_le, sv_bi, g1.1, g3.1, eP]
      rw [if_lt (by omega) (by omega), if_pos (by omega), nI_add, near_c q3.1 hrc (by omega) (by omega)]
      simp only [Option.bind_some, if01]
      by_cases z : du (sq + k) rc < 24 - ic
      · rw [if_pos z, ck_n (by omega) (by omega), nI_clamp (by omega), s9]
        by_cases z2 : v (E + 6) ((sq + k) % 32) = -1
        · rw [if_pos z2, if_pos ⟨z, z2⟩]
          unfold f_Seg_dataAt
          rw [g1.1, if_neg0 (by omega), if_lt (by omega) (by omega), if_pos (by omega), show (10 : Int32) = nI 10 from rfl, nI_add, ck_n (by omega) (by omega), nI_clamp (by omega), hGr, (g6 k (by omega)).1]
          simp only [Option.bind_some, sv_ls]
          rw [ck_n (by omega) (by omega), nI_1]
        · rw [if_neg z2, if_neg (fun z => z2 z.2), nI_1]
      · rw [if_neg z, if_neg (fun y => z y.1), nI_1]
    have hM : f_M_takes_l92 (nI s) (nI k) w = if du (sq + k) rc < 24 - ic ∧ w 107 (32 * s + du (sq + k) rc) = 0 then some (.inl (nI (k + 1), sv_up (sv_up w 107 (32 * s + du (sq + k) rc) 1) 108 (32 * s + du (sq + k) rc) (nI (dt k)))) else some (.inl (nI (k + 1), w)) := by
      unfold f_M_takes_l92 f_M_takes_b176 f_M_less f_M_room
      simp only [sv_le, sv_bi, Option.bind_some, g1.2, g3.2, ck_n hs4 (show 4 < 2 ^ 31 by omega), nI_clamp (show s < 2 ^ 31 by omega), q3.2, q2.2, e24, nI_add, sub16 (show sq + k < 2 ^ 31 by omega) hrc]
      rw [if_lt (by omega) (by omega), if_pos (by omega), if_lt (by omega) (by omega)]
      by_cases z : du (sq + k) rc < 24 - ic
      · rw [if_pos z, show (32 : Int32) = nI 32 from rfl, pk_mul, nI_add, ck_n (by omega) (by omega), nI_clamp (by omega)]
        by_cases z2 : w 107 (32 * s + du (sq + k) rc) = 0
        · rw [if_pos z2, if_pos ⟨z, z2⟩, ck_n (by omega) (by omega)]
          simp only [sv_ls]
          rw [show (10 : Int32) = nI 10 from rfl, nI_add, ck_n (by omega) (by omega), ck_n (by omega) (by omega), nI_clamp (by omega), up_q (by omega), h114 k (by omega), nI_1]
        · rw [if_neg z2, if_neg (fun z => z2 z.2), nI_1]
      · rw [if_neg z, if_neg (fun y => z y.1), nI_1]
    by_cases z : du (sq + k) rc < 24 - ic
    · have hpl : (rc + du (sq + k) rc) % 32 = (sq + k) % 32 := by unfold du; omega
      have Q0 := Q
      obtain ⟨Q1, Q2⟩ := Q
      rcases Q2 (du (sq + k) rc) (by omega) with ⟨r1, r2⟩ | ⟨r1, r2, b, r3, r4, r5⟩
      · rw [hpl] at r2
        rw [if_pos ⟨z, r2⟩] at hC
        rw [if_pos ⟨z, r1⟩] at hM
        have fv : ∀ p, p ≠ E + 6 → sv_up v (E + 6) ((sq + k) % 32) (nI (dt k)) p = v p := fun p hp => sv_up_off _ _ _ hp
        have fw : ∀ p, p ≠ 107 → p ≠ 108 → sv_up (sv_up w 107 (32 * s + du (sq + k) rc) 1) 108 (32 * s + du (sq + k) rc) (nI (dt k)) p = w p := fun p h1 h2 => by rw [sv_up_off _ _ _ h2, sv_up_off _ _ _ h1]
        have MM : MX s w (sv_up (sv_up w 107 (32 * s + du (sq + k) rc) 1) 108 (32 * s + du (sq + k) rc) (nI (dt k))) := by
          refine ⟨fun p i h1 _ _ _ _ hm => ?_, fun i _ _ _ => by rw [fw 75 (by omega) (by omega)]⟩
          rw [up_a, up_a, if_neg (fun y => by have := hm.2.1 (by omega); omega), if_neg (fun y => by have := hm.2.1 (by omega); omega)]
        obtain ⟨v', w', a1, a2, a3, a4, a5, a6⟩ := ih (k + 1) (m - 1) (sv_up v (E + 6) ((sq + k) % 32) (nI (dt k))) (sv_up (sv_up w 107 (32 * s + du (sq + k) rc) 1) 108 (32 * s + du (sq + k) rc) (nI (dt k))) (by omega) (by omega) (S0.keep (fv G (by omega)) (fv A (by omega)) (fun i h1 h2 => by rw [fw 75 (by omega) (by omega)])) (fun i hi => by rw [fw 114 (by omega) (by omega)]; exact h114 i hi) (by rw [fv (E + 4) (by omega), fw 105 (by omega) (by omega)]; exact q2) (by rw [fv (E + 4) (by omega), fw 99 (by omega) (by omega)]; exact q3) ⟨by rw [fv (E + 4) (by omega), fw 109 (by omega) (by omega)]; exact Q1, fun d hd => by
          by_cases y : d = du (sq + k) rc
          · refine Or.inr ⟨?_, by omega, dt k, (g6 k (by omega)).2, ?_, ?_⟩
            · rw [y, up_q (by omega), up_s]
            · rw [y, hpl, up_s]
            · rw [y, up_s]
          · have ne : (rc + d) % 32 ≠ (sq + k) % 32 := by omega
            rw [up_i ne, up_q (by omega), up_i (by omega), up_i (by omega), up_q (by omega)]
            exact Q2 d hd⟩
        refine ⟨v', w', ?_, ?_, a3, fun p hp => (a4 p hp).trans (fv p hp), fun p h1 h2 => (a5 p h1 h2).trans (fw p h1 h2), MM.tr a6⟩
        · rw [lp_s (by omega) hC]; exact a1
        · rw [lp_s (by omega) hM]; exact a2
      · rw [hpl] at r4
        rw [if_neg (fun y => by have e := y.2; rw [r4] at e; exact absurd e (nI_m1 (by omega)))] at hC
        rw [if_neg (fun y => by have e := y.2; rw [r1] at e; exact absurd e (by decide))] at hM
        obtain ⟨v', w', a1, a2, a3, a4, a5, a6⟩ := ih (k + 1) (m - 1) v w (by omega) (by omega) S0 h114 q2 q3 Q0
        refine ⟨v', w', ?_, ?_, a3, a4, a5, a6⟩
        · rw [lp_s (by omega) hC]; exact a1
        · rw [lp_s (by omega) hM]; exact a2
    · rw [if_neg (fun y => z y.1)] at hC hM
      obtain ⟨v', w', a1, a2, a3, a4, a5, a6⟩ := ih (k + 1) (m - 1) v w (by omega) (by omega) S0 h114 q2 q3 Q
      refine ⟨v', w', ?_, ?_, a3, a4, a5, a6⟩
      · rw [lp_s (by omega) hC]; exact a1
      · rw [lp_s (by omega) hM]; exact a2
