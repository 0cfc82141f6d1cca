theorem HR.me {v w w' : sv_T} (H : HR v w) (M : ME w w') : HR v w' := by
  obtain ⟨a1, a2, a3, a4⟩ := H
  refine ⟨fun h j x y => (a1 h j x y).same (fun _ _ => rfl) (fun p z t => M.1 p (by omega) (by omega) (by omega) (by omega) (by omega)), fun h k x y => (a2 h k x y).same rfl rfl (fun p z t => by rw [M.1 p (by omega) (by omega) (by omega) (by omega) (by omega)]) (fun i _ => by rw [M.1 93 (by omega) (by omega) (by omega) (by omega) (by omega), M.1 94 (by omega) (by omega) (by omega) (by omega) (by omega)]; exact ⟨rfl, rfl⟩), fun h x => ?_, ?_⟩
  · rw [M.1 86 (by omega) (by omega) (by omega) (by omega) (by omega), M.1 87 (by omega) (by omega) (by omega) (by omega) (by omega)]
    exact a3 h x
  · rw [M.2 0 (by omega) (by omega) (by omega)]
    exact a4
theorem ME.ho {w w' : sv_T} (M : ME w w') : HO w w' := fun p hp => M.1 p (by omega) (by omega) (by omega) (by omega) (by omega)
def ec_g (f : Nat → Nat) : Nat → Nat := fun i => if i = 2 ∨ i = 3 then 0 else f i
def ec_c (n : Nat) (f : Nat → Nat) : Nat := 65535 - ck_r (ck_s (ec_g f) n)
def ec_m (n : Nat) (f : Nat → Nat) : MG := (1, n, fun i => if i = 2 then ec_c n f / 256 else if i = 3 then ec_c n f % 256 else f i)
set_option maxHeartbeats 2000000 in
/-- an echo goes, on both sides -/
theorem HI.echo {h B n : Nat} {w0 v w : sv_T} {ms : List MG} {f : Nat → Nat} (hh : h ≤ 1) (hB : B = 9 + 33 * h) (H : HI h w0 ms v w) (hl : ms.length < 8) (hn : 5 ≤ n) (hn2 : n ≤ 48) (hf : ∀ i, i < n → f i < 256) (hv : ∀ i, i < n → i ≠ 2 → i ≠ 3 → v (B + 32) (1 + i) = nI (f i)) (h41 : w 75 41 = nI n) (hw : ∀ i, i < n → i ≠ 0 → i ≠ 2 → i ≠ 3 → w 114 i = nI (f i)) :
    ∃ v' w' m, f_Host_leaveEcho B (nI n) v = some v' ∧ f_M_sendEcho (nI h) (nI (f 0)) w = some w' ∧ HI h w0 (ms ++ [m]) v' w' ∧ LO v v' ∧ HO w w' := by
  obtain ⟨s1, s2, s3, s4, s5, s6, s7, s8, s9, s10, s11, s12, s13, s14, s15, s16⟩ := sh_H hh hB
  obtain ⟨⟨p1, p2, p3, p4⟩, H2, H3⟩ := H
  rw [← hB] at p3
  have hc : ec_c n f ≤ 65535 := by unfold ec_c; omega
  have hg : ∀ i, i < n → ec_g f i < 256 := fun i hi => by
    unfold ec_g
    split
    · omega
    · exact hf i hi
  generalize hv1 : sv_up (sv_up (sv_up v (B + 32) 0 (nI 1)) (B + 32) 3 (nI (0 / 256 % 256))) (B + 32) (3 + 1) (nI (0 % 256)) = v1
  have k1 : ∀ p, p ≠ B + 32 → v1 p = v p := fun p hp => by
    rw [← hv1]
    simp only [sv_up_off _ _ _ hp]
  have e1 : ∀ i, i < n → v1 (B + 32) (1 + i) = nI (ec_g f i) := fun i hi => by
    rw [← hv1]
    unfold ec_g
    by_cases z3 : i = 3
    · subst z3
      rw [up_s]; rfl
    · rw [up_i (by omega)]
      by_cases z2 : i = 2
      · subst z2
        rw [up_s]; rfl
      · rw [up_i (by omega), up_i (by omega), if_neg (by omega)]
        exact hv i hi z2 z3
  have hck := cc_check (st := 0) (a := B + 32) (from0 := 1) (n := n) (v := v1) (f := ec_g f) (by omega) (by omega) (by omega) e1 hg
  rw [Nat.zero_add] at hck
  generalize hv3 : sv_up (sv_up v1 (B + 32) 3 (nI (ec_c n f / 256 % 256))) (B + 32) (3 + 1) (nI (ec_c n f % 256)) = v3
  have k3 : ∀ p, p ≠ B + 32 → v3 p = v p := fun p hp => by
    rw [← hv3, sv_up_off _ _ _ hp, sv_up_off _ _ _ hp, k1 p hp]
  have hok : MGok (ec_m n f) := by
    refine ⟨by show 1 < 256; omega, hn2, fun i hi => ?_⟩
    show (if i = 2 then ec_c n f / 256 else if i = 3 then ec_c n f % 256 else f i) < 256
    split
    · omega
    · split
      · omega
      · exact hf i hi
  obtain ⟨v', f1, f2, f3⟩ := OB.add (m := ec_m n f) (a := B + 32) (n := 1 + n) (v1 := v3) s12 p3 hl hok rfl (by omega) (by omega) (by omega) (by omega) (by omega) (k3 _ (by omega)) (k3 _ (by omega)) (k3 _ (by omega)) (by
    rw [← hv3, up_i (by decide), up_i (by decide), ← hv1, up_i (by decide), up_i (by decide), up_s]
    rfl) (fun i hi => by
    have hi' : i < n := hi
    show v3 (B + 32) (1 + i) = nI (if i = 2 then ec_c n f / 256 else if i = 3 then ec_c n f % 256 else f i)
    rw [← hv3]
    by_cases z3 : i = 3
    · subst z3
      rw [up_s]; rfl
    · rw [up_i (by omega), if_neg z3]
      by_cases z2 : i = 2
      · subst z2
        rw [up_s, if_pos rfl, show ec_c n f / 256 % 256 = ec_c n f / 256 by omega]
      · rw [up_i (by omega), if_neg z2, e1 i hi']
        unfold ec_g
        rw [if_neg (by omega)])
  -- the reference
  generalize hw1 : sv_up (sv_up (sv_up w 114 0 (nI (f 0))) 114 2 (nI 0)) 114 3 (nI 0) = w1
  have m1 : ∀ p, p ≠ 114 → w1 p = w p := fun p hp => by
    rw [← hw1]
    simp only [sv_up_off _ _ _ hp]
  have d1 : ∀ i, i < n → w1 114 i = nI (ec_g f i) := fun i hi => by
    rw [← hw1]
    unfold ec_g
    by_cases z3 : i = 3
    · subst z3
      rw [up_s]; rfl
    · rw [up_i z3]
      by_cases z2 : i = 2
      · subst z2
        rw [up_s]; rfl
      · rw [up_i z2, if_neg (by omega)]
        by_cases z0 : i = 0
        · subst z0
          rw [up_s]
        · rw [up_i z0]
          exact hw i hi z0 z2 z3
  have hcp := mc_go (w := w1) (a := 114) (n := n) (by omega) (by show n ≤ 64; omega) (by decide) (by decide)
  generalize hw2 : sv_up (sv_cp w1 114 0 115 0 n) 75 43 (nI n) = w2 at hcp
  have m2 : ∀ p, p ≠ 114 → p ≠ 115 → p ≠ 75 → w2 p = w p := fun p h1 h2 h3 => by
    rw [← hw2, sv_up_off _ _ _ h3, cp_off h2, m1 p h1]
  have m2b : w2 114 = w1 114 := by
    rw [← hw2, sv_up_off _ _ _ (by decide), cp_off (by decide)]
  have m2c : ∀ i, i ≠ 43 → w2 75 i = w 75 i := fun i hi => by
    rw [← hw2, up_i hi, cp_q (by decide), m1 75 (by decide)]
  have hmk := cm_check (w := w2) (n := n) (f := ec_g f) (by omega) (by rw [← hw2, up_s]) (fun i hi => by
    have e := cp_in (v := w1) (q := 114) (sp := 0) (q1 := 115) (dp := 0) (n := n) (i := i) hi
    rw [Nat.zero_add] at e
    rw [← hw2, up_q (by decide), e]
    exact d1 i hi) hg
  generalize hw3 : sv_up (sv_up w2 114 2 (nI (ec_c n f / 256))) 114 3 (nI (ec_c n f % 256)) = w3
  have m3 : ∀ p, p ≠ 114 → w3 p = w2 p := fun p hp => by
    rw [← hw3, sv_up_off _ _ _ hp, sv_up_off _ _ _ hp]
  have M3 : MGat w3 (ec_m n f) := by
    refine ⟨?_, fun i hi => ?_⟩
    · rw [m3 75 (by decide), m2c 41 (by decide)]
      exact h41
    · show w3 114 i = nI (if i = 2 then ec_c n f / 256 else if i = 3 then ec_c n f % 256 else f i)
      rw [← hw3]
      by_cases z3 : i = 3
      · subst z3
        rw [up_s]; rfl
      · rw [up_i z3, if_neg z3]
        by_cases z2 : i = 2
        · subst z2
          rw [up_s, if_pos rfl]
        · rw [up_i z2, if_neg z2, m2b, d1 i hi]
          unfold ec_g
          rw [if_neg (by omega)]
  have kl : ∀ p, 76 ≤ p → p ≤ 85 → w3 p = w p := fun p h1 h2 => by
    rw [m3 p (by omega), m2 p (by omega) (by omega) (by omega)]
  obtain ⟨w5, g1, g2, g3⟩ := ms_ok hh (p4.keep kl) M3 hok
  have hME : ME w w5 := by
    refine ⟨fun p h1 h2 h3 h4 h5 => ?_, fun i h1 h2 h3 => ?_⟩
    · by_cases z : p = 75
      · omega
      · rw [g3.1 p h1 h2 h4 h5, m3 p h3, m2 p h3 h4 z]
    · rw [g3.2 i h1 h3, m3 75 (by decide), m2c i h3]
  have hCS : CS h v v' := ⟨fun p q1 q2 q3 q4 q5 => by rw [f3 p (by omega) (by omega) (by omega), k3 p (by omega)], fun i _ => by rw [f3 _ (by omega) (by omega) (by omega), k3 _ (by omega)]⟩
  refine ⟨v', w5, ec_m n f, ?_, ?_, ⟨⟨p1.keep (fun p hp => by rw [f3 p (by omega) (by omega) (by omega), k3 p (by omega)]) (fun _ _ _ => rfl), p2.app ⟨w3, w5, kl, M3, g1, fun _ _ _ => rfl⟩, by rw [← hB]; exact f2, g2⟩, (H2.cs hh hCS).me hME, H3.same (by rw [f3 _ (by omega) (by omega) (by omega), k3 _ (by omega)]) (by rw [f3 _ (by omega) (by omega) (by omega), k3 _ (by omega)]) (by rw [f3 _ (by omega) (by omega) (by omega), k3 _ (by omega)])⟩, hCS.lo hh, hME.ho⟩
  · unfold f_Host_leaveEcho
    dsimp only [sv_ls]
    rw [s11, s7, show (3 : Int32) = nI 3 from rfl, show (0 : Int32) = nI 0 from rfl, show (1 : Int32) = nI 1 from rfl, pp_go (by omega) (by omega) (by omega), hv1]
    simp only [sv_bv, Option.bind_some]
    rw [hck]
    simp only [sv_bi, Option.bind_some]
    rw [show 65535 - ck_r (ck_s (ec_g f) n) = ec_c n f from rfl, pp_go (by omega) (by omega) (by omega), hv3]
    simp only [Option.bind_some]
    rw [nI_add, f1]
    rfl
  · unfold f_M_sendEcho
    dsimp only [sv_ls]
    rw [show (0 : Int32) = nI 0 from rfl, hw1, m1 75 (by decide), h41, hcp]
    simp only [sv_bv, Option.bind_some]
    rw [hmk]
    simp only [sv_bi, Option.bind_some]
    rw [show 65535 - ck_r (ck_s (ec_g f) n) = ec_c n f from rfl, show nI (ec_c n f) / 256 = nI (ec_c n f / 256) from pk_div (d := 256) (by omega) (by omega) (by omega), show sv_rem (nI (ec_c n f)) 256 = nI (ec_c n f % 256) from pk_rem (d := 256) (by omega) (by omega) (by omega), hw3]
    rw [show (1 : Int32) = nI 1 from rfl]
    have g1' : f_M_sends (nI h) (nI 1) w3 = some w5 := g1
    rw [g1']
    rfl
