theorem PN.keep {h j E B : Nat} {w0 v w v1 w1 : sv_T} {ms : List MG} (P : PN h B w0 ms v w) (hh : h ≤ 1) (hj : j ≤ 1) (hE : E = 25 + 33 * h + 7 * j) (hB : B = 9 + 33 * h) (hv : ∀ p, p < E ∨ E + 6 < p → v1 p = v p) (hw : ∀ p, 76 ≤ p → p ≤ 85 → w1 p = w p) : PN h B w0 ms v1 w1 := by
  obtain ⟨p1, p2, p3, p4⟩ := P
  refine ⟨p1.keep (fun p hp => hv p (by omega)) (fun _ _ _ => rfl), ?_, p3.same (hv _ (by omega)) (hv _ (by omega)) (hv _ (by omega)), p4.keep hw⟩
  have := p2.app (ms' := []) (w'' := w1) hw
  rw [List.append_nil] at this
  exact this
/-- a stretch of a row is set to one value -/
def sv_fr (v : sv_T) (a lo n : Nat) (x : Int32) : sv_T := fun q i => if q = a ∧ lo ≤ i ∧ i < lo + n then x else v q i
theorem fr_in {v : sv_T} {a lo n i : Nat} {x : Int32} (h : lo ≤ i) (h2 : i < lo + n) : sv_fr v a lo n x a i = x := if_pos ⟨rfl, h, h2⟩
theorem fr_out {v : sv_T} {a lo n i : Nat} {x : Int32} (h : i < lo ∨ lo + n ≤ i) : sv_fr v a lo n x a i = v a i := if_neg fun z => by omega
theorem fr_q {v : sv_T} {a lo n q i : Nat} {x : Int32} (h : q ≠ a) : sv_fr v a lo n x q i = v q i := if_neg fun z => h z.1
theorem fr_off {v : sv_T} {a lo n q : Nat} {x : Int32} (h : q ≠ a) : sv_fr v a lo n x q = v q := by
  funext i
  exact fr_q h
theorem fr_0 {v : sv_T} {a lo : Nat} {x : Int32} : sv_fr v a lo 0 x = v := by
  funext q i
  exact if_neg fun z => by omega
theorem up_fr {v : sv_T} {a lo n : Nat} {x : Int32} : sv_up (sv_fr v a lo n x) a (lo + n) x = sv_fr v a lo (n + 1) x := by
  funext q i
  rw [up_a]
  unfold sv_fr
  by_cases h1 : q = a
  · by_cases h2 : i = lo + n
    · rw [if_pos ⟨h1, h2⟩, if_pos ⟨h1, by omega, by omega⟩]
    · rw [if_neg (fun z => h2 z.2)]
      by_cases h3 : lo ≤ i ∧ i < lo + n
      · rw [if_pos ⟨h1, h3⟩, if_pos ⟨h1, by omega, by omega⟩]
      · rw [if_neg (fun z => h3 z.2), if_neg (fun z => h3 ⟨z.2.1, by omega⟩)]
  · rw [if_neg (fun z => h1 z.1), if_neg (fun z => h1 z.1), if_neg (fun z => h1 z.1)]
theorem fill_go {v : sv_T} {a N : Nat} {x : Int32} (hN : sv_len (sg a) = N) (hl : N ≤ 1000) : f_Arrays_fill a x v = some (sv_fr v a 0 N x) := by
  have key := lp_to (f := fun (s : Int32 × sv_T) => f_Arrays_fill_l5 a x s.1 (nI N) (s.2)) (fun k => (nI k, sv_fr v a 0 k x)) N (a := sv_fr v a 0 N x) (fun k hk => ?_) ?_ (n := 100000) (by omega)
  · rw [fr_0] at key
    unfold f_Arrays_fill
    dsimp only [sv_le]
    rw [hN, show Int32.ofNat N = nI N from rfl, show ((0 : Int32), v) = (nI 0, v) from rfl, key]
    rfl
  · show f_Arrays_fill_l5 a x (nI k) (nI N) (sv_fr v a 0 k x) = _
    unfold f_Arrays_fill_l5
    dsimp only [sv_ls, sv_le]
    rw [if_lt (by omega) (by omega), if_pos hk, hN, ck_n (by omega) (by omega), nI_clamp (by omega), nI_1]
    have e := up_fr (v := v) (a := a) (lo := 0) (n := k) (x := x)
    rw [Nat.zero_add] at e
    rw [e]
  · show f_Arrays_fill_l5 a x (nI N) (nI N) (sv_fr v a 0 N x) = _
    unfold f_Arrays_fill_l5
    rw [if_lt (by omega) (by omega), if_neg (by omega)]
theorem mfr_loop {w : sv_T} {s : Nat} (hs : s < 4) : sv_loop (fun (t : Int32 × sv_T) => f_M_fresh_l68 (nI s) t.1 (t.2)) 100000 (nI (32 * s), w) = some (sv_fr w 107 (32 * s) 32 0) := by
  have key := lp_to (f := fun (t : Int32 × sv_T) => f_M_fresh_l68 (nI s) t.1 (t.2)) (fun k => (nI (32 * s + k), sv_fr w 107 (32 * s) k 0)) 32 (a := sv_fr w 107 (32 * s) 32 0) (fun k hk => ?_) ?_ (n := 100000) (by omega)
  · rw [fr_0] at key
    exact key
  · show f_M_fresh_l68 (nI s) (nI (32 * s + k)) (sv_fr w 107 (32 * s) k 0) = _
    unfold f_M_fresh_l68
    dsimp only [sv_ls, sv_le]
    rw [show (32 : Int32) = nI 32 from rfl, pk_mul, nI_add, if_lt (by omega) (by omega), if_pos (by omega), ck_n (by omega) (by omega), nI_clamp (by omega), nI_1, up_fr]
    rfl
  · show f_M_fresh_l68 (nI s) (nI (32 * s + 32)) (sv_fr w 107 (32 * s) 32 0) = _
    unfold f_M_fresh_l68
    rw [show (32 : Int32) = nI 32 from rfl, pk_mul, nI_add, if_lt (by omega) (by omega), if_neg (by omega)]
/-- what the reference's fresh leaves -/
theorem mfr_go {w : sv_T} {s : Nat} (hs : s < 4) : ∃ w', f_M_fresh (nI s) w = some w' ∧ w' 96 s = 0 ∧ w' 97 s = 0 ∧ w' 98 s = 0 ∧ w' 99 s = 0 ∧ w' 100 s = 0 ∧ w' 101 s = 0 ∧ w' 103 s = 0 ∧ w' 104 s = 0 ∧ w' 105 s = 0 ∧ (∀ d, d < 32 → w' 107 (32 * s + d) = 0) ∧ w' 109 s = -1 ∧ w' 110 s = 0 ∧ w' 111 s = 4 ∧ w' 112 s = 0 ∧ (∀ p i, MK s p i → w' p i = w p i) ∧ w' 95 = w 95 ∧ w' 102 = w 102 ∧ w' 106 = w 106 ∧ w' 108 = w 108 ∧ ∀ p, p < 95 ∨ 112 < p → w' p = w p := by
  unfold f_M_fresh
  dsimp only [sv_ls, sv_le]
  simp only [ck_n hs (show 4 < 2 ^ 31 by omega), nI_clamp (show s < 2 ^ 31 by omega)]
  rw [show (32 : Int32) = nI 32 from rfl, pk_mul, mfr_loop hs]
  simp only [Option.bind, f_M_fresh_x92, sv_ls, ck_n hs (show 4 < 2 ^ 31 by omega), nI_clamp (show s < 2 ^ 31 by omega)]
  refine ⟨_, rfl, ?_, ?_, ?_, ?_, ?_, ?_, ?_, ?_, ?_, fun d hd => ?_, ?_, ?_, ?_, ?_, fun p i hm => ?_, ?_, ?_, ?_, ?_, fun p hp => ?_⟩
  · simp [up_a, fr_q]
  · simp [up_a, fr_q]
  · simp [up_a, fr_q]
  · simp [up_a, fr_q]
  · simp [up_a, fr_q]
  · simp [up_a, fr_q]
  · simp [up_a, fr_q]
  · simp [up_a, fr_q]
  · simp [up_a, fr_q]
  · rw [up_q (by decide), up_q (by decide), up_q (by decide), up_q (by decide), fr_in (by omega) (by omega)]
  · simp [up_a]
  · simp [up_a]
  · simp [up_a]
  · simp [up_a]
  · obtain ⟨h1, h2, h3⟩ := hm
    by_cases z : 95 ≤ p ∧ p ≤ 112
    · by_cases z7 : p = 107
      · subst z7
        rw [up_q (by decide), up_q (by decide), up_q (by decide), up_q (by decide), fr_out (h2 (by omega))]
        simp [up_a]
      · rw [up_a, up_a, up_a, up_a, fr_q z7]
        by_cases z8 : p = 102 ∨ p = 106 ∨ p = 108
        · rcases z8 with rfl | rfl | rfl <;> simp [up_a]
        · have hi := h3 z.1 z.2 (by omega) (by omega) z7 (by omega)
          simp [up_a, hi]
    · rw [up_q (by omega), up_q (by omega), up_q (by omega), up_q (by omega), fr_q (by omega), up_q (by omega), up_q (by omega), up_q (by omega), up_q (by omega), up_q (by omega), up_q (by omega), up_q (by omega), up_q (by omega), up_q (by omega)]
  · simp only [sv_up_off _ _ _ (show 95 ≠ 96 by decide), sv_up_off _ _ _ (show 95 ≠ 97 by decide), sv_up_off _ _ _ (show 95 ≠ 98 by decide), sv_up_off _ _ _ (show 95 ≠ 99 by decide), sv_up_off _ _ _ (show 95 ≠ 100 by decide), sv_up_off _ _ _ (show 95 ≠ 101 by decide), sv_up_off _ _ _ (show 95 ≠ 103 by decide), sv_up_off _ _ _ (show 95 ≠ 104 by decide), sv_up_off _ _ _ (show 95 ≠ 105 by decide), sv_up_off _ _ _ (show 95 ≠ 109 by decide), sv_up_off _ _ _ (show 95 ≠ 110 by decide), sv_up_off _ _ _ (show 95 ≠ 111 by decide), sv_up_off _ _ _ (show 95 ≠ 112 by decide), fr_off (show 95 ≠ 107 by decide)]
  · simp only [sv_up_off _ _ _ (show 102 ≠ 96 by decide), sv_up_off _ _ _ (show 102 ≠ 97 by decide), sv_up_off _ _ _ (show 102 ≠ 98 by decide), sv_up_off _ _ _ (show 102 ≠ 99 by decide), sv_up_off _ _ _ (show 102 ≠ 100 by decide), sv_up_off _ _ _ (show 102 ≠ 101 by decide), sv_up_off _ _ _ (show 102 ≠ 103 by decide), sv_up_off _ _ _ (show 102 ≠ 104 by decide), sv_up_off _ _ _ (show 102 ≠ 105 by decide), sv_up_off _ _ _ (show 102 ≠ 109 by decide), sv_up_off _ _ _ (show 102 ≠ 110 by decide), sv_up_off _ _ _ (show 102 ≠ 111 by decide), sv_up_off _ _ _ (show 102 ≠ 112 by decide), fr_off (show 102 ≠ 107 by decide)]
  · simp only [sv_up_off _ _ _ (show 106 ≠ 96 by decide), sv_up_off _ _ _ (show 106 ≠ 97 by decide), sv_up_off _ _ _ (show 106 ≠ 98 by decide), sv_up_off _ _ _ (show 106 ≠ 99 by decide), sv_up_off _ _ _ (show 106 ≠ 100 by decide), sv_up_off _ _ _ (show 106 ≠ 101 by decide), sv_up_off _ _ _ (show 106 ≠ 103 by decide), sv_up_off _ _ _ (show 106 ≠ 104 by decide), sv_up_off _ _ _ (show 106 ≠ 105 by decide), sv_up_off _ _ _ (show 106 ≠ 109 by decide), sv_up_off _ _ _ (show 106 ≠ 110 by decide), sv_up_off _ _ _ (show 106 ≠ 111 by decide), sv_up_off _ _ _ (show 106 ≠ 112 by decide), fr_off (show 106 ≠ 107 by decide)]
  · simp only [sv_up_off _ _ _ (show 108 ≠ 96 by decide), sv_up_off _ _ _ (show 108 ≠ 97 by decide), sv_up_off _ _ _ (show 108 ≠ 98 by decide), sv_up_off _ _ _ (show 108 ≠ 99 by decide), sv_up_off _ _ _ (show 108 ≠ 100 by decide), sv_up_off _ _ _ (show 108 ≠ 101 by decide), sv_up_off _ _ _ (show 108 ≠ 103 by decide), sv_up_off _ _ _ (show 108 ≠ 104 by decide), sv_up_off _ _ _ (show 108 ≠ 105 by decide), sv_up_off _ _ _ (show 108 ≠ 109 by decide), sv_up_off _ _ _ (show 108 ≠ 110 by decide), sv_up_off _ _ _ (show 108 ≠ 111 by decide), sv_up_off _ _ _ (show 108 ≠ 112 by decide), fr_off (show 108 ≠ 107 by decide)]
  · rw [sv_up_off _ _ _ (by omega), sv_up_off _ _ _ (by omega), sv_up_off _ _ _ (by omega), sv_up_off _ _ _ (by omega), fr_off (by omega), sv_up_off _ _ _ (by omega), sv_up_off _ _ _ (by omega), sv_up_off _ _ _ (by omega), sv_up_off _ _ _ (by omega), sv_up_off _ _ _ (by omega), sv_up_off _ _ _ (by omega), sv_up_off _ _ _ (by omega), sv_up_off _ _ _ (by omega), sv_up_off _ _ _ (by omega)]
/-- the fresh numbers -/
theorem IV.fresh {st : Nat} (h : st ≤ 1) : IV st 0 4 0 0 0 0 0 0 0 0 0 := by
  refine ⟨⟨by omega, by omega, by omega, by omega, by omega, by omega, by omega, by omega, by omega, by omega, by omega, by omega, by omega⟩, fun _ => ⟨rfl, rfl, rfl, rfl, rfl, rfl, rfl, rfl, rfl, rfl, rfl⟩, fun z => by omega, fun z => by omega, fun z => by omega, fun z => by omega⟩
/-- a socket is shut -/
theorem sh_go {v w : sv_T} {h j E B s : Nat} (hh : h ≤ 1) (hj : j ≤ 1) (hE : E = 25 + 33 * h + 7 * j) (hB : B = 9 + 33 * h) (hs : s = 2 * h + j) : ∃ v' w', f_Ep_shut E v = some v' ∧ f_M_closes (nI s) w = some w' ∧ (SK v' w' E s 0 0 4 0 0 0 0 0 0 0 0 0 (fun _ => 0) (fun _ => 0) ∧ KE v' w' E s) ∧ (∀ p, p < E ∨ E + 6 < p → v' p = v p) ∧ MX s w w' ∧ (∀ p, p < 95 ∨ 112 < p → w' p = w p) := by
  obtain ⟨s1, s2, s3, s4, s5, s6, s7, s8, s9, s10, s11, s12, s13⟩ := sh_E hh hj hE hB
  have hs4 : s < 4 := by omega
  obtain ⟨w', f0, f1, f2, f3, f4, f5, f6, f7, f8, f9, f10, f11, f12, f13, f14, f15, f16, f17, f18, f19, f20⟩ := mfr_go (w := sv_up w 95 s 0) hs4
  generalize hv1 : sv_up (sv_up (sv_up (sv_up (sv_up (sv_up (sv_fr (sv_up (sv_up (sv_up (sv_up (sv_up (sv_up (sv_up v E 6 0) (E + 2) 1 0) (E + 2) 2 0) (E + 2) 3 0) (E + 2) 4 0) (E + 2) 5 0) (E + 2) 6 0) (E + 6) 0 32 (-1)) (E + 4) 2 0) (E + 4) 3 0) (E + 4) 4 (-1)) E 7 0) E 8 4) E 9 0 = v1
  have n1 : E ≠ E + 2 := by omega
  have n2 : E ≠ E + 4 := by omega
  have n3 : E ≠ E + 6 := by omega
  have n4 : E + 2 ≠ E := by omega
  have n5 : E + 2 ≠ E + 4 := by omega
  have n6 : E + 2 ≠ E + 6 := by omega
  have n7 : E + 4 ≠ E := by omega
  have n8 : E + 4 ≠ E + 6 := by omega
  have n9 : E + 4 ≠ E + 2 := by omega
  have n10 : E + 6 ≠ E := by omega
  have n11 : E + 6 ≠ E + 4 := by omega
  refine ⟨v1, w', ?_, ?_, ⟨⟨⟨?_, ?_⟩, ⟨?_, f12⟩, ⟨?_, f13⟩, ⟨?_, f14⟩, ⟨?_, f6⟩, ⟨?_, f1⟩, ⟨?_, f2⟩, ⟨?_, f3⟩, ⟨?_, f5⟩, ⟨?_, f7⟩, ⟨?_, f9⟩, ⟨?_, f4⟩, f8, fun i hi => absurd hi (by omega), fun i hi => absurd hi (by omega)⟩, ?_, f11, fun d hd => ⟨f10 d hd, ?_⟩⟩, fun p hp => ?_, ⟨fun p i h1 h2 h3 h4 h5 hm => ?_, fun i _ _ _ => ?_⟩, fun p hp => ?_⟩
  · unfold f_Ep_shut f_Snd_clear f_Rcv_clear
    dsimp only [sv_ls, sv_bv, Option.bind]
    rw [s5, s6, s9, fill_go s13 (by omega)]
    dsimp only [Option.bind]
    rw [← hv1]
  · unfold f_M_closes
    dsimp only [sv_ls, sv_bv, Option.bind]
    rw [ck_n hs4 (by omega), nI_clamp (by omega), f0]
  · rw [← hv1]; simp [up_a, fr_q n3, n1, n2]; rfl
  · rw [f16]; exact up_s
  · rw [← hv1]; simp [up_a]; rfl
  · rw [← hv1]; simp [up_a]; rfl
  · rw [← hv1]; simp [up_a]; rfl
  · rw [← hv1]; simp [up_a, fr_q n6, n4, n5]; rfl
  · rw [← hv1]; simp [up_a, fr_q n6, n4, n5]; rfl
  · rw [← hv1]; simp [up_a, fr_q n6, n4, n5]; rfl
  · rw [← hv1]; simp [up_a, fr_q n6, n4, n5]; rfl
  · rw [← hv1]; simp [up_a, fr_q n6, n4, n5]; rfl
  · rw [← hv1]; simp [up_a, fr_q n6, n4, n5]; rfl
  · rw [← hv1]; simp [up_a, n7]; rfl
  · rw [← hv1]; simp [up_a, n7]; rfl
  · rw [← hv1]; simp [up_a, n7]
  · rw [← hv1, up_q n10, up_q n10, up_q n10, up_q n11, up_q n11, up_q n11, fr_in (by omega) (by omega)]
  · rw [← hv1, sv_up_off _ _ _ (by omega), sv_up_off _ _ _ (by omega), sv_up_off _ _ _ (by omega), sv_up_off _ _ _ (by omega), sv_up_off _ _ _ (by omega), sv_up_off _ _ _ (by omega), fr_off (by omega), sv_up_off _ _ _ (by omega), sv_up_off _ _ _ (by omega), sv_up_off _ _ _ (by omega), sv_up_off _ _ _ (by omega), sv_up_off _ _ _ (by omega), sv_up_off _ _ _ (by omega), sv_up_off _ _ _ (by omega)]
  · rw [f15 p i hm]
    by_cases z : p = 95
    · subst z
      exact up_i (hm.2.2 (by omega) (by omega) (by omega) (by omega) (by omega) (by omega))
    · exact up_q z
  · rw [f20 75 (by omega)]
    exact up_q (by decide)
  · rw [f20 p hp, sv_up_off _ _ _ (by omega)]
