theorem lp_m {σ α : Type} {f : σ → Option (σ ⊕ α)} {n : Nat} {s : σ} {X : Option α} (hn : 0 < n) (h : f s = Option.map Sum.inr X) : sv_loop f n s = X := by
  obtain ⟨n', rfl⟩ : ∃ n', n = n' + 1 := ⟨n - 1, by omega⟩
  show (f s).bind _ = _
  rw [h]
  cases X <;> rfl
theorem nar01 {x : Int32} (h : x = 0 ∨ x = 1) : vp_nar .boolean x = x := by
  rcases h with rfl | rfl <;> decide
/-- the reference's rows moved down by one -/
def shf (w : sv_T) (s k : Nat) : sv_T := fun p i => if (p = 107 ∨ p = 108) ∧ 32 * s ≤ i ∧ i < 32 * s + k then w p (i + 1) else w p i
theorem shf_0 {w : sv_T} {s : Nat} : shf w s 0 = w := by
  funext p i
  exact if_neg fun z => by omega
theorem shf_s {w : sv_T} {s k : Nat} : sv_up (sv_up (shf w s k) 107 (32 * s + k) (w 107 (32 * s + k + 1))) 108 (32 * s + k) (w 108 (32 * s + k + 1)) = shf w s (k + 1) := by
  funext p i
  rw [up_a, up_a]
  unfold shf
  by_cases a : i = 32 * s + k
  · subst a
    by_cases b8 : p = 108
    · subst b8
      rw [if_pos ⟨rfl, rfl⟩, if_pos ⟨by omega, by omega, by omega⟩]
    · by_cases b7 : p = 107
      · subst b7
        rw [if_neg (by omega), if_pos ⟨rfl, rfl⟩, if_pos ⟨by omega, by omega, by omega⟩]
      · rw [if_neg (by omega), if_neg (by omega), if_neg (by omega), if_neg (by omega)]
  · rw [if_neg (by omega), if_neg (by omega)]
    by_cases c : (p = 107 ∨ p = 108) ∧ 32 * s ≤ i ∧ i < 32 * s + k
    · rw [if_pos c, if_pos ⟨c.1, by omega, by omega⟩]
    · rw [if_neg c, if_neg (by omega)]
theorem shf_off {w : sv_T} {s k p : Nat} (h1 : p ≠ 107) (h2 : p ≠ 108) : shf w s k p = w p := by
  funext i
  exact if_neg fun z => by omega
theorem shf_loop {w : sv_T} {s : Nat} (hs : s < 4) (h01 : ∀ d, d < 32 → w 107 (32 * s + d) = 0 ∨ w 107 (32 * s + d) = 1) : sv_loop (fun (t : Int32 × sv_T) => f_M_takes_l305 (nI s) t.1 (t.2)) 100000 (nI (32 * s), w) = some (shf w s 31) := by
  have key := lp_to (f := fun (t : Int32 × sv_T) => f_M_takes_l305 (nI s) t.1 (t.2)) (fun k => (nI (32 * s + k), shf w s k)) 31 (a := shf w s 31) (fun k hk => ?_) ?_ (n := 100000) (by omega)
  · rw [shf_0] at key
    exact key
  · show f_M_takes_l305 (nI s) (nI (32 * s + k)) (shf w s k) = _
    unfold f_M_takes_l305
    dsimp only [sv_ls, sv_le]
    have r : ∀ p, shf w s k p (32 * s + k + 1) = w p (32 * s + k + 1) := fun p => if_neg fun z => by omega
    rw [show (32 : Int32) = nI 32 from rfl, show (31 : Int32) = nI 31 from rfl, pk_mul, nI_add, if_lt (by omega) (by omega), if_pos (by omega), nI_1, ck_n (by omega) (by omega), ck_n (by omega) (by omega), ck_n (by omega) (by omega), ck_n (by omega) (by omega), nI_clamp (by omega), nI_clamp (by omega), r 107, nar01 (by have := h01 (k + 1) (by omega); rw [← Nat.add_assoc] at this; exact this), up_q (by omega), r 108, shf_s]
    rfl
  · show f_M_takes_l305 (nI s) (nI (32 * s + 31)) (shf w s 31) = _
    unfold f_M_takes_l305
    rw [show (32 : Int32) = nI 32 from rfl, show (31 : Int32) = nI 31 from rfl, pk_mul, nI_add, if_lt (by omega) (by omega), if_neg (by omega)]
/-- one kept byte goes IN, on both sides -/
theorem as_go {v w : sv_T} {h j E B s st ti ro tr ou fi un nx wi en ic rc i b : Nat} {ob ib : Nat → Nat} (hh : h ≤ 1) (hj : j ≤ 1) (hE : E = 25 + 33 * h + 7 * j) (hB : B = 9 + 33 * h) (hs : s = 2 * h + j) (K : SK v w E s st ti ro tr ou fi un nx wi en ic rc ob ib) (hic : ic < 24) (hrc : rc < 65536) (hi : i ≤ ic) (Q : KP v w E s rc ic) (r1 : w 107 (32 * s) = 1) (hb : b < 256) (r4 : v (E + 6) (rc % 32) = nI b) (r5 : w 108 (32 * s) = nI b) :
    ∃ v' w' ib', f_Rcv_advance_l2 (E + 4) (nI i) v = some (.inl (nI (i + 1), v')) ∧ f_M_takes_l236 (nI s) w = some (.inl w') ∧ SK v' w' E s st ti ro tr ou fi un nx wi en (ic + 1) ((rc + 1) % 65536) ob ib' ∧ KP v' w' E s ((rc + 1) % 65536) (ic + 1) ∧ (∀ p, p < E + 4 ∨ E + 6 < p → v' p = v p) ∧ (∀ p, p ≠ 99 → p ≠ 105 → p ≠ 106 → p ≠ 107 → p ≠ 108 → w' p = w p) ∧ MX s w w' := by
  obtain ⟨s1, s2, s3, s4, s5, s6, s7, s8, s9, s10, s11, s12, s13⟩ := sh_E hh hj hE hB
  have hs4 : s < 4 := by omega
  obtain ⟨k1, k2, k3, k4, k5, k6, k7, k8, k9, k10, k11, k12, k13, k14, k15⟩ := K
  obtain ⟨Q1, Q2⟩ := Q
  have e16 : (nI rc + 1) &&& 65535 = nI ((rc + 1) % 65536) := add16 (b := 1) (by omega) (by omega)
  have e31 : nI rc &&& (31 : Int32) = nI (rc % 32) := pk_andN (m := 31) (by omega) 5 (by decide)
  generalize hv3 : sv_up v (E + 5) ic (nI b) = v3
  generalize hv4 : sv_up v3 (E + 4) 2 (nI (ic + 1)) = v4
  generalize hv5 : sv_up v4 (E + 6) (rc % 32) (-1) = v5
  generalize hv6 : sv_up v5 (E + 4) 3 (nI ((rc + 1) % 65536)) = v6
  generalize hw1 : sv_up w 106 (32 * s + ic) (nI b) = w1
  generalize hw2 : sv_up w1 105 s (nI (ic + 1)) = w2
  generalize hw3 : sv_up w2 99 s (nI ((rc + 1) % 65536)) = w3
  generalize hw4 : sv_up (shf w3 s 31) 107 (32 * s + 31) 0 = w4
  have fv : ∀ p, p < E + 4 ∨ E + 6 < p → v6 p = v p := fun p hp => by
    rw [← hv6, ← hv5, ← hv4, ← hv3, sv_up_off _ _ _ (by omega), sv_up_off _ _ _ (by omega), sv_up_off _ _ _ (by omega), sv_up_off _ _ _ (by omega)]
  have f3 : ∀ p, p ≠ 99 → p ≠ 105 → p ≠ 106 → w3 p = w p := fun p h1 h2 h3 => by
    rw [← hw3, ← hw2, ← hw1, sv_up_off _ _ _ h1, sv_up_off _ _ _ h2, sv_up_off _ _ _ h3]
  have fw : ∀ p, p ≠ 99 → p ≠ 105 → p ≠ 106 → p ≠ 107 → p ≠ 108 → w4 p = w p := fun p h1 h2 h3 h4 h5 => by
    rw [← hw4, sv_up_off _ _ _ h4, shf_off h4 h5, f3 p h1 h2 h3]
  have g3 : ∀ p, p ≠ 107 → p ≠ 108 → w4 p = w3 p := fun p h1 h2 => by
    rw [← hw4, sv_up_off _ _ _ h1, shf_off h1 h2]
  refine ⟨v6, w4, fun i => if i = ic then b else ib i, ?_, ?_, ⟨?_, ?_, ?_, ?_, ?_, ?_, ?_, ?_, ?_, ?_, ?_, ?_, ?_, fun x hx => ?_, fun x hx => ?_⟩, ⟨?_, fun d hd => ?_⟩, fv, fw, ⟨fun p x h1 _ _ _ _ hm => ?_, fun x _ _ _ => ?_⟩⟩
  · unfold f_Rcv_advance_l2
    simp only [sv_ls, sv_le, s8, s9, k11.1, k12.1, e31]
    rw [show (24 : Int32) = nI 24 from rfl, if_lt (by omega) (by omega), if_pos (by omega), if_lt (by omega) (by omega), if_pos (by omega), ck_n (by omega) (by omega), nI_clamp (by omega), r4, if_neg (nI_m1 (by omega)), ck_n (by omega) (by omega), ck_n (by omega) (by omega), nI_clamp (by omega), ck_n (by omega) (by omega), hv3, show v3 (E + 4) 2 = nI ic by rw [← hv3, up_q (by omega)]; exact k11.1, nI_1 ic, hv4, hv5, show v5 (E + 4) 3 = nI rc by rw [← hv5, ← hv4, ← hv3, up_q (by omega), up_i (by omega), up_q (by omega)]; exact k12.1, e16, hv6, nI_1]
  · unfold f_M_takes_l236
    simp only [sv_ls, sv_le]
    rw [show (32 : Int32) = nI 32 from rfl, pk_mul, ck_n (by omega) (by omega), nI_clamp (by omega), r1, if_neg (by decide)]
    simp only [ck_n hs4 (show 4 < 2 ^ 31 by omega), nI_clamp (show s < 2 ^ 31 by omega), k11.2, nI_add]
    rw [ck_n (by omega) (by omega), ck_n (by omega) (by omega), nI_clamp (by omega), r5, hw1, show w1 105 s = nI ic by rw [← hw1, up_q (by omega)]; exact k11.2, nI_1, hw2, show w2 99 s = nI rc by rw [← hw2, ← hw1, up_q (by omega), up_q (by omega)]; exact k12.2, e16, hw3, shf_loop hs4 (fun d hd => by
      rw [f3 107 (by omega) (by omega) (by omega)]
      rcases Q2 d hd with ⟨q, _⟩ | ⟨q, _⟩
      · exact Or.inl q
      · exact Or.inr q)]
    unfold f_M_takes_x350
    simp only [sv_ls, Option.bind_some]
    rw [show (32 : Int32) = nI 32 from rfl, show (31 : Int32) = nI 31 from rfl, pk_mul, nI_add, ck_n (by omega) (by omega), nI_clamp (by omega), hw4]
  · rw [fv E (by omega), fw 95 (by omega) (by omega) (by omega) (by omega) (by omega)]; exact k1
  · rw [fv E (by omega), fw 110 (by omega) (by omega) (by omega) (by omega) (by omega)]; exact k2
  · rw [fv E (by omega), fw 111 (by omega) (by omega) (by omega) (by omega) (by omega)]; exact k3
  · rw [fv E (by omega), fw 112 (by omega) (by omega) (by omega) (by omega) (by omega)]; exact k4
  · rw [fv (E + 2) (by omega), fw 101 (by omega) (by omega) (by omega) (by omega) (by omega)]; exact k5
  · rw [fv (E + 2) (by omega), fw 96 (by omega) (by omega) (by omega) (by omega) (by omega)]; exact k6
  · rw [fv (E + 2) (by omega), fw 97 (by omega) (by omega) (by omega) (by omega) (by omega)]; exact k7
  · rw [fv (E + 2) (by omega), fw 98 (by omega) (by omega) (by omega) (by omega) (by omega)]; exact k8
  · rw [fv (E + 2) (by omega), fw 100 (by omega) (by omega) (by omega) (by omega) (by omega)]; exact k9
  · rw [fv (E + 2) (by omega), fw 103 (by omega) (by omega) (by omega) (by omega) (by omega)]; exact k10
  · rw [← hv6, ← hv5, ← hv4, up_i (by omega), up_q (by omega), up_s, g3 105 (by omega) (by omega), ← hw3, ← hw2, up_q (by omega), up_s]; exact ⟨rfl, rfl⟩
  · rw [← hv6, up_s, g3 99 (by omega) (by omega), ← hw3, up_s]; exact ⟨rfl, rfl⟩
  · rw [fw 104 (by omega) (by omega) (by omega) (by omega) (by omega)]; exact k13
  · rw [fv (E + 3) (by omega), fw 102 (by omega) (by omega) (by omega) (by omega) (by omega)]; exact k14 x hx
  · have e1 : v6 (E + 5) x = if x = ic then nI b else v (E + 5) x := by
      rw [← hv6, ← hv5, ← hv4, ← hv3, up_q (by omega), up_q (by omega), up_q (by omega), up_a]
      by_cases z : x = ic
      · rw [if_pos ⟨rfl, z⟩, if_pos z]
      · rw [if_neg (fun y => z y.2), if_neg z]
    have e2 : w4 106 (32 * s + x) = if x = ic then nI b else w 106 (32 * s + x) := by
      rw [g3 106 (by omega) (by omega), ← hw3, ← hw2, ← hw1, up_q (by omega), up_q (by omega), up_a]
      by_cases z : x = ic
      · rw [if_pos ⟨rfl, by omega⟩, if_pos z]
      · rw [if_neg (by omega), if_neg z]
    rw [e1, e2]
    dsimp only
    by_cases z : x = ic
    · simp only [if_pos z]
      exact ⟨trivial, trivial, hb⟩
    · simp only [if_neg z]
      exact k15 x (by omega)
  · rw [fw 109 (by omega) (by omega) (by omega) (by omega) (by omega), ← hv6, ← hv5, ← hv4, ← hv3, up_i (by omega), up_q (by omega), up_i (by omega), up_q (by omega)]
    exact Q1
  · have e6 : ∀ x, v6 (E + 6) x = if x = rc % 32 then -1 else v (E + 6) x := fun x => by
      rw [← hv6, ← hv5, up_q (by omega), up_a, ← hv4, ← hv3, up_q (by omega), up_q (by omega)]
      by_cases z : x = rc % 32
      · rw [if_pos ⟨rfl, z⟩, if_pos z]
      · rw [if_neg (fun y => z y.2), if_neg z]
    by_cases z : d = 31
    · refine Or.inl ⟨?_, ?_⟩
      · rw [← hw4, z, up_s]
      · rw [e6, if_pos (by omega)]
    · have e7 : w4 107 (32 * s + d) = w 107 (32 * s + (d + 1)) := by
        rw [← hw4, up_i (by omega)]
        show (if _ then _ else _) = _
        rw [if_pos ⟨by omega, by omega, by omega⟩, f3 107 (by omega) (by omega) (by omega)]
        rfl
      have e8 : w4 108 (32 * s + d) = w 108 (32 * s + (d + 1)) := by
        rw [← hw4, up_q (by omega)]
        show (if _ then _ else _) = _
        rw [if_pos ⟨by omega, by omega, by omega⟩, f3 108 (by omega) (by omega) (by omega)]
        rfl
      have e9 : ((rc + 1) % 65536 + d) % 32 = (rc + (d + 1)) % 32 := by omega
      rw [e7, e8, e9, e6, if_neg (by omega)]
      rcases Q2 (d + 1) (by omega) with q | ⟨q1, q2, q3⟩
      · exact Or.inl q
      · exact Or.inr ⟨q1, by omega, q3⟩
  · by_cases z7 : p = 107 ∨ p = 108
    · have := hm.2.1 (by omega)
      rw [← hw4, up_a, if_neg (by omega)]
      show (if _ then _ else _) = _
      rw [if_neg (by omega), f3 p (by omega) (by omega) (by omega)]
    · rw [g3 p (by omega) (by omega), ← hw3, ← hw2, ← hw1, up_a, up_a, up_a]
      by_cases z6 : p = 106
      · have := hm.2.1 (by omega)
        rw [if_neg (by omega), if_neg (by omega), if_neg (by omega)]
      · by_cases z : p = 99 ∨ p = 105
        · have := hm.2.2 (by omega) (by omega) (by omega) (by omega) (by omega) (by omega)
          rw [if_neg (by omega), if_neg (by omega), if_neg (by omega)]
        · rw [if_neg (by omega), if_neg (by omega), if_neg (by omega)]
  · rw [fw 75 (by omega) (by omega) (by omega) (by omega) (by omega)]
/-- kept bytes go IN as far as there is no gap, on both sides -/
theorem ad_go {h j E B s st ti ro tr ou fi un nx wi en : Nat} {ob : Nat → Nat} (hh : h ≤ 1) (hj : j ≤ 1) (hE : E = 25 + 33 * h + 7 * j) (hB : B = 9 + 33 * h) (hs : s = 2 * h + j) : ∀ (n ic i m m' : Nat) (v w : sv_T) (rc : Nat) (ib : Nat → Nat), ic + n = 24 → i ≤ ic → n < m → n < m' → SK v w E s st ti ro tr ou fi un nx wi en ic rc ob ib → rc < 65536 → KP v w E s rc ic →
    ∃ v' w' ic' rc' ib', sv_loop (fun (t : Int32 × sv_T) => f_Rcv_advance_l2 (E + 4) t.1 (t.2)) m (nI i, v) = f_Rcv_advance_b89 (E + 4) v' ∧ sv_loop (fun (t : sv_T) => f_M_takes_l236 (nI s) t) m' w = some w' ∧ SK v' w' E s st ti ro tr ou fi un nx wi en ic' rc' ob ib' ∧ ic' ≤ 24 ∧ rc' < 65536 ∧ KP v' w' E s rc' ic' ∧ (∀ p, p < E + 4 ∨ E + 6 < p → v' p = v p) ∧ (∀ p, p ≠ 99 → p ≠ 105 → p ≠ 106 → p ≠ 107 → p ≠ 108 → w' p = w p) ∧ MX s w w' := by
  obtain ⟨s1, s2, s3, s4, s5, s6, s7, s8, s9, s10, s11, s12, s13⟩ := sh_E hh hj hE hB
  have hs4 : s < 4 := by omega
  have mz : ∀ w : sv_T, w 107 (32 * s) = 0 → f_M_takes_l236 (nI s) w = some (.inr w) := fun w e => by
    unfold f_M_takes_l236
    rw [show (32 : Int32) = nI 32 from rfl, pk_mul, ck_n (by omega) (by omega), nI_clamp (by omega), e, if_pos rfl]
  intro n
  induction n with
  | zero =>
    intro ic i m m' v w rc ib hn hi hm hm' K hrc Q
    have k11 := K.2.2.2.2.2.2.2.2.2.2.1
    have r : w 107 (32 * s) = 0 := by
      rcases Q.2 0 (by omega) with ⟨q, _⟩ | ⟨_, q, _⟩
      · exact q
      · omega
    refine ⟨v, w, ic, rc, ib, lp_m (by omega) ?_, lp_e (by omega) (mz w r), K, by omega, hrc, Q, fun _ _ => rfl, fun _ _ _ _ _ _ => rfl, MX.rf⟩
    show f_Rcv_advance_l2 (E + 4) (nI i) v = _
    unfold f_Rcv_advance_l2
    rw [k11.1, show (24 : Int32) = nI 24 from rfl, if_lt (by omega) (by omega), if_lt (by omega) (by omega), if_neg (show ¬ ic < 24 by omega)]
    by_cases z : i < 24
    · rw [if_pos z]
    · rw [if_neg z]
  | succ n ih =>
    intro ic i m m' v w rc ib hn hi hm hm' K hrc Q
    have k11 := K.2.2.2.2.2.2.2.2.2.2.1
    have k12 := K.2.2.2.2.2.2.2.2.2.2.2.1
    rcases Q.2 0 (by omega) with ⟨q1, q2⟩ | ⟨q1, q2, b, q3, q4, q5⟩
    · refine ⟨v, w, ic, rc, ib, lp_m (by omega) ?_, lp_e (by omega) (mz w q1), K, by omega, hrc, Q, fun _ _ => rfl, fun _ _ _ _ _ _ => rfl, MX.rf⟩
      show f_Rcv_advance_l2 (E + 4) (nI i) v = _
      unfold f_Rcv_advance_l2
      have e31 : nI rc &&& (31 : Int32) = nI (rc % 32) := pk_andN (m := 31) (by omega) 5 (by decide)
      simp only [sv_le, k11.1, k12.1, e31, s9]
      rw [show (24 : Int32) = nI 24 from rfl, if_lt (by omega) (by omega), if_lt (by omega) (by omega), if_pos (by omega), if_pos (by omega), ck_n (by omega) (by omega), nI_clamp (by omega), if_pos (show v (E + 6) (rc % 32) = -1 from q2)]
    · obtain ⟨v1, w1, ib1, a1, a2, a3, a4, a5, a6, a7⟩ := as_go hh hj hE hB hs K (by omega) hrc hi Q q1 q3 q4 q5
      obtain ⟨v', w', ic', rc', ib', b1, b2, b3, b4, b5, b6, b7, b8, b9⟩ := ih (ic + 1) (i + 1) (m - 1) (m' - 1) v1 w1 _ _ (by omega) (by omega) (by omega) (by omega) a3 (Nat.mod_lt _ (by omega)) a4
      refine ⟨v', w', ic', rc', ib', ?_, ?_, b3, b4, b5, b6, fun p hp => (b7 p hp).trans (a5 p hp), fun p h1 h2 h3 h4 h5 => (b8 p h1 h2 h3 h4 h5).trans (a6 p h1 h2 h3 h4 h5), a7.tr b9⟩
      · rw [lp_s (by omega) (show f_Rcv_advance_l2 (E + 4) (nI i) v = _ from a1)]; exact b1
      · rw [lp_s (by omega) (show f_M_takes_l236 (nI s) w = _ from a2)]; exact b2
