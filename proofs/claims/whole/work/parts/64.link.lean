-- the wire and a host's line, of class (v) and reference (w), are the same
def WR (v w : sv_T) (g q : Nat) : Prop := ∃ (c : Nat) (sz : Nat → Nat) (bs : Nat → Nat → Nat), RC v q 37 c sz bs ∧ RF w g c sz bs ∧ RB 37 c sz bs ∧ c ≤ 16 ∧ ∀ k, k < c → 3 ≤ sz k
def LN (v w : sv_T) (h q : Nat) : Prop := ∃ (c : Nat) (sz : Nat → Nat) (bs : Nat → Nat → Nat), RC v q 34 c sz bs ∧ RL w h c sz bs ∧ RB 34 c sz bs ∧ c ≤ 4 ∧ ∀ k, k < c → 0 < sz k ∧ bs k 0 = sz k
/-- a field of both sides that holds the same number below N -/
def EQ (x y : Int32) (N : Nat) : Prop := ∃ n : Nat, n < N ∧ x = nI n ∧ y = nI n
theorem EQ.eq {x y : Int32} {N : Nat} (h : EQ x y N) : x = y := by
  obtain ⟨n, _, h1, h2⟩ := h
  rw [h1, h2]
theorem EQ.of {n N : Nat} (h : n < N) : EQ (nI n) (nI n) N := ⟨n, h, rfl, rfl⟩
theorem RB.wide {wd wd' c : Nat} {sz : Nat → Nat} {bs : Nat → Nat → Nat} (h : RB wd c sz bs) (hw : wd ≤ wd') : RB wd' c sz bs := fun k hk => ⟨Nat.le_trans (h k hk).1 hw, (h k hk).2⟩
theorem WR.frame {v v' w w' : sv_T} {g q : Nat} (h : WR v w g q) (h1 : v' q = v q) (h2 : v' (q + 1) = v (q + 1)) (h3 : v' (q + 2) = v (q + 2)) (h4 : w' 76 = w 76) (h5 : w' 77 = w 77) (h6 : w' 78 = w 78) : WR v' w' g q := by
  obtain ⟨c, sz, bs, a1, a2, a3, a4⟩ := h
  refine ⟨c, sz, bs, a1.same h1 h2 h3, ?_, a3, a4⟩
  unfold RF
  rw [h4, h5, h6]
  exact a2
theorem LN.frame {v v' w w' : sv_T} {h q : Nat} (H : LN v w h q) (h1 : v' q = v q) (h2 : v' (q + 1) = v (q + 1)) (h3 : v' (q + 2) = v (q + 2)) (h4 : w' 79 = w 79) (h5 : w' 80 = w 80) (h6 : w' 81 = w 81) : LN v' w' h q := by
  obtain ⟨c, sz, bs, a1, a2, a3, a4⟩ := H
  refine ⟨c, sz, bs, a1.same h1 h2 h3, ?_, a3, a4⟩
  unfold RL
  rw [h4, h5, h6]
  exact a2
/-- the shape of host h's link (B its host's place, q the way out) -/
theorem sh_L {h B q : Nat} (hh : h ≤ 1) (hB : B = 9 + 33 * h) (hq : q = 4 - 3 * h) : sv_int (sg (B + 5)) 0 = nI h ∧ sv_ref (sg (B + 5)) 1 = q ∧ sv_ref (sg (B + 5)) 2 = B + 6 ∧ sv_ref (sg (B + 5)) 3 = B + 9 ∧ RS (B + 6) 4 34 ∧ RS q 16 37 ∧ sv_len (sg (B + 9)) = 37 := by
  subst hB
  subst hq
  rcases (show h = 0 ∨ h = 1 by omega) with rfl | rfl
  · exact ⟨rfl, rfl, rfl, rfl, ⟨rfl, rfl, rfl, rfl, rfl, rfl, by decide, by decide, by decide, by decide⟩, ⟨rfl, rfl, rfl, rfl, rfl, rfl, by decide, by decide, by decide, by decide⟩, rfl⟩
  · exact ⟨rfl, rfl, rfl, rfl, ⟨rfl, rfl, rfl, rfl, rfl, rfl, by decide, by decide, by decide, by decide⟩, ⟨rfl, rfl, rfl, rfl, rfl, rfl, by decide, by decide, by decide, by decide⟩, rfl⟩
/-- a frame goes: the same on both sides -/
theorem sf_go {v w : sv_T} {h g B q n to ty : Nat} {r : Nat → Nat} (hh : h + g = 1) (hB : B = 9 + 33 * h) (hq : q = 4 - 3 * h) (R : WR v w g q) (hn : 3 ≤ n) (hn2 : n ≤ 37) (h39 : w 75 39 = nI n) (hw : ∀ i, i < n → w 113 i = nI (r i)) (r0 : r 0 = to) (r1 : r 1 = 16 + h) (r2 : r 2 = ty) (hv : ∀ i, 3 ≤ i → i < n → v (B + 9) i = nI (r i)) (hr : ∀ i, i < n → r i < 256) :
    ∃ v' w', f_Link_sendFrame (B + 5) (nI to) (nI ty) (nI n) v = some v' ∧ f_M_fly (nI h) w = some w' ∧ WR v' w' g q ∧ (∀ p, p ≠ q → p ≠ q + 1 → p ≠ q + 2 → p ≠ B + 9 → v' p = v p) ∧ MO3 76 77 78 w w' ∧ (∀ qo, qo = 1 + 3 * h → WR v w h qo → WR v' w' h qo) := by
  obtain ⟨s1, s2, s3, s4, s5, s6, s7⟩ := sh_L (h := h) (by omega) hB hq
  obtain ⟨c, sz, bs, a1, a2, a3, a4, a5⟩ := R
  -- the class's frame with its head
  have hfr : ∀ i, i < n → (sv_up (sv_up (sv_up v (B + 9) 0 (nI to)) (B + 9) 1 (nI (16 + h))) (B + 9) 2 (nI ty)) (B + 9) i = nI (r i) := by
    intro i hi
    by_cases e2 : i = 2
    · rw [e2, up_s, r2]
    · rw [up_i e2]
      by_cases e1 : i = 1
      · rw [e1, up_s, r1]
      · rw [up_i e1]
        by_cases e0 : i = 0
        · rw [e0, up_s, r0]
        · rw [up_i e0]
          exact hv i (by omega) hi
  have hoff : ∀ p, p ≠ B + 9 → (sv_up (sv_up (sv_up v (B + 9) 0 (nI to)) (B + 9) 1 (nI (16 + h))) (B + 9) 2 (nI ty)) p = v p := fun p hp => by
    rw [sv_up_off _ _ _ hp, sv_up_off _ _ _ hp, sv_up_off _ _ _ hp]
  have hR : RC (sv_up (sv_up (sv_up v (B + 9) 0 (nI to)) (B + 9) 1 (nI (16 + h))) (B + 9) 2 (nI ty)) q 37 c sz bs := a1.same (hoff _ (by omega)) (hoff _ (by omega)) (hoff _ (by omega))
  have hcl : ∀ v4, f_Rows_add q (B + 9) (nI n) (sv_up (sv_up (sv_up v (B + 9) 0 (nI to)) (B + 9) 1 (nI (16 + h))) (B + 9) 2 (nI ty)) = some v4 → f_Link_sendFrame (B + 5) (nI to) (nI ty) (nI n) v = some v4 := by
    intro v4 e
    unfold f_Link_sendFrame
    dsimp only [sv_ls]
    rw [s1, s2, s4, show (16 : Int32) = nI 16 from rfl, nI_add, e]
    rfl
  by_cases hc : c < 16
  · obtain ⟨v', e1, e2, e3⟩ := rc_add (n := n) (r := r) s6 hR a3 hc (show B + 9 ≠ q by omega) (show B + 9 ≠ q + 1 by omega) (show B + 9 ≠ q + 2 by omega) hfr (by omega) (by omega) (by omega)
    obtain ⟨w', f1, f2, f3, f4⟩ := mf_fly hh a2 (a3.wide (by omega)) hc (by omega) h39 hw
    refine ⟨v', w', hcl _ e1, f1, ⟨_, _, _, e2, f2, a3.add (by omega) hr, by omega, fun k hk => by
      unfold ra_sz
      by_cases z : k = c
      · rw [if_pos z]; exact hn
      · rw [if_neg z]; exact a5 k (by omega)⟩, fun p p1 p2 p3 p4 => (e3 p p1 p2 p3).trans (hoff p p4), f3, fun qo hqo W => ?_⟩
    obtain ⟨c', sz', bs', b1, b2, b3, b4⟩ := W
    refine ⟨c', sz', bs', b1.same ?_ ?_ ?_, f4 c' sz' bs' b4.1 (b3.wide (by omega)) b2, b3, b4⟩
    · rw [e3 _ (by omega) (by omega) (by omega), hoff _ (by omega)]
    · rw [e3 _ (by omega) (by omega) (by omega), hoff _ (by omega)]
    · rw [e3 _ (by omega) (by omega) (by omega), hoff _ (by omega)]
  · have hc : c = 16 := by omega
    subst hc
    refine ⟨_, w, hcl _ (rc_add_full s6 hR.1), mf_fly_full hh a2.1, ⟨_, _, _, hR, a2, a3, a4, a5⟩, fun p p1 p2 p3 p4 => hoff p p4, fun p _ _ _ => rfl, fun qo hqo W => ?_⟩
    exact W.frame (hoff _ (by omega)) (hoff _ (by omega)) (hoff _ (by omega)) rfl rfl rfl
/-- all that both sides' networks have -/
def NR (v w : sv_T) : Prop := WR v w 0 1 ∧ WR v w 1 4 ∧ ∀ h, h ≤ 1 → LN v w h (9 + 33 * h + 6) ∧ EQ (v (9 + 33 * h + 5) 4) (w 83 h) 31 ∧ EQ (v (9 + 33 * h + 5) 5) (w 84 h) 256 ∧ EQ (v (9 + 33 * h + 5) 6) (w 82 h) 5 ∧ EQ (v (9 + 33 * h) 11) (w 85 h) 256
theorem NR.way {v w : sv_T} {h g q : Nat} (N : NR v w) (hh : h + g = 1) (hq : q = 4 - 3 * h) : WR v w g q ∧ WR v w h (1 + 3 * h) := by
  rcases (show h = 0 ∨ h = 1 by omega) with rfl | rfl
  · obtain rfl : g = 1 := by omega
    subst hq
    exact ⟨N.2.1, N.1⟩
  · obtain rfl : g = 0 := by omega
    subst hq
    exact ⟨N.1, N.2.1⟩
/-- the class's places that sending of host h may change -/
def CF (h : Nat) (v v' : sv_T) : Prop := ∀ p, (p = 0 ∨ 6 < p) → (p < 9 + 33 * h + 5 ∨ 9 + 33 * h + 9 < p) → v' p = v p
/-- the reference's places that sending may change -/
def MS (w w' : sv_T) : Prop := (∀ p, p < 75 ∨ 85 < p → p ≠ 113 → p ≠ 115 → p ≠ 116 → w' p = w p) ∧ ∀ i, i ≠ 39 → i ≠ 43 → w' 75 i = w 75 i
theorem MS.rf {w : sv_T} : MS w w := ⟨fun _ _ _ _ _ => rfl, fun _ _ _ => rfl⟩
theorem MS.tr {w w' w'' : sv_T} (h1 : MS w w') (h2 : MS w' w'') : MS w w'' := ⟨fun p a b c d => (h2.1 p a b c d).trans (h1.1 p a b c d), fun i a b => (h2.2 i a b).trans (h1.2 i a b)⟩
theorem CF.rf {h : Nat} {v : sv_T} : CF h v v := fun _ _ _ => rfl
theorem CF.tr {h : Nat} {v v' v'' : sv_T} (h1 : CF h v v') (h2 : CF h v' v'') : CF h v v'' := fun p a b => (h2 p a b).trans (h1 p a b)
/-- a frame goes, and both networks are again the same -/
theorem nr_frame {v w : sv_T} {h B n to ty : Nat} {r : Nat → Nat} (hh : h ≤ 1) (hB : B = 9 + 33 * h) (N : NR v w) (hn : 3 ≤ n) (hn2 : n ≤ 37) (h39 : w 75 39 = nI n) (hw : ∀ i, i < n → w 113 i = nI (r i)) (r0 : r 0 = to) (r1 : r 1 = 16 + h) (r2 : r 2 = ty) (hv : ∀ i, 3 ≤ i → i < n → v (B + 9) i = nI (r i)) (hr : ∀ i, i < n → r i < 256) :
    ∃ v' w', f_Link_sendFrame (B + 5) (nI to) (nI ty) (nI n) v = some v' ∧ f_M_fly (nI h) w = some w' ∧ NR v' w' ∧ CF h v v' ∧ MS w w' ∧ v' (B + 5) = v (B + 5) ∧ v' (B + 6) = v (B + 6) ∧ v' (B + 7) = v (B + 7) ∧ v' (B + 8) = v (B + 8) ∧ MO3 76 77 78 w w' := by
  obtain ⟨W1, W2⟩ := N.way (h := h) (g := 1 - h) (by omega) rfl
  obtain ⟨v', w', e1, e2, e3, e4, e5, e6⟩ := sf_go (h := h) (g := 1 - h) (by omega) hB rfl W1 hn hn2 h39 hw r0 r1 r2 hv hr
  have e7 := e6 _ rfl W2
  have N1 : WR v' w' 0 1 ∧ WR v' w' 1 4 := by
    rcases (show h = 0 ∨ h = 1 by omega) with rfl | rfl
    · exact ⟨e7, e3⟩
    · exact ⟨e3, e7⟩
  have hk : ∀ p, 6 < p → p ≠ B + 9 → v' p = v p := fun p h1 h2 => e4 p (by omega) (by omega) (by omega) h2
  refine ⟨v', w', e1, e2, ⟨N1.1, N1.2, fun h' hh' => ?_⟩, fun p h1 h2 => ?_, ⟨fun p h1 _ _ _ => e5 p (by omega) (by omega) (by omega), fun i _ _ => congrFun (e5 75 (by omega) (by omega) (by omega)) i⟩, hk _ (by omega) (by omega), hk _ (by omega) (by omega), hk _ (by omega) (by omega), hk _ (by omega) (by omega), e5⟩
  · obtain ⟨n1, n2, n3, n4, n5⟩ := N.2.2 h' hh'
    refine ⟨n1.frame (hk _ (by omega) (by omega)) (hk _ (by omega) (by omega)) (hk _ (by omega) (by omega)) (e5 _ (by omega) (by omega) (by omega)) (e5 _ (by omega) (by omega) (by omega)) (e5 _ (by omega) (by omega) (by omega)), ?_, ?_, ?_, ?_⟩
    · rw [hk _ (by omega) (by omega), e5 83 (by omega) (by omega) (by omega)]
      exact n2
    · rw [hk _ (by omega) (by omega), e5 84 (by omega) (by omega) (by omega)]
      exact n3
    · rw [hk _ (by omega) (by omega), e5 82 (by omega) (by omega) (by omega)]
      exact n4
    · rw [hk _ (by omega) (by omega), e5 85 (by omega) (by omega) (by omega)]
      exact n5
  · by_cases e : p = B + 9
    · omega
    · rcases h1 with h1 | h1
      · subst h1
        exact e4 0 (by omega) (by omega) (by omega) (by omega)
      · exact hk p h1 e
