theorem rc_end {v : sv_T} {q mo wd c : Nat} {sz : Nat → Nat} {bs : Nat → Nat → Nat} (S : RS q mo wd) (h : RC v q wd c sz bs) (B : RB wd c sz bs) (hc : 0 < c) (hm : c ≤ mo) : ∃ v', f_Rows_copyFirstToEnd q v = some v' ∧ v' q 4 = nI c ∧ RC (sv_up v' q 4 (nI (c + 1))) q wd (c + 1) (ra_sz c sz (sz 0)) (ra_bs c bs (bs 0)) ∧ RO q v v' := by
  obtain ⟨s1, s2, s3, s4, s5, s6, s7, s8, s9, s10⟩ := S
  have m1 := rs_mul (wd := wd) hm
  have m2 := rs_bd s8 s10
  have m4 := rs_row (wd := wd) hc
  obtain ⟨g1, g2⟩ := h.2 0 hc
  have hz := (B 0 hc).1
  unfold f_Rows_copyFirstToEnd
  dsimp only [sv_ls, sv_le]
  rw [s2, s3, s4, s5, s6, h.1, show (0 : Int32) = nI 0 from rfl, pk_mul, cc_n (by omega) (by omega) (by omega) (by omega), ck_n (by omega) (by omega), nI_clamp (by omega), nI_clamp (by omega), nI_clamp (by omega)]
  rw [cp_q (show q ≠ q + 1 by omega), h.1, ck_n (by omega) (by omega), nI_clamp (by omega), cp_q (show q + 2 ≠ q + 1 by omega), g1]
  refine ⟨_, rfl, ?_, ?_, fun p h1 h2 h3 => ?_⟩
  · rw [up_q (show q ≠ q + 2 by omega), cp_q (show q ≠ q + 1 by omega), h.1]
  · refine h.add up_s ?_ (fun i hi => ?_) (fun k hk => ?_) (fun k hk i hi => ?_)
    · rw [up_q (show q + 2 ≠ q by omega), up_s]
    · rw [up_q (show q + 1 ≠ q by omega), up_q (show q + 1 ≠ q + 2 by omega), cp_in (by omega), Nat.zero_add]
      have := g2 i hi
      dsimp only at this
      rw [Nat.zero_mul, Nat.zero_add] at this
      exact this
    · rw [up_q (show q + 2 ≠ q by omega), up_i (by omega), cp_q (show q + 2 ≠ q + 1 by omega)]
    · have := (B k hk).1
      have := rs_row (wd := wd) hk
      rw [up_q (show q + 1 ≠ q by omega), up_q (show q + 1 ≠ q + 2 by omega), cp_out (by omega)]
  · rw [sv_up_off _ _ _ h3, cp_off h2]
theorem ra_self {c : Nat} {sz : Nat → Nat} {bs : Nat → Nat → Nat} {wd : Nat} (B : RB wd c sz bs) (hc : 0 < c) : RB wd (c + 1) (ra_sz c sz (sz 0)) (ra_bs c bs (bs 0)) := B.add (B 0 hc).1 (B 0 hc).2
theorem rc_putLast {v : sv_T} {q mo wd c : Nat} {sz : Nat → Nat} {bs : Nat → Nat → Nat} (S : RS q mo wd) (h : RC v q wd c sz bs) (B : RB wd c sz bs) (hc : 0 < c) (hm : c ≤ mo) : ∃ v', f_Rows_putFirstLast q v = some v' ∧ RC v' q wd c (rd_sz (ra_sz c sz (sz 0))) (rd_bs (ra_bs c bs (bs 0))) ∧ RO q v v' := by
  obtain ⟨v1, e1, e2, e3, e4⟩ := rc_end S h B hc hm
  obtain ⟨v2, f1, f2, f3⟩ := rc_drop S e3 (ra_self B hc) (by omega) (by omega)
  refine ⟨v2, ?_, f2, fun p h1 h2 h3 => ?_⟩
  · unfold f_Rows_putFirstLast
    rw [h.1, show (0 : Int32) = nI 0 from rfl, if_lt (by have := S.2.2.2.2.2.2.2.1; omega) (by have := S.2.2.2.2.2.2.2.1; omega), if_pos hc, e1]
    show sv_bv (f_Rows_dropFirst q (sv_up v1 q 4 (v1 q 4 + 1))) _ = _
    rw [e2, nI_1, f1]
    rfl
  · rw [f3 p h1 h2 h3, sv_up_off _ _ _ h1, e4 p h1 h2 h3]
theorem rc_behind {v : sv_T} {q mo wd c : Nat} {sz : Nat → Nat} {bs : Nat → Nat → Nat} (S : RS q mo wd) (h : RC v q wd c sz bs) (B : RB wd c sz bs) (hc : 0 < c) (hm : c < mo) : ∃ v', f_Rows_copyFirstBehind q v = some (1, v') ∧ RC v' q wd (c + 1) (ra_sz c sz (sz 0)) (ra_bs c bs (bs 0)) ∧ RO q v v' := by
  obtain ⟨v1, e1, e2, e3, e4⟩ := rc_end S h B hc (by omega)
  have s8 := S.2.2.2.2.2.2.2.1
  refine ⟨sv_up v1 q 4 (nI (c + 1)), ?_, e3, fun p h1 h2 h3 => ?_⟩
  · unfold f_Rows_copyFirstBehind
    rw [h.1, S.1, show (0 : Int32) = nI 0 from rfl, if_eq (by omega) (by omega), if_neg (by omega), if_lt (by omega) (by omega), if_pos hm, e1]
    show some ((1 : Int32), sv_up v1 q 4 (v1 q 4 + 1)) = _
    rw [e2, nI_1]
  · rw [sv_up_off _ _ _ h1, e4 p h1 h2 h3]
theorem rc_behind_no {v : sv_T} {q mo wd c : Nat} (S : RS q mo wd) (h : v q 4 = nI c) (hm : c = 0 ∨ c = mo) : f_Rows_copyFirstBehind q v = some (0, v) := by
  have s8 := S.2.2.2.2.2.2.2.1
  unfold f_Rows_copyFirstBehind
  rw [h, S.1, show (0 : Int32) = nI 0 from rfl, if_eq (by omega) (by omega)]
  by_cases e : c = 0
  · rw [if_pos e]
  · rw [if_neg e, if_lt (by omega) (by omega), if_neg (by omega)]
theorem rc_size {v : sv_T} {q mo wd c : Nat} {sz : Nat → Nat} {bs : Nat → Nat → Nat} (S : RS q mo wd) (h : RC v q wd c sz bs) (hm : c ≤ mo) (x : Int32) : (∃ k, k < c ∧ x = nI k ∧ f_Rows_sizeOf q x v = some (nI (sz k), v)) ∨ ((∀ k, k < c → x ≠ nI k) ∧ f_Rows_sizeOf q x v = some (-1, v)) := by
  obtain ⟨s1, s2, s3, s4, s5, s6, s7, s8, s9, s10⟩ := S
  unfold f_Rows_sizeOf
  rw [s4, s6, h.1]
  rcases pk_ix x (n := c) (by omega) with h1 | h1 | ⟨k, h1, h2⟩
  · refine Or.inr ⟨fun k hk e => ?_, by rw [if_pos h1]⟩
    rw [e] at h1
    exact nI_pos (by omega) h1
  · have h0 : ¬ x < nI c := Int32.not_lt.mpr h1
    have h3 : ¬ x < 0 := fun z => nI_pos (n := c) (by omega) (Int32.lt_of_le_of_lt h1 z)
    refine Or.inr ⟨fun k hk e => ?_, by rw [if_neg h3, if_neg h0]⟩
    rw [e] at h1
    exact nI_ge hk (by omega) h1
  · refine Or.inl ⟨k, h1, h2, ?_⟩
    subst h2
    rw [show (0 : Int32) = nI 0 from rfl, if_lt (by omega) (by omega), if_neg (by omega), if_lt (by omega) (by omega), if_pos h1, ck_n (by omega) (by omega), nI_clamp (by omega), (h.2 k h1).1]
-- the reference's wire
theorem mf_loop {w : sv_T} {F n : Nat} {h : Int32} (hn : n ≤ 40) (hF : 40 * F + 40 ≤ 1280) (h39 : w 75 39 = nI n) : sv_loop (fun (s : Int32 × sv_T) => f_M_fly_l41 h (nI F) s.1 (s.2)) 100000 ((0 : Int32), w) = some (sv_cp w 113 0 78 (40 * F) n) := by
  have key := lp_to (f := fun (s : Int32 × sv_T) => f_M_fly_l41 h (nI F) s.1 (s.2)) (fun k => (nI k, sv_cp w 113 0 78 (40 * F) k)) n (a := sv_cp w 113 0 78 (40 * F) n) (fun k hk => ?_) ?_ (n := 100000) (by omega)
  · rw [cp_0] at key
    exact key
  · show f_M_fly_l41 h (nI F) (nI k) (sv_cp w 113 0 78 (40 * F) k) = _
    unfold f_M_fly_l41
    dsimp only [sv_ls, sv_le]
    rw [cp_q (by decide), h39, if_lt (by omega) (by omega), if_pos hk, ck_n (by omega) (by omega), show (40 : Int32) = nI 40 from rfl, pk_mul, nI_add, ck_n (by omega) (by omega), nI_clamp (by omega), nI_clamp (by omega), cp_q (by decide), nI_1]
    rw [up_cp rfl (by rw [Nat.zero_add])]
  · show f_M_fly_l41 h (nI F) (nI n) (sv_cp w 113 0 78 (40 * F) n) = _
    unfold f_M_fly_l41
    rw [cp_q (by decide), h39, if_lt (by omega) (by omega), if_neg (by omega)]
/-- what flies to host g is not the other's -/
def MO3 (a b c : Nat) (w w' : sv_T) : Prop := ∀ p, p ≠ a → p ≠ b → p ≠ c → w' p = w p
theorem mf_fly {w : sv_T} {h g c n : Nat} {sz : Nat → Nat} {bs : Nat → Nat → Nat} {r : Nat → Nat} (hh : h + g = 1) (R : RF w g c sz bs) (B : RB 40 c sz bs) (hc : c < 16) (hn : n ≤ 40) (h39 : w 75 39 = nI n) (hr : ∀ i, i < n → w 113 i = nI (r i)) : ∃ w', f_M_fly (nI h) w = some w' ∧ RF w' g (c + 1) (ra_sz c sz n) (ra_bs c bs r) ∧ MO3 76 77 78 w w' ∧ (∀ c' sz' bs', c' ≤ 16 → RB 40 c' sz' bs' → RF w h c' sz' bs' → RF w' h c' sz' bs') := by
  have e1 : (1 : Int32) - nI h = nI g := by
    rw [show (1 : Int32) = nI 1 from rfl, pk_sub (by omega), show 1 - h = g by omega]
  have hF : 40 * (16 * g + c) + 40 ≤ 1280 := by omega
  unfold f_M_fly
  dsimp only [sv_ls, sv_le]
  rw [e1, ck_n (by omega) (by omega), nI_clamp (by omega), R.1, show (16 : Int32) = nI 16 from rfl, if_eq (by omega) (by omega), if_neg (by omega), ck_n (by omega) (by omega), pk_mul, nI_add, ck_n (by omega) (by omega), nI_clamp (by omega)]
  rw [mf_loop hn hF (by rw [up_q (by decide)]; exact h39)]
  rw [h39]
  show ∃ w', f_M_fly_x75 (nI g) (sv_cp (sv_up w 77 (16 * g + c) (nI n)) 113 0 78 (40 * (16 * g + c)) n) = some w' ∧ _
  unfold f_M_fly_x75
  dsimp only [sv_ls, sv_le]
  rw [ck_n (by omega) (by omega), ck_n (by omega) (by omega), nI_clamp (by omega), cp_q (by decide), up_q (by decide), R.1, nI_1]
  refine ⟨_, rfl, ?_, fun p h1 h2 h3 => ?_, fun c' sz' bs' hc' B' R' => ?_⟩
  · refine R.add up_s ?_ (fun i hi => ?_) (fun k hk => ?_) (fun k hk i hi => ?_)
    · rw [up_q (by decide), cp_q (by decide), up_s]
    · rw [up_q (by decide), cp_in hi, up_q (by decide), Nat.zero_add]
      exact hr i hi
    · rw [up_q (by decide), cp_q (by decide), up_i (by omega)]
    · have := (B k hk).1
      rw [up_q (by decide), cp_out (by omega), up_q (by decide)]
  · rw [sv_up_off _ _ _ h1, cp_off h3, sv_up_off _ _ _ h2]
  · refine R'.same ?_ (fun k hk => ?_) (fun k hk i hi => ?_)
    · rw [up_i (by omega), cp_q (by decide), up_q (by decide)]
    · rw [up_q (by decide), cp_q (by decide), up_i (by omega)]
    · have := (B' k hk).1
      rw [up_q (by decide), cp_out (by omega), up_q (by decide)]
theorem mf_fly_full {w : sv_T} {h g : Nat} (hh : h + g = 1) (R : w 76 g = nI 16) : f_M_fly (nI h) w = some w := by
  have e1 : (1 : Int32) - nI h = nI g := by
    rw [show (1 : Int32) = nI 1 from rfl, pk_sub (by omega), show 1 - h = g by omega]
  unfold f_M_fly
  dsimp only [sv_ls, sv_le]
  rw [e1, ck_n (by omega) (by omega), nI_clamp (by omega), R, show (16 : Int32) = nI 16 from rfl, if_eq (by omega) (by omega), if_pos rfl]
theorem up_cp_c {v : sv_T} {q sp q1 dp n p i : Nat} {x : Int32} (h1 : p ≠ q1) (h2 : p ≠ q) : sv_up (sv_cp v q sp q1 dp n) p i x = sv_cp (sv_up v p i x) q sp q1 dp n := by
  funext p' i'
  by_cases e : p' = q1
  · subst e
    rw [up_q (Ne.symm h1), cp_a, cp_a]
    by_cases z : dp ≤ i' ∧ i' < dp + n
    · rw [if_pos ⟨rfl, z⟩, if_pos ⟨rfl, z⟩, up_q (Ne.symm h2)]
    · rw [if_neg (fun y => z y.2), if_neg (fun y => z y.2), up_q (Ne.symm h1)]
  · rw [cp_q e, up_a, up_a, cp_q e]
theorem ml_in {w0 : sv_T} {h k : Nat} {x : Int32} (hh : h ≤ 1) (hk : k < 15) (A : sv_T) (hA : A = sv_cp w0 78 (640 * h + 40) 78 (640 * h) (40 * k)) : sv_loop (fun (s : Int32 × sv_T) => f_M_land_l46 x (nI (16 * h + k)) s.1 (s.2)) 100000 ((0 : Int32), A) = some (sv_cp w0 78 (640 * h + 40) 78 (640 * h) (40 * (k + 1))) := by
  have key := lp_to (f := fun (s : Int32 × sv_T) => f_M_land_l46 x (nI (16 * h + k)) s.1 (s.2)) (fun j => (nI j, sv_cp w0 78 (640 * h + 40) 78 (640 * h) (40 * k + j))) 40 (a := sv_cp w0 78 (640 * h + 40) 78 (640 * h) (40 * k + 40)) (fun j hj => ?_) ?_ (n := 100000) (by omega)
  · rw [hA, show 40 * (k + 1) = 40 * k + 40 by omega]
    exact key
  · show f_M_land_l46 x (nI (16 * h + k)) (nI j) (sv_cp w0 78 (640 * h + 40) 78 (640 * h) (40 * k + j)) = _
    unfold f_M_land_l46
    dsimp only [sv_ls, sv_le]
    rw [show (40 : Int32) = nI 40 from rfl, if_lt (by omega) (by omega), if_pos hj, pk_mul, nI_add, nI_add, nI_add, ck_n (by omega) (by omega), ck_n (by omega) (by omega), nI_clamp (by omega), nI_clamp (by omega), cp_out (by omega), nI_1]
    rw [show 40 * (16 * h + k) + j = 640 * h + (40 * k + j) by omega, up_cp rfl (by rw [show 40 * (16 * h + k) + 40 + j = 640 * h + 40 + (40 * k + j) by omega])]
    rfl
  · show f_M_land_l46 x (nI (16 * h + k)) (nI 40) (sv_cp w0 78 (640 * h + 40) 78 (640 * h) (40 * k + 40)) = _
    unfold f_M_land_l46
    rw [show (40 : Int32) = nI 40 from rfl, if_lt (by omega) (by omega), if_neg (by omega)]
def ml_w (w0 : sv_T) (h k : Nat) : sv_T := sv_cp (sv_cp w0 77 (16 * h + 1) 77 (16 * h) k) 78 (640 * h + 40) 78 (640 * h) (40 * k)
theorem ml_out {w0 : sv_T} {h c : Nat} (hh : h ≤ 1) (hc : c ≤ 15) (h76 : w0 76 h = nI c) : sv_loop (fun (s : Int32 × sv_T) => f_M_land_l15 (nI h) s.1 (s.2)) 100000 (nI (16 * h), w0) = some (ml_w w0 h c) := by
  have key := lp_to (f := fun (s : Int32 × sv_T) => f_M_land_l15 (nI h) s.1 (s.2)) (fun k => (nI (16 * h + k), ml_w w0 h k)) c (a := ml_w w0 h c) (fun k hk => ?_) ?_ (n := 100000) (by omega)
  · have e : ml_w w0 h 0 = w0 := by
      unfold ml_w
      rw [cp_0, cp_0]
    rw [e] at key
    exact key
  · show f_M_land_l15 (nI h) (nI (16 * h + k)) (ml_w w0 h k) = _
    have e76 : ml_w w0 h k 76 h = nI c := by
      unfold ml_w
      rw [cp_q (by decide), cp_q (by decide), h76]
    have e77 : ml_w w0 h k 77 (16 * h + k + 1) = w0 77 (16 * h + 1 + k) := by
      unfold ml_w
      rw [cp_q (by decide), cp_out (by omega), show 16 * h + k + 1 = 16 * h + 1 + k by omega]
    have e1 : sv_up (ml_w w0 h k) 77 (16 * h + k) (w0 77 (16 * h + 1 + k)) = sv_cp (sv_cp w0 77 (16 * h + 1) 77 (16 * h) (k + 1)) 78 (640 * h + 40) 78 (640 * h) (40 * k) := by
      unfold ml_w
      rw [up_cp_c (by decide) (by decide), up_cp rfl rfl]
    unfold f_M_land_l15
    dsimp only [sv_ls, sv_le]
    rw [ck_n (by omega) (by omega), nI_clamp (by omega), e76, show (16 : Int32) = nI 16 from rfl, pk_mul, nI_add, if_lt (by omega) (by omega), if_pos (by omega), nI_1, ck_n (by omega) (by omega), ck_n (by omega) (by omega), nI_clamp (by omega), nI_clamp (by omega), e77, e1, ml_in hh (by omega) _ rfl]
    show f_M_land_x83 (nI h) (nI (16 * h + k)) (sv_cp (sv_cp w0 77 (16 * h + 1) 77 (16 * h) (k + 1)) 78 (640 * h + 40) 78 (640 * h) (40 * (k + 1))) = _
    unfold f_M_land_x83
    dsimp only [sv_le]
    rw [nI_1]
    rfl
  · show f_M_land_l15 (nI h) (nI (16 * h + c)) (ml_w w0 h c) = _
    have e76 : ml_w w0 h c 76 h = nI c := by
      unfold ml_w
      rw [cp_q (by decide), cp_q (by decide), h76]
    unfold f_M_land_l15
    dsimp only [sv_ls, sv_le]
    rw [ck_n (by omega) (by omega), nI_clamp (by omega), e76, show (16 : Int32) = nI 16 from rfl, pk_mul, nI_add, if_lt (by omega) (by omega), if_neg (by omega)]
theorem mf_land {w : sv_T} {h g c : Nat} {sz : Nat → Nat} {bs : Nat → Nat → Nat} (hh : h + g = 1) (R : RF w h c sz bs) (B : RB 40 c sz bs) (h0 : 0 < c) (hc : c ≤ 16) : ∃ w', f_M_land (nI h) w = some w' ∧ RF w' h (c - 1) (rd_sz sz) (rd_bs bs) ∧ MO3 76 77 78 w w' ∧ (∀ c' sz' bs', c' ≤ 16 → RB 40 c' sz' bs' → RF w g c' sz' bs' → RF w' g c' sz' bs') := by
  unfold f_M_land
  dsimp only [sv_ls, sv_le]
  rw [ck_n (by omega) (by omega), ck_n (by omega) (by omega), nI_clamp (by omega), R.1, show (1 : Int32) = nI 1 from rfl, pk_sub (by omega), show (16 : Int32) = nI 16 from rfl, pk_mul, ml_out (c := c - 1) (by omega) (by omega) up_s]
  show ∃ w', some (ml_w (sv_up w 76 h (nI (c - 1))) h (c - 1)) = some w' ∧ _
  refine ⟨_, rfl, ?_, fun p h1 h2 h3 => ?_, fun c' sz' bs' hc' B' R' => ?_⟩
  · unfold ml_w
    refine R.drop ?_ (fun k hk => ?_) (fun k hk i hi => ?_)
    · rw [cp_q (by decide), cp_q (by decide), up_s]
    · rw [cp_q (by decide), cp_in (by omega), up_q (by decide), show 16 * h + 1 + k = 16 * h + (k + 1) by omega]
    · have := (B (k + 1) (by omega)).1
      rw [show 40 * (16 * h + k) + i = 640 * h + (40 * k + i) by omega, cp_in (by omega), cp_q (by decide), up_q (by decide), show 640 * h + 40 + (40 * k + i) = 40 * (16 * h + (k + 1)) + i by omega]
  · unfold ml_w
    rw [cp_off h3, cp_off h2, sv_up_off _ _ _ h1]
  · unfold ml_w
    refine R'.same ?_ (fun k hk => ?_) (fun k hk i hi => ?_)
    · rw [cp_q (by decide), cp_q (by decide), up_i (by omega)]
    · rw [cp_q (by decide), cp_out (by omega), up_q (by decide)]
    · have := (B' k hk).1
      rw [cp_out (by omega), cp_q (by decide), up_q (by decide)]
