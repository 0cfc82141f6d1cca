theorem ra_go {v : sv_T} {q mo wd c k i : Nat} {sz : Nat → Nat} {bs : Nat → Nat → Nat} (S : RS q mo wd) (h : RC v q wd c sz bs) (B : RB wd c sz bs) (hc : c ≤ mo) (hk : k < c) (hi : i < 2 ^ 31) : f_Rows_at q (nI k) (nI i) v = some (if i < sz k then nI (bs k i) else -1, v) := by
  obtain ⟨r1, r2, r3, r4, r5, r6, r7, r8, r9, r10⟩ := S
  obtain ⟨h1, h2⟩ := h
  obtain ⟨h3, h4⟩ := h2 k hk
  have b := (B k hk).1
  have m := rs_row (wd := wd) (c := mo + 1) (k := k) (by omega)
  have bd := rs_bd (mo := mo) (wd := wd) r8 r10
  unfold f_Rows_at f_Rows_sizeOf
  rw [if_neg (nI_pos hi), if_neg (nI_pos (by omega)), h1, if_lt (by omega) (by omega), if_pos hk, r4, r6, ck_n (by omega) (by omega), nI_clamp (by omega), show v (q + 2) k = nI (sz k) from h3, bis, if_lt hi (by omega)]
  by_cases z : i < sz k
  · rw [if_pos z, if_pos z, r2, pk_mul, nI_add, r3, r5, ck_n (by omega) (by omega), nI_clamp (by omega), show v (q + 1) (k * wd + i) = nI (bs k i) from h4 i z]
  · rw [if_neg z, if_neg z]
theorem rs_w {h : Nat} (hh : h ≤ 1) : RS (1 + 3 * h) 16 37 := by
  have := (sh_L (h := 1 - h) (B := 9 + 33 * (1 - h)) (q := 4 - 3 * (1 - h)) (by omega) rfl rfl).2.2.2.2.2.1
  rw [show 4 - 3 * (1 - h) = 1 + 3 * h by omega] at this
  exact this
/-- the first frame of a way, out of the air on both sides -/
theorem ld_go {v w v1 w1 : sv_T} {h c : Nat} {sz : Nat → Nat} {bs : Nat → Nat → Nat} (hh : h ≤ 1) (R : RI v w) (a2 : RF w h c sz bs) (a3 : RB 37 c sz bs) (a4 : c ≤ 16) (a5 : ∀ k, k < c → 3 ≤ sz k) (hc : 0 < c) (C1 : RC v1 (1 + 3 * h) 37 (c - 1) (rd_sz sz) (rd_bs bs)) (hv : ∀ p, p ≠ 1 + 3 * h → p ≠ 1 + 3 * h + 1 → p ≠ 1 + 3 * h + 2 → p ≠ 9 + 33 * h + 30 → v1 p = v p) (hw : ∀ p, p ≠ 113 → p ≠ 75 → w1 p = w p) (hw5 : ∀ i, i ≠ 39 → w1 75 i = w 75 i) : ∃ w2, f_M_land (nI h) w1 = some w2 ∧ RI v1 w2 ∧ (∀ p, p ≠ 76 → p ≠ 77 → p ≠ 78 → w2 p = w1 p) ∧ HO w w2 := by
  have hg : h + (1 - h) = 1 := by omega
  have d : h = 0 ∨ h = 1 := by omega
  have a2' : RF w1 h c sz bs := by
    refine RP.same a2 ?_ (fun k _ => ?_) (fun k _ i _ => ?_)
    · rw [hw 76 (by decide) (by decide)]
    · show w1 77 _ = w 77 _
      rw [hw 77 (by decide) (by decide)]
    · show w1 78 _ = w 78 _
      rw [hw 78 (by decide) (by decide)]
  obtain ⟨w2, b1, b2, b3, b4⟩ := mf_land hg a2' (a3.wide (by omega)) hc a4
  have W1 : WR v1 w2 h (1 + 3 * h) := ⟨c - 1, rd_sz sz, rd_bs bs, C1, b2, a3.drop, by omega, fun k hk => a5 (k + 1) (by omega)⟩
  have kw : ∀ p, p ≠ 76 → p ≠ 77 → p ≠ 78 → p ≠ 113 → p ≠ 75 → w2 p = w p := fun p h1 h2 h3 h4 h5 => by rw [b3 p h1 h2 h3, hw p h4 h5]
  have N1 : NR v1 w2 := NR.landed hg R.1 rfl W1 hv (fun W => by
    obtain ⟨c', sz', bs', e1, e2, e3, e4⟩ := W
    refine ⟨c', sz', bs', e1.same (hv _ (by omega) (by omega) (by omega) (by omega)) (hv _ (by omega) (by omega) (by omega) (by omega)) (hv _ (by omega) (by omega) (by omega) (by omega)), b4 c' sz' bs' e4.1 (e3.wide (by omega)) ?_, e3, e4⟩
    refine RP.same e2 ?_ (fun k _ => ?_) (fun k _ i _ => ?_)
    · rw [hw 76 (by decide) (by decide)]
    · show w1 77 _ = w 77 _
      rw [hw 77 (by decide) (by decide)]
    · show w1 78 _ = w 78 _
      rw [hw 78 (by decide) (by decide)]) (fun p h1 h2 => kw p (by omega) (by omega) (by omega) (by omega) (by omega))
  refine ⟨w2, b1, ⟨N1, R.2.1.air hh (fun p h1 h2 => hv p (by omega) (by omega) (by omega) h2) ⟨fun p h1 h2 h3 h4 h5 => kw p (by omega) (by omega) (by omega) h2 (by omega), fun i h1 h2 h3 => by rw [b3 75 (by decide) (by decide) (by decide), hw5 i h1]⟩, fun h' hh' => ?_⟩, b3, fun p hp => kw p (by omega) (by omega) (by omega) (by omega) (by omega)⟩
  have d' : h' = 0 ∨ h' = 1 := by omega
  exact (R.2.2 h' hh').same (hv _ (by omega) (by omega) (by omega) (by omega)) (hv _ (by omega) (by omega) (by omega) (by omega)) (hv _ (by omega) (by omega) (by omega) (by omega))
theorem ST.pre {v w v1 w1 : sv_T} {X Y : Option (Int32 × sv_T)} (H : ST v1 w1 X Y) (L : LO v v1) (O : HO w w1) : ST v w X Y := by
  obtain ⟨r, v', w', a1, a2, a3, a4, a5⟩ := H
  exact ⟨r, v', w', a1, a2, a3, L.tr a4, O.tr a5⟩
set_option maxHeartbeats 1000000 in
theorem w_carry {v w : sv_T} (a : Int32) (R : RI v w) : ST v w (f_W_carry a v) (f_M_carry a w) := by
  rcases eh_of a with ⟨h, hh, rfl⟩ | ha
  · have hg : h + (1 - h) = 1 := by omega
    have d : h = 0 ∨ h = 1 := by omega
    obtain ⟨c, sz, bs, a1, a2, a3, a4, a5⟩ := (R.1.way (h := h) (g := 1 - h) (q := 4 - 3 * h) hg rfl).2
    unfold f_W_carry f_M_carry
    rw [fl_go hh rfl a1.1, an_go hh a2.1 a4, bis, bis, if01, show (1 : Int32) = nI 1 from rfl, if_lt (by omega) (by omega)]
    by_cases z : c < 1
    · rw [if_pos z, if_neg (show ¬ 0 < c by omega)]
      exact st_same (-1) R
    have hc : 0 < c := by omega
    have sz3 := a5 0 hc
    have b0 := a3 0 hc
    have e2 : f_Rows_at (1 + 3 * h) 0 2 v = some (nI (bs 0 2), v) := by
      have := ra_go (k := 0) (i := 2) (rs_w hh) a1 a3 (by omega) hc (by omega)
      rw [if_pos (by omega)] at this
      exact this
    have e16 : (16 : Int32) * nI h = nI (16 * h) := pk_mul 16 h
    rw [if_neg z, if_pos hc, ws_at hh, e2, bis, hs_at hh, ws_at hh, e16, ck_n (by omega) (by omega), nI_clamp (n := 16 * h) (by omega), show w 77 (16 * h) = nI (sz 0) from (a2.2 0 hc).1]
    obtain ⟨s1, s2, s3, s4, s5, s6, s7, s8, s9, s10, s11, s12, s13, s14, s15, s16⟩ := sh_H hh (B := 9 + 33 * h) rfl
    obtain ⟨v1, t1, t2, t3, t4, t5⟩ := rc_take (a := 9 + 33 * h + 30) (fr := 0) (rs_w hh) a1 a3 hc a4 (by omega) (by omega) (by omega) (by omega) (by omega)
    have t1' : f_Rows_takeFirst (1 + 3 * h) (9 + 33 * h + 30) 0 v = some (nI (sz 0), v1) := t1
    have t4' : ∀ i, i < sz 0 → v1 (9 + 33 * h + 30) i = nI (bs 0 i) := fun i hi => by
      have := t4 i hi
      rw [Nat.zero_add] at this
      exact this
    unfold f_Host_takeFrame
    rw [s9, s2, t1', bis, t4' 0 (by omega), sv_ls]
    generalize hw1 : sv_up w 75 39 (nI (sz 0)) = w1
    rw [cl_loop (n := sz 0) hh (by omega) (by rw [← hw1, up_s])]
    simp only [Option.bind_some]
    generalize hw2 : sv_cp w1 78 (640 * h) 113 0 (sz 0) = w2
    have kw2 : ∀ p, p ≠ 113 → p ≠ 75 → w2 p = w p := fun p h1 h2 => by rw [← hw2, cp_off h1, ← hw1, sv_up_off _ _ _ h2]
    have kw5 : ∀ i, i ≠ 39 → w2 75 i = w 75 i := fun i hi => by rw [← hw2, cp_q (by decide), ← hw1, up_i hi]
    have bw : ∀ i, i < sz 0 → w2 113 i = nI (bs 0 i) := fun i hi => by
      have e := cp_in (v := w1) (q := 78) (sp := 640 * h) (q1 := 113) (dp := 0) (n := sz 0) (i := i) hi
      rw [Nat.zero_add] at e
      rw [← hw2, e, ← hw1, up_q (by decide)]
      have := (a2.2 0 hc).2 i hi
      have this' : w 78 (40 * (16 * h + 0) + i) = nI (bs 0 i) := this
      rw [show 40 * (16 * h + 0) + i = 640 * h + i by omega] at this'
      exact this'
    obtain ⟨w3, l1, l2, l3, l4⟩ := ld_go hh R a2 a3 a4 a5 hc t2 (fun p h1 h2 h3 h4 => t3 p h4 h1 h2 h3) kw2 kw5
    unfold f_M_carry_x57
    simp only [sv_le]
    rw [bw 2 (by omega), bw 0 (by omega), l1, bvs]
    have T := tf_go (n := sz 0) (f := bs 0) hh rfl l2 (by omega) (by omega) (fun i hi => b0.2 i hi) (by rw [l3 75 (by decide) (by decide) (by decide), ← hw2, cp_q (by decide), ← hw1, up_s]) t4' (fun i hi => by rw [l3 113 (by decide) (by decide) (by decide)]; exact bw i hi)
    exact T.pre (fun p hp => t3 p (by omega) (by omega) (by omega) (by omega)) l4
  · unfold f_W_carry f_W_flying f_M_carry f_M_any
    rw [(wh_no ha).1, (wh_no ha).2]
    exact st_same (-1) R
