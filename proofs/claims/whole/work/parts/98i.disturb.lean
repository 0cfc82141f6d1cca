/-- a way has changed, on both sides -/
theorem RI.way {h : Nat} {v w v1 w1 : sv_T} (hh : h ≤ 1) (R : RI v w) (W : WR v1 w1 h (1 + 3 * h)) (hv : ∀ p, p ≠ 1 + 3 * h → p ≠ 1 + 3 * h + 1 → p ≠ 1 + 3 * h + 2 → v1 p = v p) (hw2 : ∀ c sz bs, c ≤ 16 → RB 40 c sz bs → RF w (1 - h) c sz bs → RF w1 (1 - h) c sz bs) (hw : ∀ p, p ≠ 76 → p ≠ 77 → p ≠ 78 → p ≠ 113 → p ≠ 75 → w1 p = w p) (hw5 : ∀ i, i ≠ 39 → w1 75 i = w 75 i) : RI v1 w1 ∧ HO w w1 ∧ LO v v1 := by
  have hg : h + (1 - h) = 1 := by omega
  have d : h = 0 ∨ h = 1 := by omega
  refine ⟨⟨NR.landed hg R.1 rfl W (fun p h1 h2 h3 _ => hv p h1 h2 h3) (fun W2 => ?_) (fun p h1 h2 => hw p (by omega) (by omega) (by omega) (by omega) (by omega)), R.2.1.air hh (fun p h1 h2 => hv p (by omega) (by omega) (by omega)) ⟨fun p h1 h2 h3 h4 h5 => hw p (by omega) (by omega) (by omega) h2 (by omega), fun i h1 h2 h3 => hw5 i h1⟩, fun h' hh' => ?_⟩, fun p hp => hw p (by omega) (by omega) (by omega) (by omega) (by omega), fun p hp => hv p (by omega) (by omega) (by omega)⟩
  · obtain ⟨c', sz', bs', e1, e2, e3, e4⟩ := W2
    exact ⟨c', sz', bs', e1.same (hv _ (by omega) (by omega) (by omega)) (hv _ (by omega) (by omega) (by omega)) (hv _ (by omega) (by omega) (by omega)), hw2 c' sz' bs' e4.1 (e3.wide (by omega)) e2, e3, e4⟩
  · have d' : h' = 0 ∨ h' = 1 := by omega
    exact (R.2.2 h' hh').same (hv _ (by omega) (by omega) (by omega)) (hv _ (by omega) (by omega) (by omega)) (hv _ (by omega) (by omega) (by omega))
theorem dl_loop {w : sv_T} {h n : Nat} {x : Int32} (hh : h ≤ 1) (hn : n ≤ 37) (h39 : w 75 39 = nI n) : sv_loop (fun (s : Int32 × sv_T) => f_M_disturb_l50 (nI h) x s.1 (s.2)) 100000 ((0 : Int32), w) = some (sv_cp w 78 (640 * h) 113 0 n) := by
  have key := lp_to (f := fun (s : Int32 × sv_T) => f_M_disturb_l50 (nI h) x s.1 (s.2)) (fun k => (nI k, sv_cp w 78 (640 * h) 113 0 k)) n (a := sv_cp w 78 (640 * h) 113 0 n) (fun k hk => ?_) ?_ (n := 100000) (by omega)
  · rw [cp_0] at key
    exact key
  · show f_M_disturb_l50 (nI h) x (nI k) (sv_cp w 78 (640 * h) 113 0 k) = _
    unfold f_M_disturb_l50
    rw [cp_q (by decide), h39, if_lt (by omega) (by omega), if_pos hk, show (640 : Int32) * nI h + nI k = nI (640 * h + k) by rw [show (640 : Int32) = nI 640 from rfl, pk_mul, nI_add], ck_n (by omega) (by omega), ck_n (by omega) (by omega), nI_clamp (by omega), nI_clamp (by omega)]
    simp only [sv_ls, sv_le]
    have e := up_cp (v := w) (w := sv_cp w 78 (640 * h) 113 0 k) (q := 78) (sp := 640 * h) (q1 := 113) (dp := 0) (n := k) (x := sv_cp w 78 (640 * h) 113 0 k 78 (640 * h + k)) rfl (cp_q (by decide))
    rw [Nat.zero_add] at e
    rw [e, nI_1]
  · show f_M_disturb_l50 (nI h) x (nI n) (sv_cp w 78 (640 * h) 113 0 n) = _
    unfold f_M_disturb_l50
    rw [cp_q (by decide), h39, if_lt (by omega) (by omega), if_neg (by omega)]
set_option maxHeartbeats 1000000 in
theorem w_disturb {v w : sv_T} (a b : Int32) (R : RI v w) : ST v w (f_W_disturb a b v) (f_M_disturb a b w) := by
  rcases eh_of a with ⟨h, hh, rfl⟩ | ha
  · have hg : h + (1 - h) = 1 := by omega
    have hg2 : (1 - h) + h = 1 := by omega
    obtain ⟨c, sz, bs, a1, a2, a3, a4, a5⟩ := (R.1.way (h := h) (g := 1 - h) (q := 4 - 3 * h) hg rfl).2
    unfold f_W_disturb f_M_disturb
    rw [fl_go hh rfl a1.1, an_go hh a2.1 a4, bis, bis, if01, show (if nI c < (1 : Int32) then some ((0 : Int32), v) else _) = _ from if_lt (b := 1) (by omega) (by omega)]
    by_cases z : c < 1
    · rw [if_pos z, if_neg (show ¬ 0 < c by omega)]
      exact st_same 0 R
    have hc : 0 < c := by omega
    have b0 := a3 0 hc
    rw [if_neg z, if_pos hc]
    -- the reference's frame
    generalize hw1 : sv_up w 75 39 (nI (sz 0)) = w1
    generalize hw2 : sv_cp w1 78 (640 * h) 113 0 (sz 0) = w2
    have kw2 : ∀ p, p ≠ 113 → p ≠ 75 → w2 p = w p := fun p h1 h2 => by rw [← hw2, cp_off h1, ← hw1, sv_up_off _ _ _ h2]
    have kw5 : ∀ i, i ≠ 39 → w2 75 i = w 75 i := fun i hi => by rw [← hw2, cp_q (by decide), ← hw1, up_i hi]
    have k39 : w2 75 39 = nI (sz 0) := by rw [← hw2, cp_q (by decide), ← hw1, up_s]
    have bw : ∀ i, i < sz 0 → w2 113 i = nI (bs 0 i) := fun i hi => by
      have e := cp_in (v := w1) (q := 78) (sp := 640 * h) (q1 := 113) (dp := 0) (n := sz 0) (i := i) hi
      rw [Nat.zero_add] at e
      rw [← hw2, e, ← hw1, up_q (by decide)]
      have this' : w 78 (40 * (16 * h + 0) + i) = nI (bs 0 i) := (a2.2 0 hc).2 i hi
      rw [show 40 * (16 * h + 0) + i = 640 * h + i by omega] at this'
      exact this'
    have rf2 : ∀ g' c' sz' bs', RF w g' c' sz' bs' → RF w2 g' c' sz' bs' := fun g' c' sz' bs' H => by
      refine RP.same H ?_ (fun k _ => ?_) (fun k _ i _ => ?_)
      · rw [kw2 76 (by decide) (by decide)]
      · show w2 77 _ = w 77 _
        rw [kw2 77 (by decide) (by decide)]
      · show w2 78 _ = w 78 _
        rw [kw2 78 (by decide) (by decide)]
    have b35 : ∀ x : Int32, f_M_disturb_b35 (nI h) x w = f_M_disturb_x82 (nI h) x w2 := fun x => by
      unfold f_M_disturb_b35
      rw [show (16 : Int32) * nI h = nI (16 * h) from pk_mul 16 h, ck_n (by omega) (by omega), nI_clamp (by omega), show w 77 (16 * h) = nI (sz 0) from (a2.2 0 hc).1, sv_ls, hw1, dl_loop (n := sz 0) hh (by omega) (by rw [← hw1, up_s]), hw2]
      rfl
    have e1h : (1 : Int32) - nI h = nI (1 - h) := pk_sub (show h ≤ 1 from hh)
    by_cases y0 : b = 0
    · subst y0
      rw [if_pos rfl, if_neg (by decide), if_pos (by decide), if_neg (by decide), b35, ws_at hh]
      obtain ⟨v1, t1, t2, t3⟩ := rc_drop (rs_w hh) a1 a3 hc (by omega)
      obtain ⟨w3, l1, l2, l3, l4⟩ := mf_land hg (rf2 _ _ _ _ a2) (a3.wide (by omega)) hc a4
      have W1 : WR v1 w3 h (1 + 3 * h) := ⟨c - 1, rd_sz sz, rd_bs bs, t2, l2, a3.drop, by omega, fun k hk => a5 (k + 1) (by omega)⟩
      obtain ⟨R1, R2, R3⟩ := R.way hh W1 (fun p h1 h2 h3 => t3 p h1 h2 h3) (fun c' sz' bs' q1 q2 q3 => l4 c' sz' bs' q1 q2 (rf2 _ _ _ _ q3)) (fun p h1 h2 h3 h4 h5 => by rw [l3 p h1 h2 h3, kw2 p h4 h5]) (fun i hi => by rw [l3 75 (by decide) (by decide) (by decide), kw5 i hi])
      refine ⟨1, v1, w3, by rw [t1]; rfl, ?_, R1, R3, R2⟩
      unfold f_M_disturb_x82 f_M_disturb_b92
      rw [if_pos (by decide), l1, bvs, if_neg (by decide)]
    by_cases y1 : b = 1
    · subst y1
      rw [if_neg (by decide), if_pos rfl, if_neg (by decide), if_pos (by decide), if_neg (by decide), b35, ws_at hh]
      obtain ⟨v1, t1, t2, t3⟩ := rc_putLast (rs_w hh) a1 a3 hc a4
      obtain ⟨w3, l1, l2, l3, l4⟩ := mf_land hg (rf2 _ _ _ _ a2) (a3.wide (by omega)) hc a4
      obtain ⟨w4, m1, m2, m3, m4⟩ := mf_fly (n := sz 0) (r := bs 0) hg2 l2 ((a3.drop).wide (by omega)) (by omega) (by omega) (by rw [l3 75 (by decide) (by decide) (by decide)]; exact k39) (fun i hi => by rw [l3 113 (by decide) (by decide) (by decide)]; exact bw i hi)
      have es : ra_sz (c - 1) (rd_sz sz) (sz 0) = rd_sz (ra_sz c sz (sz 0)) := funext fun k => by
        unfold rd_sz ra_sz
        by_cases y : k = c - 1
        · rw [if_pos y, if_pos (by omega)]
        · rw [if_neg y, if_neg (by omega)]
      have eb : ra_bs (c - 1) (rd_bs bs) (bs 0) = rd_bs (ra_bs c bs (bs 0)) := funext fun k => funext fun i => by
        unfold rd_bs ra_bs
        by_cases y : k = c - 1
        · rw [if_pos y, if_pos (by omega)]
        · rw [if_neg y, if_neg (by omega)]
      rw [es, eb, show c - 1 + 1 = c by omega] at m2
      have W1 : WR v1 w4 h (1 + 3 * h) := by
        refine ⟨c, _, _, t2, m2, ?_, a4, fun k hk => ?_⟩
        · have := (ra_self a3 hc).drop
          rw [show c + 1 - 1 = c by omega] at this
          exact this
        · unfold rd_sz ra_sz
          by_cases y : k + 1 = c
          · rw [if_pos y]; exact a5 0 hc
          · rw [if_neg y]; exact a5 (k + 1) (by omega)
      obtain ⟨R1, R2, R3⟩ := R.way hh W1 (fun p h1 h2 h3 => t3 p h1 h2 h3) (fun c' sz' bs' q1 q2 q3 => m4 c' sz' bs' q1 q2 (l4 c' sz' bs' q1 q2 (rf2 _ _ _ _ q3))) (fun p h1 h2 h3 h4 h5 => by rw [m3 p h1 h2 h3, l3 p h1 h2 h3, kw2 p h4 h5]) (fun i hi => by rw [m3 75 (by decide) (by decide) (by decide), l3 75 (by decide) (by decide) (by decide), kw5 i hi])
      refine ⟨1, v1, w4, by rw [t1]; rfl, ?_, R1, R3, R2⟩
      unfold f_M_disturb_x82 f_M_disturb_b92
      rw [if_pos (by decide), l1, bvs, if_pos (by decide), e1h, m1]
      rfl
    by_cases y2 : b = 2
    · subst y2
      rw [if_neg (by decide), if_neg (by decide), if_pos rfl, if_neg (by decide), if_pos (by decide), if_pos rfl, b35, ws_at hh, ck_n (by omega) (by omega), nI_clamp (by omega), a2.1, show (16 : Int32) = nI 16 from rfl, if_eq (by omega) (by omega)]
      by_cases y : c = 16
      · rw [if_pos y, rc_behind_no (rs_w hh) a1.1 (Or.inr y), bis, bl_0]
        exact st_same 0 R
      · rw [if_neg y]
        obtain ⟨v1, t1, t2, t3⟩ := rc_behind (rs_w hh) a1 a3 hc (by omega)
        obtain ⟨w4, m1, m2, m3, m4⟩ := mf_fly (n := sz 0) (r := bs 0) hg2 (rf2 _ _ _ _ a2) (a3.wide (by omega)) (by omega) (by omega) k39 bw
        have W1 : WR v1 w4 h (1 + 3 * h) := by
          refine ⟨c + 1, _, _, t2, m2, ra_self a3 hc, by omega, fun k hk => ?_⟩
          unfold ra_sz
          by_cases y : k = c
          · rw [if_pos y]; exact a5 0 hc
          · rw [if_neg y]; exact a5 k (by omega)
        obtain ⟨R1, R2, R3⟩ := R.way hh W1 (fun p h1 h2 h3 => t3 p h1 h2 h3) (fun c' sz' bs' q1 q2 q3 => m4 c' sz' bs' q1 q2 (rf2 _ _ _ _ q3)) (fun p h1 h2 h3 h4 h5 => by rw [m3 p h1 h2 h3, kw2 p h4 h5]) (fun i hi => by rw [m3 75 (by decide) (by decide) (by decide), kw5 i hi])
        refine ⟨1, v1, w4, by rw [t1, bis, bl_1], ?_, R1, R3, R2⟩
        unfold f_M_disturb_x82 f_M_disturb_b92
        rw [if_neg (by decide), if_pos (by decide), e1h, m1]
        rfl
    rw [if_neg y0, if_neg y1, if_neg y2]
    by_cases n1 : b < 0
    · rw [if_pos n1]
      exact st_same 0 R
    · rw [if_neg n1]
      by_cases n2 : b ≤ 2
      · exfalso
        obtain ⟨k, hk, rfl⟩ := nI_of2 (n := 2) (by decide) n1 n2
        rcases (show k = 0 ∨ k = 1 ∨ k = 2 by omega) with rfl | rfl | rfl
        · exact y0 rfl
        · exact y1 rfl
        · exact y2 rfl
      · rw [if_neg n2]
        exact st_same 0 R
  · unfold f_W_disturb f_W_flying f_M_disturb f_M_any
    rw [(wh_no ha).1, (wh_no ha).2]
    exact st_same 0 R
