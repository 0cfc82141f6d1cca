theorem xr8 {a b : Nat} (ha : a < 256) (hb : b < 256) : nI a ^^^ nI b = nI (a ^^^ b) ∧ a ^^^ b < 256 := ⟨Int32.toBitVec_inj.mp (by
  rw [Int32.toBitVec_xor]
  exact (BitVec.ofNat_xor (w := 32)).symm), Nat.xor_lt_two_pow (n := 8) ha hb⟩
theorem w_flying {v w : sv_T} (a : Int32) (R : RI v w) : ST v w (f_W_flying a v) (f_M_flying a w) := by
  rcases eh_of a with ⟨h, hh, rfl⟩ | ha
  · have hg : h + (1 - h) = 1 := by omega
    obtain ⟨c, sz, bs, a1, a2, a3, a4, a5⟩ := (R.1.way (h := h) (g := 1 - h) (q := 4 - 3 * h) hg rfl).2
    rw [fl_go hh rfl a1.1]
    unfold f_M_flying
    rw [(wh_yes hh).2, bis, if_neg (by decide), ck_n (by omega) (by omega), nI_clamp (by omega), a2.1]
    exact st_same _ R
  · unfold f_W_flying f_M_flying
    rw [(wh_no ha).1, (wh_no ha).2]
    exact st_same (-1) R
set_option maxHeartbeats 1000000 in
theorem w_octet {v w : sv_T} (a b c : Int32) (R : RI v w) : ST v w (f_W_octet a b c v) (f_M_octet a b c w) := by
  rcases eh_of a with ⟨h, hh, rfl⟩ | ha
  · have hg : h + (1 - h) = 1 := by omega
    obtain ⟨n, sz, bs, a1, a2, a3, a4, a5⟩ := (R.1.way (h := h) (g := 1 - h) (q := 4 - 3 * h) hg rfl).2
    unfold f_W_octet f_M_octet
    rw [(wh_yes hh).1, (wh_yes hh).2, bis, bis, if_neg (show ¬ (1 : Int32) = 0 by decide), if_neg (show ¬ (1 : Int32) = 0 by decide), ws_at hh, ws_at hh, ck_n (by omega) (by omega), nI_clamp (n := h) (by omega), a2.1]
    rcases rc_size (rs_w hh) a1 a4 b with ⟨k, hk, rfl, s1⟩ | ⟨hn, s1⟩
    · have zk := (a3 k hk).1
      have e77 : w 77 (16 * h + k) = nI (sz k) := (a2.2 k hk).1
      rw [s1, if_neg (nI_pos (by omega)), if_lt (by omega) (by omega), if_pos hk, sv_le, show (16 : Int32) * nI h + nI k = nI (16 * h + k) by rw [show (16 : Int32) = nI 16 from rfl, pk_mul, nI_add]]
      by_cases z : c = -1
      · rw [if_pos z, if_pos z, ck_n (by omega) (by omega), nI_clamp (by omega), e77]
        exact st_same _ R
      · rw [if_neg z, if_neg z]
        by_cases z0 : c < 0
        · rw [if_pos z0]
          unfold f_Rows_at
          rw [if_pos z0]
          exact st_same _ R
        · obtain ⟨i, hi, rfl⟩ := nI_of z0
          rw [if_neg z0, ra_go (rs_w hh) a1 a3 a4 hk hi, ck_n (by omega) (by omega), nI_clamp (n := 16 * h + k) (by omega), e77, if_lt (by omega) (by omega)]
          by_cases zi : i < sz k
          · rw [if_pos zi, if_pos zi, show (40 : Int32) * nI (16 * h + k) + nI i = nI (40 * (16 * h + k) + i) by rw [show (40 : Int32) = nI 40 from rfl, pk_mul, nI_add], ck_n (by omega) (by omega), nI_clamp (by omega), show w 78 (40 * (16 * h + k) + i) = nI (bs k i) from (a2.2 k hk).2 i zi]
            exact st_same _ R
          · rw [if_neg zi, if_neg zi]
            exact st_same _ R
    · have Y : (if b < 0 then some ((-1 : Int32), w) else if b < nI n then sv_le ((((16 : Int32) * nI h) + b)) fun x3 => if c = (-1 : Int32) then sv_ck x3 32 <| some ((w 77 x3.toNatClampNeg), w) else if c < 0 then some ((-1 : Int32), w) else sv_ck x3 32 <| if c < (w 77 x3.toNatClampNeg) then sv_ck (((40 : Int32) * x3) + c) 1280 <| some ((w 78 (((40 : Int32) * x3) + c).toNatClampNeg), w) else some ((-1 : Int32), w) else some ((-1 : Int32), w)) = some ((-1 : Int32), w) := by
        by_cases z0 : b < 0
        · rw [if_pos z0]
        · obtain ⟨k, hk, rfl⟩ := nI_of z0
          rw [if_neg z0, if_neg (fun t => by
            have := (nI_ltI hk (by omega)).mp t
            exact hn k this rfl)]
      rw [Y]
      unfold f_Rows_at
      rw [s1]
      by_cases z : c = -1
      · rw [if_pos z]
        exact st_same _ R
      · rw [if_neg z]
        by_cases z0 : c < 0
        · rw [if_pos z0]
          exact st_same _ R
        · rw [if_neg z0, bis, if_neg (fun t => z0 (Int32.lt_trans t (by decide)))]
          exact st_same _ R
  · unfold f_W_octet f_M_octet
    rw [(wh_no ha).1, (wh_no ha).2]
    exact st_same (-1) R
set_option maxHeartbeats 1000000 in
theorem w_alter {v w : sv_T} (a b c : Int32) (R : RI v w) : ST v w (f_W_alter a b c v) (f_M_alter a b c w) := by
  rcases eh_of a with ⟨h, hh, rfl⟩ | ha
  · have hg : h + (1 - h) = 1 := by omega
    have d : h = 0 ∨ h = 1 := by omega
    obtain ⟨n, sz, bs, a1, a2, a3, a4, a5⟩ := (R.1.way (h := h) (g := 1 - h) (q := 4 - 3 * h) hg rfl).2
    unfold f_W_alter f_M_alter f_Rows_alterFirst
    rw [(wh_yes hh).1, bis, if_neg (show ¬ (1 : Int32) = 0 by decide), an_go hh a2.1 a4, bis, if01, ws_at hh]
    by_cases hn : 0 < n
    · have zk := (a3 0 hn).1
      have e77 : w 77 (16 * h) = nI (sz 0) := (a2.2 0 hn).1
      have s1 : f_Rows_sizeOf (1 + 3 * h) 0 v = some (nI (sz 0), v) := by
        rcases rc_size (rs_w hh) a1 a4 0 with ⟨k, hk, e, s1⟩ | ⟨hx, s1⟩
        · have ek : k = 0 := ((nI_eq (a := 0) (b := k) (by omega) (by omega)).mp e).symm
          subst ek
          exact s1
        · exact absurd rfl (hx 0 hn)
      rw [if_pos hn, s1, bis, show (16 : Int32) * nI h = nI (16 * h) from pk_mul 16 h, ck_n (show 16 * h < 32 by omega) (by omega), nI_clamp (n := 16 * h) (by omega), e77]
      by_cases c1 : c < 1
      · rw [if_pos c1, if_pos c1]
        by_cases b0 : b < 0
        · rw [if_pos b0]
          exact st_same 0 R
        · rw [if_neg b0]
          by_cases b1 : b < nI (sz 0)
          · rw [if_pos b1]
            exact st_same 0 R
          · rw [if_neg b1]
            exact st_same 0 R
      rw [if_neg c1, if_neg c1]
      by_cases c2 : c ≤ 255
      · have c2' : ¬ (255 : Int32) < c := Int32.not_lt.mpr c2
        rw [if_pos c2, if_neg c2']
        by_cases b0 : b < 0
        · rw [if_pos b0, if_pos b0]
          exact st_same 0 R
        rw [if_neg b0, if_neg b0]
        by_cases b1 : b < nI (sz 0)
        · rw [if_pos b1, if_pos b1]
          obtain ⟨i, hi, rfl⟩ := nI_of b0
          have hi2 : i < sz 0 := (nI_ltI hi (by omega)).mp b1
          have c0 : ¬ c < 0 := fun t => c1 (Int32.lt_trans t (by decide))
          obtain ⟨m, hm, rfl⟩ := nI_of2 (n := 255) (by decide) c0 c2
          obtain ⟨x1, x2⟩ := xr8 ((a3 0 hn).2 i hi2) (show m < 256 by omega)
          obtain ⟨r1, r2, r3, r4, r5, r6, r7, r8, r9, r10⟩ := rs_w hh
          have evb : v (1 + 3 * h + 1) i = nI (bs 0 i) := by
            have t : v (1 + 3 * h + 1) (0 * 37 + i) = nI (bs 0 i) := (a1.2 0 hn).2 i hi2
            rw [Nat.zero_mul, Nat.zero_add] at t
            exact t
          have ewb : w 78 (640 * h + i) = nI (bs 0 i) := by
            have t : w 78 (40 * (16 * h + 0) + i) = nI (bs 0 i) := (a2.2 0 hn).2 i hi2
            rw [show 40 * (16 * h + 0) + i = 640 * h + i by omega] at t
            exact t
          rw [show (640 : Int32) * nI h + nI i = nI (640 * h + i) by rw [show (640 : Int32) = nI 640 from rfl, pk_mul, nI_add]]
          simp only [r3, r5, ck_n (show i < (16 + 1) * 37 by omega) (show (16 + 1) * 37 < 2 ^ 31 by omega), ck_n (show 640 * h + i < 1280 by omega) (show 1280 < 2 ^ 31 by omega), nI_clamp (show i < 2 ^ 31 by omega), nI_clamp (show 640 * h + i < 2 ^ 31 by omega), sv_ls, evb, ewb, x1]
          rw [bis, if_neg (by decide)]
          generalize hv1 : sv_up v (1 + 3 * h + 1) i (nI (bs 0 i ^^^ m)) = v1
          generalize hw1 : sv_up w 78 (640 * h + i) (nI (bs 0 i ^^^ m)) = w1
          have W1 : WR v1 w1 h (1 + 3 * h) := by
            refine ⟨n, sz, fun k t => if k = 0 ∧ t = i then bs 0 i ^^^ m else bs k t, ⟨?_, fun k hk => ⟨?_, fun t ht => ?_⟩⟩, ⟨?_, fun k hk => ⟨?_, fun t ht => ?_⟩⟩, fun k hk => ⟨(a3 k hk).1, fun t ht => ?_⟩, a4, a5⟩
            · rw [← hv1, up_q (by omega)]; exact a1.1
            · show v1 (1 + 3 * h + 2) k = _
              rw [← hv1, up_q (by omega)]; exact (a1.2 k hk).1
            · show v1 (1 + 3 * h + 1) (k * 37 + t) = nI (if k = 0 ∧ t = i then bs 0 i ^^^ m else bs k t)
              have := (a3 k hk).1
              by_cases z : k = 0 ∧ t = i
              · obtain ⟨rfl, rfl⟩ := z
                rw [if_pos ⟨rfl, rfl⟩, ← hv1, Nat.zero_mul, Nat.zero_add, up_s]
              · rw [if_neg z, ← hv1, up_i (by omega)]
                exact (a1.2 k hk).2 t ht
            · rw [← hw1, up_q (by decide)]; exact a2.1
            · show w1 77 (16 * h + k) = _
              rw [← hw1, up_q (by decide)]; exact (a2.2 k hk).1
            · show w1 78 (40 * (16 * h + k) + t) = nI (if k = 0 ∧ t = i then bs 0 i ^^^ m else bs k t)
              have := (a3 k hk).1
              by_cases z : k = 0 ∧ t = i
              · obtain ⟨rfl, rfl⟩ := z
                rw [if_pos ⟨rfl, rfl⟩, ← hw1, show 40 * (16 * h + 0) + t = 640 * h + t by omega, up_s]
              · rw [if_neg z, ← hw1, up_i (by omega)]
                exact (a2.2 k hk).2 t ht
            · show (if k = 0 ∧ t = i then bs 0 i ^^^ m else bs k t) < 256
              split
              · exact x2
              · exact (a3 k hk).2 t ht
          obtain ⟨R1, R2, R3⟩ := R.way hh W1 (fun p h1 h2 h3 => by rw [← hv1, sv_up_off _ _ _ h2]) (fun c' sz' bs' q1 q2 q3 => by
            refine RP.same q3 ?_ (fun k _ => ?_) (fun k hk t ht => ?_)
            · rw [← hw1, up_q (by decide)]
            · show w1 77 _ = w 77 _
              rw [← hw1, up_q (by decide)]
            · show w1 78 (40 * (16 * (1 - h) + k) + t) = w 78 (40 * (16 * (1 - h) + k) + t)
              have := (q2 k hk).1
              rw [← hw1, up_i (by omega)]) (fun p h1 h2 h3 h4 h5 => by rw [← hw1, sv_up_off _ _ _ h3]) (fun t _ => by rw [← hw1, up_q (by decide)])
          exact ⟨1, v1, w1, rfl, rfl, R1, R3, R2⟩
        · rw [if_neg b1, if_neg b1]
          exact st_same 0 R
      · have c2' : (255 : Int32) < c := Int32.not_le.mp c2
        rw [if_neg c2, if_pos c2']
        by_cases b0 : b < 0
        · rw [if_pos b0]
          exact st_same 0 R
        · rw [if_neg b0]
          by_cases b1 : b < nI (sz 0)
          · rw [if_pos b1]
            exact st_same 0 R
          · rw [if_neg b1]
            exact st_same 0 R
    · have hn0 : n = 0 := by omega
      subst hn0
      have s1 : f_Rows_sizeOf (1 + 3 * h) 0 v = some (-1, v) := by
        rcases rc_size (rs_w hh) a1 a4 0 with ⟨k, hk, e, s1⟩ | ⟨hx, s1⟩
        · omega
        · exact s1
      rw [if_neg hn, s1, bis]
      by_cases c1 : c < 1
      · rw [if_pos c1]
        exact st_same 0 R
      rw [if_neg c1]
      by_cases c2 : c ≤ 255
      · rw [if_pos c2]
        by_cases b0 : b < 0
        · rw [if_pos b0]
          exact st_same 0 R
        · rw [if_neg b0, if_neg (fun t => b0 (Int32.lt_trans t (by decide)))]
          exact st_same 0 R
      · rw [if_neg c2]
        exact st_same 0 R
  · unfold f_W_alter f_M_alter f_M_any
    rw [(wh_no ha).1, (wh_no ha).2]
    exact st_same 0 R
set_option maxHeartbeats 1000000 in
theorem w_host {v w : sv_T} (a b : Int32) (R : RI v w) : ST v w (f_W_host a b v) (f_M_host a b w) := by
  rcases eh_of a with ⟨h, hh, rfl⟩ | ha
  · obtain ⟨s1, s2, s3, s4, s5, s6, s7, s8, s9, s10, s11, s12, s13, s14, s15, s16⟩ := sh_H hh (B := 9 + 33 * h) rfl
    obtain ⟨p1, p2, p3, p4, p5, p6, p7, p8, p9⟩ := sh_P hh (B := 9 + 33 * h) rfl
    have l6 := (sh_L (h := h) (B := 9 + 33 * h) (q := 4 - 3 * h) hh rfl rfl).2.2.1
    obtain ⟨⟨n, sz, bs, l1, l2, l3, l4, l5⟩, k4, k5, k6, k11⟩ := R.1.2.2 h hh
    obtain ⟨g1, g2⟩ := R.2.1.2.2.1 h hh
    obtain ⟨u0, a1, a2, a3, a4⟩ := R.2.1.2.1 h 0 hh (by omega)
    obtain ⟨u1, b1, b2, b3, b4⟩ := R.2.1.2.1 h 1 hh (by omega)
    rw [show 20 + 33 * h + 2 * 0 = 9 + 33 * h + 11 by omega] at a2
    rw [show 20 + 33 * h + 2 * 1 = 9 + 33 * h + 13 by omega] at b2
    rw [Nat.add_zero] at a3
    unfold f_W_host f_M_host f_Host_about f_M_host_b100 f_M_host_b118 f_Rows_count f_Pieces_slotsInUse f_Pieces_slotsInUse_b15 f_Pieces_slotsInUse_b30
    rw [(wh_yes hh).1, (wh_yes hh).2, bis, bis, if_neg (show ¬ (1 : Int32) = 0 by decide), if_neg (show ¬ (1 : Int32) = 0 by decide), hs_at hh]
    rw [show (2 : Int32) * nI h = nI (2 * h) from pk_mul 2 h, nI_1]
    simp only [sv_bi, Option.bind_some, ck_n (show h < 2 by omega) (show 2 < 2 ^ 31 by omega), nI_clamp (show h < 2 ^ 31 by omega), ck_n (show 2 * h < 4 by omega) (show 4 < 2 ^ 31 by omega), nI_clamp (show 2 * h < 2 ^ 31 by omega), ck_n (show 2 * h + 1 < 4 by omega) (show 4 < 2 ^ 31 by omega), nI_clamp (show 2 * h + 1 < 2 ^ 31 by omega), s2, s3, l6, p1, p2, k4.eq, k5.eq, k6.eq, k11.eq, g1, g2, a2, a3, b2, b3, l1.1, l2.1]
    by_cases c0 : b = 0
    · simp only [if_pos c0]; exact st_same _ R
    simp only [if_neg c0]
    by_cases c1 : b = 1
    · simp only [if_pos c1]; exact st_same _ R
    simp only [if_neg c1]
    by_cases c2 : b = 2
    · simp only [if_pos c2]; exact st_same _ R
    simp only [if_neg c2]
    by_cases c3 : b = 3
    · simp only [if_pos c3]; exact st_same _ R
    simp only [if_neg c3]
    by_cases c4 : b = 4
    · simp only [if_pos c4]
      by_cases x0 : nI u0 = 0
      · simp only [if_pos x0]
        by_cases x1 : nI u1 = 0
        · simp only [if_pos x1]; exact st_same _ R
        · simp only [if_neg x1]; exact st_same _ R
      · simp only [if_neg x0]
        by_cases x1 : nI u1 = 0
        · simp only [if_pos x1]; exact st_same _ R
        · simp only [if_neg x1]; exact st_same _ R
    simp only [if_neg c4]
    by_cases c5 : b = 5
    · simp only [if_pos c5]; exact st_same _ R
    simp only [if_neg c5]
    by_cases c6 : b = 6
    · simp only [if_pos c6]; exact st_same _ R
    simp only [if_neg c6]
    by_cases c7 : b = 7
    · simp only [if_pos c7]; exact st_same _ R
    · simp only [if_neg c7]; exact st_same _ R
  · unfold f_W_host f_M_host
    rw [(wh_no ha).1, (wh_no ha).2]
    exact st_same (-1) R
