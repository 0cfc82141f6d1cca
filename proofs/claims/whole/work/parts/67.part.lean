theorem pp_go {v : sv_T} {a i x : Nat} (hi : i + 1 < sv_len (sg a)) (hl : sv_len (sg a) ≤ 1000) (hx : x < 2 ^ 31) : f_Num_putPair a (nI i) (nI x) v = some (sv_up (sv_up v a i (nI (x / 256 % 256))) a (i + 1) (nI (x % 256))) := by
  unfold f_Num_putPair
  dsimp only [sv_ls]
  have e1 : nI x >>> 8 = nI (x / 256) := pk_shrN hx 8 8 (by decide)
  have e2 : nI (x / 256) &&& 255 = nI (x / 256 % 256) := pk_andN (m := 255) (by omega) 8 (by decide)
  have e3 : nI x &&& 255 = nI (x % 256) := pk_andN (m := 255) (by omega) 8 (by decide)
  rw [e1, e2, e3, nI_1, ck_n (by omega) (by omega), ck_n (by omega) (by omega), nI_clamp (by omega), nI_clamp (by omega)]
theorem mc_loop {w : sv_T} {a n : Nat} (hn : n ≤ 64) (ha : n ≤ sv_len (sg a)) (hl : sv_len (sg a) ≤ 1000) (hne : a ≠ 115) : sv_loop (fun (s : Int32 × sv_T) => f_M_copyRow_l2 a (nI n) s.1 (s.2)) 100000 ((0 : Int32), w) = some (sv_cp w a 0 115 0 n) := by
  have key := lp_to (f := fun (s : Int32 × sv_T) => f_M_copyRow_l2 a (nI n) s.1 (s.2)) (fun k => (nI k, sv_cp w a 0 115 0 k)) n (a := sv_cp w a 0 115 0 n) (fun k hk => ?_) ?_ (n := 100000) (by omega)
  · rw [cp_0] at key
    exact key
  · show f_M_copyRow_l2 a (nI n) (nI k) (sv_cp w a 0 115 0 k) = _
    unfold f_M_copyRow_l2
    dsimp only [sv_ls, sv_le]
    rw [if_lt (by omega) (by omega), if_pos hk, ck_n (by omega) (by omega), ck_n (by omega) (by omega), nI_clamp (by omega), cp_q hne, nI_1]
    have e := up_cp (v := w) (w := sv_cp w a 0 115 0 k) (q := a) (sp := 0) (q1 := 115) (dp := 0) (n := k) (x := w a k) rfl (by rw [Nat.zero_add])
    rw [Nat.zero_add] at e
    rw [e]
  · show f_M_copyRow_l2 a (nI n) (nI n) (sv_cp w a 0 115 0 n) = _
    unfold f_M_copyRow_l2
    rw [if_lt (by omega) (by omega), if_neg (by omega)]
theorem mc_go {w : sv_T} {a n : Nat} (hn : n ≤ 64) (ha : n ≤ sv_len (sg a)) (hl : sv_len (sg a) ≤ 1000) (hne : a ≠ 115) : f_M_copyRow a (nI n) w = some (sv_up (sv_cp w a 0 115 0 n) 75 43 (nI n)) := by
  unfold f_M_copyRow
  rw [mc_loop hn ha hl hne]
  rfl
/-- a packet's head without its check -/
def hd_f (h n id off mo proto : Nat) : Nat → Nat := fun i => match i with
  | 0 => 10 + n
  | 1 => id
  | 2 => off / 4 + mo
  | 3 => 64
  | 4 => proto
  | 5 => 0
  | 6 => 0
  | 7 => 0
  | 8 => 1 + h
  | 9 => 2 - h
  | _ => 0
def hd_c (h n id off mo proto : Nat) : Nat := 65535 - ck_r (ck_s (hd_f h n id off mo proto) 10)
def pt_f (h n id off mo proto : Nat) (m : Nat → Nat) : Nat → Nat := fun i => if i = 6 then hd_c h n id off mo proto / 256 else if i = 7 then hd_c h n id off mo proto % 256 else if i < 10 then hd_f h n id off mo proto i else m (off + (i - 10))
theorem hd_lt {h n id off mo proto : Nat} (hh : h ≤ 1) (hn : n ≤ 24) (hid : id < 256) (ho : off ≤ 24) (hmo : mo ≤ 128) (hp : proto < 256) : ∀ i, i < 10 → hd_f h n id off mo proto i < 256 := fun i hi => by
  rcases (show i = 0 ∨ i = 1 ∨ i = 2 ∨ i = 3 ∨ i = 4 ∨ i = 5 ∨ i = 6 ∨ i = 7 ∨ i = 8 ∨ i = 9 by omega) with rfl | rfl | rfl | rfl | rfl | rfl | rfl | rfl | rfl | rfl <;> simp only [hd_f] <;> omega
theorem hd_c_le {h n id off mo proto : Nat} : hd_c h n id off mo proto ≤ 65535 := by
  unfold hd_c
  omega
/-- the class's places that a host's sendPacket may change -/
def CP (h : Nat) (v v' : sv_T) : Prop := ∀ p, (p = 0 ∨ 6 < p) → (p < 9 + 33 * h + 5 ∨ 9 + 33 * h + 9 < p) → p ≠ 9 + 33 * h + 31 → v' p = v p
theorem mp_loop {w : sv_T} {h off n : Nat} (hn : n ≤ 24) (ho : off + n ≤ 64) : sv_loop (fun (s : Int32 × sv_T) => f_M_part_l148 (nI h) (nI off) (nI n) s.1 (s.2)) 100000 ((0 : Int32), w) = some (sv_cp w 114 off 116 10 n) := by
  have key := lp_to (f := fun (s : Int32 × sv_T) => f_M_part_l148 (nI h) (nI off) (nI n) s.1 (s.2)) (fun k => (nI k, sv_cp w 114 off 116 10 k)) n (a := sv_cp w 114 off 116 10 n) (fun k hk => ?_) ?_ (n := 100000) (by omega)
  · rw [cp_0] at key
    exact key
  · show f_M_part_l148 (nI h) (nI off) (nI n) (nI k) (sv_cp w 114 off 116 10 k) = _
    unfold f_M_part_l148
    dsimp only [sv_ls, sv_le]
    rw [if_lt (by omega) (by omega), if_pos hk, nI_add, ck_n (by omega) (by omega), show (10 : Int32) = nI 10 from rfl, nI_add, ck_n (by omega) (by omega), nI_clamp (by omega), nI_clamp (by omega), cp_q (by decide), nI_1, up_cp rfl rfl]
  · show f_M_part_l148 (nI h) (nI off) (nI n) (nI n) (sv_cp w 114 off 116 10 n) = _
    unfold f_M_part_l148
    rw [if_lt (by omega) (by omega), if_neg (by omega)]
set_option maxHeartbeats 2000000 in
/-- a part of a message goes -/
theorem nr_part {v w : sv_T} {h B n off mo proto : Nat} {m : Nat → Nat} {mr : Int32} (hh : h ≤ 1) (hB : B = 9 + 33 * h) (N : NR v w) (hn : n ≤ 24) (ho : off ≤ 24) (hmo : (mr = 0 ∧ mo = 0) ∨ (mr = 1 ∧ mo = 128)) (hpr : proto < 256) (hv0 : v (B + 32) 0 = nI proto) (hvm : ∀ i, i < n → v (B + 32) (1 + (off + i)) = nI (m (off + i))) (hwm : ∀ i, i < n → w 114 (off + i) = nI (m (off + i))) (hm : ∀ i, i < n → m (off + i) < 256) :
    ∃ v' w', f_Host_sendPacket B (nI off) (nI n) mr v = some v' ∧ f_M_part (nI h) (nI proto) (nI off) (nI n) mr w = some w' ∧ NR v' w' ∧ CP h v v' ∧ MS w w' := by
  obtain ⟨s1, s2, s3, s4, s5, s6, s7, s8, s9, s10, s11, s12, s13, s14, s15, s16⟩ := sh_H hh hB
  obtain ⟨n1, n2, n3, n4, ⟨id, i1, i2, i3⟩⟩ := N.2.2 h hh
  rw [← hB] at i2
  have e1 : (1 : Int32) + nI h = nI (1 + h) := nI_add 1 h
  have e2 : (1 : Int32) + ((1 : Int32) - nI h) = nI (2 - h) := by
    rw [show (1 : Int32) = nI 1 from rfl, pk_sub hh, nI_add, show 1 + (1 - h) = 2 - h by omega]
  have e4 : (2 : Int32) - nI h = nI (2 - h) := pk_sub (show h ≤ 2 by omega)
  have e5 : (10 : Int32) + nI n = nI (10 + n) := nI_add 10 n
  have e6 : nI off / 4 = nI (off / 4) := pk_div (d := 4) (by omega) (by omega) (by omega)
  have hcl := @hd_c_le h n id off mo proto
  -- the class's packet, with its head
  generalize hv1 : sv_up (sv_up (sv_up (sv_up (sv_up (sv_up (sv_up (sv_up (sv_up (sv_up v (B + 31) 0 (nI (10 + n))) (B + 31) 1 (nI id)) (B + 31) 2 (nI (off / 4 + mo))) (B + 31) 3 (nI 64)) (B + 31) 4 (nI proto)) (B + 31) 5 (nI 0)) (B + 31) 6 (nI 0)) (B + 31) 7 (nI 0)) (B + 31) 8 (nI (1 + h))) (B + 31) 9 (nI (2 - h)) = v1
  have kv1 : ∀ p, p ≠ B + 31 → v1 p = v p := fun p hp => by
    rw [← hv1]
    simp only [sv_up_off _ _ _ hp]
  have hv2 : ∀ i, i < 10 → v1 (B + 31) (0 + i) = nI (hd_f h n id off mo proto i) := fun i hi => by
    rw [← hv1, Nat.zero_add]
    rcases (show i = 0 ∨ i = 1 ∨ i = 2 ∨ i = 3 ∨ i = 4 ∨ i = 5 ∨ i = 6 ∨ i = 7 ∨ i = 8 ∨ i = 9 by omega) with rfl | rfl | rfl | rfl | rfl | rfl | rfl | rfl | rfl | rfl <;> simp [up_a, hd_f]
  have hck := cc_check (st := 0) (a := B + 31) (from0 := 0) (n := 10) (v := v1) (by omega) (by omega) (by omega) hv2 (hd_lt hh hn i1 ho (by omega) hpr)
  rw [Nat.zero_add] at hck
  generalize hv3 : sv_cp (sv_up (sv_up v1 (B + 31) 6 (nI (hd_c h n id off mo proto / 256 % 256))) (B + 31) (6 + 1) (nI (hd_c h n id off mo proto % 256))) (B + 32) (1 + off) (B + 31) 10 n = v3
  have kv3 : ∀ p, p ≠ B + 31 → v3 p = v p := fun p hp => by
    rw [← hv3, cp_off hp, sv_up_off _ _ _ hp, sv_up_off _ _ _ hp, kv1 p hp]
  have hv4 : ∀ i, i < 10 + n → v3 (B + 31) i = nI (pt_f h n id off mo proto m i) := fun i hi => by
    rw [← hv3]
    unfold pt_f
    by_cases z : i < 10
    · rw [cp_out (by omega)]
      by_cases z7 : i = 7
      · subst z7
        rw [up_s]
        rfl
      · rw [up_i z7]
        by_cases z6 : i = 6
        · subst z6
          rw [up_s, if_pos rfl, show hd_c h n id off mo proto / 256 % 256 = hd_c h n id off mo proto / 256 by omega]
        · rw [up_i z6, if_neg z6, if_neg z7, if_pos z]
          have := hv2 i z
          rw [Nat.zero_add] at this
          exact this
    · obtain ⟨i', rfl⟩ : ∃ i', i = 10 + i' := ⟨i - 10, by omega⟩
      rw [cp_in (by omega), up_q (by omega), up_q (by omega), kv1 _ (by omega), if_neg (by omega), if_neg (by omega), if_neg (by omega), show 1 + off + i' = 1 + (off + i') by omega, hvm i' (by omega), show 10 + i' - 10 = i' by omega]
  -- the reference's
  generalize hw1 : sv_up (sv_up (sv_up (sv_up (sv_up (sv_up (sv_up (sv_up (sv_up (sv_up w 116 0 (nI (10 + n))) 116 1 (nI id)) 116 2 (nI (off / 4 + mo))) 116 3 (nI 64)) 116 4 (nI proto)) 116 5 (nI 0)) 116 6 (nI 0)) 116 7 (nI 0)) 116 8 (nI (1 + h))) 116 9 (nI (2 - h)) = w1
  have kw1 : ∀ p, p ≠ 116 → w1 p = w p := fun p hp => by
    rw [← hw1]
    simp only [sv_up_off _ _ _ hp]
  have hw2 : ∀ i, i < 10 → w1 116 i = nI (hd_f h n id off mo proto i) := fun i hi => by
    rw [← hw1]
    rcases (show i = 0 ∨ i = 1 ∨ i = 2 ∨ i = 3 ∨ i = 4 ∨ i = 5 ∨ i = 6 ∨ i = 7 ∨ i = 8 ∨ i = 9 by omega) with rfl | rfl | rfl | rfl | rfl | rfl | rfl | rfl | rfl | rfl <;> simp [up_a, hd_f]
  generalize hw3 : sv_up (sv_cp w1 116 0 115 0 10) 75 43 (nI 10) = w3
  have kw3 : ∀ p, p ≠ 116 → p ≠ 115 → p ≠ 75 → w3 p = w p := fun p h1 h2 h3 => by
    rw [← hw3, sv_up_off _ _ _ h3, cp_off h2, kw1 p h1]
  have hmk := cm_check (w := w3) (n := 10) (f := hd_f h n id off mo proto) (by omega) (by rw [← hw3, up_s]) (fun i hi => by
    have e := cp_in (v := w1) (q := 116) (sp := 0) (q1 := 115) (dp := 0) (n := 10) (i := i) hi
    rw [Nat.zero_add] at e
    rw [← hw3, up_q (by decide), e]
    exact hw2 i hi) (hd_lt hh hn i1 ho (by omega) hpr)
  generalize hw4 : sv_cp (sv_up (sv_up w3 116 6 (nI (hd_c h n id off mo proto / 256))) 116 7 (nI (hd_c h n id off mo proto % 256))) 114 off 116 10 n = w4
  have kw4 : ∀ p, p ≠ 116 → w4 p = w3 p := fun p hp => by
    rw [← hw4, cp_off hp, sv_up_off _ _ _ hp, sv_up_off _ _ _ hp]
  have hw5 : ∀ i, i < 10 + n → w4 116 i = nI (pt_f h n id off mo proto m i) := fun i hi => by
    rw [← hw4]
    unfold pt_f
    by_cases z : i < 10
    · rw [cp_out (by omega)]
      by_cases z7 : i = 7
      · subst z7
        rw [up_s]
        rfl
      · rw [up_i z7]
        by_cases z6 : i = 6
        · subst z6
          rw [up_s, if_pos rfl]
        · rw [up_i z6, if_neg z6, if_neg z7, if_pos z, ← hw3, up_q (by decide), cp_q (by decide)]
          exact hw2 i z
    · obtain ⟨i', rfl⟩ : ∃ i', i = 10 + i' := ⟨i - 10, by omega⟩
      rw [cp_in (by omega), up_q (by decide), up_q (by decide), kw3 114 (by decide) (by decide) (by decide), if_neg (by omega), if_neg (by omega), if_neg (by omega), hwm i' (by omega), show 10 + i' - 10 = i' by omega]
  have hlt : ∀ i, i < 10 + n → pt_f h n id off mo proto m i < 256 := fun i hi => by
    unfold pt_f
    by_cases z6 : i = 6
    · rw [if_pos z6]; omega
    · rw [if_neg z6]
      by_cases z7 : i = 7
      · rw [if_pos z7]; omega
      · rw [if_neg z7]
        by_cases z : i < 10
        · rw [if_pos z]; exact hd_lt hh hn i1 ho (by omega) hpr i z
        · rw [if_neg z]; exact hm (i - 10) (by omega)
  have N4 : NR v3 w4 := N.keep (fun p hp => kv3 p (by omega)) (fun p h1 h2 => (kw4 p (by omega)).trans (kw3 p (by omega) (by omega) (by omega)))
  obtain ⟨v', w', f1, f2, f3, f4, f5, f6⟩ := nr_pkt (n := 10 + n) hh hB N4 (by omega) (by omega) (by rw [hw5 0 (by omega)]; rfl) hw5 hv4 hlt
  refine ⟨v', w', ?_, ?_, f3, fun p h1 h2 h3 => (f4 p h1 h2).trans (kv3 p (by omega)), ⟨fun p h1 h2 h3 h4 => (f5.1 p h1 h2 h3 h4).trans ((kw4 p h4).trans (kw3 p h4 h3 (by omega))), fun i h1 h2 => ?_⟩⟩
  · have e39 : f_Host_sendPacket_b39 B (nI off) (nI n) (nI mo) (nI (off / 4)) (nI 2) (B + 31) (sv_up (sv_up v (B + 31) 0 (nI (10 + n))) (B + 31) 1 (nI id)) = some v' := by
      unfold f_Host_sendPacket_b39 f_Link_addressOf
      dsimp only [sv_ls, sv_bi, Option.bind]
      rw [s1, s2, s10, s11, ck_n (by omega) (by omega), nI_clamp (by omega), nI_add, up_q (by omega), up_q (by omega), up_q (by omega), up_q (by omega), hv0]
      rw [show (6 : Int32) = nI 6 from rfl, show (0 : Int32) = nI 0 from rfl, pp_go (by omega) (by omega) (by omega)]
      dsimp only [sv_bv, Option.bind]
      rw [e1, e2]
      show Option.bind (f_Num_check (nI 0) (B + 31) (nI 0) (nI 10) _) _ = _
      rw [show sv_up (sv_up (sv_up (sv_up (sv_up (sv_up (sv_up (sv_up (sv_up (sv_up v (B + 31) 0 (nI (10 + n))) (B + 31) 1 (nI id)) (B + 31) 2 (nI (off / 4 + mo))) (B + 31) 3 64) (B + 31) 4 (nI proto)) (B + 31) 5 (nI 0)) (B + 31) 6 (nI (0 / 256 % 256))) (B + 31) (6 + 1) (nI (0 % 256))) (B + 31) 8 (nI (1 + h))) (B + 31) 9 (nI (2 - h)) = v1 from hv1, hck]
      dsimp only [Option.bind]
      rw [pp_go (x := 65535 - ck_r (ck_s (hd_f h n id off mo proto) 10)) (by omega) (by omega) (by omega)]
      dsimp only
      rw [show (1 : Int32) = nI 1 from rfl, nI_add, show (10 : Int32) = nI 10 from rfl, cc_n (by omega) (by omega) (by omega) (by omega), nI_clamp (by omega), nI_clamp (by omega), nI_clamp (by omega), nI_add]
      rw [show sv_cp (sv_up (sv_up v1 (B + 31) 6 (nI ((65535 - ck_r (ck_s (hd_f h n id off mo proto) 10)) / 256 % 256))) (B + 31) (6 + 1) (nI ((65535 - ck_r (ck_s (hd_f h n id off mo proto) 10)) % 256))) (B + 32) (1 + off) (B + 31) 10 n = v3 from hv3, f1]
    unfold f_Host_sendPacket
    dsimp only [sv_ls]
    rw [s10, e5, up_q (by omega), i2, e6]
    rcases hmo with ⟨g1, g2⟩ | ⟨g1, g2⟩
    · rw [if_pos g1]
      rw [g2] at e39
      exact e39
    · rw [if_neg (by rw [g1]; decide)]
      rw [g2] at e39
      exact e39
  · have e43 : f_M_part_b43 (nI h) (nI proto) (nI off) (nI n) (nI mo) (nI (off / 4)) (nI 2) (sv_up (sv_up w 116 0 (nI (10 + n))) 116 1 (nI id)) = some w' := by
      unfold f_M_part_b43
      dsimp only [sv_ls]
      rw [ck_n (by omega) (by omega), nI_clamp (by omega), nI_add, e1, e4]
      rw [show sv_up (sv_up (sv_up (sv_up (sv_up (sv_up (sv_up (sv_up (sv_up (sv_up w 116 0 (nI (10 + n))) 116 1 (nI id)) 116 2 (nI (off / 4 + mo))) 116 3 64) 116 4 (nI proto)) 116 5 0) 116 6 0) 116 7 0) 116 8 (nI (1 + h))) 116 9 (nI (2 - h)) = w1 from hw1]
      rw [show (10 : Int32) = nI 10 from rfl, mc_go (a := 116) (n := 10) (by omega) (show 10 ≤ 40 by omega) (show 40 ≤ 1000 by omega) (by omega), hw3]
      dsimp only [sv_bv, sv_bi, Option.bind]
      rw [hmk]
      dsimp only
      have x1 : nI (65535 - ck_r (ck_s (hd_f h n id off mo proto) 10)) / 256 = nI (hd_c h n id off mo proto / 256) := pk_div (d := 256) (by omega) (by omega) (by omega)
      have x2 : sv_rem (nI (65535 - ck_r (ck_s (hd_f h n id off mo proto) 10))) 256 = nI (hd_c h n id off mo proto % 256) := pk_rem (d := 256) (by omega) (by omega) (by omega)
      rw [x1, x2, mp_loop hn (by omega), hw4]
      show f_M_part_x180 (nI h) w4 = _
      unfold f_M_part_x180
      rw [f2]
      rfl
    unfold f_M_part
    dsimp only [sv_ls]
    rw [e5, ck_n (by omega) (by omega), nI_clamp (by omega), up_q (by decide), i3, e6]
    rcases hmo with ⟨g1, g2⟩ | ⟨g1, g2⟩
    · rw [if_pos g1]
      rw [g2] at e43
      exact e43
    · rw [if_neg (by rw [g1]; decide)]
      rw [g2] at e43
      exact e43
  · rw [f5.2 i h1 h2, kw4 75 (by decide), ← hw3, up_i h2, cp_q (by decide), kw1 75 (by decide)]
