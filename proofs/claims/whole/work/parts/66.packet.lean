theorem ml_loop {w : sv_T} {h l n : Nat} (hn : n ≤ 40) (hl : 40 * l + 40 ≤ 320) (hp0 : w 116 0 = nI n) : sv_loop (fun (s : Int32 × sv_T) => f_M_sendPacket_l50 (nI h) (nI l) s.1 (s.2)) 100000 (nI 0, w) = some (sv_cp w 116 0 81 (40 * l) n) := by
  have key := lp_to (f := fun (s : Int32 × sv_T) => f_M_sendPacket_l50 (nI h) (nI l) s.1 (s.2)) (fun k => (nI k, sv_cp w 116 0 81 (40 * l) k)) n (a := sv_cp w 116 0 81 (40 * l) n) (fun k hk => ?_) ?_ (n := 100000) (by omega)
  · rw [cp_0] at key
    exact key
  · show f_M_sendPacket_l50 (nI h) (nI l) (nI k) (sv_cp w 116 0 81 (40 * l) k) = _
    unfold f_M_sendPacket_l50
    dsimp only [sv_ls, sv_le]
    rw [cp_q (by decide), hp0, if_lt (by omega) (by omega), if_pos hk, ck_n (by omega) (by omega), show (40 : Int32) = nI 40 from rfl, pk_mul, nI_add, ck_n (by omega) (by omega), nI_clamp (by omega), nI_clamp (by omega), cp_q (by decide), nI_1, up_cp rfl (by rw [Nat.zero_add])]
  · show f_M_sendPacket_l50 (nI h) (nI l) (nI n) (sv_cp w 116 0 81 (40 * l) n) = _
    unfold f_M_sendPacket_l50
    rw [cp_q (by decide), hp0, if_lt (by omega) (by omega), if_neg (by omega)]
theorem sh_H {h B : Nat} (hh : h ≤ 1) (hB : B = 9 + 33 * h) : sv_int (sg B) 0 = nI h ∧ sv_ref (sg B) 1 = B + 5 ∧ sv_ref (sg B) 2 = B + 10 ∧ sv_ref (sg B) 3 = B + 15 ∧ sv_ref (sg B) 4 = B + 16 ∧ sv_ref (sg B) 5 = B + 23 ∧ sv_ref (sg B) 6 = B + 2 ∧ sv_ref (sg B) 7 = B + 1 ∧ sv_ref (sg B) 8 = B + 30 ∧ sv_ref (sg B) 9 = B + 31 ∧ sv_ref (sg B) 10 = B + 32 ∧ RS (B + 2) 8 49 ∧ sv_len (sg (B + 1)) = 48 ∧ sv_len (sg (B + 30)) = 37 ∧ sv_len (sg (B + 31)) = 34 ∧ sv_len (sg (B + 32)) = 49 := by
  subst hB
  rcases (show h = 0 ∨ h = 1 by omega) with rfl | rfl
  · exact ⟨rfl, rfl, rfl, rfl, rfl, rfl, rfl, rfl, rfl, rfl, rfl, ⟨rfl, rfl, rfl, rfl, rfl, rfl, by decide, by decide, by decide, by decide⟩, rfl, rfl, rfl, rfl⟩
  · exact ⟨rfl, rfl, rfl, rfl, rfl, rfl, rfl, rfl, rfl, rfl, rfl, ⟨rfl, rfl, rfl, rfl, rfl, rfl, by decide, by decide, by decide, by decide⟩, rfl, rfl, rfl, rfl⟩
/-- the end of sendPacket: a question, if none is out -/
theorem nr_b93 {v w : sv_T} {h B : Nat} (hh : h ≤ 1) (hB : B = 9 + 33 * h) (N : NR v w) : ∃ v' w', (if (v (B + 5) 6) = 0 then sv_ls (sv_up v (B + 5) 6 (4 : Int32)) fun v2 => sv_bv (f_Link_sendAsk (B + 5) (1 : Int32) (255 : Int32) v2) fun v3 => some v3 else some v) = some v' ∧ f_M_sendPacket_b93 (nI h) w = some w' ∧ NR v' w' ∧ CF h v v' ∧ MS w w' ∧ w' 116 = w 116 := by
  obtain ⟨n1, n2, n3, n4, n5⟩ := N.2.2 h hh
  rw [← hB] at n4
  obtain ⟨t, t1, t2, t3⟩ := n4
  unfold f_M_sendPacket_b93
  dsimp only [sv_ls]
  rw [ck_n (by omega) (by omega), ck_n (by omega) (by omega), nI_clamp (by omega), t2, t3, show (0 : Int32) = nI 0 from rfl, if_eq (by omega) (by omega), if_eq (by omega) (by omega)]
  by_cases e : t = 0
  · rw [if_pos e, if_pos e]
    have N1 : NR (sv_up v (B + 5) 6 (nI 4)) (sv_up w 82 h (nI 4)) := by
      have kv : ∀ p, p ≠ B + 5 → sv_up v (B + 5) 6 (nI 4) p = v p := fun p hp => sv_up_off _ _ _ hp
      have kw : ∀ p, p ≠ 82 → sv_up w 82 h (nI 4) p = w p := fun p hp => sv_up_off _ _ _ hp
      refine ⟨N.1.frame (kv _ (by omega)) (kv _ (by omega)) (kv _ (by omega)) (kw _ (by omega)) (kw _ (by omega)) (kw _ (by omega)), N.2.1.frame (kv _ (by omega)) (kv _ (by omega)) (kv _ (by omega)) (kw _ (by omega)) (kw _ (by omega)) (kw _ (by omega)), fun h' hh' => ?_⟩
      obtain ⟨m1, m2, m3, m4, m5⟩ := N.2.2 h' hh'
      refine ⟨m1.frame (kv _ (by omega)) (kv _ (by omega)) (kv _ (by omega)) (kw _ (by omega)) (kw _ (by omega)) (kw _ (by omega)), ?_, ?_, ?_, ?_⟩
      · rw [kw 83 (by omega)]
        by_cases z : h' = h
        · rw [z, ← hB, up_i (by omega)]; rw [z, ← hB] at m2; exact m2
        · rw [kv _ (by omega)]; exact m2
      · rw [kw 84 (by omega)]
        by_cases z : h' = h
        · rw [z, ← hB, up_i (by omega)]; rw [z, ← hB] at m3; exact m3
        · rw [kv _ (by omega)]; exact m3
      · by_cases z : h' = h
        · rw [z, ← hB, up_s, up_s]; exact EQ.of (by omega)
        · rw [kv _ (by omega), up_i z]; exact m4
      · rw [kw 85 (by omega), kv _ (by omega)]; exact m5
    obtain ⟨v', w', f1, f2, f3, f4, f5, f6, f7, f8, f9, f10, f11⟩ := nr_ask (to := 255) (kind := 1) hh hB N1 (by omega) (by omega)
    refine ⟨v', w', ?_, ?_, f3, fun p h1 h2 => (f4 p h1 h2).trans (sv_up_off _ _ _ (by omega)), ⟨fun p h1 h2 h3 h4 => (f5.1 p h1 h2 h3 h4).trans (sv_up_off _ _ _ (by omega)), fun i h1 h2 => (f5.2 i h1 h2).trans (up_q (by decide))⟩, f11.trans (sv_up_off _ _ _ (by decide))⟩
    · show sv_bv (f_Link_sendAsk (B + 5) (nI 1) (nI 255) (sv_up v (B + 5) 6 (nI 4))) _ = _
      rw [f1]
      rfl
    · show sv_bv (f_M_asks (nI h) (nI 255) (nI 1) (sv_up w 82 h (nI 4))) _ = _
      rw [f2]
      rfl
  · rw [if_neg e, if_neg e]
    exact ⟨v, w, rfl, rfl, N, CF.rf, MS.rf, rfl⟩
/-- a packet is sent, or waits in the line -/
theorem nr_pkt {v w : sv_T} {h B n : Nat} {p : Nat → Nat} (hh : h ≤ 1) (hB : B = 9 + 33 * h) (N : NR v w) (hn : n ≤ 34) (hn0 : 0 < n) (hp0 : w 116 0 = nI n) (hw : ∀ i, i < n → w 116 i = nI (p i)) (hv : ∀ i, i < n → v (B + 31) i = nI (p i)) (hp : ∀ i, i < n → p i < 256) :
    ∃ v' w', f_Link_sendPacket (B + 5) (B + 31) (nI n) v = some v' ∧ f_M_sendPacket (nI h) w = some w' ∧ NR v' w' ∧ CF h v v' ∧ MS w w' ∧ w' 116 = w 116 := by
  obtain ⟨s1, s2, s3, s4, s5, s6, s7⟩ := sh_L (h := h) hh hB rfl
  obtain ⟨_, _, _, _, _, _, _, _, _, _, _, _, _, _, z1, _⟩ := sh_H hh hB
  obtain ⟨n1, ⟨kf, k1, k2, k3⟩, ⟨st, t1, t2, t3⟩, n4, n5⟩ := N.2.2 h hh
  rw [← hB] at k2 t2 n1
  unfold f_Link_sendPacket f_M_sendPacket
  dsimp only [sv_ls, sv_le]
  rw [ck_n (by omega) (by omega), ck_n (by omega) (by omega), nI_clamp (n := h) (by omega), k2, k3, show (0 : Int32) = nI 0 from rfl, if_lt (by omega) (by omega), if_lt (by omega) (by omega)]
  by_cases e : 0 < kf
  · rw [if_pos e, if_pos e, s4, z1, show (3 : Int32) = nI 3 from rfl, cc_n (by omega) (by omega) (by omega) (by omega), nI_clamp (by omega), nI_clamp (by omega), nI_clamp (by omega), nI_add, cp_q (by omega), t2]
    have N1 : NR (sv_cp v (B + 31) 0 (B + 9) 3 n) w := N.keep (fun p hp => cp_off (by omega)) (fun _ _ _ => rfl)
    obtain ⟨v', w', f1, f2, f3, f4, f5, f6, f7, f8, f9, f10, f11⟩ := nr_goes hh hB N1 t3 t1 hn hp0 hw (fun i hi => by rw [cp_in hi, Nat.zero_add]; exact hv i hi) hp
    refine ⟨v', w', ?_, ?_, f3, fun q h1 h2 => (f4 q h1 h2).trans (cp_off (by omega)), f5, f11⟩
    · show sv_bv (f_Link_sendFrame (B + 5) (nI st) (nI 8) (nI (3 + n)) (sv_cp v (B + 31) 0 (B + 9) 3 n)) _ = _
      rw [f1]
      rfl
    · rw [f2]
      rfl
  · rw [if_neg e, if_neg e, s3]
    obtain ⟨c, sz, bs, a1, a2, a3, a4, a5⟩ := n1
    rw [a2.1, show (4 : Int32) = nI 4 from rfl, if_lt (by omega) (by omega)]
    by_cases hc : c < 4
    · rw [if_pos hc, ck_n (by omega) (by omega), pk_mul, nI_add, ck_n (by omega) (by omega), nI_clamp (by omega), hp0, ml_loop (n := n) (by omega) (by omega) (by rw [up_q (by decide)]; exact hp0)]
      obtain ⟨v1, e1, e2, e3⟩ := rc_add (n := n) (r := p) s5 a1 a3 hc (show B + 31 ≠ B + 6 by omega) (show B + 31 ≠ B + 6 + 1 by omega) (show B + 31 ≠ B + 6 + 2 by omega) hv hn (by omega) (by omega)
      rw [e1]
      generalize hw1 : sv_up (sv_cp (sv_up w 80 (4 * h + c) (nI n)) 116 0 81 (40 * (4 * h + c)) n) 79 h (nI (c + 1)) = w1
      have kv : ∀ q, q < B + 6 ∨ B + 8 < q → v1 q = v q := fun q hq => e3 q (by omega) (by omega) (by omega)
      have kw : ∀ q, q ≠ 79 → q ≠ 80 → q ≠ 81 → w1 q = w q := fun q q1 q2 q3 => by
        rw [← hw1, sv_up_off _ _ _ q1, cp_off q3, sv_up_off _ _ _ q2]
      have L1 : RL w1 h (c + 1) (ra_sz c sz n) (ra_bs c bs p) := by
        rw [← hw1]
        refine a2.add up_s ?_ (fun i hi => ?_) (fun k hk => ?_) (fun k hk i hi => ?_)
        · rw [up_q (by decide), cp_q (by decide), up_s]
        · rw [up_q (by decide), cp_in hi, up_q (by decide), Nat.zero_add]
          exact hw i hi
        · rw [up_q (by decide), cp_q (by decide), up_i (by omega)]
        · have := (a3 k hk).1
          rw [up_q (by decide), cp_out (by omega), up_q (by decide)]
      have L2 : ∀ h', h' ≤ 1 → h' ≠ h → ∀ c' sz' bs', c' ≤ 4 → RB 34 c' sz' bs' → RL w h' c' sz' bs' → RL w1 h' c' sz' bs' := fun h' hh' hne c' sz' bs' hc' B' R' => by
        rw [← hw1]
        refine R'.same ?_ (fun k hk => ?_) (fun k hk i hi => ?_)
        · rw [up_i hne, cp_q (by decide), up_q (by decide)]
        · rw [up_q (by decide), cp_q (by decide), up_i (by omega)]
        · have := (B' k hk).1
          rw [up_q (by decide), cp_out (by omega), up_q (by decide)]
      have N1 : NR v1 w1 := by
        refine ⟨N.1.frame (kv _ (by omega)) (kv _ (by omega)) (kv _ (by omega)) (kw _ (by omega) (by omega) (by omega)) (kw _ (by omega) (by omega) (by omega)) (kw _ (by omega) (by omega) (by omega)), N.2.1.frame (kv _ (by omega)) (kv _ (by omega)) (kv _ (by omega)) (kw _ (by omega) (by omega) (by omega)) (kw _ (by omega) (by omega) (by omega)) (kw _ (by omega) (by omega) (by omega)), fun h' hh' => ?_⟩
        obtain ⟨m1, m2, m3, m4, m5⟩ := N.2.2 h' hh'
        refine ⟨?_, ?_, ?_, ?_, ?_⟩
        · by_cases z : h' = h
          · subst z
            rw [← hB]
            exact ⟨_, _, _, e2, L1, a3.add hn hp, by omega, fun k hk => by
              unfold ra_sz ra_bs
              by_cases z : k = c
              · rw [if_pos z, if_pos z]
                exact ⟨hn0, ((nI_eq (by omega) (by have := hp 0 hn0; omega)).mp (hp0.symm.trans (hw 0 hn0))).symm⟩
              · rw [if_neg z, if_neg z]
                exact a5 k (by omega)⟩
          · obtain ⟨c', sz', bs', b1, b2, b3, b4⟩ := m1
            exact ⟨c', sz', bs', b1.same (kv _ (by omega)) (kv _ (by omega)) (kv _ (by omega)), L2 h' hh' z c' sz' bs' b4.1 b3 b2, b3, b4⟩
        · rw [kv _ (by omega), kw 83 (by omega) (by omega) (by omega)]; exact m2
        · rw [kv _ (by omega), kw 84 (by omega) (by omega) (by omega)]; exact m3
        · rw [kv _ (by omega), kw 82 (by omega) (by omega) (by omega)]; exact m4
        · rw [kv _ (by omega), kw 85 (by omega) (by omega) (by omega)]; exact m5
      obtain ⟨v', w', f1, f2, f3, f4, f5, f6⟩ := nr_b93 hh hB N1
      refine ⟨v', w', f1, ?_, f3, fun q h1 h2 => (f4 q h1 h2).trans (kv q (by omega)), MS.tr ⟨fun q h1 h2 h3 h4 => kw q (by omega) (by omega) (by omega), fun i _ _ => congrFun (kw 75 (by omega) (by omega) (by omega)) i⟩ f5, f6.trans (kw 116 (by omega) (by omega) (by omega))⟩
      show f_M_sendPacket_x83 (nI h) (sv_cp (sv_up w 80 (4 * h + c) (nI n)) 116 0 81 (40 * (4 * h + c)) n) = _
      unfold f_M_sendPacket_x83
      dsimp only [sv_ls]
      rw [ck_n (by omega) (by omega), ck_n (by omega) (by omega), nI_clamp (by omega), cp_q (by decide), up_q (by decide), a2.1, nI_1, hw1]
      exact f2
    · have hc : c = 4 := by omega
      subst hc
      rw [if_neg (by omega), rc_add_full s5 a1.1]
      obtain ⟨v', w', f1, f2, f3, f4, f5, f6⟩ := nr_b93 hh hB N
      exact ⟨v', w', f1, f2, f3, f4, f5, f6⟩
