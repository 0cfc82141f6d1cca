theorem SU.put {v w : sv_T} {q s i b : Nat} {x y : Int32} (H : SU v w q s) (hi : i < 48) (hb : b < 256) (hx : x = nI b) (hy : y = nI b) : SU (sv_up v (q + 1) i x) (sv_up (sv_up w 93 (48 * s + i) y) 94 (48 * s + i) 1) q s := by
  obtain ⟨b1, b2, b3, b4, b5⟩ := H
  unfold SU
  rw [up_q (show q ≠ q + 1 by omega), up_q (show q ≠ q + 1 by omega), up_q (show q ≠ q + 1 by omega), up_q (show q ≠ q + 1 by omega)]
  refine ⟨by rw [up_q (by decide), up_q (by decide)]; exact b1, by rw [up_q (by decide), up_q (by decide)]; exact b2, by rw [up_q (by decide), up_q (by decide)]; exact b3, by rw [up_q (by decide), up_q (by decide)]; exact b4, fun t ht => ?_⟩
  by_cases z : t = i
  · subst z
    right
    rw [up_s, up_s, up_q (by decide), up_s]
    exact ⟨rfl, b, hb, hx, hy⟩
  · rw [up_i z, up_i (show 48 * s + t ≠ 48 * s + i by omega), up_q (show (94 : Nat) ≠ 93 by decide), up_q (show (93 : Nat) ≠ 94 by decide), up_i (show 48 * s + t ≠ 48 * s + i by omega)]
    exact b5 t ht
/-- the bytes of a piece into its slot, on both sides -/
theorem pl_go {h B q s off n : Nat} {p : Nat → Nat} {r0 : Nat} {x2 x3 : Int32} (hh : h ≤ 1) (hB : B = 9 + 33 * h) (hs : s < 4) (hr : sv_ref (sg q) 0 = q + 1) (hl : sv_len (sg (q + 1)) = 48) (hq : q + 1 < B + 31) (hn : n ≤ 24) (ho : off + n ≤ 48) (hp : ∀ i, i < n → p i < 256) : ∀ (r k : Nat) {v w : sv_T} {m m' : Nat}, k + r = n → r < m → r < m' → SU v w q s → (∀ i, i < n → v (B + 31) (10 + i) = nI (p i)) → (∀ i, i < n → w 116 (10 + i) = nI (p i)) → ∃ v' w', sv_loop (fun (t : Int32 × sv_T) => f_Pieces_takePacket_l81 r0 (B + 31) (nI off) x2 (nI n) q t.1 (t.2)) m (nI k, v) = some v' ∧ sv_loop (fun (t : Int32 × sv_T) => f_M_piece_l32 x3 (nI n) (nI off) (nI s) t.1 (t.2)) m' (nI k, w) = some w' ∧ SU v' w' q s ∧ (v' q = v q) ∧ CT q v v' ∧ MT s w w' ∧ (∀ p i, 88 ≤ p → p ≤ 92 → w' p i = w p i) := by
  have l15 := (sh_H hh hB).2.2.2.2.2.2.2.2.2.2.2.2.2.2.1
  intro r
  induction r with
  | zero =>
    intro k v w m m' hk hm hm' H _ _
    refine ⟨v, w, lp_e (by omega) ?_, lp_e (by omega) ?_, H, rfl, fun _ _ _ => rfl, MT.rf, fun _ _ _ _ => rfl⟩
    · show f_Pieces_takePacket_l81 r0 (B + 31) (nI off) x2 (nI n) q (nI k) v = _
      unfold f_Pieces_takePacket_l81
      rw [if_lt (by omega) (by omega), if_neg (by omega)]
    · show f_M_piece_l32 x3 (nI n) (nI off) (nI s) (nI k) w = _
      unfold f_M_piece_l32
      rw [if_lt (by omega) (by omega), if_neg (by omega)]
  | succ r ih =>
    intro k v w m m' hk hm hm' H hv hw
    have step : ∃ v1 w1, f_Pieces_takePacket_l81 r0 (B + 31) (nI off) x2 (nI n) q (nI k) v = some (.inl (nI (k + 1), v1)) ∧ f_M_piece_l32 x3 (nI n) (nI off) (nI s) (nI k) w = some (.inl (nI (k + 1), w1)) ∧ SU v1 w1 q s ∧ v1 q = v q ∧ CT q v v1 ∧ MT s w w1 ∧ (∀ p i, 88 ≤ p → p ≤ 92 → w1 p i = w p i) := by
      have e0 : nI off + nI k = nI (off + k) := nI_add _ _
      have e1 : (10 : Int32) + nI k = nI (10 + k) := nI_add 10 k
      have e2 : (48 : Int32) * nI s + nI off + nI k = nI (48 * s + (off + k)) := by
        rw [show (48 : Int32) = nI 48 from rfl, pk_mul, nI_add, nI_add, Nat.add_assoc]
      unfold f_Pieces_takePacket_l81 f_M_piece_l32 f_M_piece_b86 f_Slot_put
      have ck0 : nI k < nI n := nI_lt (by omega) (by omega)
      rw [if_pos ck0, if_pos ck0, e0, e1, e2, l15, hr]
      simp only [sv_le, sv_ls, ck_n (show 10 + k < 34 by omega) (show 34 < 2 ^ 31 by omega), ck_n (show 10 + k < 40 by omega) (show 40 < 2 ^ 31 by omega), ck_n (show off + k < 48 by omega) (show 48 < 2 ^ 31 by omega), ck_n (show 48 * s + (off + k) < 192 by omega) (show 192 < 2 ^ 31 by omega), nI_clamp (show 10 + k < 2 ^ 31 by omega), nI_clamp (show off + k < 2 ^ 31 by omega), nI_clamp (show 48 * s + (off + k) < 2 ^ 31 by omega), hv k (by omega), hw k (by omega), nI_1]
      rw [if_neg (nI_pos (show off + k < 2 ^ 31 by omega)), if_pos (show nI (off + k) < (48 : Int32) from nI_lt (b := 48) (by omega) (by omega))]
      rcases H.2.2.2.2 (off + k) (by omega) with ⟨c1, c2⟩ | ⟨c1, b, c2, c3, c4⟩
      · rw [if_pos c2, if_pos c1]
        exact ⟨_, _, rfl, rfl, H.put (by omega) (hp k (by omega)) rfl rfl, sv_up_off _ _ _ (by omega), fun p _ h2 => sv_up_off _ _ _ h2, (mt_by (by omega) (by omega) (by omega)).tr (mt_by (by omega) (by omega) (by omega)), fun p i h1 h2 => by rw [up_q (by omega), up_q (by omega)]⟩
      · rw [if_neg (by rw [c3]; exact nI_m1 (by omega)), if_neg (by rw [c1]; decide)]
        have e : sv_up (sv_up w 93 (48 * s + (off + k)) (w 93 (48 * s + (off + k)))) 94 (48 * s + (off + k)) 1 = w := by
          rw [up_same rfl, up_same c1]
        rw [e]
        exact ⟨_, _, rfl, rfl, H, rfl, fun _ _ _ => rfl, MT.rf, fun _ _ _ _ => rfl⟩
    obtain ⟨v1, w1, a1, a2, a3, a4, a5, a6, a7⟩ := step
    obtain ⟨v2, w2, b1, b2, b3, b4, b5, b6, b7⟩ := ih (k + 1) (v := v1) (w := w1) (m := m - 1) (m' := m' - 1) (by omega) (by omega) (by omega) a3 (fun i hi => by rw [a5 _ (by omega) (by omega)]; exact hv i hi) (fun i hi => by rw [a6.1 116 (by omega)]; exact hw i hi)
    refine ⟨v2, w2, ?_, ?_, b3, b4.trans a4, a5.tr b5, a6.tr b6, fun p i h1 h2 => (b7 p i h1 h2).trans (a7 p i h1 h2)⟩
    · rw [lp_s (by omega) a1]; exact b1
    · rw [lp_s (by omega) a2]; exact b2
theorem iw_go {v : sv_T} {q n : Nat} (hr : sv_ref (sg q) 0 = q + 1) (hn : n ≤ 48) (h5 : v q 5 = nI n) : ∀ (r k m : Nat), k + r = n → r < m → ∃ b : Nat, b ≤ 1 ∧ (b = 1 ↔ ∀ i, k ≤ i → i < n → v (q + 1) i ≠ -1) ∧ sv_loop (fun (t : Int32 × sv_T) => f_Slot_isWhole_l12 q t.1 (t.2)) m (nI k, v) = some (nI b, v) := by
  intro r
  induction r with
  | zero =>
    intro k m hk hm
    refine ⟨1, by omega, ⟨fun _ i h1 h2 => by omega, fun _ => rfl⟩, lp_e (by omega) ?_⟩
    show f_Slot_isWhole_l12 q (nI k) v = _
    unfold f_Slot_isWhole_l12
    rw [h5, if_lt (by omega) (by omega), if_neg (by omega)]
    rfl
  | succ r ih =>
    intro k m hk hm
    by_cases z : v (q + 1) k = -1
    · refine ⟨0, by omega, ⟨fun t => by omega, fun H => absurd z (H k (by omega) (by omega))⟩, lp_e (by omega) ?_⟩
      show f_Slot_isWhole_l12 q (nI k) v = _
      unfold f_Slot_isWhole_l12
      rw [h5, if_lt (by omega) (by omega), if_pos (by omega), if_pos (show nI k < (48 : Int32) from nI_lt (b := 48) (by omega) (by omega)), ck_n (by omega) (by omega), hr, nI_clamp (by omega), if_pos z]
      rfl
    · have e : f_Slot_isWhole_l12 q (nI k) v = some (.inl (nI (k + 1), v)) := by
        unfold f_Slot_isWhole_l12
        rw [h5, if_lt (by omega) (by omega), if_pos (by omega), if_pos (show nI k < (48 : Int32) from nI_lt (b := 48) (by omega) (by omega)), ck_n (by omega) (by omega), hr, nI_clamp (by omega), if_neg z, sv_le, nI_1]
      obtain ⟨b, b1, b2, b3⟩ := ih (k + 1) (m - 1) (by omega) (by omega)
      refine ⟨b, b1, ⟨fun t i h1 h2 => ?_, fun H => b2.mpr fun i h1 h2 => H i (by omega) h2⟩, ?_⟩
      · by_cases y : i = k
        · rw [y]; exact z
        · exact b2.mp t i (by omega) h2
      · rw [lp_s (by omega) e]; exact b3
theorem mw_go {w : sv_T} {s n : Nat} {x : Int32} (hs : s < 4) (hn : n ≤ 48) (h92 : w 92 s = nI n) : ∀ (r k m b : Nat), k + r = n → r < m → b ≤ 1 → ∃ b2 : Nat, b2 ≤ 1 ∧ (b2 = 1 ↔ b = 1 ∧ ∀ i, k ≤ i → i < n → w 94 (48 * s + i) ≠ 0) ∧ sv_loop (fun (t : Int32 × Int32 × sv_T) => f_M_piece_l157 x (nI s) t.1 t.2.1 (t.2.2)) m (nI b, nI (48 * s + k), w) = some (nI b2, w) := by
  intro r
  induction r with
  | zero =>
    intro k m b hk hm hb
    refine ⟨b, hb, ⟨fun t => ⟨t, fun i h1 h2 => by omega⟩, fun t => t.1⟩, lp_e (by omega) ?_⟩
    show f_M_piece_l157 x (nI s) (nI b) (nI (48 * s + k)) w = _
    unfold f_M_piece_l157
    rw [ck_n hs (by omega), nI_clamp (by omega), h92, show (48 : Int32) * nI s + nI n = nI (48 * s + n) by rw [show (48 : Int32) = nI 48 from rfl, pk_mul, nI_add], if_lt (by omega) (by omega), if_neg (by omega)]
  | succ r ih =>
    intro k m b hk hm hb
    have e : ∃ b', b' ≤ 1 ∧ f_M_piece_l157 x (nI s) (nI b) (nI (48 * s + k)) w = some (.inl (nI b', nI (48 * s + (k + 1)), w)) ∧ (b' = 1 ↔ b = 1 ∧ w 94 (48 * s + k) ≠ 0) := by
      unfold f_M_piece_l157 f_M_piece_b194 f_M_piece_b195
      rw [ck_n hs (by omega), nI_clamp (by omega), h92, show (48 : Int32) * nI s + nI n = nI (48 * s + n) by rw [show (48 : Int32) = nI 48 from rfl, pk_mul, nI_add], if_lt (by omega) (by omega), if_pos (by omega)]
      obtain rfl | rfl : b = 0 ∨ b = 1 := by omega
      · refine ⟨0, by omega, ?_, by omega⟩
        rw [if_pos (show nI 0 = 0 from rfl), sv_le, nI_1]
        rfl
      · rw [if_neg (show ¬ nI 1 = 0 by decide), ck_n (by omega) (by omega), nI_clamp (by omega)]
        by_cases z : w 94 (48 * s + k) = 0
        · rw [if_pos z]
          refine ⟨0, by omega, ?_, ?_⟩
          · rw [sv_le, nI_1]
            rfl
          · exact ⟨fun t => by omega, fun t => absurd z t.2⟩
        · rw [if_neg z]
          refine ⟨1, by omega, ?_, ?_⟩
          · rw [sv_le, nI_1]
            rfl
          · exact ⟨fun _ => ⟨rfl, z⟩, fun _ => rfl⟩
    obtain ⟨b', e0, e1, e2⟩ := e
    obtain ⟨b2, c1, c2, c3⟩ := ih (k + 1) (m - 1) b' (by omega) (by omega) e0
    refine ⟨b2, c1, ⟨fun t => ⟨(e2.mp (c2.mp t).1).1, fun i h1 h2 => ?_⟩, fun H => c2.mpr ⟨e2.mpr ⟨H.1, H.2 k (by omega) (by omega)⟩, fun i h1 h2 => H.2 i (by omega) h2⟩⟩, ?_⟩
    · by_cases y : i = k
      · rw [y]; exact (e2.mp (c2.mp t).1).2
      · exact (c2.mp t).2 i (by omega) h2
    · rw [lp_s (by omega) e1]; exact c3
theorem mk_loop {w : sv_T} {s n : Nat} {x : Int32} (hs : s < 4) (hn : n ≤ 48) (h41 : w 75 41 = nI n) : sv_loop (fun (t : Int32 × sv_T) => f_M_piece_l230 x (nI s) t.1 (t.2)) 100000 ((0 : Int32), w) = some (sv_cp w 93 (48 * s) 114 0 n) := by
  have key := lp_to (f := fun (t : Int32 × sv_T) => f_M_piece_l230 x (nI s) t.1 (t.2)) (fun k => (nI k, sv_cp w 93 (48 * s) 114 0 k)) n (a := sv_cp w 93 (48 * s) 114 0 n) (fun k hk => ?_) ?_ (n := 100000) (by omega)
  · rw [cp_0] at key
    exact key
  · show f_M_piece_l230 x (nI s) (nI k) (sv_cp w 93 (48 * s) 114 0 k) = _
    unfold f_M_piece_l230
    rw [cp_q (by decide), h41, if_lt (by omega) (by omega), if_pos hk, show (48 : Int32) * nI s + nI k = nI (48 * s + k) by rw [show (48 : Int32) = nI 48 from rfl, pk_mul, nI_add], ck_n (by omega) (by omega), ck_n (by omega) (by omega), nI_clamp (by omega), nI_clamp (by omega)]
    simp only [sv_ls, sv_le]
    have e := up_cp (v := w) (w := sv_cp w 93 (48 * s) 114 0 k) (q := 93) (sp := 48 * s) (q1 := 114) (dp := 0) (n := k) (x := sv_cp w 93 (48 * s) 114 0 k 93 (48 * s + k)) rfl (cp_q (by decide))
    rw [Nat.zero_add] at e
    rw [e, nI_1]
  · show f_M_piece_l230 x (nI s) (nI n) (sv_cp w 93 (48 * s) 114 0 n) = _
    unfold f_M_piece_l230
    rw [cp_q (by decide), h41, if_lt (by omega) (by omega), if_neg (by omega)]
