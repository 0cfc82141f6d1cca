theorem NR.keep1 {v v1 w w1 : sv_T} (N : NR v w) (hv : ∀ p, 1 ≤ p → v1 p = v p) (hw : ∀ p, 76 ≤ p → p ≤ 85 → w1 p = w p) : NR v1 w1 := by
  refine ⟨N.1.frame (hv _ (by omega)) (hv _ (by omega)) (hv _ (by omega)) (hw _ (by omega) (by omega)) (hw _ (by omega) (by omega)) (hw _ (by omega) (by omega)), N.2.1.frame (hv _ (by omega)) (hv _ (by omega)) (hv _ (by omega)) (hw _ (by omega) (by omega)) (hw _ (by omega) (by omega)) (hw _ (by omega) (by omega)), fun h hh => ?_⟩
  obtain ⟨n1, n2, n3, n4, n5⟩ := N.2.2 h hh
  refine ⟨n1.frame (hv _ (by omega)) (hv _ (by omega)) (hv _ (by omega)) (hw _ (by omega) (by omega)) (hw _ (by omega) (by omega)) (hw _ (by omega) (by omega)), ?_, ?_, ?_, ?_⟩
  · rw [hv _ (by omega), hw _ (by omega) (by omega)]; exact n2
  · rw [hv _ (by omega), hw _ (by omega) (by omega)]; exact n3
  · rw [hv _ (by omega), hw _ (by omega) (by omega)]; exact n4
  · rw [hv _ (by omega), hw _ (by omega) (by omega)]; exact n5
/-- the clock goes on -/
theorem RI.clock {v w : sv_T} (R : RI v w) : RI (sv_up v 0 2 (v 0 2 + 1)) (sv_up w 75 0 (w 75 0 + 1)) := by
  obtain ⟨n, ⟨a1, a2, a3, a4⟩, o⟩ := R
  generalize hv1 : sv_up v 0 2 (v 0 2 + 1) = v1
  generalize hw1 : sv_up w 75 0 (w 75 0 + 1) = w1
  have kv : ∀ p, 1 ≤ p → v1 p = v p := fun p hp => by rw [← hv1, sv_up_off _ _ _ (by omega)]
  have kw : ∀ p, 76 ≤ p → w1 p = w p := fun p hp => by rw [← hw1, sv_up_off _ _ _ (by omega)]
  refine ⟨n.keep1 kv (fun p h1 _ => kw p h1), ⟨fun h j x y => (a1 h j x y).same (fun p hp => kv p (by omega)) (fun p z _ => kw p (by omega)), fun h k x y => (a2 h k x y).same (kv _ (by omega)) (kv _ (by omega)) (fun p z t => by rw [kw p (by omega)]) (fun i _ => by rw [kw 93 (by omega), kw 94 (by omega)]; exact ⟨rfl, rfl⟩), fun h x => ?_, ?_⟩, fun h x => (o h x).same (kv _ (by omega)) (kv _ (by omega)) (kv _ (by omega))⟩
  · rw [kv _ (by omega), kw 86 (by omega), kw 87 (by omega)]
    exact a3 h x
  · rw [← hv1, ← hw1, up_s, up_s, a4]
theorem wl42 {v v1 v2 : sv_T} {h : Nat} {x y : Int32} (hh : h ≤ 1) (e1 : f_Host_passTick (9 + 33 * h) v = some v1) (e2 : f_Host_sendOut (9 + 33 * h) v1 = some (1, v2)) : f_W_tick_l42 x y 2 (nI h) v = some (.inl (nI (h + 1), v2)) := by
  unfold f_W_tick_l42
  rw [if_pos (show nI h < (2 : Int32) from nI_lt (b := 2) (by omega) (by omega)), hs_at hh, e1, bvs, e2, bis, sv_le, nI_1]
/-- one unit of time, on both sides -/
theorem tk1_go {v w : sv_T} {a k : Nat} (hk : k < a) (ha : a ≤ 60) (R : RI v w) : ∃ v' w', f_W_tick_l15 (nI a) (nI k) v = some (.inl (nI (k + 1), v')) ∧ f_M_tick_l15 (nI a) (nI k) w = some (.inl (nI (k + 1), w')) ∧ RI v' w' ∧ LO v v' ∧ HO w w' := by
  have R1 := R.clock
  obtain ⟨v2, v3, w2, a1, a2, a3, a4, a5, a6⟩ := bt_go (h := 0) (by omega) rfl R1
  obtain ⟨v4, v5, w4, b1, b2, b3, b4, b5, b6⟩ := bt_go (h := 1) (by omega) rfl a4
  refine ⟨v5, w4, ?_, ?_, b4, LO.tr (v' := sv_up v 0 2 (v 0 2 + 1)) (fun p hp => sv_up_off _ _ _ (by omega)) (a5.tr b5), HO.tr (v' := sv_up w 75 0 (w 75 0 + 1)) (fun p hp => sv_up_off _ _ _ (by omega)) (a6.tr b6)⟩
  · unfold f_W_tick_l15
    rw [if_lt (by omega) (by omega), if_pos hk, sv_ls]
    have e3 : f_W_tick_l42 (nI a) (nI k) 2 (nI 2) v5 = some (.inr v5) := by
      unfold f_W_tick_l42
      rw [if_neg (by decide)]
    rw [show ((0 : Int32), sv_up v 0 2 (v 0 2 + 1)) = (nI 0, sv_up v 0 2 (v 0 2 + 1)) from rfl, lp_s (by omega) (wl42 (h := 0) (by omega) a1 a2), lp_s (by omega) (wl42 (h := 1) (by omega) b1 b2), lp_e (by omega) e3]
    show f_W_tick_x72 (nI a) (nI k) v5 = _
    unfold f_W_tick_x72
    rw [sv_le, nI_1]
  · unfold f_M_tick_l15
    rw [if_lt (by omega) (by omega), if_pos hk, sv_ls, show (0 : Int32) = nI 0 from rfl, a3, bvs, show (1 : Int32) = nI 1 from rfl, b3, bvs, sv_le]
    show some (Sum.inl (nI k + 1, w4)) = _
    rw [nI_1]
theorem tk_loop {a : Nat} (ha : a ≤ 60) : ∀ (r k m m' : Nat) {v w : sv_T}, k + r = a → r < m → r < m' → RI v w → ∃ v' w', sv_loop (fun (s : Int32 × sv_T) => f_W_tick_l15 (nI a) s.1 (s.2)) m (nI k, v) = some v' ∧ sv_loop (fun (s : Int32 × sv_T) => f_M_tick_l15 (nI a) s.1 (s.2)) m' (nI k, w) = some w' ∧ RI v' w' ∧ LO v v' ∧ HO w w' := by
  intro r
  induction r with
  | zero =>
    intro k m m' v w hk hm hm' R
    refine ⟨v, w, lp_e (by omega) ?_, lp_e (by omega) ?_, R, LO.rf, HO.rf⟩
    · show f_W_tick_l15 (nI a) (nI k) v = _
      unfold f_W_tick_l15
      rw [if_lt (by omega) (by omega), if_neg (by omega)]
    · show f_M_tick_l15 (nI a) (nI k) w = _
      unfold f_M_tick_l15
      rw [if_lt (by omega) (by omega), if_neg (by omega)]
  | succ r ih =>
    intro k m m' v w hk hm hm' R
    obtain ⟨v1, w1, a1, a2, a3, a4, a5⟩ := tk1_go (a := a) (k := k) (by omega) ha R
    obtain ⟨v2, w2, b1, b2, b3, b4, b5⟩ := ih (k + 1) (m - 1) (m' - 1) (by omega) (by omega) (by omega) a3
    refine ⟨v2, w2, ?_, ?_, b3, a4.tr b4, a5.tr b5⟩
    · rw [lp_s (by omega) a1]; exact b1
    · rw [lp_s (by omega) a2]; exact b2
theorem w_tick {v w : sv_T} (a : Int32) (R : RI v w) : ST v w (f_W_tick a v) (f_M_tick a w) := by
  unfold f_W_tick f_M_tick
  by_cases z : a < 1
  · rw [if_pos z, if_pos z]
    exact st_same (-1) R
  rw [if_neg z, if_neg z]
  by_cases z2 : 60 < a
  · rw [if_pos z2, if_pos z2]
    exact st_same (-1) R
  rw [if_neg z2, if_neg z2]
  have z0 : ¬ a < 0 := fun t => z (Int32.lt_trans t (by decide))
  obtain ⟨n, hn, rfl⟩ := nI_of2 (n := 60) (by decide) z0 (Int32.not_lt.mp z2)
  obtain ⟨v1, w1, a1, a2, a3, a4, a5⟩ := tk_loop hn n 0 100000 100000 (by omega) (by omega) (by omega) R
  rw [show ((0 : Int32), v) = (nI 0, v) from rfl, show ((0 : Int32), w) = (nI 0, w) from rfl, a1, a2]
  exact ⟨v1 0 2, v1, w1, rfl, by rw [a3.2.1.2.2.2]; rfl, a3, a4, a5⟩
theorem ob0 {B : Nat} (h : v0 (B + 2) 4 = nI 0) : OB v0 B [] := ⟨fun _ => 0, fun _ _ => 0, ⟨h, fun k hk => absurd hk (Nat.not_lt_zero k)⟩, fun k hk => absurd hk (Nat.not_lt_zero k), fun k m e => by simp at e⟩
theorem wr0 {g q : Nat} (h : v0 q 4 = nI 0) (h2 : v0 76 g = nI 0) : WR v0 v0 g q := ⟨0, fun _ => 0, fun _ _ => 0, ⟨h, fun k hk => absurd hk (Nat.not_lt_zero k)⟩, ⟨h2, fun k hk => absurd hk (Nat.not_lt_zero k)⟩, fun k hk => absurd hk (Nat.not_lt_zero k), by omega, fun k hk => absurd hk (Nat.not_lt_zero k)⟩
theorem ln0 {g q : Nat} (h : v0 q 4 = nI 0) (h2 : v0 79 g = nI 0) : LN v0 v0 g q := ⟨0, fun _ => 0, fun _ _ => 0, ⟨h, fun k hk => absurd hk (Nat.not_lt_zero k)⟩, ⟨h2, fun k hk => absurd hk (Nat.not_lt_zero k)⟩, fun k hk => absurd hk (Nat.not_lt_zero k), by omega, fun k hk => absurd hk (Nat.not_lt_zero k)⟩
/-- at the start -/
theorem ri0 : RI v0 v0 := by
  refine ⟨⟨wr0 rfl rfl, wr0 rfl rfl, fun h hh => ?_⟩, ⟨fun h j hh hj => ?_, fun h k hh hk => ?_, fun h hh => ?_, rfl⟩, fun h hh => ?_⟩
  · obtain rfl | rfl : h = 0 ∨ h = 1 := by omega
    · exact ⟨ln0 rfl rfl, ⟨0, by omega, rfl, rfl⟩, ⟨0, by omega, rfl, rfl⟩, ⟨0, by omega, rfl, rfl⟩, ⟨0, by omega, rfl, rfl⟩⟩
    · exact ⟨ln0 rfl rfl, ⟨0, by omega, rfl, rfl⟩, ⟨0, by omega, rfl, rfl⟩, ⟨0, by omega, rfl, rfl⟩, ⟨0, by omega, rfl, rfl⟩⟩
  · obtain rfl | rfl : h = 0 ∨ h = 1 := by omega
    · obtain rfl | rfl : j = 0 ∨ j = 1 := by omega
      · exact ⟨0, 0, 4, 0, 0, 0, 0, 0, 0, 0, 0, 0, fun _ => 0, fun _ => 0, ⟨⟨rfl, rfl⟩, ⟨rfl, rfl⟩, ⟨rfl, rfl⟩, ⟨rfl, rfl⟩, ⟨rfl, rfl⟩, ⟨rfl, rfl⟩, ⟨rfl, rfl⟩, ⟨rfl, rfl⟩, ⟨rfl, rfl⟩, ⟨rfl, rfl⟩, ⟨rfl, rfl⟩, ⟨rfl, rfl⟩, rfl, fun i hi => absurd hi (Nat.not_lt_zero i), fun i hi => absurd hi (Nat.not_lt_zero i)⟩, IV.fresh (by omega), fun _ => ⟨rfl, rfl, fun d hd => ⟨rfl, if_pos hd⟩⟩, fun t => by omega⟩
      · exact ⟨0, 0, 4, 0, 0, 0, 0, 0, 0, 0, 0, 0, fun _ => 0, fun _ => 0, ⟨⟨rfl, rfl⟩, ⟨rfl, rfl⟩, ⟨rfl, rfl⟩, ⟨rfl, rfl⟩, ⟨rfl, rfl⟩, ⟨rfl, rfl⟩, ⟨rfl, rfl⟩, ⟨rfl, rfl⟩, ⟨rfl, rfl⟩, ⟨rfl, rfl⟩, ⟨rfl, rfl⟩, ⟨rfl, rfl⟩, rfl, fun i hi => absurd hi (Nat.not_lt_zero i), fun i hi => absurd hi (Nat.not_lt_zero i)⟩, IV.fresh (by omega), fun _ => ⟨rfl, rfl, fun d hd => ⟨rfl, if_pos hd⟩⟩, fun t => by omega⟩
    · obtain rfl | rfl : j = 0 ∨ j = 1 := by omega
      · exact ⟨0, 0, 4, 0, 0, 0, 0, 0, 0, 0, 0, 0, fun _ => 0, fun _ => 0, ⟨⟨rfl, rfl⟩, ⟨rfl, rfl⟩, ⟨rfl, rfl⟩, ⟨rfl, rfl⟩, ⟨rfl, rfl⟩, ⟨rfl, rfl⟩, ⟨rfl, rfl⟩, ⟨rfl, rfl⟩, ⟨rfl, rfl⟩, ⟨rfl, rfl⟩, ⟨rfl, rfl⟩, ⟨rfl, rfl⟩, rfl, fun i hi => absurd hi (Nat.not_lt_zero i), fun i hi => absurd hi (Nat.not_lt_zero i)⟩, IV.fresh (by omega), fun _ => ⟨rfl, rfl, fun d hd => ⟨rfl, if_pos hd⟩⟩, fun t => by omega⟩
      · exact ⟨0, 0, 4, 0, 0, 0, 0, 0, 0, 0, 0, 0, fun _ => 0, fun _ => 0, ⟨⟨rfl, rfl⟩, ⟨rfl, rfl⟩, ⟨rfl, rfl⟩, ⟨rfl, rfl⟩, ⟨rfl, rfl⟩, ⟨rfl, rfl⟩, ⟨rfl, rfl⟩, ⟨rfl, rfl⟩, ⟨rfl, rfl⟩, ⟨rfl, rfl⟩, ⟨rfl, rfl⟩, ⟨rfl, rfl⟩, rfl, fun i hi => absurd hi (Nat.not_lt_zero i), fun i hi => absurd hi (Nat.not_lt_zero i)⟩, IV.fresh (by omega), fun _ => ⟨rfl, rfl, fun d hd => ⟨rfl, if_pos hd⟩⟩, fun t => by omega⟩
  · obtain rfl | rfl : h = 0 ∨ h = 1 := by omega
    · obtain rfl | rfl : k = 0 ∨ k = 1 := by omega
      · exact ⟨0, by omega, rfl, rfl, fun t => by omega⟩
      · exact ⟨0, by omega, rfl, rfl, fun t => by omega⟩
    · obtain rfl | rfl : k = 0 ∨ k = 1 := by omega
      · exact ⟨0, by omega, rfl, rfl, fun t => by omega⟩
      · exact ⟨0, by omega, rfl, rfl, fun t => by omega⟩
  · obtain rfl | rfl : h = 0 ∨ h = 1 := by omega
    · exact ⟨rfl, rfl⟩
    · exact ⟨rfl, rfl⟩
  · obtain rfl | rfl : h = 0 ∨ h = 1 := by omega
    · exact ob0 rfl
    · exact ob0 rfl
/-- the invariant: at the start, and kept by every pair of calls, with the same answer -/
theorem lw_pure : ∃ Inv : sv_T → Prop, Inv v0 ∧ lw_step Inv := by
  refine ⟨fun v => RI v v, ri0, fun v a b => st_fin (fun v w R => w_listen a b R) v, fun v a b => st_fin (fun v w R => w_connect a b R) v, fun v a b c => st_fin (fun v w R => w_send a b c R) v, fun v a b => st_fin (fun v w R => w_read a b R) v, fun v a b => st_fin (fun v w R => w_close a b R) v, fun v a b => st_fin (fun v w R => w_abort a b R) v, fun v a b c => st_fin (fun v w R => w_ping a b c R) v, fun v a => st_fin (fun v w R => w_carry a R) v, fun v a b => st_fin (fun v w R => w_disturb a b R) v, fun v a b c => st_fin (fun v w R => w_alter a b c R) v, fun v a => st_fin (fun v w R => w_tick a R) v, fun v a => st_fin (fun v w R => w_flying a R) v, fun v a b c => st_fin (fun v w R => w_octet a b c R) v, fun v a b c => st_fin (fun v w R => w_socket a b c R) v, fun v a b => st_fin (fun v w R => w_host a b R) v⟩
