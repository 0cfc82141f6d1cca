theorem sh_P {h B : Nat} (hh : h ≤ 1) (hB : B = 9 + 33 * h) : sv_ref (sg (B + 10)) 0 = B + 11 ∧ sv_ref (sg (B + 10)) 1 = B + 13 ∧ sv_ref (sg (B + 10)) 2 = B + 1 ∧ sv_ref (sg (B + 11)) 0 = B + 12 ∧ sv_ref (sg (B + 13)) 0 = B + 14 ∧ sv_len (sg (B + 12)) = 48 ∧ sv_len (sg (B + 14)) = 48 ∧ sv_isO (sg (B + 11)) 5 = true ∧ sv_isO (sg (B + 13)) 5 = true := by
  subst hB
  obtain rfl | rfl : h = 0 ∨ h = 1 := by omega
  · decide
  · decide
/-- the places of the reference that belong to slot s -/
def MT (s : Nat) (w w' : sv_T) : Prop := (∀ p, p < 88 ∨ 94 < p → w' p = w p) ∧ (∀ p i, 88 ≤ p → p ≤ 92 → i ≠ s → w' p i = w p i) ∧ ∀ i, i < 48 * s ∨ 48 * s + 48 ≤ i → w' 93 i = w 93 i ∧ w' 94 i = w 94 i
theorem MT.rf {s : Nat} {w : sv_T} : MT s w w := ⟨fun _ _ => rfl, fun _ _ _ _ _ => rfl, fun _ _ => ⟨rfl, rfl⟩⟩
theorem MT.tr {s : Nat} {w w' w'' : sv_T} (h1 : MT s w w') (h2 : MT s w' w'') : MT s w w'' := ⟨fun p a => (h2.1 p a).trans (h1.1 p a), fun p i a b c => (h2.2.1 p i a b c).trans (h1.2.1 p i a b c), fun i a => ⟨((h2.2.2 i a).1).trans (h1.2.2 i a).1, ((h2.2.2 i a).2).trans (h1.2.2 i a).2⟩⟩
theorem mt_up {s p : Nat} {w : sv_T} {x : Int32} (h1 : 88 ≤ p) (h2 : p ≤ 92) : MT s w (sv_up w p s x) := ⟨fun p' h => sv_up_off _ _ _ (by omega), fun p' i _ _ h => by
  by_cases z : p' = p
  · rw [z, up_i h]
  · rw [up_q z], fun i _ => ⟨up_q (by omega), up_q (by omega)⟩⟩
theorem mt_by {s p i : Nat} {w : sv_T} {x : Int32} (h1 : p = 93 ∨ p = 94) (h2 : 48 * s ≤ i) (h3 : i < 48 * s + 48) : MT s w (sv_up w p i x) := ⟨fun p' h => sv_up_off _ _ _ (by omega), fun p' i' _ _ h => up_q (by omega), fun i' h => by
  refine ⟨?_, ?_⟩
  · by_cases z : 93 = p
    · rw [← z, up_i (by omega)]
    · rw [up_q z]
  · by_cases z : 94 = p
    · rw [← z, up_i (by omega)]
    · rw [up_q z]⟩
def CT (q : Nat) (v v' : sv_T) : Prop := ∀ p, p ≠ q → p ≠ q + 1 → v' p = v p
theorem CT.tr {q : Nat} {v v' v'' : sv_T} (h1 : CT q v v') (h2 : CT q v' v'') : CT q v v'' := fun p a b => (h2 p a b).trans (h1 p a b)
/-- a slot begins, on both sides -/
theorem sb_go {v w : sv_T} {q s id pr : Nat} (hs : s < 4) (hr : sv_ref (sg q) 0 = q + 1) (hl : sv_len (sg (q + 1)) = 48) (h1 : w 116 1 = nI id) (h4 : w 116 4 = nI pr) :
    ∃ v' w', f_Slot_begin q (nI id) (nI pr) v = some v' ∧ f_M_slotFor_b130 (nI s) w = some (nI s, w') ∧ v' q 1 = nI 1 ∧ w' 88 s = nI 1 ∧ SU v' w' q s ∧ CT q v v' ∧ MT s w w' := by
  generalize hv1 : sv_up (sv_up (sv_up (sv_up (sv_up v q 1 1) q 2 (nI id)) q 3 (nI pr)) q 4 0) q 5 (-1) = v1
  generalize hw1 : sv_up (sv_up (sv_up (sv_up (sv_up w 88 s 1) 89 s (nI id)) 90 s (nI pr)) 91 s 0) 92 s 0 = w1
  have kl : sv_loop (fun (t : Int32 × sv_T) => f_M_slotFor_l181 (nI s) t.1 (t.2)) 100000 (nI (48 * s), w1) = some (sv_fr w1 94 (48 * s) 48 0) := by
    have key := lp_to (f := fun (t : Int32 × sv_T) => f_M_slotFor_l181 (nI s) t.1 (t.2)) (fun k => (nI (48 * s + k), sv_fr w1 94 (48 * s) k 0)) 48 (a := sv_fr w1 94 (48 * s) 48 0) (fun k hk => ?_) ?_ (n := 100000) (by omega)
    · rw [fr_0] at key
      exact key
    · show f_M_slotFor_l181 (nI s) (nI (48 * s + k)) (sv_fr w1 94 (48 * s) k 0) = _
      unfold f_M_slotFor_l181
      rw [show (48 : Int32) * nI s + 48 = nI (48 * s + 48) by rw [show (48 : Int32) = nI 48 from rfl, pk_mul, nI_add], if_lt (by omega) (by omega), if_pos (by omega), ck_n (by omega) (by omega), nI_clamp (by omega)]
      simp only [sv_ls, sv_le]
      rw [up_fr, nI_1]
      rfl
    · show f_M_slotFor_l181 (nI s) (nI (48 * s + 48)) (sv_fr w1 94 (48 * s) 48 0) = _
      unfold f_M_slotFor_l181
      rw [show (48 : Int32) * nI s + 48 = nI (48 * s + 48) by rw [show (48 : Int32) = nI 48 from rfl, pk_mul, nI_add], if_lt (by omega) (by omega), if_neg (by omega)]
  have q1 : ∀ i, (sv_fr v1 (q + 1) 0 48 (-1)) q i = v1 q i := fun i => fr_q (by omega)
  refine ⟨sv_fr v1 (q + 1) 0 48 (-1), sv_fr w1 94 (48 * s) 48 0, ?_, ?_, ?_, ?_, ⟨?_, ?_, ?_, ?_, fun i hi => Or.inl ⟨fr_in (by omega) (by omega), fr_in (by omega) (by omega)⟩⟩, ?_, ?_⟩
  · unfold f_Slot_begin
    simp only [sv_ls]
    rw [hv1, hr, fill_go hl (by omega)]
    rfl
  · unfold f_M_slotFor_b130
    simp only [sv_ls, sv_le, ck_n hs (show 4 < 2 ^ 31 by omega), nI_clamp (show s < 2 ^ 31 by omega)]
    rw [up_q (show 116 ≠ 88 by decide), h1, up_q (show 116 ≠ 89 by decide), up_q (show 116 ≠ 88 by decide), h4, hw1, show (48 : Int32) * nI s = nI (48 * s) from pk_mul 48 s, kl]
    rfl
  · rw [q1, ← hv1, up_i (by decide), up_i (by decide), up_i (by decide), up_i (by decide), up_s]; rfl
  · rw [fr_q (by decide), ← hw1, up_q (by decide), up_q (by decide), up_q (by decide), up_q (by decide), up_s]; rfl
  · rw [q1, ← hv1, up_i (by decide), up_i (by decide), up_i (by decide), up_s, fr_q (by decide), ← hw1, up_q (by decide), up_q (by decide), up_q (by decide), up_s]
  · rw [q1, ← hv1, up_i (by decide), up_i (by decide), up_s, fr_q (by decide), ← hw1, up_q (by decide), up_q (by decide), up_s]
  · rw [q1, ← hv1, up_i (by decide), up_s, fr_q (by decide), ← hw1, up_q (by decide), up_s]
    exact EQ.of (n := 0) (by omega)
  · left
    rw [q1, ← hv1, up_s, fr_q (by decide), ← hw1, up_s]
    exact ⟨rfl, rfl⟩
  · intro p h1 h2
    rw [fr_off h2, ← hv1]
    simp only [sv_up_off _ _ _ h1]
  · refine MT.tr (w' := w1) ?_ ⟨fun p h => fr_off (by omega), fun p i _ _ _ => fr_q (by omega), fun i hi => ⟨fr_q (by decide), fr_out (by omega)⟩⟩
    rw [← hw1]
    exact (((mt_up (by omega) (by omega)).tr (mt_up (by omega) (by omega))).tr (mt_up (by omega) (by omega))).tr ((mt_up (by omega) (by omega)).tr (mt_up (by omega) (by omega)))
theorem hold_go {v : sv_T} {q u : Nat} {a b : Int32} (hu : u ≤ 1) (h1 : v q 1 = nI u) : f_Slot_holds q a b v = some (nI (if u = 1 ∧ v q 2 = a ∧ v q 3 = b then 1 else 0), v) := by
  unfold f_Slot_holds
  rw [h1, if_eq0 (by omega)]
  by_cases z : u = 0
  · rw [if_pos z, if_neg (by omega)]; rfl
  · rw [if_neg z]
    by_cases z2 : v q 2 = a
    · rw [if_pos z2]
      by_cases z3 : v q 3 = b
      · rw [if_pos z3, if_pos ⟨by omega, z2, z3⟩]; rfl
      · rw [if_neg z3, if_neg (fun t => z3 t.2.2)]; rfl
    · rw [if_neg z2, if_neg (fun t => z2 t.2.1)]; rfl
/-- the reference looks at slot s -/
theorem ml4 {w : sv_T} {h s u : Nat} {a b : Int32} (hh : h ≤ 1) (hs : s < 2 * h + 2) (hu : u ≤ 1) (h88 : w 88 s = nI u) (h1 : w 116 1 = a) (h4 : w 116 4 = b) : f_M_slotFor_l4 (nI h) (nI s) w = some (if u = 1 ∧ w 89 s = a ∧ w 90 s = b then .inr (nI s, w) else .inl (nI (s + 1), w)) := by
  unfold f_M_slotFor_l4 f_M_slotFor_b54
  rw [show (2 : Int32) * nI h + 2 = nI (2 * h + 2) by rw [show (2 : Int32) = nI 2 from rfl, pk_mul, nI_add], if_lt (by omega) (by omega), if_pos hs]
  simp only [ck_n (show s < 4 by omega) (show 4 < 2 ^ 31 by omega), nI_clamp (show s < 2 ^ 31 by omega), sv_le, nI_1, h88, if_eq0 (show u < 2 ^ 31 by omega), h1, h4]
  by_cases z : u = 0
  · rw [if_pos z, if_neg (by omega)]
  · rw [if_neg z]
    by_cases z2 : w 89 s = a
    · rw [if_pos z2]
      by_cases z3 : w 90 s = b
      · rw [if_pos z3, if_pos ⟨by omega, z2, z3⟩]; rfl
      · rw [if_neg z3, if_neg (fun t => z3 t.2.2)]
    · rw [if_neg z2, if_neg (fun t => z2 t.2.1)]
/-- which slot, on both sides -/
theorem slf_go {v w : sv_T} {h B id pr : Nat} (hh : h ≤ 1) (hB : B = 9 + 33 * h) (S0 : SL v w (B + 11) (2 * h)) (S1 : SL v w (B + 13) (2 * h + 1)) (h1 : w 116 1 = nI id) (h4 : w 116 4 = nI pr) :
    ∃ k v' w', k ≤ 1 ∧ f_Pieces_slotFor (B + 10) (nI id) (nI pr) v = some (some (B + 11 + 2 * k), v') ∧ f_M_slotFor (nI h) w = some (nI (2 * h + k), w') ∧ v' (B + 11 + 2 * k) 1 = nI 1 ∧ w' 88 (2 * h + k) = nI 1 ∧ SU v' w' (B + 11 + 2 * k) (2 * h + k) ∧ CT (B + 11 + 2 * k) v v' ∧ MT (2 * h + k) w w' := by
  obtain ⟨p1, p2, p3, p4, p5, p6, p7, p8, p9⟩ := sh_P hh hB
  obtain ⟨u0, a1, a2, a3, a4⟩ := S0
  obtain ⟨u1, b1, b2, b3, b4⟩ := S1
  unfold f_Pieces_slotFor f_M_slotFor
  rw [p1, p2, hold_go a1 a2, show (2 : Int32) * nI h = nI (2 * h) from pk_mul 2 h]
  simp only [sv_bi, sv_le, Option.bind_some, if01]
  have m0 := ml4 (w := w) (h := h) (s := 2 * h) (u := u0) hh (by omega) a1 a3 h1 h4
  by_cases z0 : u0 = 1 ∧ v (B + 11) 2 = nI id ∧ v (B + 11) 3 = nI pr
  · rw [if_pos z0]
    have c := a4 z0.1
    refine ⟨0, v, w, by omega, rfl, ?_, by rw [a2, z0.1], by rw [Nat.add_zero, a3, z0.1], c, fun _ _ _ => rfl, MT.rf⟩
    rw [if_pos ⟨z0.1, by rw [← c.1]; exact z0.2.1, by rw [← c.2.1]; exact z0.2.2⟩] at m0
    exact lp_e (by omega) m0
  · rw [if_neg z0, hold_go b1 b2]
    simp only [Option.bind_some, if01]
    rw [if_neg (fun t => z0 (by
      have c := a4 t.1
      exact ⟨t.1, by rw [c.1]; exact t.2.1, by rw [c.2.1]; exact t.2.2⟩))] at m0
    rw [lp_s (by omega) m0]
    have m1 := ml4 (w := w) (h := h) (s := 2 * h + 1) (u := u1) hh (by omega) b1 b3 h1 h4
    by_cases z1 : u1 = 1 ∧ v (B + 13) 2 = nI id ∧ v (B + 13) 3 = nI pr
    · rw [if_pos z1]
      have c := b4 z1.1
      refine ⟨1, v, w, by omega, rfl, ?_, by rw [show B + 11 + 2 * 1 = B + 13 by omega, b2, z1.1], by rw [b3, z1.1], c, fun _ _ _ => rfl, MT.rf⟩
      rw [if_pos ⟨z1.1, by rw [← c.1]; exact z1.2.1, by rw [← c.2.1]; exact z1.2.2⟩] at m1
      exact lp_e (by omega) m1
    · rw [if_neg z1]
      rw [if_neg (fun t => z1 (by
        have c := b4 t.1
        exact ⟨t.1, by rw [c.1]; exact t.2.1, by rw [c.2.1]; exact t.2.2⟩))] at m1
      rw [lp_s (by omega) m1]
      -- the slot that begins
      have two : ∃ k, k ≤ 1 ∧ f_Pieces_slotToBegin (B + 10) v = some (some (B + 11 + 2 * k), v) ∧ f_M_slotFor_l4 (nI h) (nI (2 * h + 1 + 1)) w = Option.map Sum.inr (f_M_slotFor_b130 (nI (2 * h + k)) w) := by
        unfold f_Pieces_slotToBegin f_M_slotFor_l4
        rw [show (2 : Int32) * nI h + 2 = nI (2 * h + 2) by rw [show (2 : Int32) = nI 2 from rfl, pk_mul, nI_add], if_lt (by omega) (by omega), if_neg (show ¬ 2 * h + 1 + 1 < 2 * h + 2 by omega), p1, p2, show (2 : Int32) * nI h = nI (2 * h) from pk_mul 2 h, nI_1]
        simp only [ck_n (show 2 * h < 4 by omega) (show 4 < 2 ^ 31 by omega), nI_clamp (show 2 * h < 2 ^ 31 by omega), ck_n (show 2 * h + 1 < 4 by omega) (show 4 < 2 ^ 31 by omega), nI_clamp (show 2 * h + 1 < 2 ^ 31 by omega), a2, a3, b2, b3, if_eq0 (show u0 < 2 ^ 31 by omega), if_eq0 (show u1 < 2 ^ 31 by omega)]
        by_cases y0 : u0 = 0
        · exact ⟨0, by omega, by rw [if_pos y0], by rw [if_pos y0]; rfl⟩
        · rw [if_neg y0, if_neg y0]
          by_cases y1 : u1 = 0
          · exact ⟨1, by omega, by rw [if_pos y1], by rw [if_pos y1]⟩
          · rw [if_neg y1, if_neg y1]
            obtain ⟨g0, e0, e1, e2⟩ := (a4 (by omega)).2.2.1
            obtain ⟨g1, f0, f1, f2⟩ := (b4 (by omega)).2.2.1
            rw [e1, e2, f1, f2, if_lt (by omega) (by omega), if_lt (by omega) (by omega)]
            by_cases y2 : g0 < g1
            · exact ⟨1, by omega, by rw [if_pos y2], by rw [if_pos y2]⟩
            · exact ⟨0, by omega, by rw [if_neg y2], by rw [if_neg y2]; rfl⟩
      obtain ⟨k, hk, t1, t2⟩ := two
      have hr : sv_ref (sg (B + 11 + 2 * k)) 0 = B + 11 + 2 * k + 1 ∧ sv_len (sg (B + 11 + 2 * k + 1)) = 48 ∧ sv_isO (sg (B + 11 + 2 * k)) 5 = true := by
        obtain rfl | rfl : k = 0 ∨ k = 1 := by omega
        · exact ⟨p4, p6, p8⟩
        · exact ⟨p5, p7, p9⟩
      obtain ⟨v', w', c1, c2, c3, c4, c5, c6, c7⟩ := sb_go (v := v) (w := w) (q := B + 11 + 2 * k) (s := 2 * h + k) (by omega) hr.1 hr.2.1 h1 h4
      refine ⟨k, v', w', hk, ?_, ?_, c3, c4, c5, c6, c7⟩
      · rw [t1]
        show sv_to (B + 11 + 2 * k) 5 _ = _
        unfold sv_to
        rw [if_pos hr.2.2, c1]
        rfl
      · rw [c2] at t2
        exact lp_e (by omega) t2
