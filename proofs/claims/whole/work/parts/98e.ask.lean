/-- a packet goes, with the ways alone -/
theorem wg_goes {v w : sv_T} {h g B q n st : Nat} {p : Nat → Nat} (hh : h + g = 1) (hB : B = 9 + 33 * h) (hq : q = 4 - 3 * h) (R : WR v w g q) (hst : w 84 h = nI st) (hst2 : st < 256) (hn : n ≤ 34) (hp0 : w 116 0 = nI n) (hw : ∀ i, i < n → w 116 i = nI (p i)) (hv : ∀ i, i < n → v (B + 9) (3 + i) = nI (p i)) (hp : ∀ i, i < n → p i < 256) :
    ∃ v' w', f_Link_sendFrame (B + 5) (nI st) (nI 8) (nI (3 + n)) v = some v' ∧ f_M_goes (nI h) w = some w' ∧ WR v' w' g q ∧ (∀ x, x ≠ q → x ≠ q + 1 → x ≠ q + 2 → x ≠ B + 9 → v' x = v x) ∧ (∀ x, x ≠ 75 → x ≠ 76 → x ≠ 77 → x ≠ 78 → x ≠ 113 → w' x = w x) ∧ (∀ i, i ≠ 39 → w' 75 i = w 75 i) ∧ (∀ qo, qo = 1 + 3 * h → WR v w h qo → WR v' w' h qo) := by
  have e3 : (16 : Int32) + nI h = nI (16 + h) := nI_add 16 h
  generalize hw1 : sv_up (sv_cp (sv_up (sv_up (sv_up w 113 0 (nI st)) 113 1 (nI (16 + h))) 113 2 (nI 8)) 116 0 113 3 n) 75 39 (nI (3 + n)) = w1
  have kw : ∀ q, q ≠ 113 → q ≠ 75 → w1 q = w q := fun q h1 h2 => by
    rw [← hw1, sv_up_off _ _ _ h2, cp_off h1, sv_up_off _ _ _ h1, sv_up_off _ _ _ h1, sv_up_off _ _ _ h1]
  have hfr : ∀ i, i < 3 + n → w1 113 i = nI (pk_r h st p i) := fun i hi => by
    rw [← hw1, up_q (by decide)]
    match i with
    | 0 => rw [cp_out (by omega)]; simp [up_a, pk_r]
    | 1 => rw [cp_out (by omega)]; simp [up_a, pk_r]
    | 2 => rw [cp_out (by omega)]; simp [up_a, pk_r]
    | i + 3 =>
      rw [Nat.add_comm i 3, cp_in (by omega), up_q (by decide), up_q (by decide), up_q (by decide), Nat.zero_add, hw i (by omega), Nat.add_comm 3 i]
      rfl
  obtain ⟨v', w', f1, f2, f3, f4, f5, f6⟩ := sf_go (v := v) (w := w1) (r := pk_r h st p) (to := st) (ty := 8) (n := 3 + n) hh hB hq (R.frame rfl rfl rfl (kw _ (by decide) (by decide)) (kw _ (by decide) (by decide)) (kw _ (by decide) (by decide))) (by omega) (by omega) (by rw [← hw1, up_s]) hfr rfl rfl rfl (fun i h1 h2 => by
    obtain ⟨i', rfl⟩ : ∃ i', i = 3 + i' := ⟨i - 3, by omega⟩
    rw [hv i' (by omega), Nat.add_comm 3 i']
    rfl) (fun i hi => by
    match i with
    | 0 => exact hst2
    | 1 => show 16 + h < 256; omega
    | 2 => show 8 < 256; omega
    | i + 3 => exact hp i (by omega))
  refine ⟨v', w', f1, ?_, f3, f4, fun x h1 h2 h3 h4 h5 => (f5 x h2 h3 h4).trans (kw x h5 h1), fun i hi => ?_, fun qo e W => f6 qo e (W.frame rfl rfl rfl (kw _ (by decide) (by decide)) (kw _ (by decide) (by decide)) (kw _ (by decide) (by decide)))⟩
  · unfold f_M_goes
    dsimp only [sv_ls, sv_le]
    rw [hp0, ck_n (by omega) (by omega), nI_clamp (by omega), hst, e3, mg_loop (by omega)]
    show f_M_goes_x64 (nI h) (nI n) (sv_cp (sv_up (sv_up (sv_up w 113 0 (nI st)) 113 1 (nI (16 + h))) 113 2 (nI 8)) 116 0 113 3 n) = _
    unfold f_M_goes_x64
    dsimp only [sv_ls, sv_le]
    rw [show (3 : Int32) = nI 3 from rfl, nI_add, hw1, f2]
    rfl
  · rw [f5 75 (by decide) (by decide) (by decide), ← hw1, up_i hi, cp_q (by decide)]
    simp [up_a]
theorem mq_loop {w : sv_T} {h l n : Nat} {x : Int32} (hn : n ≤ 40) (hl : l < 8) (h80 : w 80 l = nI n) : sv_loop (fun (s : Int32 × sv_T) => f_M_asked_l139 (nI h) x (nI l) s.1 (s.2)) 100000 ((0 : Int32), w) = some (sv_cp w 81 (40 * l) 116 0 n) := by
  have key := lp_to (f := fun (s : Int32 × sv_T) => f_M_asked_l139 (nI h) x (nI l) s.1 (s.2)) (fun k => (nI k, sv_cp w 81 (40 * l) 116 0 k)) n (a := sv_cp w 81 (40 * l) 116 0 n) (fun k hk => ?_) ?_ (n := 100000) (by omega)
  · rw [cp_0] at key
    exact key
  · show f_M_asked_l139 (nI h) x (nI l) (nI k) (sv_cp w 81 (40 * l) 116 0 k) = _
    unfold f_M_asked_l139
    rw [ck_n hl (by omega), nI_clamp (n := l) (by omega), cp_q (by decide), h80, if_lt (by omega) (by omega), if_pos hk, show (40 : Int32) * nI l + nI k = nI (40 * l + k) by rw [show (40 : Int32) = nI 40 from rfl, pk_mul, nI_add], ck_n (by omega) (by omega), ck_n (by omega) (by omega), nI_clamp (by omega), nI_clamp (by omega)]
    simp only [sv_ls, sv_le]
    have e := up_cp (v := w) (w := sv_cp w 81 (40 * l) 116 0 k) (q := 81) (sp := 40 * l) (q1 := 116) (dp := 0) (n := k) (x := sv_cp w 81 (40 * l) 116 0 k 81 (40 * l + k)) rfl (cp_q (by decide))
    rw [Nat.zero_add] at e
    rw [e, nI_1]
  · show f_M_asked_l139 (nI h) x (nI l) (nI n) (sv_cp w 81 (40 * l) 116 0 n) = _
    unfold f_M_asked_l139
    rw [ck_n hl (by omega), nI_clamp (n := l) (by omega), cp_q (by decide), h80, if_lt (by omega) (by omega), if_neg (by omega)]
set_option maxHeartbeats 1000000 in
/-- the line goes out, on both sides -/
theorem tq_go {h g B q c st : Nat} {sz : Nat → Nat} {bs : Nat → Nat → Nat} (hh : h + g = 1) (hB : B = 9 + 33 * h) (hq : q = 4 - 3 * h) (hc : c ≤ 4) (RBx : RB 34 c sz bs) (hz : ∀ k, k < c → 0 < sz k ∧ bs k 0 = sz k) (hst : st < 256) : ∀ (r k : Nat) {v w : sv_T} {m m' : Nat}, k + r = c → r < m → r < m' → WR v w g q → WR v w h (1 + 3 * h) → RC v (B + 6) 34 r (fun t => sz (k + t)) (fun t i => bs (k + t) i) → v (B + 5) 5 = nI st → w 84 h = nI st → (∀ t, k ≤ t → t < c → w 80 (4 * h + t) = nI (sz t) ∧ ∀ i, i < sz t → w 81 (40 * (4 * h + t) + i) = nI (bs t i)) → ∃ v' w', sv_loop (fun (s : Int32 × sv_T) => f_Link_takeAsk_l47 (B + 5) s.1 (s.2)) m (nI r, v) = some v' ∧ sv_loop (fun (s : Int32 × sv_T) => f_M_asked_l126 (nI h) (nI c) s.1 (s.2)) m' (nI (4 * h + k), w) = some w' ∧ WR v' w' g q ∧ WR v' w' h (1 + 3 * h) ∧ v' (B + 6) 4 = nI 0 ∧ (∀ x, x ≠ q → x ≠ q + 1 → x ≠ q + 2 → (x < B + 6 ∨ B + 9 < x) → v' x = v x) ∧ (∀ x, x ≠ 75 → x ≠ 76 → x ≠ 77 → x ≠ 78 → x ≠ 113 → x ≠ 116 → w' x = w x) ∧ ∀ i, i ≠ 39 → w' 75 i = w 75 i := by
  obtain ⟨s1, s2, s3, s4, s5, s6, s7⟩ := sh_L (h := h) (by omega) hB hq
  have e126 : (4 : Int32) * nI h + nI c = nI (4 * h + c) := by
    rw [show (4 : Int32) = nI 4 from rfl, pk_mul, nI_add]
  intro r
  induction r with
  | zero =>
    intro k v w m m' hk hm hm' W1 W2 RCx h5 h84 hl
    refine ⟨v, w, lp_e (by omega) ?_, lp_e (by omega) ?_, W1, W2, RCx.1, fun _ _ _ _ _ => rfl, fun _ _ _ _ _ _ _ => rfl, fun _ _ => rfl⟩
    · show f_Link_takeAsk_l47 (B + 5) (nI 0) v = _
      unfold f_Link_takeAsk_l47
      rw [if_neg (by decide)]
    · show f_M_asked_l126 (nI h) (nI c) (nI (4 * h + k)) w = _
      unfold f_M_asked_l126
      rw [e126, if_lt (by omega) (by omega), if_neg (by omega)]
  | succ r ih =>
    intro k v w m m' hk hm hm' W1 W2 RCx h5 h84 hl
    have kc : k < c := by omega
    have rb := RBx k kc
    have RB1 : RB 34 (r + 1) (fun t => sz (k + t)) (fun t i => bs (k + t) i) := fun t ht => RBx (k + t) (by omega)
    obtain ⟨v1, t1, t2, t3, t4, t5⟩ := rc_take (a := B + 9) (fr := 3) s5 RCx RB1 (by omega) (by omega) (by omega) (by omega) (by omega) (by show 3 + sz (k + 0) ≤ _; rw [Nat.add_zero]; omega) (by omega)
    have t1' : f_Rows_takeFirst (B + 6) (B + 9) (nI 3) v = some (nI (sz k), v1) := t1
    have t4' : ∀ i, i < sz k → v1 (B + 9) (3 + i) = nI (bs k i) := t4
    have t2' : RC v1 (B + 6) 34 r (fun t => sz (k + 1 + t)) (fun t i => bs (k + 1 + t) i) := by
      have e1 : rd_sz (fun t => sz (k + t)) = fun t => sz (k + 1 + t) := funext fun t => by
        show sz (k + (t + 1)) = sz (k + 1 + t)
        rw [show k + (t + 1) = k + 1 + t by omega]
      have e2 : rd_bs (fun t i => bs (k + t) i) = fun t i => bs (k + 1 + t) i := funext fun t => funext fun i => by
        show bs (k + (t + 1)) i = bs (k + 1 + t) i
        rw [show k + (t + 1) = k + 1 + t by omega]
      rw [e1, e2] at t2
      exact t2
    obtain ⟨l1, l2⟩ := hl k (Nat.le_refl _) kc
    generalize hw1 : sv_cp w 81 (40 * (4 * h + k)) 116 0 (sz k) = w1
    have kw : ∀ x, x ≠ 116 → w1 x = w x := fun x hx => by rw [← hw1, cp_off hx]
    have bw : ∀ i, i < sz k → w1 116 i = nI (bs k i) := fun i hi => by
      have e := cp_in (v := w) (q := 81) (sp := 40 * (4 * h + k)) (q1 := 116) (dp := 0) (n := sz k) (i := i) hi
      rw [Nat.zero_add] at e
      rw [← hw1, e]
      exact l2 i hi
    obtain ⟨hz1, hz2⟩ := hz k kc
    obtain ⟨v2, w2, a1, a2, a3, a4, a5, a6, a7⟩ := wg_goes (v := v1) (w := w1) (n := sz k) (st := st) (p := bs k) hh hB hq (W1.frame (t3 _ (by omega) (by omega) (by omega) (by omega)) (t3 _ (by omega) (by omega) (by omega) (by omega)) (t3 _ (by omega) (by omega) (by omega) (by omega)) (kw _ (by decide)) (kw _ (by decide)) (kw _ (by decide))) (by rw [kw 84 (by decide)]; exact h84) hst rb.1 (by rw [bw 0 hz1, hz2]) bw t4' rb.2
    have step1 : f_Link_takeAsk_l47 (B + 5) (nI (r + 1)) v = some (.inl (nI r, v2)) := by
      unfold f_Link_takeAsk_l47
      rw [gt0 (by omega), if_pos (by omega), s3, s4, show (3 : Int32) = nI 3 from rfl, t1']
      simp only [sv_bi, Option.bind_some]
      rw [t3 (B + 5) (by omega) (by omega) (by omega) (by omega), h5, nI_add, show (8 : Int32) = nI 8 from rfl, a1]
      simp only [sv_bv, Option.bind_some, sv_le]
      rw [pk_m1]
    have step2 : f_M_asked_l126 (nI h) (nI c) (nI (4 * h + k)) w = some (.inl (nI (4 * h + (k + 1)), w2)) := by
      unfold f_M_asked_l126
      rw [e126, if_lt (by omega) (by omega), if_pos (by omega), mq_loop (by omega) (by omega) l1, hw1]
      simp only [Option.bind_some]
      unfold f_M_asked_x177
      rw [a2]
      simp only [sv_bv, Option.bind_some, sv_le]
      rw [nI_1, Nat.add_assoc]
    obtain ⟨v3, w3, b1, b2, b3, b4, b5, b6, b7, b8⟩ := ih (k + 1) (v := v2) (w := w2) (m := m - 1) (m' := m' - 1) (by omega) (by omega) (by omega) a3 (a7 _ rfl (W2.frame (t3 _ (by omega) (by omega) (by omega) (by omega)) (t3 _ (by omega) (by omega) (by omega) (by omega)) (t3 _ (by omega) (by omega) (by omega) (by omega)) (kw _ (by decide)) (kw _ (by decide)) (kw _ (by decide)))) (t2'.same (a4 _ (by omega) (by omega) (by omega) (by omega)) (a4 _ (by omega) (by omega) (by omega) (by omega)) (a4 _ (by omega) (by omega) (by omega) (by omega))) (by rw [a4 _ (by omega) (by omega) (by omega) (by omega), t3 (B + 5) (by omega) (by omega) (by omega) (by omega)]; exact h5) (by rw [a5 84 (by decide) (by decide) (by decide) (by decide) (by decide), kw 84 (by decide)]; exact h84) (fun t h1 h2 => by
      rw [a5 80 (by decide) (by decide) (by decide) (by decide) (by decide), kw 80 (by decide), a5 81 (by decide) (by decide) (by decide) (by decide) (by decide), kw 81 (by decide)]
      exact hl t (by omega) h2)
    refine ⟨v3, w3, ?_, ?_, b3, b4, b5, fun x h1 h2 h3 h4 => ?_, fun x h1 h2 h3 h4 h5 h6 => ?_, fun i hi => ?_⟩
    · rw [lp_s (by omega) step1]; exact b1
    · rw [lp_s (by omega) step2]; exact b2
    · rw [b6 x h1 h2 h3 h4, a4 x h1 h2 h3 (by omega), t3 x (by omega) (by omega) (by omega) (by omega)]
    · rw [b7 x h1 h2 h3 h4 h5 h6, a5 x h1 h2 h3 h4 h5, kw x h6]
    · rw [b8 i hi, a6 i hi, kw 75 (by decide)]
