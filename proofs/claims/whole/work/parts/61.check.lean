theorem lp_s {σ α : Type} {f : σ → Option (σ ⊕ α)} {n : Nat} {s s' : σ} (hn : 0 < n) (h : f s = some (.inl s')) : sv_loop f n s = sv_loop f (n - 1) s' := by
  obtain ⟨n', rfl⟩ : ∃ n', n = n' + 1 := ⟨n - 1, by omega⟩
  show (f s).bind _ = _
  rw [h]
  rfl
theorem lp_e {σ α : Type} {f : σ → Option (σ ⊕ α)} {n : Nat} {s : σ} {a : α} (hn : 0 < n) (h : f s = some (.inr a)) : sv_loop f n s = some a := by
  obtain ⟨n', rfl⟩ : ∃ n', n = n' + 1 := ⟨n - 1, by omega⟩
  show (f s).bind _ = _
  rw [h]
  rfl
theorem cm_l4 {w : sv_T} {f : Nat → Nat} {n k : Nat} (hn : n ≤ 64) (h43 : w 75 43 = nI n) (hb : ∀ i, i < n → w 115 i = nI (f i)) (hk : k < n) : f_M_check_l4 (nI (ck_s f k)) (nI k) w = some (.inl (nI (ck_s f (k + 1)), nI (k + 1), w)) := by
  unfold f_M_check_l4
  rw [h43, if_lt (by omega) (by omega), if_pos hk]
  have e1 : sv_rem (nI k) 2 = nI (k % 2) := pk_rem (d := 2) (by omega) (by omega) (by omega)
  rw [e1, ck_n (by omega) (by omega), ck_n (by omega) (by omega), nI_clamp (by omega), hb k hk]
  rw [show (0 : Int32) = nI 0 from rfl, if_eq (by omega) (by omega)]
  unfold f_M_check_b38 sv_le
  by_cases h : k % 2 = 0
  · rw [if_pos h, show (256 : Int32) = nI 256 from rfl, pk_mul, nI_add, nI_1]
    show _ = some (Sum.inl (nI (ck_s f k + if k % 2 = 0 then 256 * f k else f k), _, _))
    rw [if_pos h]
  · rw [if_neg h, nI_add, nI_1]
    show _ = some (Sum.inl (nI (ck_s f k + if k % 2 = 0 then 256 * f k else f k), _, _))
    rw [if_neg h]
theorem cm_fold {s : Nat} {w : sv_T} (hs : s < 2 ^ 31) (h : 65535 < s) : f_M_check_l46 (nI s) w = some (.inl (nI (s % 65536 + s / 65536), w)) := by
  unfold f_M_check_l46 sv_le
  rw [show (65535 : Int32) = nI 65535 from rfl, if_lt (by omega) hs, if_pos h]
  have e1 : sv_rem (nI s) 65536 = nI (s % 65536) := pk_rem (d := 65536) hs (by omega) (by omega)
  have e2 : nI s / 65536 = nI (s / 65536) := pk_div (d := 65536) hs (by omega) (by omega)
  rw [e1, e2, nI_add]
theorem cm_stop {s : Nat} {w : sv_T} (h : s ≤ 65535) : f_M_check_l46 (nI s) w = some (.inr (nI s, w)) := by
  unfold f_M_check_l46
  rw [show (65535 : Int32) = nI 65535 from rfl, if_lt (by omega) (by omega), if_neg (by omega)]
theorem cm_folds {s : Nat} {w : sv_T} (hs : s < 2 ^ 31) : sv_loop (fun (s : Int32 × sv_T) => f_M_check_l46 s.1 (s.2)) 100000 (nI s, w) = some (nI (ck_r s), w) := by
  unfold ck_r
  by_cases h1 : s ≤ 65535
  · rw [if_pos h1]
    exact lp_e (by omega) (cm_stop h1)
  · rw [if_neg h1]
    by_cases h2 : s % 65536 + s / 65536 ≤ 65535
    · rw [if_pos h2]
      rw [lp_s (by omega) (cm_fold hs (by omega))]
      exact lp_e (by omega) (cm_stop h2)
    · rw [if_neg h2]
      rw [lp_s (by omega) (cm_fold hs (by omega)), lp_s (by omega) (cm_fold (by omega) (by omega))]
      exact lp_e (by omega) (cm_stop (by omega))
/-- the reference's check -/
theorem cm_check {w : sv_T} {f : Nat → Nat} {n : Nat} (hn : n ≤ 64) (h43 : w 75 43 = nI n) (hb : ∀ i, i < n → w 115 i = nI (f i)) (hf : ∀ i, i < n → f i < 256) : f_M_check w = some (nI (65535 - ck_r (ck_s f n)), w) := by
  have hs := ck_s_le hf
  unfold f_M_check
  have e1 : sv_loop (fun (s : Int32 × Int32 × sv_T) => f_M_check_l4 s.1 s.2.1 (s.2.2)) 100000 ((0 : Int32), (0 : Int32), w) = some (nI (ck_s f n), w) := by
    refine lp_to (fun k => (nI (ck_s f k), nI k, w)) n (fun k hk => cm_l4 hn h43 hb hk) ?_ (by omega)
    show f_M_check_l4 (nI (ck_s f n)) (nI n) w = _
    unfold f_M_check_l4
    rw [h43, if_lt (by omega) (by omega), if_neg (by omega)]
  rw [e1]
  show f_M_check_x46 (nI (ck_s f n)) w = _
  unfold f_M_check_x46
  rw [cm_folds (by omega)]
  show f_M_check_x65 (nI (ck_r (ck_s f n))) w = _
  unfold f_M_check_x65
  have := ck_r_le (s := ck_s f n) (by omega)
  rw [show (65535 : Int32) = nI 65535 from rfl, pk_sub (by omega)]
theorem cc_l6 {v : sv_T} {a st from0 n k : Nat} {f : Nat → Nat} (hlen : from0 + n ≤ sv_len (sg a)) (hl : sv_len (sg a) < 2 ^ 20) (hb : ∀ i, i < n → v a (from0 + i) = nI (f i)) (hf : ∀ i, i < n → f i < 256) (hk : k < n) : f_Num_check_l6 a (nI from0) (nI n) (nI (st + ck_s f k)) (nI k) v = some (.inl (nI (st + ck_s f (k + 1)), nI (k + 1), v)) := by
  unfold f_Num_check_l6
  rw [if_lt (by omega) (by omega), if_pos hk]
  have e1 : nI k &&& 1 = nI (k % 2) := pk_andN (m := 1) (by omega) 1 (by decide)
  rw [e1, nI_add, ck_n (by omega) (by omega), ck_n (by omega) (by omega), nI_clamp (by omega), hb k hk]
  rw [show (0 : Int32) = nI 0 from rfl, if_eq (by omega) (by omega)]
  unfold f_Num_check_b39 sv_le
  have hfk := hf k hk
  by_cases h : k % 2 = 0
  · rw [if_pos h, pk_shlN 8 8 (by decide) (by omega), nI_add, nI_1]
    show _ = some (Sum.inl (nI (st + (ck_s f k + if k % 2 = 0 then 256 * f k else f k)), _, _))
    rw [if_pos h, show f k * 2 ^ 8 = 256 * f k by omega, Nat.add_assoc]
  · rw [if_neg h, nI_add, nI_1]
    show _ = some (Sum.inl (nI (st + (ck_s f k + if k % 2 = 0 then 256 * f k else f k)), _, _))
    rw [if_neg h, Nat.add_assoc]
theorem cc_fold {s : Nat} {k : Nat} {v : sv_T} (hs : s < 2 ^ 31) (h : 65535 < s) (hk : k < 4) : f_Num_check_l51 (nI s) (nI k) v = some (.inl (nI (s % 65536 + s / 65536), nI (k + 1), v)) := by
  unfold f_Num_check_l51 sv_le
  rw [show (4 : Int32) = nI 4 from rfl, if_lt (by omega) (by omega), if_pos hk, show (65535 : Int32) = nI 65535 from rfl, if_lt (by omega) hs, if_pos h]
  have e1 : nI s &&& nI 65535 = nI (s % 65536) := pk_andN (m := nI 65535) (by omega) 16 (by decide)
  have e2 : nI s >>> 16 = nI (s / 65536) := pk_shrN hs 16 16 (by decide)
  rw [e1, e2, nI_add, nI_1, Nat.add_comm (s / 65536)]
theorem cc_stop {s : Nat} {k : Nat} {v : sv_T} (h : s ≤ 65535) (hk : k < 4) : f_Num_check_l51 (nI s) (nI k) v = some (.inr (nI s, v)) := by
  unfold f_Num_check_l51 sv_le
  rw [show (4 : Int32) = nI 4 from rfl, if_lt (by omega) (by omega), if_pos hk, show (65535 : Int32) = nI 65535 from rfl, if_lt (by omega) (by omega), if_neg (by omega)]
theorem cc_folds {s : Nat} {v : sv_T} (hs : s < 2 ^ 31) : sv_loop (fun (s : Int32 × Int32 × sv_T) => f_Num_check_l51 s.1 s.2.1 (s.2.2)) 100000 (nI s, (0 : Int32), v) = some (nI (ck_r s), v) := by
  unfold ck_r
  show sv_loop _ _ (nI s, nI 0, v) = _
  by_cases h1 : s ≤ 65535
  · rw [if_pos h1]
    exact lp_e (by omega) (cc_stop h1 (by omega))
  · rw [if_neg h1]
    by_cases h2 : s % 65536 + s / 65536 ≤ 65535
    · rw [if_pos h2]
      rw [lp_s (by omega) (cc_fold hs (by omega) (by omega))]
      exact lp_e (by omega) (cc_stop h2 (by omega))
    · rw [if_neg h2]
      rw [lp_s (by omega) (cc_fold hs (by omega) (by omega)), lp_s (by omega) (cc_fold (by omega) (by omega) (by omega))]
      exact lp_e (by omega) (cc_stop (by omega) (by omega))
/-- the class's check -/
theorem cc_check {v : sv_T} {a st from0 n : Nat} {f : Nat → Nat} (hst : st < 2 ^ 20) (hlen : from0 + n ≤ sv_len (sg a)) (hl : sv_len (sg a) ≤ 1000) (hb : ∀ i, i < n → v a (from0 + i) = nI (f i)) (hf : ∀ i, i < n → f i < 256) : f_Num_check (nI st) a (nI from0) (nI n) v = some (nI (65535 - ck_r (st + ck_s f n)), v) := by
  have hs := ck_s_le hf
  unfold f_Num_check
  have e1 : sv_loop (fun (s : Int32 × Int32 × sv_T) => f_Num_check_l6 a (nI from0) (nI n) s.1 s.2.1 (s.2.2)) 100000 (nI st, (0 : Int32), v) = some (nI (st + ck_s f n), v) := by
    refine lp_to (fun k => (nI (st + ck_s f k), nI k, v)) n (fun k hk => cc_l6 hlen (by omega) hb hf hk) ?_ (by omega)
    show f_Num_check_l6 a (nI from0) (nI n) (nI (st + ck_s f n)) (nI n) v = _
    unfold f_Num_check_l6
    rw [if_lt (by omega) (by omega), if_neg (by omega)]
  rw [e1]
  show f_Num_check_x48 (nI (st + ck_s f n)) v = _
  unfold f_Num_check_x48
  rw [cc_folds (by omega)]
  show f_Num_check_x83 (nI (ck_r (st + ck_s f n))) v = _
  unfold f_Num_check_x83
  have := ck_r_le (s := st + ck_s f n) (by omega)
  rw [show (65535 : Int32) = nI 65535 from rfl, pk_sub (by omega)]
