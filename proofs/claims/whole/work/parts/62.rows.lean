-- rows of bytes: c rows, row k of sz k bytes bs k 0 .. ; the class's Rows and the reference's flat arrays
def RP (cnt : Int32) (sf : Nat → Int32) (bf : Nat → Nat → Int32) (c : Nat) (sz : Nat → Nat) (bs : Nat → Nat → Nat) : Prop := cnt = nI c ∧ ∀ k, k < c → sf k = nI (sz k) ∧ ∀ i, i < sz k → bf k i = nI (bs k i)
def RC (v : sv_T) (q wd c : Nat) (sz : Nat → Nat) (bs : Nat → Nat → Nat) : Prop := RP (v q 4) (v (q + 2)) (fun k i => v (q + 1) (k * wd + i)) c sz bs
def RF (w : sv_T) (h c : Nat) (sz : Nat → Nat) (bs : Nat → Nat → Nat) : Prop := RP (w 76 h) (fun k => w 77 (16 * h + k)) (fun k i => w 78 (40 * (16 * h + k) + i)) c sz bs
def RL (w : sv_T) (h c : Nat) (sz : Nat → Nat) (bs : Nat → Nat → Nat) : Prop := RP (w 79 h) (fun k => w 80 (4 * h + k)) (fun k i => w 81 (40 * (4 * h + k) + i)) c sz bs
/-- sizes and bytes within their bounds -/
def RB (wd c : Nat) (sz : Nat → Nat) (bs : Nat → Nat → Nat) : Prop := ∀ k, k < c → sz k ≤ wd ∧ ∀ i, i < sz k → bs k i < 256
def ra_sz (c : Nat) (sz : Nat → Nat) (n : Nat) : Nat → Nat := fun k => if k = c then n else sz k
def ra_bs (c : Nat) (bs : Nat → Nat → Nat) (r : Nat → Nat) : Nat → Nat → Nat := fun k i => if k = c then r i else bs k i
def rd_sz (sz : Nat → Nat) : Nat → Nat := fun k => sz (k + 1)
def rd_bs (bs : Nat → Nat → Nat) : Nat → Nat → Nat := fun k i => bs (k + 1) i
theorem RB.add {wd c : Nat} {sz : Nat → Nat} {bs : Nat → Nat → Nat} {n : Nat} {r : Nat → Nat} (h : RB wd c sz bs) (hn : n ≤ wd) (hr : ∀ i, i < n → r i < 256) : RB wd (c + 1) (ra_sz c sz n) (ra_bs c bs r) := by
  intro k hk
  unfold ra_sz ra_bs
  by_cases e : k = c
  · rw [if_pos e]
    refine ⟨hn, fun i hi => ?_⟩
    rw [if_pos e]
    exact hr i hi
  · rw [if_neg e]
    obtain ⟨h1, h2⟩ := h k (by omega)
    refine ⟨h1, fun i hi => ?_⟩
    rw [if_neg e]
    exact h2 i hi
theorem RB.drop {wd c : Nat} {sz : Nat → Nat} {bs : Nat → Nat → Nat} (h : RB wd c sz bs) : RB wd (c - 1) (rd_sz sz) (rd_bs bs) := fun k hk => h (k + 1) (by omega)
theorem RP.add {cnt cnt' : Int32} {sf sf' : Nat → Int32} {bf bf' : Nat → Nat → Int32} {c : Nat} {sz : Nat → Nat} {bs : Nat → Nat → Nat} {n : Nat} {r : Nat → Nat} (h : RP cnt sf bf c sz bs) (h1 : cnt' = nI (c + 1)) (h2 : sf' c = nI n) (h3 : ∀ i, i < n → bf' c i = nI (r i)) (h4 : ∀ k, k < c → sf' k = sf k) (h5 : ∀ k, k < c → ∀ i, i < sz k → bf' k i = bf k i) : RP cnt' sf' bf' (c + 1) (ra_sz c sz n) (ra_bs c bs r) := by
  refine ⟨h1, fun k hk => ?_⟩
  unfold ra_sz ra_bs
  by_cases e : k = c
  · subst e
    rw [if_pos rfl]
    refine ⟨h2, fun i hi => ?_⟩
    rw [if_pos rfl]
    exact h3 i hi
  · rw [if_neg e]
    obtain ⟨g1, g2⟩ := h.2 k (by omega)
    refine ⟨(h4 k (by omega)).trans g1, fun i hi => ?_⟩
    rw [if_neg e]
    exact (h5 k (by omega) i hi).trans (g2 i hi)
theorem RP.drop {cnt cnt' : Int32} {sf sf' : Nat → Int32} {bf bf' : Nat → Nat → Int32} {c : Nat} {sz : Nat → Nat} {bs : Nat → Nat → Nat} (h : RP cnt sf bf c sz bs) (h1 : cnt' = nI (c - 1)) (h4 : ∀ k, k + 1 < c → sf' k = sf (k + 1)) (h5 : ∀ k, k + 1 < c → ∀ i, i < sz (k + 1) → bf' k i = bf (k + 1) i) : RP cnt' sf' bf' (c - 1) (rd_sz sz) (rd_bs bs) := by
  refine ⟨h1, fun k hk => ?_⟩
  obtain ⟨g1, g2⟩ := h.2 (k + 1) (by omega)
  exact ⟨(h4 k (by omega)).trans g1, fun i hi => (h5 k (by omega) i hi).trans (g2 i hi)⟩
theorem RP.same {cnt cnt' : Int32} {sf sf' : Nat → Int32} {bf bf' : Nat → Nat → Int32} {c : Nat} {sz : Nat → Nat} {bs : Nat → Nat → Nat} (h : RP cnt sf bf c sz bs) (h1 : cnt' = cnt) (h4 : ∀ k, k < c → sf' k = sf k) (h5 : ∀ k, k < c → ∀ i, i < sz k → bf' k i = bf k i) : RP cnt' sf' bf' c sz bs := by
  refine ⟨h1.trans h.1, fun k hk => ?_⟩
  obtain ⟨g1, g2⟩ := h.2 k hk
  exact ⟨(h4 k hk).trans g1, fun i hi => (h5 k hk i hi).trans (g2 i hi)⟩
theorem RC.same {v v' : sv_T} {q wd c : Nat} {sz : Nat → Nat} {bs : Nat → Nat → Nat} (h : RC v q wd c sz bs) (h1 : v' q = v q) (h2 : v' (q + 1) = v (q + 1)) (h3 : v' (q + 2) = v (q + 2)) : RC v' q wd c sz bs := by
  unfold RC
  rw [h1, h2, h3]
  exact h
/-- the shape of a Rows at q: at most mo rows of at most wd bytes -/
def RS (q mo wd : Nat) : Prop := sv_int (sg q) 0 = nI mo ∧ sv_int (sg q) 1 = nI wd ∧ sv_ref (sg q) 2 = q + 1 ∧ sv_ref (sg q) 3 = q + 2 ∧ sv_len (sg (q + 1)) = (mo + 1) * wd ∧ sv_len (sg (q + 2)) = mo + 1 ∧ 0 < mo ∧ mo ≤ 16 ∧ 0 < wd ∧ wd ≤ 49
/-- outside the Rows at q nothing has changed -/
def RO (q : Nat) (v v' : sv_T) : Prop := ∀ p, p ≠ q → p ≠ q + 1 → p ≠ q + 2 → v' p = v p
theorem rs_mul {mo wd c : Nat} (h : c ≤ mo) : c * wd + wd ≤ (mo + 1) * wd := by
  have := Nat.mul_le_mul_right wd (show c + 1 ≤ mo + 1 by omega)
  rw [Nat.add_mul] at this
  omega
theorem rs_bd {mo wd : Nat} (h1 : mo ≤ 16) (h2 : wd ≤ 49) : (mo + 1) * wd ≤ 833 := Nat.le_trans (Nat.mul_le_mul (show mo + 1 ≤ 17 by omega) h2) (by decide)
theorem rs_row {wd c k : Nat} (h : k < c) : k * wd + wd ≤ c * wd := by
  have := Nat.mul_le_mul_right wd (show k + 1 ≤ c by omega)
  rw [Nat.add_mul] at this
  omega
theorem rc_add {v : sv_T} {q mo wd c n a : Nat} {sz : Nat → Nat} {bs : Nat → Nat → Nat} {r : Nat → Nat} (S : RS q mo wd) (h : RC v q wd c sz bs) (B : RB wd c sz bs) (hc : c < mo) (ha : a ≠ q) (ha1 : a ≠ q + 1) (ha2 : a ≠ q + 2) (hr : ∀ i, i < n → v a i = nI (r i)) (hn : n ≤ wd) (hl : n ≤ sv_len (sg a)) (hl2 : sv_len (sg a) ≤ 1000) : ∃ v', f_Rows_add q a (nI n) v = some v' ∧ RC v' q wd (c + 1) (ra_sz c sz n) (ra_bs c bs r) ∧ RO q v v' := by
  obtain ⟨s1, s2, s3, s4, s5, s6, s7, s8, s9, s10⟩ := S
  have m1 := rs_mul (wd := wd) (Nat.le_of_lt hc)
  have m2 := rs_bd s8 s10
  unfold f_Rows_add
  dsimp only [sv_ls, sv_le]
  rw [s1, s2, s3, s4, s5, s6, h.1, if_lt (by omega) (by omega), if_pos hc]
  rw [show (0 : Int32) = nI 0 from rfl, if_lt (by omega) (by omega), if_neg (by omega), if_le (by omega) (by omega), if_pos hn]
  rw [show Int32.ofNat (sv_len (sg a)) = nI (sv_len (sg a)) from rfl, if_le (by omega) (by omega), if_pos hl, pk_mul, cc_n (by omega) (by omega) (by omega) (by omega), nI_clamp (by omega), nI_clamp (by omega), nI_clamp (by omega)]
  rw [cp_q (show q ≠ q + 1 by omega), h.1, ck_n (by omega) (by omega), nI_clamp (by omega)]
  rw [up_q (show q ≠ q + 2 by omega), cp_q (show q ≠ q + 1 by omega), h.1, nI_1]
  refine ⟨_, rfl, ?_, fun p h1 h2 h3 => ?_⟩
  · refine h.add up_s ?_ (fun i hi => ?_) (fun k hk => ?_) (fun k hk i hi => ?_)
    · rw [up_q (show q + 2 ≠ q by omega), up_s]
    · rw [up_q (show q + 1 ≠ q by omega), up_q (show q + 1 ≠ q + 2 by omega), cp_in (by omega), Nat.zero_add]
      exact hr i hi
    · rw [up_q (show q + 2 ≠ q by omega), up_i (by omega), cp_q (show q + 2 ≠ q + 1 by omega)]
    · have := (B k hk).1
      have := rs_row (wd := wd) hk
      rw [up_q (show q + 1 ≠ q by omega), up_q (show q + 1 ≠ q + 2 by omega), cp_out (by omega)]
  · rw [sv_up_off _ _ _ h1, sv_up_off _ _ _ h3, cp_off h2]
theorem rc_add_full {v : sv_T} {q mo wd a : Nat} {x : Int32} (S : RS q mo wd) (h : v q 4 = nI mo) : f_Rows_add q a x v = some v := by
  obtain ⟨s1, s2, s3, s4, s5, s6, s7, s8, s9, s10⟩ := S
  unfold f_Rows_add
  rw [s1, h, if_lt (by omega) (by omega), if_neg (by omega)]
theorem rc_drop {v : sv_T} {q mo wd c : Nat} {sz : Nat → Nat} {bs : Nat → Nat → Nat} (S : RS q mo wd) (h : RC v q wd c sz bs) (B : RB wd c sz bs) (hc : 0 < c) (hm : c ≤ mo + 1) : ∃ v', f_Rows_dropFirst q v = some v' ∧ RC v' q wd (c - 1) (rd_sz sz) (rd_bs bs) ∧ RO q v v' := by
  obtain ⟨s1, s2, s3, s4, s5, s6, s7, s8, s9, s10⟩ := S
  have m1 := rs_mul (wd := wd) (c := c - 1) (mo := mo) (by omega)
  have m2 := rs_bd s8 s10
  unfold f_Rows_dropFirst
  dsimp only [sv_ls, sv_le]
  rw [s2, s3, s4, s5, s6, h.1, show (0 : Int32) = nI 0 from rfl, if_lt (by omega) (by omega), if_pos hc]
  rw [show (1 : Int32) = nI 1 from rfl, pk_sub (by omega), up_s, pk_mul, cc_n (by omega) (by omega) (by omega) (by omega), nI_clamp (by omega), nI_clamp (by omega), nI_clamp (by omega)]
  rw [cp_q (show q ≠ q + 1 by omega), up_s, cc_n (by omega) (by omega) (by omega) (by omega), nI_clamp (by omega), nI_clamp (by omega)]
  refine ⟨_, rfl, ?_, fun p h1 h2 h3 => ?_⟩
  · refine h.drop ?_ (fun k hk => ?_) (fun k hk i hi => ?_)
    · rw [cp_q (show q ≠ q + 2 by omega), cp_q (show q ≠ q + 1 by omega), up_s]
    · have e := cp_in (v := sv_cp (sv_up v q 4 (nI (c - 1))) (q + 1) wd (q + 1) 0 ((c - 1) * wd)) (q := q + 2) (sp := 1) (q1 := q + 2) (dp := 0) (n := c - 1) (i := k) (by omega)
      rw [Nat.zero_add] at e
      rw [e, cp_q (show q + 2 ≠ q + 1 by omega), up_q (show q + 2 ≠ q by omega), Nat.add_comm 1 k]
    · have hk2 := (B (k + 1) (by omega)).1
      have hk3 := rs_row (wd := wd) (c := c - 1) (k := k) (by omega)
      have e := cp_in (v := sv_up v q 4 (nI (c - 1))) (q := q + 1) (sp := wd) (q1 := q + 1) (dp := 0) (n := (c - 1) * wd) (i := k * wd + i) (by omega)
      rw [Nat.zero_add] at e
      rw [cp_q (show q + 1 ≠ q + 2 by omega), e, up_q (show q + 1 ≠ q by omega), Nat.add_mul, show wd + (k * wd + i) = k * wd + 1 * wd + i by omega]
  · rw [cp_off h3, cp_off h2, sv_up_off _ _ _ h1]
theorem rc_take {v : sv_T} {q mo wd c a fr : Nat} {sz : Nat → Nat} {bs : Nat → Nat → Nat} (S : RS q mo wd) (h : RC v q wd c sz bs) (B : RB wd c sz bs) (hc : 0 < c) (hm : c ≤ mo) (ha : a ≠ q) (ha1 : a ≠ q + 1) (ha2 : a ≠ q + 2) (hl : fr + sz 0 ≤ sv_len (sg a)) (hl2 : sv_len (sg a) ≤ 1000) : ∃ v', f_Rows_takeFirst q a (nI fr) v = some (nI (sz 0), v') ∧ RC v' q wd (c - 1) (rd_sz sz) (rd_bs bs) ∧ (∀ p, p ≠ a → p ≠ q → p ≠ q + 1 → p ≠ q + 2 → v' p = v p) ∧ (∀ i, i < sz 0 → v' a (fr + i) = nI (bs 0 i)) ∧ (∀ i, i < fr ∨ fr + sz 0 ≤ i → v' a i = v a i) := by
  have S0 := S
  obtain ⟨s1, s2, s3, s4, s5, s6, s7, s8, s9, s10⟩ := S
  have m2 := rs_bd s8 s10
  have m3 := rs_mul (wd := wd) (c := 0) (mo := mo) (by omega)
  obtain ⟨g1, g2⟩ := h.2 0 hc
  have hz := (B 0 hc).1
  have h1 : RC (sv_cp v (q + 1) 0 a fr (sz 0)) q wd c sz bs := h.same (cp_off (Ne.symm ha)) (cp_off (Ne.symm ha1)) (cp_off (Ne.symm ha2))
  obtain ⟨v', e1, e2, e3⟩ := rc_drop S0 h1 B hc (by omega)
  refine ⟨v', ?_, e2, fun p p1 p2 p3 p4 => ?_, fun i hi => ?_, fun i hi => ?_⟩
  · unfold f_Rows_takeFirst
    dsimp only [sv_ls, sv_le]
    rw [s3, s4, s5, s6, h.1, show (0 : Int32) = nI 0 from rfl, if_eq (by omega) (by omega), if_neg (by omega), if_lt (by omega) (by omega), if_neg (by omega), ck_n (by omega) (by omega), ck_n (by omega) (by omega), nI_clamp (by omega), g1]
    rw [show Int32.ofNat (sv_len (sg a)) = nI (sv_len (sg a)) from rfl, pk_sub (by omega), if_lt (by omega) (by omega), if_neg (by omega), cc_n (by omega) (by omega) (by omega) (by omega), nI_clamp (by omega), nI_clamp (by omega)]
    show (f_Rows_dropFirst q (sv_cp v (q + 1) 0 a fr (sz 0))).bind _ = _
    rw [e1]
    rfl
  · rw [e3 p p2 p3 p4, cp_off p1]
  · rw [e3 a ha ha1 ha2, cp_in hi, Nat.zero_add]
    have := g2 i hi
    dsimp only at this
    rw [Nat.zero_mul, Nat.zero_add] at this
    exact this
  · rw [e3 a ha ha1 ha2, cp_out hi]
