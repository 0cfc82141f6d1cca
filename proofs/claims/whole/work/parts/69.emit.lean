/-- the reference's network is in order: some class's would be the same -/
def GH (w : sv_T) : Prop := ∃ x, NR x w
theorem GH.keep {w w1 : sv_T} (G : GH w) (hw : ∀ p, 76 ≤ p → p ≤ 85 → w1 p = w p) : GH w1 := by
  obtain ⟨x, N⟩ := G
  exact ⟨x, N.keep (fun _ _ => rfl) hw⟩
/-- the reference can send a message -/
theorem ms_ok {w : sv_T} {h : Nat} {m : MG} (hh : h ≤ 1) (G : GH w) (M : MGat w m) (K : MGok m) : ∃ w', f_M_sends (nI h) (nI m.1) w = some w' ∧ GH w' ∧ MS w w' := by
  obtain ⟨x, N⟩ := G
  obtain ⟨k1, k2, k3⟩ := K
  generalize hB : 9 + 33 * h = B
  have hB := hB.symm
  generalize hy : (fun p i => if p = B + 2 then nI 1 else if p = B + 4 then nI (1 + m.2.1) else if p = B + 3 then nI (if i = 0 then m.1 else m.2.2 (i - 1)) else x p i : sv_T) = y
  have ky : ∀ p, p ≠ B + 2 → p ≠ B + 3 → p ≠ B + 4 → y p = x p := fun p h1 h2 h3 => by
    rw [← hy]
    funext i
    dsimp only
    rw [if_neg h1, if_neg h3, if_neg h2]
  have N1 : NR y w := N.keep (fun p hp => ky p (by omega) (by omega) (by omega)) (fun _ _ _ => rfl)
  have O : OB y B [m] := by
    refine ⟨fun _ => 1 + m.2.1, fun _ i => if i = 0 then m.1 else m.2.2 (i - 1), ⟨?_, fun k hk => ⟨?_, fun i hi => ?_⟩⟩, fun k hk => ⟨show 1 + m.2.1 ≤ 49 by omega, fun i hi => ?_⟩, fun k m' hk => ?_⟩
    · rw [← hy]
      dsimp only
      rw [if_pos rfl]
      rfl
    · rw [← hy]
      dsimp only
      rw [if_neg (by omega), if_pos rfl]
    · have hk0 : k = 0 := by
        have : k < 1 := hk
        omega
      subst hk0
      rw [← hy]
      dsimp only
      rw [if_neg (by omega), if_neg (by omega), if_pos rfl, Nat.zero_mul, Nat.zero_add]
    · have hi : i < 1 + m.2.1 := hi
      show (if i = 0 then m.1 else m.2.2 (i - 1)) < 256
      by_cases z : i = 0
      · rw [if_pos z]; exact k1
      · rw [if_neg z]; exact k3 (i - 1) (by omega)
    · have hk0 : k = 0 := by
        have : k < 1 := (List.getElem?_eq_some_iff.mp hk).1
        omega
      subst hk0
      cases hk
      refine ⟨⟨k1, k2, k3⟩, rfl, rfl, fun i hi => ?_⟩
      show (if 1 + i = 0 then m.1 else m.2.2 (1 + i - 1)) = m.2.2 i
      rw [if_neg (by omega), show 1 + i - 1 = i by omega]
  obtain ⟨v', w', _, f2, f3, _, _, f6⟩ := nr_one (left := 1) hh hB N1 O (by decide) M (by omega) (by omega)
  exact ⟨w', f2, ⟨v', f3⟩, f6⟩
/-- a sum behind four bytes more -/
theorem ck_4 {f g : Nat → Nat} {a b c d : Nat} (h0 : g 0 = a) (h1 : g 1 = b) (h2 : g 2 = c) (h3 : g 3 = d) (hg : ∀ i, g (4 + i) = f i) : ∀ n, ck_s g (4 + n) = (256 * a + b + 256 * c + d) + ck_s f n
  | 0 => by
    show ck_s g 4 = _
    simp [ck_s, h0, h1, h2, h3]
  | n + 1 => by
    have ih := ck_4 h0 h1 h2 h3 hg n
    show ck_s g (4 + n) + (if (4 + n) % 2 = 0 then 256 * g (4 + n) else g (4 + n)) = _ + (ck_s f n + if n % 2 = 0 then 256 * f n else f n)
    rw [ih, hg n, show (4 + n) % 2 = n % 2 by omega]
    omega
/-- a segment's bytes without its check; its check; the whole -/
def em_f (p fl sq ak rm : Nat) (d : Nat → Nat) : Nat → Nat := fun i => match i with
  | 0 => p
  | 1 => fl
  | 2 => sq / 256 % 256
  | 3 => sq % 256
  | 4 => ak / 256 % 256
  | 5 => ak % 256
  | 6 => rm
  | 7 => 0
  | 8 => 0
  | 9 => 0
  | i + 10 => d i
def em_c (h n : Nat) (f : Nat → Nat) : Nat := 65535 - ck_r ((256 * (1 + h) + (2 - h) + 256 * 6 + (10 + n)) + ck_s f (10 + n))
def em_g (c : Nat) (f : Nat → Nat) : Nat → Nat := fun i => if i = 8 then c / 256 else if i = 9 then c % 256 else f i
def em_m (h n p fl sq ak rm : Nat) (d : Nat → Nat) : MG := (6, 10 + n, em_g (em_c h n (em_f p fl sq ak rm d)) (em_f p fl sq ak rm d))
theorem em_lt {p fl sq ak rm n : Nat} {d : Nat → Nat} (hp : p < 256) (hf : fl < 256) (hr : rm < 256) (hd : ∀ i, i < n → d i < 256) : ∀ i, i < 10 + n → em_f p fl sq ak rm d i < 256 := fun i hi => by
  match i with
  | 0 => exact hp
  | 1 => exact hf
  | 2 => show sq / 256 % 256 < 256; omega
  | 3 => show sq % 256 < 256; omega
  | 4 => show ak / 256 % 256 < 256; omega
  | 5 => show ak % 256 < 256; omega
  | 6 => exact hr
  | 7 => show 0 < 256; omega
  | 8 => show 0 < 256; omega
  | 9 => show 0 < 256; omega
  | i + 10 => exact hd i (by omega)
theorem em_ok {h p fl sq ak rm n : Nat} {d : Nat → Nat} (hn : n ≤ 32) (hp : p < 256) (hf : fl < 256) (hr : rm < 256) (hd : ∀ i, i < n → d i < 256) : MGok (em_m h n p fl sq ak rm d) := by
  refine ⟨by show 6 < 256; omega, by show 10 + n ≤ 48; omega, fun i hi => ?_⟩
  show em_g _ _ i < 256
  unfold em_g
  have hc : em_c h n (em_f p fl sq ak rm d) ≤ 65535 := by
    unfold em_c
    omega
  by_cases z8 : i = 8
  · rw [if_pos z8]; omega
  · rw [if_neg z8]
    by_cases z9 : i = 9
    · rw [if_pos z9]; omega
    · rw [if_neg z9]
      exact em_lt hp hf hr hd i hi
theorem mpt_go {w : sv_T} {i x : Nat} (hi : i + 1 < 64) (hx : x < 2 ^ 31) : f_M_put (nI i) (nI x) w = some (sv_up (sv_up w 114 i (nI (x / 256 % 256))) 114 (i + 1) (nI (x % 256))) := by
  unfold f_M_put
  dsimp only [sv_ls]
  have e1 : nI x >>> 8 = nI (x / 256) := pk_shrN hx 8 8 (by decide)
  have e2 : nI (x / 256) &&& 255 = nI (x / 256 % 256) := pk_andN (m := 255) (by omega) 8 (by decide)
  have e3 : nI x &&& 255 = nI (x % 256) := pk_andN (m := 255) (by omega) 8 (by decide)
  rw [e1, e2, e3, nI_1, ck_n (by omega) (by omega), ck_n (by omega) (by omega), nI_clamp (by omega), nI_clamp (by omega)]
theorem msr_loop {w : sv_T} {n : Nat} (hn : n ≤ 60) (h41 : w 75 41 = nI n) : sv_loop (fun (s : Int32 × sv_T) => f_M_segmentRow_l34 s.1 (s.2)) 100000 ((0 : Int32), w) = some (sv_cp w 114 0 115 4 n) := by
  have key := lp_to (f := fun (s : Int32 × sv_T) => f_M_segmentRow_l34 s.1 (s.2)) (fun k => (nI k, sv_cp w 114 0 115 4 k)) n (a := sv_cp w 114 0 115 4 n) (fun k hk => ?_) ?_ (n := 100000) (by omega)
  · rw [cp_0] at key
    exact key
  · show f_M_segmentRow_l34 (nI k) (sv_cp w 114 0 115 4 k) = _
    unfold f_M_segmentRow_l34
    dsimp only [sv_ls, sv_le]
    rw [cp_q (by decide), h41, if_lt (by omega) (by omega), if_pos hk, ck_n (by omega) (by omega), show (4 : Int32) = nI 4 from rfl, nI_add, ck_n (by omega) (by omega), nI_clamp (by omega), nI_clamp (by omega), cp_q (by decide), nI_1, up_cp rfl (by rw [Nat.zero_add])]
  · show f_M_segmentRow_l34 (nI n) (sv_cp w 114 0 115 4 n) = _
    unfold f_M_segmentRow_l34
    rw [cp_q (by decide), h41, if_lt (by omega) (by omega), if_neg (by omega)]
/-- the row of a segment's check: what the reference's check then answers -/
theorem msr_go {w : sv_T} {a b n : Nat} {f : Nat → Nat} (ha : a < 256) (hb : b < 256) (hn : n ≤ 60) (h41 : w 75 41 = nI n) (hm : ∀ i, i < n → w 114 i = nI (f i)) (hf : ∀ i, i < n → f i < 256) : ∃ w', f_M_segmentRow (nI a) (nI b) w = some w' ∧ f_M_check w' = some (nI (65535 - ck_r ((256 * a + b + 256 * 6 + n) + ck_s f n)), w') ∧ (∀ p, p ≠ 115 → p ≠ 75 → w' p = w p) ∧ ∀ i, i ≠ 43 → w' 75 i = w 75 i := by
  generalize hw1 : sv_up (sv_up (sv_up (sv_up w 115 0 (nI a)) 115 1 (nI b)) 115 2 (nI 6)) 115 3 (nI n) = w1
  have k1 : ∀ p, p ≠ 115 → w1 p = w p := fun p hp => by
    rw [← hw1]
    simp only [sv_up_off _ _ _ hp]
  have e41 : w1 75 41 = nI n := by rw [k1 75 (by decide)]; exact h41
  let g : Nat → Nat := fun i => match i with
    | 0 => a
    | 1 => b
    | 2 => 6
    | 3 => n
    | i + 4 => f i
  refine ⟨sv_up (sv_cp w1 114 0 115 4 n) 75 43 (nI (4 + n)), ?_, ?_, fun p h1 h2 => ?_, fun i hi => ?_⟩
  · unfold f_M_segmentRow
    dsimp only [sv_ls]
    rw [up_q (show 75 ≠ 115 by decide), up_q (show 75 ≠ 115 by decide), up_q (show 75 ≠ 115 by decide), h41]
    rw [show sv_up (sv_up (sv_up (sv_up w 115 0 (nI a)) 115 1 (nI b)) 115 2 6) 115 3 (nI n) = w1 from hw1, msr_loop hn e41]
    show f_M_segmentRow_x62 (sv_cp w1 114 0 115 4 n) = _
    unfold f_M_segmentRow_x62
    dsimp only [sv_ls]
    rw [cp_q (by decide), e41, show (4 : Int32) = nI 4 from rfl, nI_add]
  · have hs : ck_s g (4 + n) = (256 * a + b + 256 * 6 + n) + ck_s f n := ck_4 (g := g) (f := f) rfl rfl rfl rfl (fun i => by rw [Nat.add_comm 4 i]) n
    rw [← hs]
    refine cm_check (f := g) (n := 4 + n) (by omega) up_s (fun i hi => ?_) (fun i hi => ?_)
    · rw [up_q (by decide)]
      match i with
      | 0 => rw [cp_out (by omega), ← hw1]; simp [up_a, g]
      | 1 => rw [cp_out (by omega), ← hw1]; simp [up_a, g]
      | 2 => rw [cp_out (by omega), ← hw1]; simp [up_a, g]
      | 3 => rw [cp_out (by omega), ← hw1]; simp [up_a, g]
      | i + 4 =>
        rw [Nat.add_comm i 4, cp_in (by omega), k1 114 (by decide), Nat.zero_add, hm i (by omega), Nat.add_comm 4 i]
    · match i with
      | 0 => exact ha
      | 1 => exact hb
      | 2 => show 6 < 256; omega
      | 3 => show n < 256; omega
      | i + 4 => exact hf i (by omega)
  · rw [sv_up_off _ _ _ h2, cp_off h1, k1 p h1]
  · rw [up_i hi, cp_q (by decide), k1 75 (by decide)]
theorem msg_loop {w : sv_T} {s fr n : Nat} {x : Int32} (hs : s < 4) (hn : n ≤ 32) (hf : fr + n ≤ 64) : sv_loop (fun (t : Int32 × sv_T) => f_M_segmentGoes_l66 (nI s) (nI fr) (nI n) x t.1 (t.2)) 100000 ((0 : Int32), w) = some (sv_cp w 102 (64 * s + fr) 114 10 n) := by
  have key := lp_to (f := fun (t : Int32 × sv_T) => f_M_segmentGoes_l66 (nI s) (nI fr) (nI n) x t.1 (t.2)) (fun k => (nI k, sv_cp w 102 (64 * s + fr) 114 10 k)) n (a := sv_cp w 102 (64 * s + fr) 114 10 n) (fun k hk => ?_) ?_ (n := 100000) (by omega)
  · rw [cp_0] at key
    exact key
  · show f_M_segmentGoes_l66 (nI s) (nI fr) (nI n) x (nI k) (sv_cp w 102 (64 * s + fr) 114 10 k) = _
    unfold f_M_segmentGoes_l66
    dsimp only [sv_ls, sv_le]
    rw [if_lt (by omega) (by omega), if_pos hk, show (64 : Int32) = nI 64 from rfl, pk_mul, nI_add, nI_add, ck_n (by omega) (by omega), show (10 : Int32) = nI 10 from rfl, nI_add, ck_n (by omega) (by omega), nI_clamp (by omega), nI_clamp (by omega), cp_q (by decide), nI_1, up_cp rfl rfl]
  · show f_M_segmentGoes_l66 (nI s) (nI fr) (nI n) x (nI n) (sv_cp w 102 (64 * s + fr) 114 10 n) = _
    unfold f_M_segmentGoes_l66
    rw [if_lt (by omega) (by omega), if_neg (by omega)]
/-- the reference's places that a segment that goes may change -/
def ME (w w' : sv_T) : Prop := (∀ p, p < 75 ∨ 85 < p → p ≠ 113 → p ≠ 114 → p ≠ 115 → p ≠ 116 → w' p = w p) ∧ ∀ i, i ≠ 39 → i ≠ 41 → i ≠ 43 → w' 75 i = w 75 i
set_option maxHeartbeats 2000000 in
/-- a segment goes (the reference) -/
theorem me_go {w : sv_T} {h s fl sq ak fr n rm : Nat} {d : Nat → Nat} (hh : h ≤ 1) (hs : s = 2 * h ∨ s = 2 * h + 1) (G : GH w) (hf : fl < 256) (hsq : sq < 2 ^ 31) (hak : ak < 2 ^ 31) (hn : n ≤ 32) (hfr : fr + n ≤ 64) (hrm : rm ≤ 24) (h105 : w 105 s = nI (24 - rm)) (hd : ∀ i, i < n → w 102 (64 * s + fr + i) = nI (d i)) (hd2 : ∀ i, i < n → d i < 256) :
    ∃ w', f_M_segmentGoes (nI s) (nI fl) (nI sq) (nI ak) (nI fr) (nI n) w = some w' ∧ SQ h [em_m h n (s % 2 + 1) fl sq ak rm d] w w' ∧ GH w' ∧ ME w w' := by
  generalize hw1 : sv_up (sv_up (sv_up (sv_up (sv_up (sv_up (sv_up (sv_up (sv_up (sv_up w 114 0 (nI (s % 2 + 1))) 114 1 (nI fl)) 114 2 (nI (sq / 256 % 256))) 114 3 (nI (sq % 256))) 114 4 (nI (ak / 256 % 256))) 114 5 (nI (ak % 256))) 114 6 (nI rm)) 114 7 (nI 0)) 114 8 (nI 0)) 114 9 (nI 0) = w1
  have k1 : ∀ p, p ≠ 114 → w1 p = w p := fun p hp => by
    rw [← hw1]
    simp only [sv_up_off _ _ _ hp]
  generalize hw2 : sv_up (sv_cp w1 102 (64 * s + fr) 114 10 n) 75 41 (nI (10 + n)) = w2
  have k2 : ∀ p, p ≠ 114 → p ≠ 75 → w2 p = w p := fun p h1 h2 => by
    rw [← hw2, sv_up_off _ _ _ h2, cp_off h1, k1 p h1]
  have hm : ∀ i, i < 10 + n → w2 114 i = nI (em_f (s % 2 + 1) fl sq ak rm d i) := fun i hi => by
    rw [← hw2, up_q (by decide)]
    by_cases z : i < 10
    · rw [cp_out (by omega), ← hw1]
      rcases (show i = 0 ∨ i = 1 ∨ i = 2 ∨ i = 3 ∨ i = 4 ∨ i = 5 ∨ i = 6 ∨ i = 7 ∨ i = 8 ∨ i = 9 by omega) with rfl | rfl | rfl | rfl | rfl | rfl | rfl | rfl | rfl | rfl <;> simp [up_a, em_f]
    · obtain ⟨i', rfl⟩ : ∃ i', i = i' + 10 := ⟨i - 10, by omega⟩
      rw [Nat.add_comm i' 10, cp_in (by omega), k1 102 (by decide), hd i' (by omega), Nat.add_comm 10 i']
      rfl
  have hlt := em_lt (p := s % 2 + 1) (fl := fl) (sq := sq) (ak := ak) (rm := rm) (n := n) (d := d) (by omega) hf (by omega) hd2
  obtain ⟨w3, g1, g2, g3, g4⟩ := msr_go (a := 1 + h) (b := 2 - h) (n := 10 + n) (f := em_f (s % 2 + 1) fl sq ak rm d) (by omega) (by omega) (by omega) (by rw [← hw2, up_s]) hm hlt
  have hc : em_c h n (em_f (s % 2 + 1) fl sq ak rm d) ≤ 65535 := by
    unfold em_c
    omega
  generalize hw4 : sv_up (sv_up w3 114 8 (nI (em_c h n (em_f (s % 2 + 1) fl sq ak rm d) / 256 % 256))) 114 (8 + 1) (nI (em_c h n (em_f (s % 2 + 1) fl sq ak rm d) % 256)) = w4
  have k4 : ∀ p, p ≠ 114 → w4 p = w3 p := fun p hp => by
    rw [← hw4, sv_up_off _ _ _ hp, sv_up_off _ _ _ hp]
  have M4 : MGat w4 (em_m h n (s % 2 + 1) fl sq ak rm d) := by
    refine ⟨?_, fun i hi => ?_⟩
    · rw [k4 75 (by decide), g4 41 (by decide), ← hw2, up_s]
      rfl
    · show w4 114 i = nI (em_g _ _ i)
      unfold em_g
      rw [← hw4]
      by_cases z9 : i = 9
      · subst z9
        rw [up_s]
        rfl
      · rw [up_i z9, if_neg z9]
        by_cases z8 : i = 8
        · subst z8
          rw [up_s, if_pos rfl, show em_c h n (em_f (s % 2 + 1) fl sq ak rm d) / 256 % 256 = em_c h n (em_f (s % 2 + 1) fl sq ak rm d) / 256 by omega]
        · rw [up_i z8, if_neg z8, g3 114 (by decide) (by decide)]
          exact hm i hi
  have kl : ∀ p, 76 ≤ p → p ≤ 85 → w4 p = w p := fun p h1 h2 => by
    rw [k4 p (by omega), g3 p (by omega) (by omega), k2 p (by omega) (by omega)]
  obtain ⟨w5, f1, f2, f3⟩ := ms_ok hh (G.keep kl) M4 (em_ok hn (by omega) hf (by omega) hd2)
  refine ⟨w5, ?_, ⟨w4, w5, kl, M4, f1, fun _ _ _ => rfl⟩, f2, ⟨fun p h1 h2 h3 h4 h5 => ?_, fun i h1 h2 h3 => ?_⟩⟩
  · unfold f_M_segmentGoes f_M_room
    dsimp only [sv_ls, sv_le]
    have x1 : nI s / 2 = nI h := by
      rw [show (2 : Int32) = nI 2 from rfl, pk_div (by omega) (by omega) (by omega), show s / 2 = h by omega]
    have x2 : sv_rem (nI s) 2 + 1 = nI (s % 2 + 1) := by
      rw [show sv_rem (nI s) 2 = nI (s % 2) from pk_rem (d := 2) (by omega) (by omega) (by omega), nI_1]
    rw [x1, x2, show (2 : Int32) = nI 2 from rfl, mpt_go (by omega) hsq]
    dsimp only [sv_bv, Option.bind]
    rw [show (4 : Int32) = nI 4 from rfl, mpt_go (by omega) hak]
    dsimp only [Option.bind]
    rw [ck_n (by omega) (by omega), nI_clamp (n := s) (by omega)]
    dsimp only [sv_bi, Option.bind]
    simp only [up_q (show 105 ≠ 114 by decide)]
    rw [h105, show (24 : Int32) = nI 24 from rfl, pk_sub (by omega), show 24 - (24 - rm) = rm by omega, show (8 : Int32) = nI 8 from rfl, show (0 : Int32) = nI 0 from rfl, mpt_go (by omega) (by omega)]
    dsimp only [Option.bind]
    rw [show sv_up (sv_up (sv_up (sv_up (sv_up (sv_up (sv_up (sv_up (sv_up (sv_up w 114 0 (nI (s % 2 + 1))) 114 1 (nI fl)) 114 2 (nI (sq / 256 % 256))) 114 (2 + 1) (nI (sq % 256))) 114 4 (nI (ak / 256 % 256))) 114 (4 + 1) (nI (ak % 256))) 114 6 (nI rm)) 114 7 (nI 0)) 114 8 (nI (0 / 256 % 256))) 114 (8 + 1) (nI (0 % 256)) = w1 from hw1]
    rw [show (nI 0, w1) = ((0 : Int32), w1) from rfl, msg_loop (by omega) hn hfr]
    show f_M_segmentGoes_x104 (nI n) (nI h) (sv_cp w1 102 (64 * s + fr) 114 10 n) = _
    unfold f_M_segmentGoes_x104
    dsimp only [sv_ls]
    rw [show (10 : Int32) = nI 10 from rfl, nI_add, hw2, show (1 : Int32) = nI 1 from rfl, nI_add, show (2 : Int32) = nI 2 from rfl, pk_sub (by omega), g1]
    dsimp only [sv_bv, Option.bind]
    rw [g2]
    dsimp only [sv_bi, Option.bind]
    rw [show (8 : Int32) = nI 8 from rfl, mpt_go (x := 65535 - ck_r (256 * (1 + h) + (2 - h) + 256 * 6 + (10 + n) + ck_s (em_f (s % 2 + 1) fl sq ak rm d) (10 + n))) (by omega) (by omega)]
    dsimp only [Option.bind]
    rw [show sv_up (sv_up w3 114 8 (nI ((65535 - ck_r (256 * (1 + h) + (2 - h) + 256 * 6 + (10 + n) + ck_s (em_f (s % 2 + 1) fl sq ak rm d) (10 + n))) / 256 % 256))) 114 (8 + 1) (nI ((65535 - ck_r (256 * (1 + h) + (2 - h) + 256 * 6 + (10 + n) + ck_s (em_f (s % 2 + 1) fl sq ak rm d) (10 + n))) % 256)) = w4 from hw4]
    rw [show f_M_sends (nI h) 6 w4 = some w5 from f1]
  · rw [f3.1 p h1 h2 h4 h5, k4 p h3, g3 p h4 (by omega), k2 p h3 (by omega)]
  · rw [f3.2 i h1 h3, k4 75 (by decide), g4 i h3, ← hw2, up_i h2, cp_q (by decide), k1 75 (by decide)]
