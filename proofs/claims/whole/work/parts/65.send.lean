theorem NR.keep {v v1 w w1 : sv_T} (N : NR v w) (hv : ∀ p, p ≤ 9 ∨ p = 42 ∨ (14 ≤ p ∧ p ≤ 17) ∨ (47 ≤ p ∧ p ≤ 50) → v1 p = v p) (hw : ∀ p, 76 ≤ p → p ≤ 85 → w1 p = w p) : NR v1 w1 := by
  refine ⟨N.1.frame (hv _ (by omega)) (hv _ (by omega)) (hv _ (by omega)) (hw _ (by omega) (by omega)) (hw _ (by omega) (by omega)) (hw _ (by omega) (by omega)), N.2.1.frame (hv _ (by omega)) (hv _ (by omega)) (hv _ (by omega)) (hw _ (by omega) (by omega)) (hw _ (by omega) (by omega)) (hw _ (by omega) (by omega)), fun h hh => ?_⟩
  obtain ⟨n1, n2, n3, n4, n5⟩ := N.2.2 h hh
  refine ⟨n1.frame (hv _ (by omega)) (hv _ (by omega)) (hv _ (by omega)) (hw _ (by omega) (by omega)) (hw _ (by omega) (by omega)) (hw _ (by omega) (by omega)), ?_, ?_, ?_, ?_⟩
  · rw [hv _ (by omega), hw _ (by omega) (by omega)]; exact n2
  · rw [hv _ (by omega), hw _ (by omega) (by omega)]; exact n3
  · rw [hv _ (by omega), hw _ (by omega) (by omega)]; exact n4
  · rw [hv _ (by omega), hw _ (by omega) (by omega)]; exact n5
def ask_r (h to kind : Nat) : Nat → Nat := fun i => match i with
  | 0 => to
  | 1 => 16 + h
  | 2 => 6
  | 3 => kind
  | 4 => 16 + h
  | 5 => 1 + h
  | _ => 2 - h
/-- a question or an answer goes -/
theorem nr_ask {v w : sv_T} {h B to kind : Nat} (hh : h ≤ 1) (hB : B = 9 + 33 * h) (N : NR v w) (ht : to < 256) (hk : kind < 256) : ∃ v' w', f_Link_sendAsk (B + 5) (nI kind) (nI to) v = some v' ∧ f_M_asks (nI h) (nI to) (nI kind) w = some w' ∧ NR v' w' ∧ CF h v v' ∧ MS w w' ∧ (v' (B + 5) = v (B + 5)) ∧ v' (B + 6) = v (B + 6) ∧ v' (B + 7) = v (B + 7) ∧ v' (B + 8) = v (B + 8) ∧ (∀ p, 79 ≤ p → p ≤ 85 → w' p = w p) ∧ w' 116 = w 116 := by
  obtain ⟨s1, s2, s3, s4, s5, s6, s7⟩ := sh_L (h := h) hh hB rfl
  have e1 : (1 : Int32) + nI h = nI (1 + h) := nI_add 1 h
  have e2 : (1 : Int32) + ((1 : Int32) - nI h) = nI (2 - h) := by
    rw [show (1 : Int32) = nI 1 from rfl, pk_sub hh, nI_add, show 1 + (1 - h) = 2 - h by omega]
  have e3 : (16 : Int32) + nI h = nI (16 + h) := nI_add 16 h
  have e4 : (2 : Int32) - nI h = nI (2 - h) := pk_sub (show h ≤ 2 by omega)
  generalize hv1 : sv_up (sv_up (sv_up (sv_up v (B + 9) 3 (nI kind)) (B + 9) 4 (nI (16 + h))) (B + 9) 5 (nI (1 + h))) (B + 9) 6 (nI (2 - h)) = v1
  generalize hw1 : sv_up (sv_up (sv_up (sv_up (sv_up (sv_up (sv_up (sv_up w 113 0 (nI to)) 113 1 (nI (16 + h))) 113 2 (nI 6)) 113 3 (nI kind)) 113 4 (nI (16 + h))) 113 5 (nI (1 + h))) 113 6 (nI (2 - h))) 75 39 (nI 7) = w1
  have kv : ∀ p, p ≠ B + 9 → v1 p = v p := fun p hp => by
    rw [← hv1, sv_up_off _ _ _ hp, sv_up_off _ _ _ hp, sv_up_off _ _ _ hp, sv_up_off _ _ _ hp]
  have kw : ∀ p, p ≠ 113 → p ≠ 75 → w1 p = w p := fun p hp hq => by
    rw [← hw1, sv_up_off _ _ _ hq, sv_up_off _ _ _ hp, sv_up_off _ _ _ hp, sv_up_off _ _ _ hp, sv_up_off _ _ _ hp, sv_up_off _ _ _ hp, sv_up_off _ _ _ hp, sv_up_off _ _ _ hp]
  have N1 : NR v1 w1 := N.keep (fun p hp => kv p (by omega)) (fun p h1 h2 => kw p (by omega) (by omega))
  have hr : ∀ i, i < 7 → ask_r h to kind i < 256 := fun i hi => by
    rcases (show i = 0 ∨ i = 1 ∨ i = 2 ∨ i = 3 ∨ i = 4 ∨ i = 5 ∨ i = 6 by omega) with rfl | rfl | rfl | rfl | rfl | rfl | rfl <;> simp only [ask_r] <;> omega
  obtain ⟨v', w', f1, f2, f3, f4, f5, f6, f7, f8, f9, f10⟩ := nr_frame (r := ask_r h to kind) (to := to) (ty := 6) (n := 7) hh hB N1 (by omega) (by omega) (by rw [← hw1, up_s]) (fun i hi => by
    rw [← hw1]
    rcases (show i = 0 ∨ i = 1 ∨ i = 2 ∨ i = 3 ∨ i = 4 ∨ i = 5 ∨ i = 6 by omega) with rfl | rfl | rfl | rfl | rfl | rfl | rfl <;> simp [up_a, ask_r]) rfl rfl rfl (fun i h1 h2 => by
    rw [← hv1]
    rcases (show i = 3 ∨ i = 4 ∨ i = 5 ∨ i = 6 by omega) with rfl | rfl | rfl | rfl <;> simp [up_a, ask_r]) hr
  refine ⟨v', w', ?_, ?_, f3, fun p h1 h2 => (f4 p h1 h2).trans (kv p (by omega)), ⟨fun p h1 h2 h3 h4 => (f5.1 p h1 h2 h3 h4).trans (kw p h2 (by omega)), fun i h1 h2 => ?_⟩, f6.trans (kv _ (by omega)), f7.trans (kv _ (by omega)), f8.trans (kv _ (by omega)), f9.trans (kv _ (by omega)), fun p h1 h2 => (f10 p (by omega) (by omega) (by omega)).trans (kw p (by omega) (by omega)), (f10 116 (by omega) (by omega) (by omega)).trans (kw 116 (by omega) (by omega))⟩
  · unfold f_Link_sendAsk f_Link_addressOf
    dsimp only [sv_ls, sv_bi, Option.bind]
    rw [s1, s4, e1, e2, e3, hv1]
    show sv_bv (f_Link_sendFrame (B + 5) (nI to) (nI 6) (nI 7) v1) _ = _
    rw [f1]
    rfl
  · unfold f_M_asks
    dsimp only [sv_ls]
    rw [e1, e3, e4]
    show sv_bv (f_M_fly (nI h) (sv_up (sv_up (sv_up (sv_up (sv_up (sv_up (sv_up (sv_up w 113 0 (nI to)) 113 1 (nI (16 + h))) 113 2 (nI 6)) 113 3 (nI kind)) 113 4 (nI (16 + h))) 113 5 (nI (1 + h))) 113 6 (nI (2 - h))) 75 39 (nI 7))) _ = _
    rw [hw1, f2]
    rfl
  · rw [f5.2 i h1 h2, ← hw1, up_i h1]
    simp [up_a]
/-- the packet p (n bytes) behind its head -/
def pk_r (h st : Nat) (p : Nat → Nat) : Nat → Nat := fun i => match i with
  | 0 => st
  | 1 => 16 + h
  | 2 => 8
  | i + 3 => p i
theorem mg_loop {w : sv_T} {h n : Nat} (hn : n ≤ 37) : sv_loop (fun (s : Int32 × sv_T) => f_M_goes_l39 (nI h) (nI n) s.1 (s.2)) 100000 ((0 : Int32), w) = some (sv_cp w 116 0 113 3 n) := by
  have key := lp_to (f := fun (s : Int32 × sv_T) => f_M_goes_l39 (nI h) (nI n) s.1 (s.2)) (fun k => (nI k, sv_cp w 116 0 113 3 k)) n (a := sv_cp w 116 0 113 3 n) (fun k hk => ?_) ?_ (n := 100000) (by omega)
  · rw [cp_0] at key
    exact key
  · show f_M_goes_l39 (nI h) (nI n) (nI k) (sv_cp w 116 0 113 3 k) = _
    unfold f_M_goes_l39
    dsimp only [sv_ls, sv_le]
    rw [if_lt (by omega) (by omega), if_pos hk, ck_n (by omega) (by omega), show (3 : Int32) = nI 3 from rfl, nI_add, ck_n (by omega) (by omega), nI_clamp (by omega), nI_clamp (by omega), cp_q (by decide), nI_1, up_cp rfl (by rw [Nat.zero_add])]
  · show f_M_goes_l39 (nI h) (nI n) (nI n) (sv_cp w 116 0 113 3 n) = _
    unfold f_M_goes_l39
    rw [if_lt (by omega) (by omega), if_neg (by omega)]
/-- a packet goes: the class has it in its frame behind the head, the reference in 'packet' -/
theorem nr_goes {v w : sv_T} {h B n st : Nat} {p : Nat → Nat} (hh : h ≤ 1) (hB : B = 9 + 33 * h) (N : NR v w) (hst : w 84 h = nI st) (hst2 : st < 256) (hn : n ≤ 34) (hp0 : w 116 0 = nI n) (hw : ∀ i, i < n → w 116 i = nI (p i)) (hv : ∀ i, i < n → v (B + 9) (3 + i) = nI (p i)) (hp : ∀ i, i < n → p i < 256) :
    ∃ v' w', f_Link_sendFrame (B + 5) (nI st) (nI 8) (nI (3 + n)) v = some v' ∧ f_M_goes (nI h) w = some w' ∧ NR v' w' ∧ CF h v v' ∧ MS w w' ∧ v' (B + 5) = v (B + 5) ∧ v' (B + 6) = v (B + 6) ∧ v' (B + 7) = v (B + 7) ∧ v' (B + 8) = v (B + 8) ∧ (∀ q, 79 ≤ q → q ≤ 85 → w' q = w q) ∧ w' 116 = w 116 := by
  have e3 : (16 : Int32) + nI h = nI (16 + h) := nI_add 16 h
  generalize hw1 : sv_up (sv_cp (sv_up (sv_up (sv_up w 113 0 (nI st)) 113 1 (nI (16 + h))) 113 2 (nI 8)) 116 0 113 3 n) 75 39 (nI (3 + n)) = w1
  have kw : ∀ q, q ≠ 113 → q ≠ 75 → w1 q = w q := fun q h1 h2 => by
    rw [← hw1, sv_up_off _ _ _ h2, cp_off h1, sv_up_off _ _ _ h1, sv_up_off _ _ _ h1, sv_up_off _ _ _ h1]
  have N1 : NR v w1 := N.keep (fun _ _ => rfl) (fun q h1 h2 => kw q (by omega) (by omega))
  have hfr : ∀ i, i < 3 + n → w1 113 i = nI (pk_r h st p i) := fun i hi => by
    rw [← hw1, up_q (by decide)]
    match i with
    | 0 => rw [cp_out (by omega)]; simp [up_a, pk_r]
    | 1 => rw [cp_out (by omega)]; simp [up_a, pk_r]
    | 2 => rw [cp_out (by omega)]; simp [up_a, pk_r]
    | i + 3 =>
      rw [Nat.add_comm i 3, cp_in (by omega), up_q (by decide), up_q (by decide), up_q (by decide), Nat.zero_add, hw i (by omega), Nat.add_comm 3 i]
      rfl
  obtain ⟨v', w', f1, f2, f3, f4, f5, f6, f7, f8, f9, f10⟩ := nr_frame (r := pk_r h st p) (to := st) (ty := 8) (n := 3 + n) hh hB N1 (by omega) (by omega) (by rw [← hw1, up_s]) hfr rfl rfl rfl (fun i h1 h2 => by
    obtain ⟨i', rfl⟩ : ∃ i', i = 3 + i' := ⟨i - 3, by omega⟩
    rw [hv i' (by omega), Nat.add_comm 3 i']
    rfl) (fun i hi => by
    match i with
    | 0 => exact hst2
    | 1 => show 16 + h < 256; omega
    | 2 => show 8 < 256; omega
    | i + 3 => exact hp i (by omega))
  refine ⟨v', w', f1, ?_, f3, f4, ⟨fun q h1 h2 h3 h4 => (f5.1 q h1 h2 h3 h4).trans (kw q h2 (by omega)), fun i h1 h2 => ?_⟩, f6, f7, f8, f9, fun q h1 h2 => (f10 q (by omega) (by omega) (by omega)).trans (kw q (by omega) (by omega)), (f10 116 (by omega) (by omega) (by omega)).trans (kw 116 (by omega) (by omega))⟩
  · unfold f_M_goes
    dsimp only [sv_ls, sv_le]
    rw [hp0, ck_n (by omega) (by omega), nI_clamp (by omega), hst, e3, mg_loop (by omega)]
    show f_M_goes_x64 (nI h) (nI n) (sv_cp (sv_up (sv_up (sv_up w 113 0 (nI st)) 113 1 (nI (16 + h))) 113 2 (nI 8)) 116 0 113 3 n) = _
    unfold f_M_goes_x64
    dsimp only [sv_ls, sv_le]
    rw [show (3 : Int32) = nI 3 from rfl, nI_add, hw1, f2]
    rfl
  · rw [f5.2 i h1 h2, ← hw1, up_i h1, cp_q (by decide)]
    simp [up_a]
