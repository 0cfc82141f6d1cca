theorem AR.pre {h : Nat} {w0 v w v1 w1 : sv_T} {ms : List MG} {X : Option (Int32 × sv_T)} {Y : Option sv_T} (H : AR h w0 ms v1 w1 X Y) (L : LO v v1) (O : HO w w1) : AR h w0 ms v w X Y := by
  obtain ⟨v', w', a, b, c, d⟩ := H
  exact ⟨v', w', a, L.tr b, O.tr c, d⟩
theorem AR.bi {h : Nat} {w0 v w : sv_T} {ms : List MG} {X : Option (Int32 × sv_T)} {Y : Option sv_T} (H : AR h w0 ms v w X Y) : AR h w0 ms v w (sv_bi X fun x9 v8 => if x9 = 0 then some ((0 : Int32), v8) else some ((1 : Int32), v8)) Y := by
  obtain ⟨v', w', a, b, c, d⟩ := H
  refine ⟨v', w', a, b, c, ?_⟩
  rcases d with ⟨d1, d2⟩ | ⟨d1, d2⟩
  · left
    rw [d1]
    exact ⟨rfl, d2⟩
  · right
    rw [d1]
    exact ⟨rfl, d2⟩
theorem AR.no {h : Nat} {w0 v w v1 w1 : sv_T} {ms : List MG} (H : HI h w0 ms v1 w1) (L : LO v v1) (O : HO w w1) : AR h w0 ms v w (some (0, v1)) (some w1) := ⟨v1, w1, H, L, O, Or.inl ⟨rfl, rfl⟩⟩
set_option maxHeartbeats 1000000 in
/-- a packet with a right head -/
theorem tp_go {h B n : Nat} {w0 v w : sv_T} {ms : List MG} {p : Nat → Nat} (hh : h ≤ 1) (hB : B = 9 + 33 * h) (H : HI h w0 ms v w) (hn : 11 ≤ n) (hn2 : n ≤ 34) (hp : ∀ i, i < n → p i < 256) (hv : ∀ i, i < n → v (B + 31) i = nI (p i)) (hw : ∀ i, i < n → w 116 i = nI (p i)) : AR h w0 ms v w (f_Pieces_takePacket (B + 10) (B + 31) (nI n) v) (if (w 116 2) = 0 then sv_ls (sv_up w 75 41 (nI n - (10 : Int32))) fun v8 => Option.bind (sv_loop (fun (s : Int32 × sv_T) => f_M_came_l114 (nI h) s.1 (s.2)) 100000 ((0 : Int32), v8)) (fun (s : sv_T) => f_M_came_x143 (nI h) s) else sv_bv (f_M_piece (nI h) (nI n - (10 : Int32)) w) fun v7 => some v7) := by
  have l15 := (sh_H hh hB).2.2.2.2.2.2.2.2.2.2.2.2.2.2.1
  have p2 := hp 2 (by omega)
  have e10 : nI n - (10 : Int32) = nI (n - 10) := pk_sub (b := 10) (by omega)
  have e127 : nI (p 2) &&& 127 = nI (p 2 % 128) := pk_andN (m := 127) (by omega) 7 (by decide)
  have eoff : nI (p 2 % 128) * (4 : Int32) = nI (p 2 % 128 * 4) := pk_mul _ 4
  have H2 : ¬ p 2 = 0 → AR h w0 ms v w (f_Pieces_takePacket_b55 (B + 10) (B + 31) (nI (p 2 % 128 * 4)) (nI (if p 2 < 128 then 0 else 1)) (nI (n - 10)) v) (f_M_piece (nI h) (nI (n - 10)) w) := fun _ => pc_go (k := 0) hh hB H hn hn2 hp hv hw rfl rfl
  unfold f_Pieces_takePacket f_Pieces_takePacket_b24
  rw [l15, show (2 : Int32) = nI 2 from rfl]
  simp only [sv_le, ck_n (show 2 < 34 by omega) (show 34 < 2 ^ 31 by omega), nI_clamp (show 2 < 2 ^ 31 by omega), hv 2 (by omega), hw 2 (by omega), e127, eoff, e10]
  rw [if_eq0 (a := p 2) (by omega)]
  by_cases z : p 2 = 0
  · rw [if_pos z, if_pos ((and128 p2).mpr (by omega)), if_pos (show nI (p 2 % 128 * 4) = 0 by rw [z]; rfl), if_pos trivial, show (4 : Int32) = nI 4 from rfl, ck_n (by omega) (by omega), nI_clamp (n := 4) (by omega), hv 4 (by omega), show (10 : Int32) = nI 10 from rfl, km_go hh hB (by omega) (by omega) (by omega)]
    simp only [sv_ls, sv_bv, Option.bind_some]
    rw [cm_l114 (by omega) up_s]
    simp only [Option.bind_some]
    unfold f_M_came_x143
    generalize hw6 : sv_cp (sv_up w 75 41 (nI (n - 10))) 116 10 114 0 (n - 10) = w6
    generalize hv6 : sv_up (sv_up (sv_cp v (B + 31) 10 (B + 1) 0 (n - 10)) (B + 10) 3 (nI (n - 10))) (B + 10) 4 (nI (p 4)) = v6
    have kv : ∀ x, x ≠ B + 1 → x ≠ B + 10 → v6 x = v x := fun x h1 h2 => by
      rw [← hv6, sv_up_off _ _ _ h2, sv_up_off _ _ _ h2, cp_off h1]
    have kw : ∀ x, x ≠ 114 → x ≠ 75 → w6 x = w x := fun x h1 h2 => by
      rw [← hw6, cp_off h1, sv_up_off _ _ _ h2]
    have M6 : ME w w6 := ⟨fun x h1 h2 h3 h4 h5 => kw x h3 (by omega), fun i h1 h2 h3 => by rw [← hw6, cp_q (by decide), up_i h2]⟩
    refine ⟨v6, w6, H.keep hh (fun x h1 h2 h3 h4 h5 h6 => kv x (by omega) (by omega)) M6 (fun x h1 h2 => kw x (by omega) (by omega)), fun x hx => kv x (by omega) (by omega), M6.ho, Or.inr ⟨rfl, nI (p 4), ?_, n - 10, fun i => p (10 + i), by omega, ?_, ?_, ?_, fun i hi => ⟨?_, ?_, hp _ (by omega)⟩⟩⟩
    · rw [kw 116 (by decide) (by decide), hw 4 (by omega)]
      exact bv_id
    · rw [← hB, ← hv6, up_i (by decide), up_s]
    · rw [← hB, ← hv6, up_s]
    · rw [← hw6, cp_q (by decide), up_s]
    · have e := cp_in (v := v) (q := B + 31) (sp := 10) (q1 := B + 1) (dp := 0) (n := n - 10) (i := i) hi
      rw [Nat.zero_add] at e
      rw [← hB, ← hv6, up_q (by omega), up_q (by omega), e]
      exact hv _ (by omega)
    · have e := cp_in (v := sv_up w 75 41 (nI (n - 10))) (q := 116) (sp := 10) (q1 := 114) (dp := 0) (n := n - 10) (i := i) hi
      rw [Nat.zero_add] at e
      rw [← hw6, e, up_q (by decide)]
      exact hw _ (by omega)
  · rw [if_neg z, show (sv_bv (f_M_piece (nI h) (nI (n - 10)) w) fun v7 => some v7) = f_M_piece (nI h) (nI (n - 10)) w from bv_id]
    have A := H2 z
    by_cases y : p 2 < 128
    · rw [if_pos ((and128 p2).mpr y), if_neg (show ¬ nI (p 2 % 128 * 4) = 0 from fun t => by
        have := (nI_eq (a := p 2 % 128 * 4) (b := 0) (by omega) (by omega)).mp t
        omega)]
      rw [if_pos y] at A
      exact A
    · rw [if_neg (fun t => y ((and128 p2).mp t)), if_neg (show ¬ (1 : Int32) = 0 by decide)]
      rw [if_neg y] at A
      have e : (if nI (p 2 % 128 * 4) = 0 then f_Pieces_takePacket_b55 (B + 10) (B + 31) (nI (p 2 % 128 * 4)) 1 (nI (n - 10)) v else f_Pieces_takePacket_b55 (B + 10) (B + 31) (nI (p 2 % 128 * 4)) 1 (nI (n - 10)) v) = f_Pieces_takePacket_b55 (B + 10) (B + 31) (nI (p 2 % 128 * 4)) (nI 1) (nI (n - 10)) v := by
        split
        · rfl
        · rfl
      rw [e]
      exact A
theorem cm_l52 {w : sv_T} {n : Nat} {x : Int32} (hn : n ≤ 34) : sv_loop (fun (t : Int32 × sv_T) => f_M_came_l52 x (nI n) t.1 (t.2)) 100000 ((0 : Int32), w) = some (sv_cp w 113 3 116 0 n) := by
  have key := lp_to (f := fun (t : Int32 × sv_T) => f_M_came_l52 x (nI n) t.1 (t.2)) (fun k => (nI k, sv_cp w 113 3 116 0 k)) n (a := sv_cp w 113 3 116 0 n) (fun k hk => ?_) ?_ (n := 100000) (by omega)
  · rw [cp_0] at key
    exact key
  · show f_M_came_l52 x (nI n) (nI k) (sv_cp w 113 3 116 0 k) = _
    unfold f_M_came_l52
    rw [if_lt (by omega) (by omega), if_pos hk, show (3 : Int32) + nI k = nI (3 + k) from nI_add 3 k, ck_n (by omega) (by omega), ck_n (by omega) (by omega), nI_clamp (by omega), nI_clamp (by omega)]
    simp only [sv_ls, sv_le]
    have e := up_cp (v := w) (w := sv_cp w 113 3 116 0 k) (q := 113) (sp := 3) (q1 := 116) (dp := 0) (n := k) (x := sv_cp w 113 3 116 0 k 113 (3 + k)) rfl (cp_q (by decide))
    rw [Nat.zero_add] at e
    rw [e, nI_1]
  · show f_M_came_l52 x (nI n) (nI n) (sv_cp w 113 3 116 0 n) = _
    unfold f_M_came_l52
    rw [if_lt (by omega) (by omega), if_neg (by omega)]
set_option maxHeartbeats 1000000 in
/-- a frame that carries a packet -/
theorem hp_go {h B n : Nat} {w0 v w : sv_T} {ms : List MG} {f : Nat → Nat} (hh : h ≤ 1) (hB : B = 9 + 33 * h) (H : HI h w0 ms v w) (hn2 : n ≤ 34) (hf : ∀ i, i < 3 + n → f i < 256) (h39 : w 75 39 = nI (3 + n)) (hv : ∀ i, i < 3 + n → v (B + 30) i = nI (f i)) (hw : ∀ i, i < 3 + n → w 113 i = nI (f i)) : AR h w0 ms v w (f_Host_takePacket B (nI n) v) (f_M_came (nI h) w) := by
  obtain ⟨s1, s2, s3, s4, s5, s6, s7, s8, s9, s10, s11, s12, s13, s14, s15, s16⟩ := sh_H hh hB
  have e3 : nI (3 + n) - (3 : Int32) = nI n := by
    rw [show (3 : Int32) = nI 3 from rfl, pk_sub (by omega), Nat.add_sub_cancel_left]
  unfold f_Host_takePacket f_M_came
  rw [h39, e3, sv_le, show (10 : Int32) = nI 10 from rfl, if_le (by omega) (by omega), show (11 : Int32) = nI 11 from rfl, if_lt (by omega) (by omega)]
  by_cases z : n ≤ 10
  · rw [if_pos z, if_pos (by omega)]
    exact AR.no H LO.rf HO.rf
  rw [if_neg z, if_neg (by omega), s9, s10, show (3 : Int32) = nI 3 from rfl, show (0 : Int32) = nI 0 from rfl, cc_n (by omega) (by omega) (by omega) (by omega), nI_clamp (n := 3) (by omega), nI_clamp (n := 0) (by omega), nI_clamp (n := n) (by omega)]
  simp only [sv_ls]
  generalize hv1 : sv_cp v (B + 30) 3 (B + 31) 0 n = v1
  have kv1 : ∀ x, x ≠ B + 31 → v1 x = v x := fun x hx => by rw [← hv1, cp_off hx]
  have bv1 : ∀ i, i < n → v1 (B + 31) i = nI (f (3 + i)) := fun i hi => by
    have e := cp_in (v := v) (q := B + 30) (sp := 3) (q1 := B + 31) (dp := 0) (n := n) (i := i) hi
    rw [Nat.zero_add] at e
    rw [← hv1, e]
    exact hv _ (by omega)
  have H1 : HI h w0 ms v1 w := H.keep hh (fun x h1 h2 h3 h4 h5 h6 => kv1 x (by omega)) ⟨fun _ _ _ _ _ _ => rfl, fun _ _ _ _ => rfl⟩ (fun _ _ _ => rfl)
  have L1 : LO v v1 := fun x hx => kv1 x (by omega)
  rw [bv1 0 (by omega), hw 3 (by omega), hw 11 (by omega), hw 12 (by omega), Nat.add_zero, if_eq (by have := hf 3 (by omega); omega) (by omega), if_eq (by have := hf 3 (by omega); omega) (by omega)]
  by_cases z0 : f 3 = n
  · rw [if_pos z0, if_pos z0]
    have hck := cc_check (st := 0) (a := B + 31) (from0 := 0) (n := 10) (v := v1) (f := fun i => f (3 + i)) (by omega) (by omega) (by omega) (fun i hi => by rw [Nat.zero_add]; exact bv1 i (by omega)) (fun i hi => hf _ (by omega))
    rw [Nat.zero_add] at hck
    have hC : 65535 - ck_r (ck_s (fun i => f (3 + i)) 10) < 2 ^ 31 := by omega
    generalize hCe : 65535 - ck_r (ck_s (fun i => f (3 + i)) 10) = C at hck hC
    rw [hck]
    have f11 := hf 11 (by omega)
    have f12 := hf 12 (by omega)
    have ad : (1 : Int32) + ((1 : Int32) - nI h) = nI (2 - h) := by
      rw [show (1 : Int32) = nI 1 from rfl, pk_sub hh, nI_add, show 1 + (1 - h) = 2 - h by omega]
    have ad2 : (1 : Int32) + nI h = nI (1 + h) := nI_add 1 h
    have ad3 : (2 : Int32) - nI h = nI (2 - h) := pk_sub (show h ≤ 2 by omega)
    unfold f_Link_addressOf
    simp only [sv_bi, Option.bind_some]
    rw [s1, ad, ad2, ad3, bv1 8 (by omega), bv1 9 (by omega), show 3 + 8 = 11 from rfl, show 3 + 9 = 12 from rfl, show nI 0 = (0 : Int32) from rfl, if_eq0 (by omega), if_eq (a := f 11) (by omega) (by omega), if_eq (a := f 11) (by omega) (by omega), if_eq (a := f 12) (by omega) (by omega), if_eq (a := f 12) (by omega) (by omega)]
    by_cases z8 : f 11 = 2 - h
    · rw [if_pos z8, if_pos z8]
      by_cases z9 : f 12 = 1 + h
      · rw [if_pos z9, if_pos z9, cm_l52 hn2]
        simp only [Option.bind_some]
        generalize hw1 : sv_cp w 113 3 116 0 n = w1
        have kw1 : ∀ x, x ≠ 116 → w1 x = w x := fun x hx => by rw [← hw1, cp_off hx]
        have bw1 : ∀ i, i < n → w1 116 i = nI (f (3 + i)) := fun i hi => by
          have e := cp_in (v := w) (q := 113) (sp := 3) (q1 := 116) (dp := 0) (n := n) (i := i) hi
          rw [Nat.zero_add] at e
          rw [← hw1, e]
          exact hw _ (by omega)
        unfold f_M_came_x77
        rw [show (10 : Int32) = nI 10 from rfl, mc_go (a := 116) (by omega) (by show 10 ≤ 40; omega) (by decide) (by decide)]
        simp only [sv_bv, Option.bind_some]
        generalize hw2 : sv_up (sv_cp w1 116 0 115 0 10) 75 43 (nI 10) = w2
        have kw2 : ∀ x, x ≠ 115 → x ≠ 75 → w2 x = w1 x := fun x h1 h2 => by rw [← hw2, sv_up_off _ _ _ h2, cp_off h1]
        have kw2b : ∀ i, i ≠ 43 → w2 75 i = w 75 i := fun i hi => by rw [← hw2, up_i hi, cp_q (by decide), kw1 75 (by decide)]
        have hmk := cm_check (w := w2) (n := 10) (f := fun i => f (3 + i)) (by omega) (by rw [← hw2, up_s]) (fun i hi => by
          have e := cp_in (v := w1) (q := 116) (sp := 0) (q1 := 115) (dp := 0) (n := 10) (i := i) hi
          rw [Nat.zero_add] at e
          rw [← hw2, up_q (by decide), e]
          exact bw1 i (by omega)) (fun i hi => hf _ (by omega))
        rw [hCe] at hmk
        rw [hmk]
        simp only [sv_bi, Option.bind_some]
        rw [if_eq0 (by omega)]
        have M2 : ME w w2 := ⟨fun x h1 h2 h3 h4 h5 => by rw [kw2 x h4 (by omega), kw1 x h5], fun i h1 h2 h3 => kw2b i h3⟩
        have H2 : HI h w0 ms v1 w2 := H1.keep hh (fun _ _ _ _ _ _ _ => rfl) M2 (fun x h1 h2 => by rw [kw2 x (by omega) (by omega), kw1 x (by omega)])
        by_cases zc : C = 0
        · rw [if_pos zc, if_pos zc, s3]
          have T := tp_go (p := fun i => f (3 + i)) hh hB H2 (by omega) hn2 (fun i hi => hf _ (by omega)) bv1 (fun i hi => by rw [kw2 116 (by decide) (by decide)]; exact bw1 i hi)
          exact (T.bi).pre L1 M2.ho
        · rw [if_neg zc, if_neg zc]
          exact AR.no H2 L1 M2.ho
      · rw [if_neg z9, if_neg z9]
        by_cases zc : C = 0
        · rw [if_pos zc]
          exact AR.no H1 L1 HO.rf
        · rw [if_neg zc]
          exact AR.no H1 L1 HO.rf
    · rw [if_neg z8, if_neg z8]
      by_cases zc : C = 0
      · rw [if_pos zc]
        exact AR.no H1 L1 HO.rf
      · rw [if_neg zc]
        exact AR.no H1 L1 HO.rf
  · rw [if_neg z0, if_neg z0]
    exact AR.no H1 L1 HO.rf
