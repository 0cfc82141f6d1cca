theorem CF.cs {h : Nat} {v v' : sv_T} (hh : h ≤ 1) (H : CF h v v') : CS h v v' := ⟨fun p a b c d e => H p a (by omega), fun i _ => congrFun (H _ (by omega) (by omega)) i⟩
theorem MS.me {w w' : sv_T} (H : MS w w') : ME w w' := ⟨fun p a b c d e => H.1 p a b d e, fun i a _ c => H.2 i a c⟩
/-- a change of the net alone, at rest -/
theorem RI.net {h : Nat} {v w v' w' : sv_T} (hh : h ≤ 1) (R : RI v w) (N : NR v' w') (C : CF h v v') (M : MS w w') : RI v' w' := by
  have d : h = 0 ∨ h = 1 := by omega
  refine ⟨N, (R.2.1.cs hh (C.cs hh)).me M.me, fun h' hh' => ?_⟩
  have d' : h' = 0 ∨ h' = 1 := by omega
  exact (R.2.2 h' hh').same (C _ (by omega) (by omega)) (C _ (by omega) (by omega)) (C _ (by omega) (by omega))
theorem RI.keep2 {h : Nat} {v w v1 w1 : sv_T} (hh : h ≤ 1) (R : RI v w) (hv : ∀ p, p ≠ 9 + 33 * h + 30 → v1 p = v p) (M : ME w w1) (hM : ∀ p, 76 ≤ p → p ≤ 85 → w1 p = w p) : RI v1 w1 :=
  ((R.hi hh).keep hh (fun p _ _ _ h4 _ _ => hv p h4) M hM).rest hh
theorem fl_go {h q c : Nat} {v : sv_T} (hh : h ≤ 1) (hq : q = 1 + 3 * h) (hc : v q 4 = nI c) : f_W_flying (nI h) v = some (nI c, v) := by
  unfold f_W_flying f_Rows_count
  rw [(wh_yes hh).1, bis, if_neg (by decide), ws_at hh, bis, ← hq, hc]
theorem an_go {h c : Nat} {w : sv_T} (hh : h ≤ 1) (hc : w 76 h = nI c) (hc2 : c ≤ 16) : f_M_any (nI h) w = some (nI (if 0 < c then 1 else 0), w) := by
  unfold f_M_any
  rw [(wh_yes hh).2, bis, if_neg (by decide), ck_n (by omega) (by omega), nI_clamp (by omega), hc, gt0 (by omega)]
  by_cases z : 0 < c
  · rw [if_pos z, if_pos z]; rfl
  · rw [if_neg z, if_neg z]; rfl
theorem cl_loop {w : sv_T} {h n : Nat} (hh : h ≤ 1) (hn : n ≤ 37) (h39 : w 75 39 = nI n) : sv_loop (fun (s : Int32 × sv_T) => f_M_carry_l25 (nI h) s.1 (s.2)) 100000 ((0 : Int32), w) = some (sv_cp w 78 (640 * h) 113 0 n) := by
  have key := lp_to (f := fun (s : Int32 × sv_T) => f_M_carry_l25 (nI h) s.1 (s.2)) (fun k => (nI k, sv_cp w 78 (640 * h) 113 0 k)) n (a := sv_cp w 78 (640 * h) 113 0 n) (fun k hk => ?_) ?_ (n := 100000) (by omega)
  · rw [cp_0] at key
    exact key
  · show f_M_carry_l25 (nI h) (nI k) (sv_cp w 78 (640 * h) 113 0 k) = _
    unfold f_M_carry_l25
    rw [cp_q (by decide), h39, if_lt (by omega) (by omega), if_pos hk, show (640 : Int32) * nI h + nI k = nI (640 * h + k) by rw [show (640 : Int32) = nI 640 from rfl, pk_mul, nI_add], ck_n (by omega) (by omega), ck_n (by omega) (by omega), nI_clamp (by omega), nI_clamp (by omega)]
    simp only [sv_ls, sv_le]
    have e := up_cp (v := w) (w := sv_cp w 78 (640 * h) 113 0 k) (q := 78) (sp := 640 * h) (q1 := 113) (dp := 0) (n := k) (x := sv_cp w 78 (640 * h) 113 0 k 78 (640 * h + k)) rfl (cp_q (by decide))
    rw [Nat.zero_add] at e
    rw [e, nI_1]
  · show f_M_carry_l25 (nI h) (nI n) (sv_cp w 78 (640 * h) 113 0 n) = _
    unfold f_M_carry_l25
    rw [cp_q (by decide), h39, if_lt (by omega) (by omega), if_neg (by omega)]
/-- the first frame on the way to h leaves the air, on both sides -/
theorem NR.landed {h g q : Nat} {v w v1 w1 : sv_T} (hg : h + g = 1) (N : NR v w) (hq : q = 1 + 3 * h) (W : WR v1 w1 h q) (hv : ∀ p, p ≠ q → p ≠ q + 1 → p ≠ q + 2 → p ≠ 9 + 33 * h + 30 → v1 p = v p) (W2 : WR v w g (4 - 3 * h) → WR v1 w1 g (4 - 3 * h)) (hw : ∀ p, 79 ≤ p → p ≤ 85 → w1 p = w p) : NR v1 w1 := by
  obtain ⟨a1, a2⟩ := N.way (h := h) (g := g) (q := 4 - 3 * h) hg rfl
  have b := W2 a1
  have d : h = 0 ∨ h = 1 := by omega
  have bb : WR v1 w1 0 1 ∧ WR v1 w1 1 4 := by
    subst hq
    rcases d with rfl | rfl
    · have e : g = 1 := by omega
      subst e
      exact ⟨W, b⟩
    · have e : g = 0 := by omega
      subst e
      exact ⟨b, W⟩
  refine ⟨bb.1, bb.2, fun h' hh' => ?_⟩
  have d' : h' = 0 ∨ h' = 1 := by omega
  obtain ⟨n1, n2, n3, n4, n5⟩ := N.2.2 h' hh'
  refine ⟨n1.frame (hv _ (by omega) (by omega) (by omega) (by omega)) (hv _ (by omega) (by omega) (by omega) (by omega)) (hv _ (by omega) (by omega) (by omega) (by omega)) (hw _ (by omega) (by omega)) (hw _ (by omega) (by omega)) (hw _ (by omega) (by omega)), ?_, ?_, ?_, ?_⟩
  · rw [hv _ (by omega) (by omega) (by omega) (by omega), hw _ (by omega) (by omega)]; exact n2
  · rw [hv _ (by omega) (by omega) (by omega) (by omega), hw _ (by omega) (by omega)]; exact n3
  · rw [hv _ (by omega) (by omega) (by omega) (by omega), hw _ (by omega) (by omega)]; exact n4
  · rw [hv _ (by omega) (by omega) (by omega) (by omega), hw _ (by omega) (by omega)]; exact n5
/-- all but the net: the same when the ways and scratch places change -/
theorem HR.air {h : Nat} {v w v1 w1 : sv_T} (hh : h ≤ 1) (H : HR v w) (hv : ∀ p, (p = 0 ∨ 6 < p) → p ≠ 9 + 33 * h + 30 → v1 p = v p) (M : ME w w1) : HR v1 w1 := by
  have d : h = 0 ∨ h = 1 := by omega
  have H1 : HR v1 w := by
    obtain ⟨a1, a2, a3, a4⟩ := H
    refine ⟨fun h' j x y => ?_, fun h' k x y => ?_, fun h' x => ?_, ?_⟩
    · have d' : h' = 0 ∨ h' = 1 := by omega
      have dj : j = 0 ∨ j = 1 := by omega
      exact (a1 h' j x y).same (fun p hp => hv p (by omega) (by omega)) (fun _ _ _ => rfl)
    · have d' : h' = 0 ∨ h' = 1 := by omega
      have dk : k = 0 ∨ k = 1 := by omega
      exact (a2 h' k x y).same (hv _ (by omega) (by omega)) (hv _ (by omega) (by omega)) (fun _ _ _ => rfl) (fun _ _ => ⟨rfl, rfl⟩)
    · have d' : h' = 0 ∨ h' = 1 := by omega
      rw [hv _ (by omega) (by omega)]; exact a3 h' x
    · rw [hv 0 (by omega) (by omega)]; exact a4
  exact H1.me M
set_option maxHeartbeats 1000000 in
/-- a frame that has landed is taken -/
theorem tf_go {h B n : Nat} {v w : sv_T} {f : Nat → Nat} (hh : h ≤ 1) (hB : B = 9 + 33 * h) (R : RI v w) (hn : 3 ≤ n) (hn2 : n ≤ 37) (hf : ∀ i, i < n → f i < 256) (h39 : w 75 39 = nI n) (hv : ∀ i, i < n → v (B + 30) i = nI (f i)) (hw : ∀ i, i < n → w 113 i = nI (f i)) : ST v w (sv_bi (sv_bi (f_Link_isForMe (B + 5) (nI (f 0)) v) fun x4 v3 => if x4 = 0 then some ((0 : Int32), v3) else if (v3 (B + 30) 2) = (6 : Int32) then sv_bv (f_Link_takeAsk (B + 5) (B + 30) (nI n) v3) fun v7 => f_Host_takeFrame_b51 B (nI n) v7 else f_Host_takeFrame_b51 B (nI n) v3) fun x9 v8 => if x9 = 0 then f_W_carry_b54 (nI h) (nI (f 2)) v8 else sv_ck (nI h) 2 <| sv_lr (List.getD [9, 42] (nI h).toNatClampNeg 0) fun r13 => sv_to r13 2 <| sv_bv (f_Host_takeMessage r13 (v8 0 2) v8) fun v14 => f_W_carry_b54 (nI h) (nI (f 2)) v14) (if nI (f 0) = ((16 : Int32) + nI h) then f_M_carry_b91 (nI h) (nI (f 2)) w else if nI (f 0) = (255 : Int32) then f_M_carry_b91 (nI h) (nI (f 2)) w else some (nI (f 2), w)) := by
  have s8 := (sh_H hh hB).2.2.2.2.2.2.2.2.1
  have out : ∀ {ms : List MG} {w0 v' w' : sv_T}, HI h w0 ms v' w' → ms.length ≤ 8 → LO v v' → HO w w' → ST v w (f_W_carry_b54 (nI h) (nI (f 2)) v') (some (nI (f 2), w')) := fun H hl L O => by
    obtain ⟨v2, b1, b2, b3⟩ := H.out hh hl
    refine ⟨nI (f 2), v2, _, ?_, rfl, b2, L.tr b3, O⟩
    unfold f_W_carry_b54
    rw [hs_at hh, b1]
    rfl
  have f0 := hf 0 (by omega)
  have f2 := hf 2 (by omega)
  unfold f_Link_isForMe
  rw [show sv_int (sg (B + 5)) 0 = nI h from (sh_L (h := h) (q := 4 - 3 * h) hh hB rfl).1, show (16 : Int32) + nI h = nI (16 + h) from nI_add 16 h, show (255 : Int32) = nI 255 from rfl, if_eq (a := f 0) (by omega) (by omega), if_eq (a := f 0) (by omega) (by omega), if_eq (a := f 0) (by omega) (by omega), if_eq (a := f 0) (by omega) (by omega)]
  by_cases z : f 0 = 16 + h ∨ f 0 = 255
  · have e1 : (if f 0 = 16 + h then some ((1 : Int32), v) else if f 0 = 255 then some ((1 : Int32), v) else some ((0 : Int32), v)) = some ((1 : Int32), v) := by
      by_cases y : f 0 = 16 + h
      · rw [if_pos y]
      · rw [if_neg y, if_pos (by omega)]
    have e2 : (if f 0 = 16 + h then f_M_carry_b91 (nI h) (nI (f 2)) w else if f 0 = 255 then f_M_carry_b91 (nI h) (nI (f 2)) w else some (nI (f 2), w)) = f_M_carry_b91 (nI h) (nI (f 2)) w := by
      by_cases y : f 0 = 16 + h
      · rw [if_pos y]
      · rw [if_neg y, if_pos (by omega)]
    rw [e1, e2, bis, if_neg (show ¬ (1 : Int32) = 0 by decide), hv 2 (by omega)]
    unfold f_M_carry_b91 f_Host_takeFrame_b51
    rw [s8, show (6 : Int32) = nI 6 from rfl, show (8 : Int32) = nI 8 from rfl, if_eq (a := f 2) (by omega) (by omega), if_eq (a := f 2) (by omega) (by omega), if_eq (a := f 2) (by omega) (by omega)]
    by_cases y6 : f 2 = 6
    · rw [if_pos y6, if_pos y6]
      obtain ⟨v', w', a1, a2, a3, a4, a5⟩ := ta_go hh hB R.1 hn2 h39 hv hw hf
      rw [a1, a2, bvs, bvs, a4 (B + 30) (by omega) (by omega), hv 2 (by omega), if_eq (a := f 2) (by omega) (by omega), if_neg (by omega), bis, if_pos rfl]
      exact out ((R.net hh a3 a4 a5).hi hh) (by show 0 ≤ 8; omega) (a4.cs hh |>.lo hh) a5.me.ho
    · rw [if_neg y6, if_neg y6, hv 2 (by omega), if_eq (a := f 2) (by omega) (by omega)]
      by_cases y8 : f 2 = 8
      · rw [if_pos y8, if_pos y8, show (3 : Int32) = nI 3 from rfl, pk_sub (by omega)]
        have A := hp_go (n := n - 3) hh hB (R.hi hh) (by omega) (f := f) (fun i hi => hf i (by omega)) (by rw [show 3 + (n - 3) = n by omega]; exact h39) (fun i hi => hv i (by omega)) (fun i hi => hw i (by omega))
        obtain ⟨v', w', b1, b2, b3, b4⟩ := A
        rcases b4 with ⟨c1, c2⟩ | ⟨c1, pr, c2, c3⟩
        · rw [c1, c2, bis, if_pos rfl, bis, if_pos rfl, bvs]
          exact out b1 (by show 0 ≤ 8; omega) b2 b3
        · rw [c1, c2, bis, if_neg (by decide), bis, if_neg (by decide), hs_at hh]
          obtain ⟨v2, w2, ms', d1, d2, d3, d4, d5, d6⟩ := tms_go hh rfl b1 (by show 0 ≤ 3; omega) rfl c3
          rw [d1, d2, bvs, bvs]
          exact out d3 (by show ms'.length ≤ 8; omega) (b2.tr d5) (b3.tr d6)
      · rw [if_neg y8, if_neg y8, bis, if_pos rfl]
        exact out (R.hi hh) (by show 0 ≤ 8; omega) LO.rf HO.rf
  · rw [if_neg (fun t => z (Or.inl t)), if_neg (fun t => z (Or.inr t)), if_neg (fun t => z (Or.inl t)), if_neg (fun t => z (Or.inr t)), bis, if_pos rfl, bis, if_pos rfl]
    exact out (R.hi hh) (by show 0 ≤ 8; omega) LO.rf HO.rf
