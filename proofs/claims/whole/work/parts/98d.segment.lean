theorem sh_G {h B : Nat} (hh : h ≤ 1) (hB : B = 9 + 33 * h) : sv_ref (sg (B + 15)) 0 = B + 1 := by
  subst hB
  obtain rfl | rfl : h = 0 ∨ h = 1 := by omega
  · rfl
  · rfl
theorem fl_lt {n : Nat} (h : n < 256) (e : nI n &&& (-24) = 0) : n < 32 := by
  have H : ∀ k : Fin 256, nI k.val &&& (-24) = 0 → k.val < 32 := by decide +kernel
  exact H ⟨n, h⟩ e
theorem pa_go {v : sv_T} {a i x y : Nat} (hi : i + 1 < sv_len (sg a)) (hl : sv_len (sg a) ≤ 1000) (h1 : v a i = nI x) (h2 : v a (i + 1) = nI y) (hx : x < 256) : f_Num_pairAt a (nI i) v = some (nI (256 * x + y), v) := by
  unfold f_Num_pairAt
  rw [nI_1, ck_n (by omega) (by omega), ck_n (by omega) (by omega), nI_clamp (by omega), nI_clamp (by omega), h1, h2, pk_shlN 8 8 (by decide) (by omega), nI_add, show x * 2 ^ 8 + y = 256 * x + y by omega]
theorem bvs {α : Type} (u : sv_T) (K : sv_T → Option α) : sv_bv (some u) K = K u := rfl
theorem bis {α : Type} (x : Int32) (u : sv_T) (K : Int32 → sv_T → Option α) : sv_bi (some (x, u)) K = K x u := rfl
theorem bos {α : Type} (r : Nat) (u : sv_T) (K0 : sv_T → Option α) (K : Nat → sv_T → Option α) : sv_bo (some (some r, u)) K0 K = K r u := rfl
theorem bon {α : Type} (u : sv_T) (K0 : sv_T → Option α) (K : Nat → sv_T → Option α) : sv_bo (some (none, u)) K0 K = K0 u := rfl
theorem HI.op {h j E B s k : Nat} {w0 v w : sv_T} {ms : List MG} {X Y : Option sv_T} (hh : h ≤ 1) (hj : j ≤ 1) (hE : E = 25 + 33 * h + 7 * j) (hB : B = 9 + 33 * h) (hs : s = 2 * h + j) (H : HI h w0 ms v w) (O : OP h B E s w0 ms v w k X Y) (hk : k ≤ 4) : HP h w0 ms v w X Y := by
  obtain ⟨v', w', ms', a1, a2, a3, a4, a5, a6, a7⟩ := O
  exact ⟨v', w', ms', a1, a2, H.sock hh hj hE hB hs a3 a5 a6 a7, by omega, a6.lo hh hj hE hB, a7.ho⟩
theorem HP.pre {h : Nat} {w0 v w v1 w1 : sv_T} {ms : List MG} {X Y : Option sv_T} (H : HP h w0 ms v1 w1 X Y) (L : LO v v1) (O : HO w w1) : HP h w0 ms v w X Y := by
  obtain ⟨v', w', ms', a1, a2, a3, a4, a5, a6⟩ := H
  exact ⟨v', w', ms', a1, a2, a3, a4, L.tr a5, O.tr a6⟩
set_option maxHeartbeats 2000000 in
/-- a segment comes to its socket -/
theorem sg_go {h B m : Nat} {w0 v w : sv_T} {ms : List MG} {f : Nat → Nat} {c : Int32} (hh : h ≤ 1) (hB : B = 9 + 33 * h) (H : HI h w0 ms v w) (hl : ms.length ≤ 3) (hm : m ≤ 48) (hc : w 75 0 = c) (h41 : w 75 41 = nI m) (hv : ∀ i, i < m → v (B + 1) i = nI (f i)) (hw : ∀ i, i < m → w 114 i = nI (f i)) (hf : ∀ i, i < m → f i < 256) : HP h w0 ms v w (sv_bi (f_Seg_isRight (B + 15) (nI m) (nI (2 - h)) (nI (1 + h)) v) fun x6 v5 => if x6 = 0 then some v5 else sv_bo (f_Host_endpointAt B (v5 (B + 15) 2) v5) (fun v7 => some v7) (fun r9 v8 => sv_to r9 7 <| sv_bv (f_Ep_takeSegment r9 (B + 15) c v8) fun v10 => some v10)) (f_M_segment (nI h) w) := by
  obtain ⟨s1, s2, s3, s4, s5, s6, s7, s8, s9, s10, s11, s12, s13, s14, s15, s16⟩ := sh_H hh hB
  have g0 := sh_G hh hB
  unfold f_Seg_isRight f_M_segment f_Seg_startOfCheck
  rw [h41, g0]
  rw [show (10 : Int32) = nI 10 from rfl, show (42 : Int32) = nI 42 from rfl, if_lt (a := m) (by omega) (by omega), if_lt (a := m) (by omega) (by omega), if_lt (a := 42) (by omega) (by omega), if_le (a := m) (by omega) (by omega)]
  by_cases z : m < 10
  · rw [if_pos z, if_pos z]
    exact HP.no H LO.rf HO.rf
  rw [if_neg z, if_neg z]
  by_cases z' : 42 < m
  · rw [if_pos z', if_neg (show ¬ m ≤ 42 by omega)]
    exact HP.no H LO.rf HO.rf
  rw [if_neg z', if_pos (show m ≤ 42 by omega)]
  have f0 := hf 0 (by omega)
  have f1 := hf 1 (by omega)
  have f2 := hf 2 (by omega)
  have f3 := hf 3 (by omega)
  have f4 := hf 4 (by omega)
  have f5 := hf 5 (by omega)
  have f6 := hf 6 (by omega)
  -- the class's segment
  generalize hv1 : sv_up (sv_up (sv_up (sv_up (sv_up (sv_up v (B + 15) 1 (nI (m - 10))) (B + 15) 2 (nI (f 0))) (B + 15) 3 (nI (f 1))) (B + 15) 4 (nI (256 * f 2 + f 3))) (B + 15) 5 (nI (256 * f 4 + f 5))) (B + 15) 6 (nI (f 6)) = v1
  have kv : ∀ p, p ≠ B + 15 → v1 p = v p := fun p hp => by
    rw [← hv1]
    simp only [sv_up_off _ _ _ hp]
  have H1 : HI h w0 ms v1 w := H.keep hh (fun p h1 h2 h3 h4 h5 h6 => kv p (by omega)) ⟨fun _ _ _ _ _ _ => rfl, fun _ _ _ _ => rfl⟩ (fun _ _ _ => rfl)
  have L1 : LO v v1 := fun p hp => kv p (by omega)
  have hck := cc_check (st := 256 * (2 - h) + (1 + h) + 256 * 6 + m) (a := B + 1) (from0 := 0) (n := m) (v := v1) (f := f) (by omega) (by omega) (by omega) (fun i hi => by rw [Nat.zero_add, kv _ (by omega)]; exact hv i hi) hf
  obtain ⟨w1, r1, r2, r3, r4⟩ := msr_go (w := w) (a := 2 - h) (b := 1 + h) (n := m) (f := f) (by omega) (by omega) (by omega) h41 hw hf
  have hC : 65535 - ck_r (256 * (2 - h) + (1 + h) + 256 * 6 + m + ck_s f m) < 2 ^ 31 := by omega
  generalize 65535 - ck_r (256 * (2 - h) + (1 + h) + 256 * 6 + m + ck_s f m) = C at hck hC r2
  have x1 : ((nI (2 - h) <<< (8 : Int32) + nI (1 + h)) + (1536 : Int32)) + nI m = nI (256 * (2 - h) + (1 + h) + 256 * 6 + m) := by
    rw [pk_shlN 8 8 (by decide) (by omega), show (1536 : Int32) = nI 1536 from rfl, nI_add, nI_add, nI_add, show (2 - h) * 2 ^ 8 + (1 + h) + 1536 + m = 256 * (2 - h) + (1 + h) + 256 * 6 + m by omega]
  have isR : (sv_ls (sv_up v (B + 15) 1 (nI m - nI 10)) fun v1 => sv_ls (sv_up v1 (B + 15) 2 (v1 (B + 1) 0)) fun v2 => sv_ls (sv_up v2 (B + 15) 3 (v2 (B + 1) 1)) fun v3 => sv_bi (f_Num_pairAt (B + 1) (2 : Int32) v3) fun x5 v4 => sv_ls (sv_up v4 (B + 15) 4 x5) fun v6 => sv_bi (f_Num_pairAt (B + 1) (4 : Int32) v6) fun x8 v7 => sv_ls (sv_up v7 (B + 15) 5 x8) fun v9 => sv_ls (sv_up v9 (B + 15) 6 (v9 (B + 1) 6)) fun v10 => if ((v10 (B + 15) 3) &&& (-24 : Int32)) = 0 then sv_bi (some (((((nI (2 - h) <<< (8 : Int32)) + nI (1 + h)) + (1536 : Int32)) + nI m), v10)) fun x12 v11 => sv_bi (f_Num_check x12 (B + 1) (0 : Int32) (nI m) v11) fun x14 v13 => if x14 = 0 then some ((1 : Int32), v13) else some ((0 : Int32), v13) else some ((0 : Int32), v10)) = if nI (f 1) &&& (-24) = 0 then (if C = 0 then some ((1 : Int32), v1) else some ((0 : Int32), v1)) else some ((0 : Int32), v1) := by
    simp only [sv_ls]
    rw [pk_sub (by omega), up_q (show B + 1 ≠ B + 15 by omega), hv 0 (by omega), up_q (show B + 1 ≠ B + 15 by omega), up_q (show B + 1 ≠ B + 15 by omega), hv 1 (by omega)]
    rw [show (2 : Int32) = nI 2 from rfl, pa_go (x := f 2) (y := f 3) (by omega) (by omega) (by rw [up_q (by omega), up_q (by omega), up_q (by omega)]; exact hv 2 (by omega)) (by rw [up_q (by omega), up_q (by omega), up_q (by omega)]; exact hv 3 (by omega)) f2]
    simp only [sv_bi, Option.bind_some]
    rw [show (4 : Int32) = nI 4 from rfl, pa_go (x := f 4) (y := f 5) (by omega) (by omega) (by rw [up_q (by omega), up_q (by omega), up_q (by omega), up_q (by omega)]; exact hv 4 (by omega)) (by rw [up_q (by omega), up_q (by omega), up_q (by omega), up_q (by omega)]; exact hv 5 (by omega)) f4]
    simp only [Option.bind_some]
    rw [up_q (show B + 1 ≠ B + 15 by omega), up_q (show B + 1 ≠ B + 15 by omega), up_q (show B + 1 ≠ B + 15 by omega), up_q (show B + 1 ≠ B + 15 by omega), up_q (show B + 1 ≠ B + 15 by omega), hv 6 (by omega), hv1]
    have e3 : v1 (B + 15) 3 = nI (f 1) := by
      rw [← hv1, up_i (by decide), up_i (by decide), up_i (by decide), up_s]
    rw [e3, x1]
    have hck' : f_Num_check (nI (256 * (2 - h) + (1 + h) + 256 * 6 + m)) (B + 1) 0 (nI m) v1 = some (nI C, v1) := hck
    rw [hck']
    simp only [Option.bind_some]
    rw [if_eq0 (by omega)]
  rw [isR]
  have ad2 : (1 : Int32) + nI h = nI (1 + h) := nI_add 1 h
  have ad3 : (2 : Int32) - nI h = nI (2 - h) := pk_sub (show h ≤ 2 by omega)
  rw [hw 0 (by omega), hw 1 (by omega), ad2, ad3, r1, show (1 : Int32) = nI 1 from rfl, show (2 : Int32) = nI 2 from rfl, if_lt (a := f 0) (by omega) (by omega), if_le (a := f 0) (by omega) (by omega)]
  rw [bvs w1, r2, bis (nI C) w1, if_eq0 (a := C) (by omega)]
  have M1 : ME w w1 := ⟨fun p h1 h2 h3 h4 h5 => by
    by_cases zz : p = 75
    · omega
    · exact r3 p h4 zz, fun i h1 h2 h3 => r4 i h3⟩
  have H2 : HI h w0 ms v1 w1 := H1.keep hh (fun _ _ _ _ _ _ _ => rfl) M1 (fun p h1 h2 => r3 p (by omega) (by omega))
  by_cases zf : nI (f 1) &&& (-24) = 0
  · rw [if_pos zf, if_pos zf]
    by_cases zc : C = 0
    · rw [if_pos zc, if_pos zc, bis (nI 1) v1, if_neg (show ¬ nI 1 = 0 by decide)]
      have e2 : v1 (B + 15) 2 = nI (f 0) := by
        rw [← hv1, up_i (by decide), up_i (by decide), up_i (by decide), up_i (by decide), up_s]
      rw [e2]
      by_cases zp : f 0 = 1 ∨ f 0 = 2
      · obtain ⟨j, hj, ej⟩ : ∃ j, j ≤ 1 ∧ f 0 = 1 + j := ⟨f 0 - 1, by omega, by omega⟩
        rw [if_neg (show ¬ f 0 < 1 by omega), if_pos (show f 0 ≤ 2 by omega), r3 114 (by decide) (by decide), hw 0 (by omega), ej, sat hh hj rfl, bis]
        have ep : f_Host_endpointAt B (nI (1 + j)) v1 = some (some (25 + 33 * h + 7 * j), v1) := by
          unfold f_Host_endpointAt
          rw [s5, s6, hB]
          obtain rfl | rfl : j = 0 ∨ j = 1 := by omega
          · rw [if_pos (show nI (1 + 0) = 1 from rfl), show 9 + 33 * h + 16 = 25 + 33 * h + 7 * 0 by omega]
          · rw [if_neg (by decide), if_pos (show nI (1 + 1) = 2 from rfl), show 9 + 33 * h + 23 = 25 + 33 * h + 7 * 1 by omega]
        rw [ep, bos, to_E hh hj]
        have k4 : w1 114 = w 114 := r3 114 (by decide) (by decide)
        rw [sv_ls, k4, hw 1 (by omega)]
        generalize h6 : sv_up w1 75 45 (nI (f 1)) = u6
        have a6 : ∀ p, p ≠ 75 → u6 p = w1 p := fun p hp => by rw [← h6, sv_up_off _ _ _ hp]
        rw [sv_ls, a6 114 (by decide), k4, hw 2 (by omega), hw 3 (by omega), show (256 : Int32) * nI (f 2) = nI (256 * f 2) from pk_mul 256 _, nI_add (256 * f 2) (f 3)]
        generalize h7 : sv_up u6 75 46 (nI (256 * f 2 + f 3)) = u7
        have a7 : ∀ p, p ≠ 75 → u7 p = w1 p := fun p hp => by rw [← h7, sv_up_off _ _ _ hp, a6 p hp]
        rw [sv_ls, a7 114 (by decide), k4, hw 4 (by omega), hw 5 (by omega), show (256 : Int32) * nI (f 4) = nI (256 * f 4) from pk_mul 256 _, nI_add (256 * f 4) (f 5)]
        generalize h8 : sv_up u7 75 47 (nI (256 * f 4 + f 5)) = u8
        have a8 : ∀ p, p ≠ 75 → u8 p = w1 p := fun p hp => by rw [← h8, sv_up_off _ _ _ hp, a7 p hp]
        rw [sv_ls, a8 114 (by decide), k4, hw 6 (by omega)]
        generalize h9 : sv_up u8 75 48 (nI (f 6)) = u9
        have a9 : ∀ p, p ≠ 75 → u9 p = w1 p := fun p hp => by rw [← h9, sv_up_off _ _ _ hp, a8 p hp]
        have b9 : ∀ i, i < 45 ∨ 48 < i → u9 75 i = w1 75 i := fun i hi => by
          rw [← h9, up_i (by omega), ← h8, up_i (by omega), ← h7, up_i (by omega), ← h6, up_i (by omega)]
        rw [sv_ls, b9 41 (by omega), r4 41 (by decide), h41, pk_sub (show 10 ≤ m by omega)]
        generalize h10 : sv_up u9 75 49 (nI (m - 10)) = u10
        have a10 : ∀ p, p ≠ 75 → u10 p = w1 p := fun p hp => by rw [← h10, sv_up_off _ _ _ hp, a9 p hp]
        have b10 : ∀ i, i < 45 ∨ 49 < i → u10 75 i = w1 75 i := fun i hi => by
          rw [← h10, up_i (by omega), b9 i (by omega)]
        show HP h w0 ms v w _ (msg (nI (2 * h + j)) u10)
        rw [bv_id]
        have S : SG v1 u10 (B + 15) (B + 1) (f 1) (256 * f 2 + f 3) (256 * f 4 + f 5) (f 6) (m - 10) (fun i => f (10 + i)) := by
          refine ⟨⟨?_, ?_⟩, ⟨?_, ?_⟩, ⟨?_, ?_⟩, ⟨?_, ?_⟩, ⟨?_, ?_⟩, fun i hi => ⟨?_, hf _ (by omega)⟩, fl_lt f1 zf, by omega, by omega, f6, by omega⟩
          · rw [← hv1, up_i (by decide), up_i (by decide), up_i (by decide), up_i (by decide), up_i (by decide), up_s]
          · rw [← h10, up_s]
          · rw [← hv1, up_i (by decide), up_i (by decide), up_i (by decide), up_s]
          · rw [← h10, up_i (by decide), ← h9, up_i (by decide), ← h8, up_i (by decide), ← h7, up_i (by decide), ← h6, up_s]
          · rw [← hv1, up_i (by decide), up_i (by decide), up_s]
          · rw [← h10, up_i (by decide), ← h9, up_i (by decide), ← h8, up_i (by decide), ← h7, up_s]
          · rw [← hv1, up_i (by decide), up_s]
          · rw [← h10, up_i (by decide), ← h9, up_i (by decide), ← h8, up_s]
          · rw [← hv1, up_s]
          · rw [← h10, up_i (by decide), ← h9, up_s]
          · rw [kv _ (by omega)]
            exact hv _ (by omega)
        have H3 : PN h B w0 ms v1 u10 := by
          have P := H2.1
          rw [← hB] at P
          refine ⟨P.1, ?_, P.2.2.1, P.2.2.2.keep (fun p h1 h2 => a10 p (by omega))⟩
          have := P.2.1.app (ms' := []) (w'' := u10) (fun p h1 h2 => a10 p (by omega))
          rwa [List.append_nil] at this
        have H4 : SR v1 u10 (25 + 33 * h + 7 * j) (2 * h + j) := (H2.2.1.1 h j hh hj).same (fun _ _ => rfl) (fun p h1 h2 => a10 p (by omega))
        have T := ts_go (A := B + 1) (G := B + 15) hh hj rfl hB rfl rfl rfl H3 hl H4 (c := c) (by rw [b10 0 (by omega), r4 0 (by decide)]; exact hc) S (fun i hi => by
          rw [a10 114 (by decide), k4]
          exact hw _ (by omega))
        obtain ⟨v', w', ms', t1, t2, t3, t4, t5, t6, t7⟩ := T
        have HR4 : HR v1 u10 := by
          obtain ⟨q1, q2, q3, q4⟩ := H2.2.1
          refine ⟨fun h' j' x y => (q1 h' j' x y).same (fun _ _ => rfl) (fun p b1 b2 => a10 p (by omega)), fun h' k' x y => (q2 h' k' x y).same rfl rfl (fun p b1 b2 => by rw [a10 p (by omega)]) (fun i _ => by rw [a10 93 (by decide), a10 94 (by decide)]; exact ⟨rfl, rfl⟩), fun h' x => ?_, ?_⟩
          · rw [a10 86 (by decide), a10 87 (by decide)]; exact q3 h' x
          · rw [b10 0 (by omega)]; exact q4
        have HI4 : HI h w0 ms v1 u10 := ⟨by rw [← hB]; exact H3, HR4, H2.2.2⟩
        exact ⟨v', w', ms', t1, t2, HI4.sock hh hj rfl hB rfl t3 t5 t6 t7, by omega, L1.tr (t6.lo hh hj rfl hB), M1.ho.tr (HO.tr (fun p hp => a10 p (by omega)) t7.ho)⟩
      · have ep : f_Host_endpointAt B (nI (f 0)) v1 = some (none, v1) := by
          unfold f_Host_endpointAt
          rw [show (1 : Int32) = nI 1 from rfl, show (2 : Int32) = nI 2 from rfl, if_eq (by omega) (by omega), if_eq (by omega) (by omega), if_neg (by omega), if_neg (by omega)]
        rw [ep, bon]
        by_cases z0 : f 0 < 1
        · rw [if_pos z0]
          exact HP.no H1 L1 HO.rf
        · rw [if_neg z0, if_neg (show ¬ f 0 ≤ 2 by omega)]
          exact HP.no H1 L1 HO.rf
    · rw [if_neg zc, if_neg zc, bis, if_pos rfl]
      by_cases z0 : f 0 < 1
      · rw [if_pos z0]
        exact HP.no H1 L1 HO.rf
      · rw [if_neg z0]
        by_cases z2 : f 0 ≤ 2
        · rw [if_pos z2]
          exact HP.no H2 L1 M1.ho
        · rw [if_neg z2]
          exact HP.no H1 L1 HO.rf
  · rw [if_neg zf, if_neg zf, bis, if_pos rfl]
    by_cases z0 : f 0 < 1
    · rw [if_pos z0]
      exact HP.no H1 L1 HO.rf
    · rw [if_neg z0]
      by_cases z2 : f 0 ≤ 2
      · rw [if_pos z2]
        exact HP.no H1 L1 HO.rf
      · rw [if_neg z2]
        exact HP.no H1 L1 HO.rf
/-- a message is taken, on both sides -/
theorem tms_go {h B : Nat} {w0 v w : sv_T} {ms : List MG} {c pr : Int32} (hh : h ≤ 1) (hB : B = 9 + 33 * h) (H : HI h w0 ms v w) (hl : ms.length ≤ 3) (hc : v 0 2 = c) (G : GR h v w pr) : HP h w0 ms v w (f_Host_takeMessage B c v) (f_M_arrives (nI h) pr w) := by
  obtain ⟨s1, s2, s3, s4, s5, s6, s7, s8, s9, s10, s11, s12, s13, s14, s15, s16⟩ := sh_H hh hB
  obtain ⟨m, f, g1, g2, g3, g4, g5⟩ := G
  rw [← hB] at g2 g3 g5
  unfold f_Host_takeMessage f_M_arrives
  rw [s3, s4, g2, g3]
  by_cases z : pr = 1
  · rw [if_pos z, if_pos z, show (sv_bv (f_Host_takeEcho B (nI m) v) fun v11 => some v11) = f_Host_takeEcho B (nI m) v from bv_id, show (sv_bv (f_M_echo (nI h) w) fun v11 => some v11) = f_M_echo (nI h) w from bv_id]
    exact te_go hh hB H (by omega) g1 g4 (fun i hi => (g5 i hi).1) (fun i hi => (g5 i hi).2.1) (fun i hi => (g5 i hi).2.2)
  · rw [if_neg z, if_neg z]
    by_cases z6 : pr = 6
    · rw [if_pos z6, if_pos z6, show (sv_bv (f_M_segment (nI h) w) fun v11 => some v11) = f_M_segment (nI h) w from bv_id]
      have ad : (1 : Int32) + ((1 : Int32) - nI h) = nI (2 - h) := by
        rw [show (1 : Int32) = nI 1 from rfl, pk_sub hh, nI_add, show 1 + (1 - h) = 2 - h by omega]
      have ad2 : (1 : Int32) + nI h = nI (1 + h) := nI_add 1 h
      unfold f_Link_addressOf
      rw [s1, ad, ad2]
      exact sg_go hh hB H hl g1 (H.2.1.2.2.2.symm.trans hc) g4 (fun i hi => (g5 i hi).1) (fun i hi => (g5 i hi).2.1) (fun i hi => (g5 i hi).2.2)
    · rw [if_neg z6, if_neg z6]
      exact HP.no H LO.rf HO.rf
