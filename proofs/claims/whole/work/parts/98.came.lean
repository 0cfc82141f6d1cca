/-- what the reference may change when a packet is taken, slot s among it -/
def MZ (s : Nat) (w w' : sv_T) : Prop := (∀ p, p < 75 ∨ (75 < p ∧ p < 88) ∨ (94 < p ∧ p < 113) ∨ 116 < p → w' p = w p) ∧ (∀ i, i ≠ 39 → i ≠ 41 → i ≠ 43 → w' 75 i = w 75 i) ∧ (∀ p i, 88 ≤ p → p ≤ 92 → i ≠ s → w' p i = w p i) ∧ ∀ i, i < 48 * s ∨ 48 * s + 48 ≤ i → w' 93 i = w 93 i ∧ w' 94 i = w 94 i
theorem MZ.tr {s : Nat} {w w' w'' : sv_T} (h1 : MZ s w w') (h2 : MZ s w' w'') : MZ s w w'' := ⟨fun p a => (h2.1 p a).trans (h1.1 p a), fun i a b c => (h2.2.1 i a b c).trans (h1.2.1 i a b c), fun p i a b c => (h2.2.2.1 p i a b c).trans (h1.2.2.1 p i a b c), fun i a => ⟨((h2.2.2.2 i a).1).trans (h1.2.2.2 i a).1, ((h2.2.2.2 i a).2).trans (h1.2.2.2 i a).2⟩⟩
theorem MT.mz {s : Nat} {w w' : sv_T} (H : MT s w w') : MZ s w w' := ⟨fun p h => H.1 p (by omega), fun i _ _ _ => by rw [H.1 75 (by omega)], H.2.1, H.2.2⟩
theorem mz_41 {s i : Nat} {w : sv_T} {x : Int32} (h : i = 39 ∨ i = 41 ∨ i = 43) : MZ s w (sv_up w 75 i x) := ⟨fun p h => sv_up_off _ _ _ (by omega), fun i' a b c => up_i (by omega), fun p i' a b _ => up_q (by omega), fun i' _ => ⟨up_q (by decide), up_q (by decide)⟩⟩
theorem mz_cp {s a sp d dp n : Nat} {w : sv_T} (h : 113 ≤ d) (h2 : d ≤ 116) : MZ s w (sv_cp w a sp d dp n) := ⟨fun p h => cp_off (by omega), fun i' a b c => cp_q (by omega), fun p i' a b _ => cp_q (by omega), fun i' _ => ⟨cp_q (by omega), cp_q (by omega)⟩⟩
theorem HI.slot {h k : Nat} {w0 v w v1 w1 : sv_T} {ms : List MG} (hh : h ≤ 1) (hk : k ≤ 1) (H : HI h w0 ms v w) (hv : ∀ p, p ≠ 9 + 33 * h + 1 → p ≠ 9 + 33 * h + 10 → p ≠ 9 + 33 * h + 15 → p ≠ 9 + 33 * h + 30 → p ≠ 9 + 33 * h + 31 → p ≠ 9 + 33 * h + 32 → p ≠ 9 + 33 * h + 11 + 2 * k → p ≠ 9 + 33 * h + 11 + 2 * k + 1 → v1 p = v p) (M : MZ (2 * h + k) w w1) (S : SL v1 w1 (9 + 33 * h + 11 + 2 * k) (2 * h + k)) : HI h w0 ms v1 w1 := by
  obtain ⟨⟨p1, p2, p3, p4⟩, ⟨a1, a2, a3, a4⟩, H3⟩ := H
  obtain ⟨m1, m2, m3, m4⟩ := M
  have hM : ∀ p, 76 ≤ p → p ≤ 85 → w1 p = w p := fun p x y => m1 p (by omega)
  have d : h = 0 ∨ h = 1 := by omega
  have e : k = 0 ∨ k = 1 := by omega
  refine ⟨⟨p1.keep (fun p hp => hv p (by omega) (by omega) (by omega) (by omega) (by omega) (by omega) (by omega) (by omega)) (fun _ _ _ => rfl), ?_, p3.same (hv _ (by omega) (by omega) (by omega) (by omega) (by omega) (by omega) (by omega) (by omega)) (hv _ (by omega) (by omega) (by omega) (by omega) (by omega) (by omega) (by omega) (by omega)) (hv _ (by omega) (by omega) (by omega) (by omega) (by omega) (by omega) (by omega) (by omega)), p4.keep hM⟩, ⟨fun h' j x y => ?_, fun h' k' x y => ?_, fun h' x => ?_, ?_⟩, H3.same (hv _ (by omega) (by omega) (by omega) (by omega) (by omega) (by omega) (by omega) (by omega)) (hv _ (by omega) (by omega) (by omega) (by omega) (by omega) (by omega) (by omega) (by omega)) (hv _ (by omega) (by omega) (by omega) (by omega) (by omega) (by omega) (by omega) (by omega))⟩
  · have := p2.app (ms' := []) hM
    rwa [List.append_nil] at this
  · have d' : h' = 0 ∨ h' = 1 := by omega
    have dj : j = 0 ∨ j = 1 := by omega
    exact (a1 h' j x y).same (fun p hp => hv p (by omega) (by omega) (by omega) (by omega) (by omega) (by omega) (by omega) (by omega)) (fun p z t => m1 p (by omega))
  · have d' : h' = 0 ∨ h' = 1 := by omega
    have dk : k' = 0 ∨ k' = 1 := by omega
    by_cases z : h' = h ∧ k' = k
    · obtain ⟨rfl, rfl⟩ := z
      rw [show 20 + 33 * h' + 2 * k' = 9 + 33 * h' + 11 + 2 * k' by omega]
      exact S
    · exact (a2 h' k' x y).same (hv _ (by omega) (by omega) (by omega) (by omega) (by omega) (by omega) (by omega) (by omega)) (hv _ (by omega) (by omega) (by omega) (by omega) (by omega) (by omega) (by omega) (by omega)) (fun p b c => m3 p _ b c (by omega)) (fun i hi => m4 _ (by omega))
  · have d' : h' = 0 ∨ h' = 1 := by omega
    rw [hv (9 + 33 * h') (by omega) (by omega) (by omega) (by omega) (by omega) (by omega) (by omega) (by omega), m1 86 (by omega), m1 87 (by omega)]
    exact a3 h' x
  · rw [hv 0 (by omega) (by omega) (by omega) (by omega) (by omega) (by omega) (by omega) (by omega), m2 0 (by omega) (by omega) (by omega)]
    exact a4
theorem MZ.ho {s : Nat} {w w' : sv_T} (M : MZ s w w') : HO w w' := fun p hp => M.1 p (by omega)
/-- a message stands ready, on both sides -/
def GR (h : Nat) (v w : sv_T) (pr : Int32) : Prop := ∃ (m : Nat) (f : Nat → Nat), m ≤ 48 ∧ v (9 + 33 * h + 10) 3 = nI m ∧ v (9 + 33 * h + 10) 4 = pr ∧ w 75 41 = nI m ∧ ∀ i, i < m → v (9 + 33 * h + 1) i = nI (f i) ∧ w 114 i = nI (f i) ∧ f i < 256
/-- a packet is taken: nothing comes of it, or a message -/
def AR (h : Nat) (w0 : sv_T) (ms : List MG) (v w : sv_T) (X : Option (Int32 × sv_T)) (Y : Option sv_T) : Prop := ∃ v' w', HI h w0 ms v' w' ∧ LO v v' ∧ HO w w' ∧ ((X = some (0, v') ∧ Y = some w') ∨ (X = some (1, v') ∧ ∃ pr, Y = f_M_arrives (nI h) pr w' ∧ GR h v' w' pr))
theorem and128 {n : Nat} (h : n < 256) : nI n &&& 128 = 0 ↔ n < 128 := by
  have H : ∀ k : Fin 256, nI k.val &&& 128 = 0 ↔ k.val < 128 := by decide +kernel
  exact H ⟨n, h⟩
theorem cm_l114 {w : sv_T} {n : Nat} {x : Int32} (hn : n ≤ 30) (h41 : w 75 41 = nI n) : sv_loop (fun (t : Int32 × sv_T) => f_M_came_l114 x t.1 (t.2)) 100000 ((0 : Int32), w) = some (sv_cp w 116 10 114 0 n) := by
  have key := lp_to (f := fun (t : Int32 × sv_T) => f_M_came_l114 x t.1 (t.2)) (fun k => (nI k, sv_cp w 116 10 114 0 k)) n (a := sv_cp w 116 10 114 0 n) (fun k hk => ?_) ?_ (n := 100000) (by omega)
  · rw [cp_0] at key
    exact key
  · show f_M_came_l114 x (nI k) (sv_cp w 116 10 114 0 k) = _
    unfold f_M_came_l114
    rw [cp_q (by decide), h41, if_lt (by omega) (by omega), if_pos hk, show (10 : Int32) + nI k = nI (10 + k) from nI_add 10 k, ck_n (by omega) (by omega), ck_n (by omega) (by omega), nI_clamp (by omega), nI_clamp (by omega)]
    simp only [sv_ls, sv_le]
    have e := up_cp (v := w) (w := sv_cp w 116 10 114 0 k) (q := 116) (sp := 10) (q1 := 114) (dp := 0) (n := k) (x := sv_cp w 116 10 114 0 k 116 (10 + k)) rfl (cp_q (by decide))
    rw [Nat.zero_add] at e
    rw [e, nI_1]
  · show f_M_came_l114 x (nI n) (sv_cp w 116 10 114 0 n) = _
    unfold f_M_came_l114
    rw [cp_q (by decide), h41, if_lt (by omega) (by omega), if_neg (by omega)]
/-- the class keeps a message -/
theorem km_go {v : sv_T} {h B a fr n : Nat} {pr : Int32} (hh : h ≤ 1) (hB : B = 9 + 33 * h) (hl : fr + n ≤ sv_len (sg a)) (hl2 : sv_len (sg a) ≤ 1000) (hn : n ≤ 48) : f_Pieces_keepMessage (B + 10) a (nI fr) (nI n) pr v = some (sv_up (sv_up (sv_cp v a fr (B + 1) 0 n) (B + 10) 3 (nI n)) (B + 10) 4 pr) := by
  unfold f_Pieces_keepMessage
  rw [show (0 : Int32) = nI 0 from rfl, cc_n hl (by omega) (by omega) (by omega), (sh_P hh hB).2.2.1, nI_clamp (by omega), nI_clamp (by omega), nI_clamp (by omega)]
  rfl
set_option maxHeartbeats 2000000 in
/-- a piece -/
theorem pc_go {h B n k off mo : Nat} {w0 v w : sv_T} {ms : List MG} {p : Nat → Nat} (hh : h ≤ 1) (hB : B = 9 + 33 * h) (H : HI h w0 ms v w) (hn : 11 ≤ n) (hn2 : n ≤ 34) (hp : ∀ i, i < n → p i < 256) (hv : ∀ i, i < n → v (B + 31) i = nI (p i)) (hw : ∀ i, i < n → w 116 i = nI (p i)) (hoff : off = p 2 % 128 * 4) (hmo : mo = if p 2 < 128 then 0 else 1) : AR h w0 ms v w (f_Pieces_takePacket_b55 (B + 10) (B + 31) (nI off) (nI mo) (nI (n - 10)) v) (f_M_piece (nI h) (nI (n - 10)) w) := by
  obtain ⟨p1, p2, p3, p4, p5, p6, p7, p8, p9⟩ := sh_P hh hB
  have l15 := (sh_H hh hB).2.2.2.2.2.2.2.2.2.2.2.2.2.2.1
  have e1 : sv_rem (w 116 2) 128 * 4 = nI off := by
    rw [hw 2 (by omega), show sv_rem (nI (p 2)) 128 = nI (p 2 % 128) from pk_rem (d := 128) (by have := hp 2 (by omega); omega) (by omega) (by omega), hoff]
    exact pk_mul _ 4
  unfold f_Pieces_takePacket_b55 f_M_piece
  rw [sv_le, e1, nI_add, l15]
  have eb : ((48 : Int32) < nI (off + (n - 10))) ↔ 48 < off + (n - 10) := nI_ltI (a := 48) (by omega) (by omega)
  by_cases z : 48 < off + (n - 10)
  · rw [if_pos (eb.mpr z), if_pos (eb.mpr z)]
    exact ⟨v, w, H, LO.rf, HO.rf, Or.inl ⟨rfl, rfl⟩⟩
  rw [if_neg (fun t => z (eb.mp t)), if_neg (fun t => z (eb.mp t))]
  have S0 : SL v w (B + 11) (2 * h) := by
    have := H.2.1.2.1 h 0 hh (by omega)
    rw [show 20 + 33 * h + 2 * 0 = B + 11 by omega] at this
    exact this
  have S1 : SL v w (B + 13) (2 * h + 1) := by
    have := H.2.1.2.1 h 1 hh (by omega)
    rw [show 20 + 33 * h + 2 * 1 = B + 13 by omega] at this
    exact this
  obtain ⟨k, v1, w1, hk, a1, a2, a3, a4, a5, a6, a7⟩ := slf_go (id := p 1) (pr := p 4) hh hB S0 S1 (hw 1 (by omega)) (hw 4 (by omega))
  generalize hq : B + 11 + 2 * k = q at a1 a3 a5 a6
  generalize hs : 2 * h + k = s at a2 a4 a5 a7
  have hs4 : s < 4 := by omega
  have hr : sv_ref (sg q) 0 = q + 1 ∧ sv_len (sg (q + 1)) = 48 ∧ sv_isO (sg q) 5 = true := by
    rw [← hq]
    obtain rfl | rfl : k = 0 ∨ k = 1 := by omega
    · exact ⟨p4, p6, p8⟩
    · exact ⟨p5, p7, p9⟩
  rw [show (1 : Int32) = nI 1 from rfl, show (4 : Int32) = nI 4 from rfl, ck_n (by omega) (by omega), ck_n (by omega) (by omega), nI_clamp (n := 1) (by omega), nI_clamp (n := 4) (by omega), hv 1 (by omega), hv 4 (by omega), a1, a2]
  simp only [sv_bi, Option.bind_some]
  obtain ⟨v2, w2, b1, b2, b3, b4, b5, b6, b7⟩ := pl_go (q := q) (s := s) (off := off) (n := n - 10) (p := fun i => p (10 + i)) (r0 := B + 10) (x2 := nI mo) (x3 := nI h) hh hB hs4 hr.1 hr.2.1 (by omega) (by omega) (by omega) (fun i hi => hp _ (by omega)) (n - 10) 0 (v := v1) (w := w1) (m := 100000) (m' := 100000) (by omega) (by omega) (by omega) a5 (fun i hi => by rw [a6 _ (by omega) (by omega)]; exact hv _ (by omega)) (fun i hi => by rw [a7.1 116 (by omega)]; exact hw _ (by omega))
  rw [show ((0 : Int32), w1) = (nI 0, w1) from rfl, b2]
  have c0 : (sv_bo (some (some q, v1)) (fun v3 => none) fun r5 v4 => sv_to r5 5 <| Option.bind (sv_loop (fun (s : Int32 × sv_T) => f_Pieces_takePacket_l81 (B + 10) (B + 31) (nI off) (nI mo) (nI (n - 10)) r5 s.1 (s.2)) 100000 ((0 : Int32), v4)) (fun (s : sv_T) => f_Pieces_takePacket_x110 (B + 10) (nI off) (nI mo) (nI (n - 10)) r5 s)) = f_Pieces_takePacket_x110 (B + 10) (nI off) (nI mo) (nI (n - 10)) q v2 := by
    show sv_to q 5 _ = _
    unfold sv_to
    rw [if_pos hr.2.2, show ((0 : Int32), v1) = (nI 0, v1) from rfl, b1]
    rfl
  rw [c0]
  simp only [Option.bind_some]
  -- the length becomes known
  have st3 : ∃ v3 w3, f_Pieces_takePacket_x110 (B + 10) (nI off) (nI mo) (nI (n - 10)) q v2 = f_Pieces_takePacket_b124 (B + 10) q v3 ∧ f_M_piece_x101 (nI h) (nI (n - 10)) (nI off) (nI s) w2 = (if 0 < (w3 92 s) then f_M_piece_b148 (nI h) (nI s) (1 : Int32) w3 else f_M_piece_b148 (nI h) (nI s) (0 : Int32) w3) ∧ SU v3 w3 q s ∧ v3 q 1 = nI 1 ∧ w3 88 s = nI 1 ∧ CT q v2 v3 ∧ MT s w2 w3 := by
    unfold f_Pieces_takePacket_x110 f_M_piece_x101 f_M_piece_b132
    have e116 : w2 116 2 = nI (p 2) := by rw [b6.1 116 (by omega), a7.1 116 (by omega)]; exact hw 2 (by omega)
    simp only [ck_n hs4 (show 4 < 2 ^ 31 by omega), nI_clamp (show s < 2 ^ 31 by omega), sv_ls, nI_add]
    have p256 := hp 2 (by omega)
    rw [e116, show (128 : Int32) = nI 128 from rfl, if_lt (by omega) (by omega), if_eq0 (by split at hmo <;> omega)]
    by_cases y : p 2 < 128
    · rw [if_pos y] at hmo
      subst hmo
      rw [if_pos rfl, if_pos y]
      refine ⟨_, _, rfl, rfl, ?_, ?_, ?_, fun x h1 h2 => sv_up_off _ _ _ h1, mt_up (by omega) (by omega)⟩
      · obtain ⟨d1, d2, d3, d4, d5⟩ := b3
        refine ⟨by rw [up_i (by decide), up_q (by decide)]; exact d1, by rw [up_i (by decide), up_q (by decide)]; exact d2, by rw [up_i (by decide), up_q (by decide)]; exact d3, Or.inr ⟨off + (n - 10), by omega, by omega, by rw [up_s], by rw [up_s]⟩, fun i hi => ?_⟩
        rw [up_q (show q + 1 ≠ q by omega), up_q (by decide), up_q (by decide)]
        exact d5 i hi
      · rw [up_i (by decide), b4]; exact a3
      · rw [up_q (by decide), b7 88 s (by omega) (by omega)]; exact a4
    · rw [if_neg y] at hmo
      subst hmo
      rw [if_neg (by decide), if_neg y]
      refine ⟨v2, sv_up w2 92 s (w2 92 s), rfl, rfl, ?_, by rw [b4]; exact a3, ?_, fun x h1 h2 => rfl, mt_up (by omega) (by omega)⟩
      · rw [up_same rfl]; exact b3
      · rw [up_same rfl, b7 88 s (by omega) (by omega)]; exact a4
  obtain ⟨v3, w3, d1, d2, d3, d4, d5, d6, d7⟩ := st3
  rw [d1, d2]
  have CT3 : CT q v v3 := (a6.tr b5).tr d6
  have MT3 : MT s w w3 := (a7.tr b6).tr d7
  have HI3 : HI h w0 ms v3 w3 := H.slot (k := k) hh hk (fun x _ _ _ _ _ _ h7 h8 => CT3 x (by omega) (by omega)) (by rw [hs]; exact MT3.mz) (by rw [show 9 + 33 * h + 11 + 2 * k = q by omega, hs]; exact ⟨1, by omega, d4, d5, fun _ => d3⟩)
  have L3 : LO v v3 := fun x hx => CT3 x (by omega) (by omega)
  have O3 : HO w w3 := MT3.mz.ho
  unfold f_Pieces_takePacket_b124 f_M_piece_b148 f_Slot_isWhole
  have x48 : (48 : Int32) * nI s = nI (48 * s) := pk_mul 48 s
  rcases d3.2.2.2.1 with ⟨g1, g2⟩ | ⟨N, g0, g1, g2, g3⟩
  · rw [g1, g2, if_pos rfl, if_neg (by decide)]
    simp only [sv_bi, sv_le, Option.bind_some]
    rw [x48]
    obtain ⟨b, y1, y2, mw⟩ := mw_go (w := w3) (s := s) (n := 0) (x := nI h) hs4 (by omega) g2 0 0 100000 0 (by omega) (by omega) (by omega)
    have eb0 : b = 0 := by
      obtain rfl | rfl : b = 0 ∨ b = 1 := by omega
      · rfl
      · exact absurd (y2.mp rfl).1 (by omega)
    subst eb0
    rw [Nat.add_zero] at mw
    rw [show ((0 : Int32), nI (48 * s), w3) = (nI 0, nI (48 * s), w3) from rfl, mw]
    exact ⟨v3, w3, HI3, L3, O3, Or.inl ⟨rfl, rfl⟩⟩
  · rw [g2, g3, if_neg (nI_m1 (by omega)), gt0 (by omega), if_pos g0]
    simp only [sv_le]
    obtain ⟨bm, m1, m2, mw⟩ := mw_go (w := w3) (s := s) (n := N) (x := nI h) hs4 g1 g3 N 0 100000 1 (by omega) (by omega) (by omega)
    obtain ⟨bc, i1, i2, iw⟩ := iw_go (v := v3) (q := q) (n := N) hr.1 g1 g2 N 0 100000 (by omega) (by omega)
    rw [Nat.add_zero] at mw
    rw [show ((0 : Int32), v3) = (nI 0, v3) from rfl, iw, x48, show ((1 : Int32), nI (48 * s), w3) = (nI 1, nI (48 * s), w3) from rfl, mw]
    simp only [sv_bi, Option.bind_some]
    by_cases y : ∀ i, 0 ≤ i → i < N → v3 (q + 1) i ≠ -1
    · have y2 : ∀ i, 0 ≤ i → i < N → w3 94 (48 * s + i) ≠ 0 := fun i h1 h2 t => by
        rcases d3.2.2.2.2 i (by omega) with c | c
        · exact y i h1 h2 c.2
        · rw [c.1] at t; exact absurd t (by decide)
      have ebm : bm = 1 := m2.mpr ⟨rfl, y2⟩
      have ebc : bc = 1 := i2.mpr y
      subst ebm
      subst ebc
      rw [if_neg (show ¬ nI 1 = 0 by decide)]
      unfold f_M_piece_x203 f_M_piece_x265
      rw [if_neg (show ¬ nI 1 = 0 by decide)]
      simp only [sv_ls, ck_n hs4 (show 4 < 2 ^ 31 by omega), nI_clamp (show s < 2 ^ 31 by omega)]
      rw [hr.1, g2, show (0 : Int32) = nI 0 from rfl, km_go hh hB (by omega) (by omega) g1]
      simp only [sv_bv, Option.bind_some]
      rw [up_q (show 92 ≠ 88 by decide), g3, show (nI 0, sv_up (sv_up w3 88 s (nI 0)) 75 41 (nI N)) = ((0 : Int32), sv_up (sv_up w3 88 s (nI 0)) 75 41 (nI N)) from rfl, mk_loop hs4 g1 up_s]
      simp only [Option.bind_some]
      generalize hw6 : sv_cp (sv_up (sv_up w3 88 s (nI 0)) 75 41 (nI N)) 93 (48 * s) 114 0 N = w6
      generalize hv6 : sv_up (sv_up (sv_up (sv_cp v3 (q + 1) 0 (B + 1) 0 N) (B + 10) 3 (nI N)) (B + 10) 4 (v3 q 3)) q 1 (nI 0) = v6
      have kv : ∀ x, x ≠ B + 1 → x ≠ B + 10 → x ≠ q → v6 x = v3 x := fun x h1 h2 h3 => by
        rw [← hv6, sv_up_off _ _ _ h3, sv_up_off _ _ _ h2, sv_up_off _ _ _ h2, cp_off h1]
      have kq : ∀ i, i ≠ 1 → v6 q i = v3 q i := fun i hi => by
        rw [← hv6, up_i hi, up_q (by omega), up_q (by omega), cp_q (by omega)]
      have MZ6 : MZ s w3 w6 := by
        rw [← hw6]
        exact ((mt_up (by omega) (by omega)).mz.tr (mz_41 (by omega))).tr (mz_cp (by omega) (by omega))
      have S6 : SL v6 w6 q s := ⟨0, by omega, by rw [← hv6, up_s], by rw [← hw6, cp_q (by decide), up_q (by decide), up_s], fun t => by omega⟩
      have HI6 : HI h w0 ms v6 w6 := HI3.slot (k := k) hh hk (fun x h1 h2 _ _ _ _ h7 h8 => kv x (by omega) (by omega) (by omega)) (by rw [hs]; exact MZ6) (by rw [show 9 + 33 * h + 11 + 2 * k = q by omega, hs]; exact S6)
      refine ⟨v6, w6, HI6, L3.tr (fun x hx => kv x (by omega) (by omega) (by omega)), O3.tr MZ6.ho, Or.inr ⟨rfl, v3 q 3, ?_, N, fun i => (v3 (q + 1) i).toNatClampNeg, g1, ?_, ?_, ?_, fun i hi => ?_⟩⟩
      · have e90 : w6 90 s = v3 q 3 := by
          rw [← hw6, cp_q (by decide), up_q (by decide), up_q (by decide), d3.2.1]
        rw [e90]
        exact bv_id
      · rw [← hB, ← hv6, up_q (by omega), up_i (by decide), up_s]
      · rw [← hB, ← hv6, up_q (by omega), up_s]
      · rw [← hw6, cp_q (by decide), up_s]
      · rcases d3.2.2.2.2 i (by omega) with c | ⟨c1, b, c2, c3, c4⟩
        · exact absurd c.2 (y i (by omega) hi)
        · show v6 (9 + 33 * h + 1) i = nI (v3 (q + 1) i).toNatClampNeg ∧ w6 114 i = nI (v3 (q + 1) i).toNatClampNeg ∧ (v3 (q + 1) i).toNatClampNeg < 256
          rw [c3, nI_clamp (by omega)]
          refine ⟨?_, ?_, c2⟩
          · have e := cp_in (v := v3) (q := q + 1) (sp := 0) (q1 := B + 1) (dp := 0) (n := N) (i := i) hi
            rw [Nat.zero_add] at e
            rw [← hB, ← hv6, up_q (by omega), up_q (by omega), up_q (by omega), e, c3]
          · have e := cp_in (v := sv_up (sv_up w3 88 s (nI 0)) 75 41 (nI N)) (q := 93) (sp := 48 * s) (q1 := 114) (dp := 0) (n := N) (i := i) hi
            rw [Nat.zero_add] at e
            rw [← hw6, e, up_q (by decide), up_q (by decide), c4]
    · have ebc : bc = 0 := by
        obtain rfl | rfl : bc = 0 ∨ bc = 1 := by omega
        · rfl
        · exact absurd (i2.mp rfl) y
      have ebm : bm = 0 := by
        obtain rfl | rfl : bm = 0 ∨ bm = 1 := by omega
        · rfl
        · exact absurd (fun i h1 h2 u => by
            rcases d3.2.2.2.2 i (by omega) with c | ⟨c1, b, c2, c3, c4⟩
            · exact (m2.mp rfl).2 i h1 h2 c.1
            · rw [c3] at u; exact nI_m1 (by omega) u) y
      subst ebm
      subst ebc
      exact ⟨v3, w3, HI3, L3, O3, Or.inl ⟨rfl, rfl⟩⟩
