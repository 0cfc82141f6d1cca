theorem SR.same {v v' w w' : sv_T} {E s : Nat} (H : SR v w E s) (hv : ∀ p, p = E ∨ (E + 2 ≤ p ∧ p ≤ E + 6) → v' p = v p) (hw : ∀ p, 95 ≤ p → p ≤ 112 → w' p = w p) : SR v' w' E s := by
  obtain ⟨st, ti, ro, tr, ou, fi, un, nx, wi, en, ic, rc, ob, ib, K, I, K1, K2⟩ := H
  exact ⟨st, ti, ro, tr, ou, fi, un, nx, wi, en, ic, rc, ob, ib, K.same hv hw, I, fun z => (K1 z).same (fun p hp => hv p (by omega)) (fun p hp => hw p (by omega) (by omega)), fun z1 z2 => (K2 z1 z2).same (fun p hp => hv p (by omega)) (fun p h1 h2 => hw p (by omega) (by omega))⟩
theorem KE.at {v v' w w' : sv_T} {E s : Nat} (K : KE v w E s) (h4 : v' (E + 4) 4 = v (E + 4) 4) (h6 : v' (E + 6) = v (E + 6)) (h7 : w' 107 = w 107) (h9 : w' 109 = w 109) : KE v' w' E s := by
  unfold KE at K ⊢
  rw [h4, h6, h7, h9]
  exact K
theorem op_done {h B E s k : Nat} {w0 v w : sv_T} {ms : List MG} (P : PN h B w0 ms v w) (H : SR v w E s) : OP h B E s w0 ms v w k (some v) (some w) :=
  ⟨v, w, [], rfl, rfl, by rw [List.append_nil]; exact P, Nat.zero_le _, H, CX.rf, MX.rf⟩
theorem op_le {h B E s k k' : Nat} {w0 v w : sv_T} {ms : List MG} {X Y : Option sv_T} (H : OP h B E s w0 ms v w k X Y) (hk : k ≤ k') : OP h B E s w0 ms v w k' X Y := by
  obtain ⟨v', w', ms', a1, a2, a3, a4, a5⟩ := H
  exact ⟨v', w', ms', a1, a2, a3, Nat.le_trans a4 hk, a5⟩
/-- a step ahead that keeps PN and is within the frames -/
theorem op_pre {h B E s k : Nat} {w0 v w v1 w1 : sv_T} {ms : List MG} {X Y : Option sv_T} (C : CX E B v v1) (M : MX s w w1) (H : OP h B E s w0 ms v1 w1 k X Y) : OP h B E s w0 ms v w k X Y := by
  obtain ⟨v', w', ms', a1, a2, a3, a4, a5, a6, a7⟩ := H
  exact ⟨v', w', ms', a1, a2, a3, a4, a5, C.tr a6, M.tr a7⟩
theorem op_bind {h B E s k k1 : Nat} {w0 v w : sv_T} {ms : List MG} {X Y : Option sv_T} {f g : sv_T → Option sv_T} (H : OP h B E s w0 ms v w k X Y) (H2 : ∀ v' w' ms', PN h B w0 (ms ++ ms') v' w' → ms'.length ≤ k → SR v' w' E s → CX E B v v' → MX s w w' → OP h B E s w0 (ms ++ ms') v' w' k1 (f v') (g w')) : OP h B E s w0 ms v w (k + k1) (Option.bind X f) (Option.bind Y g) := by
  obtain ⟨v', w', ms', a1, a2, a3, a4, a5, a6, a7⟩ := H
  obtain ⟨v2, w2, ms2, b1, b2, b3, b4, b5, b6, b7⟩ := H2 v' w' ms' a3 a4 a5 a6 a7
  refine ⟨v2, w2, ms' ++ ms2, ?_, ?_, ?_, ?_, b5, a6.tr b6, a7.tr b7⟩
  · rw [a1]; exact b1
  · rw [a2]; exact b2
  · rw [← List.append_assoc]; exact b3
  · rw [List.length_append]; omega
/-- a segment without data goes, on both sides -/
theorem op_em {v w w0 : sv_T} {h j E B s fl sq : Nat} {ms : List MG} (hh : h ≤ 1) (hj : j ≤ 1) (hE : E = 25 + 33 * h + 7 * j) (hB : B = 9 + 33 * h) (hs : s = 2 * h + j) (P : PN h B w0 ms v w) (hl : ms.length < 8) (H : SR v w E s) (hf : fl < 256) (hsq : sq < 2 ^ 31) : OP h B E s w0 ms v w 1 (f_Ep_emit E (nI fl) (nI sq) v) (f_M_go (nI s) (nI fl) (nI sq) w) := by
  have H0 := H
  obtain ⟨st, ti, ro, tr, ou, fi, un, nx, wi, en, ic, rc, ob, ib, K, I, K1, K2⟩ := H
  obtain ⟨v', w', m, a1, a2, a3, a4, a5, a6⟩ := em_go hh hj hE hB hs P hl K I hf hsq
  exact ⟨v', w', [m], a1, a2, a3, Nat.le_refl _, H0.same (fun p hp => a5 p (by omega) (by omega)) (fun p h1 h2 => a6.1 p (by omega) (by omega) (by omega) (by omega) (by omega)), a5.cx, a6.mx⟩
/-- a socket is shut, on both sides -/
theorem op_sh {v w w0 : sv_T} {h j E B s : Nat} {ms : List MG} (hh : h ≤ 1) (hj : j ≤ 1) (hE : E = 25 + 33 * h + 7 * j) (hB : B = 9 + 33 * h) (hs : s = 2 * h + j) (P : PN h B w0 ms v w) : OP h B E s w0 ms v w 0 (f_Ep_shut E v) (f_M_closes (nI s) w) := by
  obtain ⟨v', w', a1, a2, ⟨a3, a4⟩, a5, a6, a7⟩ := sh_go (v := v) (w := w) hh hj hE hB hs
  refine ⟨v', w', [], a1, a2, ?_, Nat.le_refl _, ⟨_, _, _, _, _, _, _, _, _, _, _, _, _, _, a3, IV.fresh (by omega), fun _ => a4, fun z => by omega⟩, fun p h1 _ => a5 p h1, a6⟩
  rw [List.append_nil]
  exact P.keep hh hj hE hB (fun p hp => a5 p hp) (fun p h1 h2 => a7 p (by omega))
theorem op_shut1 {v w w0 : sv_T} {h j E B s : Nat} {ms : List MG} (hh : h ≤ 1) (hj : j ≤ 1) (hE : E = 25 + 33 * h + 7 * j) (hB : B = 9 + 33 * h) (hs : s = 2 * h + j) (P : PN h B w0 ms v w) : OP h B E s w0 ms v w 0 (sv_bv (f_Ep_shut E v) fun v1 => some v1) (sv_bv (f_M_closes (nI s) w) fun v1 => some v1) :=
  op_bind (k := 0) (k1 := 0) (op_sh hh hj hE hB hs P) (fun _ _ _ P1 _ H1 _ _ => op_done P1 H1)
theorem op_em1 {v w w0 : sv_T} {h j E B s fl sq : Nat} {ms : List MG} (hh : h ≤ 1) (hj : j ≤ 1) (hE : E = 25 + 33 * h + 7 * j) (hB : B = 9 + 33 * h) (hs : s = 2 * h + j) (P : PN h B w0 ms v w) (hl : ms.length < 8) (H : SR v w E s) (hf : fl < 256) (hsq : sq < 2 ^ 31) : OP h B E s w0 ms v w 1 (sv_bv (f_Ep_emit E (nI fl) (nI sq) v) fun v1 => some v1) (sv_bv (f_M_go (nI s) (nI fl) (nI sq) w) fun v1 => some v1) :=
  op_bind (k := 1) (k1 := 0) (op_em hh hj hE hB hs P hl H hf hsq) (fun _ _ _ P1 _ H1 _ _ => op_done P1 H1)
/-- a reset, then shut -/
theorem op_rst {v w w0 : sv_T} {h j E B s fl sq : Nat} {ms : List MG} (hh : h ≤ 1) (hj : j ≤ 1) (hE : E = 25 + 33 * h + 7 * j) (hB : B = 9 + 33 * h) (hs : s = 2 * h + j) (P : PN h B w0 ms v w) (hl : ms.length < 8) (H : SR v w E s) (hf : fl < 256) (hsq : sq < 2 ^ 31) : OP h B E s w0 ms v w 1 (sv_bv (f_Ep_emit E (nI fl) (nI sq) v) fun v1 => sv_bv (f_Ep_shut E v1) fun v2 => some v2) (sv_bv (f_M_go (nI s) (nI fl) (nI sq) w) fun v1 => sv_bv (f_M_closes (nI s) v1) fun v2 => some v2) :=
  op_bind (k := 1) (k1 := 0) (op_em hh hj hE hB hs P hl H hf hsq) (fun _ _ _ P1 _ _ _ _ => op_shut1 hh hj hE hB hs P1)
theorem ack_c {E : Nat} {v : sv_T} : f_Ep_emitAck E v = f_Ep_emit E 16 (v (sv_ref (sg E) 4) 4) v := rfl
theorem and16 (y : Int32) : ∃ n : Nat, n < 65536 ∧ y &&& 65535 = nI n := by
  rw [pk_and (m := 65535) _ 16 (by decide)]
  exact ⟨_, Nat.mod_lt _ (by decide), rfl⟩
theorem em_ak {p fl sq ak rm : Nat} {d : Nat → Nat} : em_f p fl sq (ak % 65536) rm d = em_f p fl sq ak rm d := by
  unfold em_f
  rw [show ak % 65536 / 256 % 256 = ak / 256 % 256 by omega, show ak % 65536 % 256 = ak % 256 by omega]
/-- when CLOSED -/
theorem cl_go {v w w0 : sv_T} {h j E B s G A fl sq ak wn dc : Nat} {dt : Nat → Nat} {ms : List MG} (hh : h ≤ 1) (hj : j ≤ 1) (hE : E = 25 + 33 * h + 7 * j) (hB : B = 9 + 33 * h) (hs : s = 2 * h + j) (P : PN h B w0 ms v w) (hl : ms.length < 8) (H : SR v w E s) (S : SG v w G A fl sq ak wn dc dt) :
    OP h B E s w0 ms v w 1 (f_Ep_answerWhenClosed E G v) (sv_bi (f_M_has (4 : Int32) w) fun x15 v14 => if x15 = 0 then sv_bi (f_M_span v14) fun x17 v16 => sv_bv (f_M_segmentGoes (nI s) (20 : Int32) (v14 75 47) (((v14 75 46) + x17) &&& (65535 : Int32)) (0 : Int32) (0 : Int32) v16) fun v18 => some v18 else some v14) := by
  obtain ⟨g1, g2, g3, g4, g5, g6, g7, g8, g9, g10, g11⟩ := S
  have a := @hb_le fl 2
  have b := @hb_le fl 1
  have hlen : sg_len fl dc ≤ 34 := by unfold sg_len; omega
  unfold f_Ep_answerWhenClosed
  simp only [has_c g2.1, has_m g2.2, sv_bi, Option.bind_some]
  rw [if_eq0 (by have := @hb_le fl 4; omega), if_eq0 (by have := @hb_le fl 4; omega)]
  by_cases z : hb fl 4 = 0
  · rw [if_pos z, if_pos z]
    simp only [len_c g2.1 g1.1, len_m g2.2 g1.2, Option.bind_some, g3.1, g3.2, g4.1, g4.2, nI_add]
    have H0 := H
    obtain ⟨st, ti, ro, tr, ou, fi, un, nx, wi, en, ic, rc, ob, ib, K, I, K1, K2⟩ := H
    obtain ⟨⟨i1, i2, i3, i4, i5, i6, i7, i8, i9, i10, i11, i12, i13⟩, _⟩ := I
    obtain ⟨p1, p2, p3, p4⟩ := P
    have k5 := K.2.2.2.2.1
    have k11 := K.2.2.2.2.2.2.2.2.2.2.1
    obtain ⟨v', c1, c2, c3⟩ := ce_go (fl := 20) (sq := ak) (ak := sq + sg_len fl dc) (fr := 0) (n := 0) (rm := 24 - ic) (d := fun _ => 0) hh hj hE hB p3 hl (by omega) (by omega) (by omega) (by omega) i6 (by omega) (by omega) k5.1 (by rw [k11.1]; congr 1; omega) (fun i hi => by omega) (fun i hi => by omega)
    obtain ⟨w', m1, m2, m3, m4⟩ := me_go (s := s) (fl := 20) (sq := ak) (ak := (sq + sg_len fl dc) % 65536) (fr := 0) (n := 0) (rm := 24 - ic) (d := fun _ => 0) hh (by omega) p4 (by omega) (by omega) (by omega) (by omega) (by omega) (by omega) (by rw [k11.2]; congr 1; omega) (fun i hi => by omega) (fun i hi => by omega)
    have es : s % 2 + 1 = 1 + j := by omega
    rw [es] at m2
    unfold em_m at m2
    rw [em_ak] at m2
    refine ⟨v', w', _, ?_, ?_, ⟨p1.keep (fun p hp => c3 p (by omega) (by omega)) (fun _ _ _ => rfl), p2.app m2, c2, m3⟩, Nat.le_refl _, H0.same (fun p hp => c3 p (by omega) (by omega)) (fun p h1 h2 => m4.1 p (by omega) (by omega) (by omega) (by omega) (by omega)), c3.cx, m4.mx⟩
    · show sv_bv (f_Ep_emitWhole E (nI 20) (nI ak) (nI (sq + sg_len fl dc)) (nI 0) (nI 0) v) _ = _
      rw [c1]
      rfl
    · rw [pk_andN (m := 65535) (by omega) 16 (by decide)]
      show sv_bv (f_M_segmentGoes (nI s) (nI 20) (nI ak) (nI ((sq + sg_len fl dc) % 65536)) (nI 0) (nI 0) w) _ = _
      rw [m1]
      rfl
  · rw [if_neg z, if_neg z]
    exact op_le (op_done P H) (by omega)
