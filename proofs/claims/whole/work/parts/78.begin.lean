/-- a connection begins -/
theorem bg_go {v w : sv_T} {h j E B s st ti ro tr ou fi un nx wi en ic rc : Nat} {c : Int32} {ob ib : Nat → Nat} (hh : h ≤ 1) (hj : j ≤ 1) (hE : E = 25 + 33 * h + 7 * j) (hB : B = 9 + 33 * h) (hs : s = 2 * h + j) (K : SK v w E s st ti ro tr ou fi un nx wi en ic rc ob ib) (hc : w 75 0 = c) :
    ∃ v' w' f, f_Ep_begin E c v = some v' ∧ f_M_begins (nI s) w = some w' ∧ f < 65536 ∧ SK v' w' E s st ro ro tr ou f f ((f + 1) % 65536) wi en ic rc ob ib ∧ (∀ p, p ≠ E → p ≠ E + 2 → v' p = v p) ∧ (∀ p, p < 96 ∨ (98 < p ∧ p ≠ 110) → w' p = w p) ∧ MX s w w' := by
  obtain ⟨s1, s2, s3, s4, s5, s6, s7, s8, s9, s10, s11, s12, s13⟩ := sh_E hh hj hE hB
  have hs4 : s < 4 := by omega
  obtain ⟨f, hf, e⟩ := and16 ((1000 * nI h + 100 * nI (1 + j)) + c)
  have e1 : (nI s) / (2 : Int32) = nI h ∧ (sv_rem (nI s) (2 : Int32)) + (1 : Int32) = nI (1 + j) := by
    subst hs
    rcases (show h = 0 ∨ h = 1 by omega) with rfl | rfl <;> rcases (show j = 0 ∨ j = 1 by omega) with rfl | rfl <;> exact ⟨by decide, by decide⟩
  have e2 : (nI f + 1) &&& 65535 = nI ((f + 1) % 65536) := add16 (b := 1) (by omega) (by omega)
  have n1 : E ≠ E + 2 := by omega
  have k3 := K.2.2.1
  refine ⟨_, _, f, ?_, ?_, hf, (((K.s_fi (x := f)).s_un (x := f)).s_nx (x := (f + 1) % 65536)).s_ti (x := ro), fun p h1 h2 => ?_, fun p h1 => ?_, ?_⟩
  · unfold f_Ep_begin f_Snd_begin
    dsimp only [sv_ls, sv_bv, Option.bind]
    simp only [s5, s1, s2, e, up_s, up_i (show 2 ≠ 3 by decide), e2, up_q n1, k3.1]
  · unfold f_M_begins
    dsimp only [sv_ls]
    simp only [ck_n hs4 (show 4 < 2 ^ 31 by omega), nI_clamp (show s < 2 ^ 31 by omega), e1.1, e1.2, hc, e, up_s, up_q (show 96 ≠ 97 by decide), e2, up_q (show 111 ≠ 96 by decide), up_q (show 111 ≠ 97 by decide), up_q (show 111 ≠ 98 by decide), k3.2]
  · rw [sv_up_off _ _ _ h1, sv_up_off _ _ _ h2, sv_up_off _ _ _ h2, sv_up_off _ _ _ h2]
  · rw [sv_up_off _ _ _ (by omega), sv_up_off _ _ _ (by omega), sv_up_off _ _ _ (by omega), sv_up_off _ _ _ (by omega)]
  · exact ((mx_up (by omega) (by omega) (by omega) (by omega) (by omega) (by omega)).tr (mx_up (by omega) (by omega) (by omega) (by omega) (by omega) (by omega))).tr ((mx_up (by omega) (by omega) (by omega) (by omega) (by omega) (by omega)).tr (mx_up (by omega) (by omega) (by omega) (by omega) (by omega) (by omega)))
theorem hb_if {α : Type} {fl : Nat} {f : Int32} {X Y : α} : (if nI (hb fl f) = 0 then X else Y) = if hb fl f = 0 then X else Y := if_eq0 (by have := @hb_le fl f; omega)
/-- when LISTENing -/
theorem li_go {v w w0 : sv_T} {h j E B s G A fl sq ak wn dc : Nat} {dt : Nat → Nat} {c : Int32} {ms : List MG} (hh : h ≤ 1) (hj : j ≤ 1) (hE : E = 25 + 33 * h + 7 * j) (hB : B = 9 + 33 * h) (hs : s = 2 * h + j) (hG : G = B + 15) (P : PN h B w0 ms v w) (hl : ms.length < 8) (H : SR v w E s) (hst : v E 6 = nI 1) (hc : w 75 0 = c) (S : SG v w G A fl sq ak wn dc dt) :
    OP h B E s w0 ms v w 1 (f_Ep_answerWhenListening E G c v) (f_M_listens (nI s) w) := by
  obtain ⟨s1, s2, s3, s4, s5, s6, s7, s8, s9, s10, s11, s12, s13⟩ := sh_E hh hj hE hB
  have hs4 : s < 4 := by omega
  have H0 := H
  obtain ⟨g1, g2, g3, g4, g5, g6, g7, g8, g9, g10, g11⟩ := S
  unfold f_Ep_answerWhenListening f_M_listens
  simp only [has_c g2.1, has_m g2.2, sv_bi, Option.bind_some, hb_if]
  by_cases z4 : hb fl 4 = 0
  · rw [if_pos z4, if_pos z4]
    by_cases z16 : hb fl 16 = 0
    · rw [if_pos z16, if_pos z16]
      by_cases z2 : hb fl 2 = 0
      · rw [if_pos z2, if_pos z2]
        exact op_done P H
      · rw [if_neg z2, if_neg z2]
        obtain ⟨st, ti, ro, tr, ou, fi, un, nx, wi, en, ic, rc, ob, ib, K, I, K1, K2⟩ := H
        have e1 : st = 1 := (nI_eq (by have := I.1.1; omega) (by omega)).mp (K.1.1.symm.trans hst)
        subst e1
        obtain ⟨rfl, rfl, rfl, rfl, rfl, rfl, rfl, rfl, rfl, rfl, rfl⟩ := I.2.1 (by omega)
        obtain ⟨v1, w1, f, a1, a2, a3, a4, a5, a6, a7⟩ := bg_go hh hj hE hB hs K hc
        have e2 : (nI sq + 1) &&& 65535 = nI ((sq + 1) % 65536) := add16 (b := 1) (by omega) (by omega)
        have n1 : G ≠ E + 4 := by omega
        have n2 : G ≠ E := by omega
        have n3 : G ≠ E + 2 := by omega
        have n4 : E + 2 ≠ E := by omega
        have r1 : v1 G = v G := a5 G n2 n3
        have r2 : w1 75 = w 75 := a6 75 (by omega)
        have K3 := ((a4.s_rc (x := (sq + 1) % 65536)).s_wi (x := wn)).s_st (x := 3) rfl
        have kfi := K3.2.2.2.2.2.1
        have I3 : IV 3 4 4 0 0 f f ((f + 1) % 65536) wn 0 0 ((sq + 1) % 65536) := ⟨⟨by omega, by omega, by omega, by omega, by omega, by omega, by omega, by omega, by omega, by omega, by omega, by omega, by omega⟩, fun z => by omega, fun _ => ⟨rfl, rfl, rfl, rfl⟩, fun z => by omega, fun z => by omega, fun z => by omega⟩
        rw [a1, a2]
        simp only [sv_bv, Option.bind_some, f_Rcv_startAfter, sv_ls, s5, s6, r1, r2, g3.1, g3.2, e2, ck_n hs4 (show 4 < 2 ^ 31 by omega), nI_clamp (show s < 2 ^ 31 by omega), sv_up_off _ _ _ n1, up_q (show 75 ≠ 99 by decide), g5.1, g5.2]
        rw [show (3 : Int32) = nI 3 from rfl, kfi.1, kfi.2]
        have C3 : ∀ p, p < E ∨ E + 6 < p → sv_up (sv_up (sv_up v1 (E + 4) 3 (nI ((sq + 1) % 65536))) (E + 2) 5 (nI wn)) E 6 (nI 3) p = v p := fun p hp => by
          rw [sv_up_off _ _ _ (by omega), sv_up_off _ _ _ (by omega), sv_up_off _ _ _ (by omega), a5 p (by omega) (by omega)]
        have M3 : MX s w (sv_up (sv_up (sv_up w1 99 s (nI ((sq + 1) % 65536))) 100 s (nI wn)) 95 s (nI 3)) := a7.tr (((mx_up (by omega) (by omega) (by omega) (by omega) (by omega) (by omega)).tr (mx_up (by omega) (by omega) (by omega) (by omega) (by omega) (by omega))).tr (mx_up (by omega) (by omega) (by omega) (by omega) (by omega) (by omega)))
        refine op_pre (fun p h1 _ => C3 p h1) M3 (op_em1 (fl := 18) (sq := f) hh hj hE hB hs (P.keep hh hj hE hB C3 (fun p h1 h2 => ?_)) hl ⟨_, _, _, _, _, _, _, _, _, _, _, _, _, _, K3, I3, fun _ => (K1 (by omega)).at ?_ ?_ ?_ ?_, fun z => by omega⟩ (by omega) (by omega))
        · rw [sv_up_off _ _ _ (by omega), sv_up_off _ _ _ (by omega), sv_up_off _ _ _ (by omega), a6 p (by omega)]
        · rw [up_q (by omega), up_q (by omega), up_i (by decide), a5 _ (by omega) (by omega)]
        · rw [sv_up_off _ _ _ (by omega), sv_up_off _ _ _ (by omega), sv_up_off _ _ _ (by omega), a5 _ (by omega) (by omega)]
        · rw [sv_up_off _ _ _ (by omega), sv_up_off _ _ _ (by omega), sv_up_off _ _ _ (by omega), a6 _ (by omega)]
        · rw [sv_up_off _ _ _ (by omega), sv_up_off _ _ _ (by omega), sv_up_off _ _ _ (by omega), a6 _ (by omega)]
    · rw [if_neg z16, if_neg z16, g4.1, g4.2]
      exact op_em1 (fl := 4) (sq := ak) hh hj hE hB hs P hl H0 (by omega) (by omega)
  · rw [if_neg z4, if_neg z4]
    exact op_done P H
