theorem up_comm {v : sv_T} {p q i k : Nat} {x y : Int32} (h : p ≠ q) : sv_up (sv_up v p i x) q k y = sv_up (sv_up v q k y) p i x := by
  funext p' i'
  rw [up_a, up_a, up_a, up_a]
  by_cases h1 : p' = q ∧ i' = k
  · rw [if_pos h1, if_neg (fun z => h (z.1.symm.trans h1.1)), if_pos h1]
  · rw [if_neg h1, if_neg h1]
theorem IV.ti {st ti ro tr ou fi un nx wi en ic rc t : Nat} (I : IV st ti ro tr ou fi un nx wi en ic rc) (ht : t ≤ 32) (h1 : st ≤ 1 → t = 0) : IV st t ro tr ou fi un nx wi en ic rc := by
  obtain ⟨⟨i1, i2, i3, i4, i5, i6, i7, i8, i9, i10, i11, i12, i13⟩, j1, j2, j3, j4, j5⟩ := I
  exact ⟨⟨i1, ht, i3, i4, i5, i6, i7, i8, i9, i10, i11, i12, i13⟩, fun z => ⟨h1 z, (j1 z).2⟩, j2, j3, j4, j5⟩
theorem nI_ne {a b : Nat} (ha : a < 2 ^ 31) (hb : b < 2 ^ 31) (h : a ≠ b) : ¬ nI a = nI b := fun z => h ((nI_eq ha hb).mp z)
/-- the timer starts, if it must -/
theorem tm_go {v w : sv_T} {h j E B s st ti ro tr ou fi un nx wi en ic rc : Nat} {ob ib : Nat → Nat} (hh : h ≤ 1) (hj : j ≤ 1) (hE : E = 25 + 33 * h + 7 * j) (hB : B = 9 + 33 * h) (hs : s = 2 * h + j) (K : SK v w E s st ti ro tr ou fi un nx wi en ic rc ob ib) (I : IV st ti ro tr ou fi un nx wi en ic rc) (hst : 2 ≤ st) :
    ∃ v' w' ti', f_Ep_push_b71 E v = some v' ∧ f_M_push_b263 (nI s) w = some w' ∧ SK v' w' E s st ti' ro tr ou fi un nx wi en ic rc ob ib ∧ IV st ti' ro tr ou fi un nx wi en ic rc ∧ (∀ p, p ≠ E → v' p = v p) ∧ (∀ p, p ≠ 110 → w' p = w p) ∧ MX s w w' := by
  obtain ⟨s1, s2, s3, s4, s5, s6, s7, s8, s9, s10, s11, s12, s13⟩ := sh_E hh hj hE hB
  have K0 := K
  obtain ⟨k1, k2, k3, k4, k5, k6, k7, k8, k9, k10, k11, k12, k13, k14, k15⟩ := K
  have I0 := I
  obtain ⟨⟨i1, i2, i3, i4, i5, i6, i7, i8, i9, i10, i11, i12, i13⟩, j1, j2, j3, j4, j5⟩ := I
  have hs4 : s < 4 := by omega
  have set : f_Ep_push_b98 E v = some (sv_up v E 7 (nI ro)) ∧ f_M_push_b301 (nI s) w = some (sv_up w 110 s (nI ro)) := by
    constructor
    · unfold f_Ep_push_b98
      dsimp only [sv_ls]
      rw [k3.1]
    · unfold f_M_push_b301
      simp only [sv_ls, ck_n hs4 (show 4 < 2 ^ 31 by omega), nI_clamp (show s < 2 ^ 31 by omega), k3.2]
  have fin : ∃ v' w' ti', some (sv_up v E 7 (nI ro)) = some v' ∧ some (sv_up w 110 s (nI ro)) = some w' ∧ SK v' w' E s st ti' ro tr ou fi un nx wi en ic rc ob ib ∧ IV st ti' ro tr ou fi un nx wi en ic rc ∧ (∀ p, p ≠ E → v' p = v p) ∧ (∀ p, p ≠ 110 → w' p = w p) ∧ MX s w w' :=
    ⟨_, _, ro, rfl, rfl, K0.s_ti, I0.ti (by omega) (by omega), fun p hp => sv_up_off _ _ _ hp, fun p hp => sv_up_off _ _ _ hp, mx_up (by omega) (by omega) (by omega) (by omega) (by omega) (by omega)⟩
  have noth : ∃ v' w' ti', some v = some v' ∧ some w = some w' ∧ SK v' w' E s st ti' ro tr ou fi un nx wi en ic rc ob ib ∧ IV st ti' ro tr ou fi un nx wi en ic rc ∧ (∀ p, p ≠ E → v' p = v p) ∧ (∀ p, p ≠ 110 → w' p = w p) ∧ MX s w w' :=
    ⟨v, w, ti, rfl, rfl, K0, I0, fun _ _ => rfl, fun _ _ => rfl, MX.rf⟩
  unfold f_Ep_push_b71 f_M_push_b263 f_Snd_isAllConfirmed f_Snd_unsentCount
  simp only [s5, sn_c k5.1 k7.1 k8.1 i6 i8 i9, sn_m hs4 K0 I0, ck_n hs4 (show 4 < 2 ^ 31 by omega), nI_clamp (show s < 2 ^ 31 by omega), k2.1, k2.2, k7.1, k7.2, k8.1, k8.2, k5.1, k5.2, sv_bi, Option.bind_some]
  rw [if_eq0 (by omega), if_eq0 (by omega)]
  by_cases z : ti = 0
  · rw [if_pos z, if_pos z, if_eq (by omega) (by omega), if_eq (by omega) (by omega)]
    by_cases z2 : un = nx
    · rw [if_pos z2, if_pos z2.symm]
      simp only [Option.bind_some]
      rw [if_neg (by decide)]
      simp only [sn_c k5.1 k7.1 k8.1 i6 i8 i9, Option.bind_some, k5.1]
      rw [pk_sub (by omega), if_lt0 (by omega), if_lt (by omega) (by omega)]
      by_cases z3 : min (du nx un) ou < ou
      · rw [if_pos (by omega), if_pos z3, set.1, set.2]
        exact fin
      · rw [if_neg (by omega), if_neg z3]
        exact noth
    · rw [if_neg z2, if_neg (fun q => z2 q.symm)]
      simp only [Option.bind_some]
      rw [if_pos trivial, set.1, set.2]
      exact fin
  · rw [if_neg z, if_neg z]
    exact noth
/-- a segment without data -/
theorem em_go {v w w0 : sv_T} {h j E B s st ti ro tr ou fi un nx wi en ic rc fl sq : Nat} {ob ib : Nat → Nat} {ms : List MG} (hh : h ≤ 1) (hj : j ≤ 1) (hE : E = 25 + 33 * h + 7 * j) (hB : B = 9 + 33 * h) (hs : s = 2 * h + j) (P : PN h B w0 ms v w) (hl : ms.length < 8) (K : SK v w E s st ti ro tr ou fi un nx wi en ic rc ob ib) (I : IV st ti ro tr ou fi un nx wi en ic rc) (hf : fl < 256) (hsq : sq < 2 ^ 31) :
    ∃ v' w' m, f_Ep_emit E (nI fl) (nI sq) v = some v' ∧ f_M_go (nI s) (nI fl) (nI sq) w = some w' ∧ PN h B w0 (ms ++ [m]) v' w' ∧ SK v' w' E s st ti ro tr ou fi un nx wi en ic rc ob ib ∧ CE E B v v' ∧ ME w w' := by
  obtain ⟨s1, s2, s3, s4, s5, s6, s7, s8, s9, s10, s11, s12, s13⟩ := sh_E hh hj hE hB
  obtain ⟨⟨i1, i2, i3, i4, i5, i6, i7, i8, i9, i10, i11, i12, i13⟩, j1, j2, j3, j4, j5⟩ := I
  have k12 := K.2.2.2.2.2.2.2.2.2.2.2.1
  obtain ⟨v', w', m, c1, m1, P1, C1, M1⟩ := pn_emit (fl := fl) (sq := sq) (ak := rc) (fr := 0) (n := 0) hh hj hE hB hs P hl K i6 i12 hf hsq (by omega) (by omega) (by omega)
  refine ⟨v', w', m, ?_, ?_, P1, K.same (fun p hp => C1 p (by omega) (by omega)) (fun p h1 h2 => M1.1 p (by omega) (by omega) (by omega) (by omega) (by omega)), C1, M1⟩
  · unfold f_Ep_emit
    rw [s6, k12.1, show f_Ep_emitWhole E (nI fl) (nI sq) (nI rc) 0 0 v = some v' from c1]
    rfl
  · unfold f_M_go
    rw [ck_n (by omega) (by omega), nI_clamp (by omega), k12.2, show f_M_segmentGoes (nI s) (nI fl) (nI sq) (nI rc) 0 0 w = some w' from m1]
    rfl
/-- push, on both sides -/
theorem pu_go {v w w0 : sv_T} {h j E B s : Nat} {ms : List MG} (hh : h ≤ 1) (hj : j ≤ 1) (hE : E = 25 + 33 * h + 7 * j) (hB : B = 9 + 33 * h) (hs : s = 2 * h + j) (P : PN h B w0 ms v w) (hl : ms.length ≤ 4) (H : SR v w E s) : ∃ v' w' ms', f_Ep_push E v = some v' ∧ f_M_push (nI s) w = some w' ∧ PN h B w0 (ms ++ ms') v' w' ∧ ms'.length ≤ 3 ∧ SR v' w' E s ∧ CX E B v v' ∧ MX s w w' := by
  obtain ⟨s1, s2, s3, s4, s5, s6, s7, s8, s9, s10, s11, s12, s13⟩ := sh_E hh hj hE hB
  obtain ⟨st, ti, ro, tr, ou, fi, un, nx, wi, en, ic, rc, ob, ib, K, I, K1, K2⟩ := H
  have hs4 : s < 4 := by omega
  have i1 := I.1.1
  have k1 := K.1
  by_cases hst : st = 4 ∨ st = 7
  · obtain ⟨v1, w1, ms1, nx1, a1, a2, a3, a4, a5, a6, a7, a8, a9, a10⟩ := pb_all hh hj hE hB hs P (by omega) K I hst
    have hcl : ∀ v2, (if (v1 (E + 2) 6) = 0 then f_Ep_push_b71 E v1 else sv_bi (f_Snd_unsentCount (E + 2) v1) fun x10 v9 => if x10 = 0 then sv_bv (f_Ep_emit E (17 : Int32) (v9 (E + 2) 4) v9) fun v11 => sv_bv (f_Snd_countSent (E + 2) (1 : Int32) v11) fun v12 => if (v12 E 6) = (4 : Int32) then f_Ep_push_b68 E (5 : Int32) E v12 else f_Ep_push_b68 E (9 : Int32) E v12 else f_Ep_push_b71 E v9) = some v2 → f_Ep_push E v = some v2 := by
      intro v2 e
      unfold f_Ep_push f_Ep_isSendingState
      rw [s5, k1.1, show (4 : Int32) = nI 4 from rfl, show (7 : Int32) = nI 7 from rfl, if_eq (by omega) (by omega), if_eq (by omega) (by omega)]
      have e9 : (if st = 4 then some ((1 : Int32), v) else if st = 7 then some ((1 : Int32), v) else some ((0 : Int32), v)) = some ((1 : Int32), v) := by
        rcases hst with z | z
        · rw [if_pos z]
        · rw [if_neg (by omega), if_pos z]
      rw [e9]
      simp only [sv_bi, Option.bind_some]
      rw [if_neg (by decide), a1]
      exact e
    have hml : ∀ w2, f_M_push_x181 (nI s) w1 = some w2 → f_M_push (nI s) w = some w2 := by
      intro w2 e
      have e44 : f_M_push_b22 (nI s) w = some w2 := by
        unfold f_M_push_b22 f_M_push_b44
        have k9 := K.2.2.2.2.2.2.2.2.1
        have i10 := I.1.2.2.2.2.2.2.2.2.2.1
        simp only [ck_n hs4 (show 4 < 2 ^ 31 by omega), nI_clamp (show s < 2 ^ 31 by omega), k9.2]
        rw [show (48 : Int32) = nI 48 from rfl, if_lt (by omega) (by omega)]
        by_cases z : wi < 48
        · rw [if_pos z]
          rw [show min wi 48 = wi by omega] at a2
          rw [a2]
          exact e
        · rw [if_neg z]
          rw [show min wi 48 = 48 by omega] at a2
          rw [a2]
          exact e
      unfold f_M_push
      simp only [ck_n hs4 (show 4 < 2 ^ 31 by omega), nI_clamp (show s < 2 ^ 31 by omega), k1.2]
      rw [show (4 : Int32) = nI 4 from rfl, show (7 : Int32) = nI 7 from rfl, if_eq (by omega) (by omega), if_eq (by omega) (by omega), e44]
      rcases hst with z | z
      · rw [if_pos z]
      · rw [if_neg (by omega), if_pos z]
    have K2' : ∀ v2 w2, (∀ p, p = E + 4 ∨ p = E + 6 → v2 p = v1 p) → (∀ p, 107 ≤ p → p ≤ 109 → w2 p = w1 p) → st ≤ 6 → KP v2 w2 E s rc ic := fun v2 w2 q1 q2 q3 => (K2 (by omega) q3).same (fun p hp => (q1 p hp).trans (a9 p hp)) (fun p h1 h2 => (q2 p h1 h2).trans (a10 p h1 h2))
    have k5 := a5.2.2.2.2.1
    have k7 := a5.2.2.2.2.2.2.1
    have k8 := a5.2.2.2.2.2.2.2.1
    have k10 := a5.2.2.2.2.2.2.2.2.2.1
    have k1' := a5.1
    have b := a6.1
    obtain ⟨b1, b2, b3, b4, b5, b6, b7, b8, b9, b10, b11, b12, b13⟩ := b
    have hu1 := a6.2.2.2.1 hst
    -- neither ending nor all sent: only the timer
    have plain : f_Ep_push_b71 E v1 = f_Ep_push_b71 E v1 → (∀ v2, f_Ep_push_b71 E v1 = some v2 → f_Ep_push E v = some v2) → (∀ w2, f_M_push_b263 (nI s) w1 = some w2 → f_M_push_x181 (nI s) w1 = some w2) → ∃ v' w' ms', f_Ep_push E v = some v' ∧ f_M_push (nI s) w = some w' ∧ PN h B w0 (ms ++ ms') v' w' ∧ ms'.length ≤ 3 ∧ SR v' w' E s ∧ CX E B v v' ∧ MX s w w' := by
      intro _ h1 h2
      obtain ⟨v2, w2, t2, c1, c2, c3, c4, c5, c6, c7⟩ := tm_go hh hj hE hB hs a5 a6 (by omega)
      refine ⟨v2, w2, ms1, h1 v2 c1, hml w2 (h2 w2 c2), a3.keep hh hj hE hB (fun p hp => c5 p (by omega)) (fun p h1 h2 => c6 p (by omega)), by omega, ⟨_, _, _, _, _, _, _, _, _, _, _, _, _, _, c3, c4, fun z => by omega, fun z1 z2 => K2' v2 w2 (fun p hp => c5 p (by omega)) (fun p h1 h2 => c6 p (by omega)) z2⟩, a7.tr (fun p h1 _ => c5 p (by omega)), a8.tr c7⟩
    by_cases ze : en = 0
    · refine plain rfl (fun v2 e => hcl v2 ?_) (fun w2 e => ?_)
      · rw [k10.1, if_eq0 (by omega), if_pos ze]
        exact e
      · unfold f_M_push_x181
        simp only [ck_n hs4 (show 4 < 2 ^ 31 by omega), nI_clamp (show s < 2 ^ 31 by omega), k10.2]
        rw [if_eq0 (by omega), if_pos ze]
        exact e
    · by_cases zs : du nx1 un = ou
      · -- the FIN goes
        obtain ⟨v3, w3, m3, d1, d2, d3, d4, d5, d6⟩ := em_go (fl := 17) (sq := nx1) hh hj hE hB hs a3 (by simp; omega) a5 a6 (by omega) (by omega)
        have en16 : (nI nx1 + 1) &&& 65535 = nI ((nx1 + 1) % 65536) := add16 (b := 1) (by omega) (by omega)
        have hdu : du ((nx1 + 1) % 65536) un = ou + 1 := by rw [du_add b9 b8 (by omega), zs]
        generalize hx : (if st = 4 then 5 else 9 : Nat) = x
        have hx5 : (st = 4 ∧ x = 5) ∨ (st = 7 ∧ x = 9) := by
          rcases hst with z | z
          · left; rw [if_pos z] at hx; omega
          · right; rw [if_neg (by omega)] at hx; omega
        have Kf := (d4.s_nx (x := (nx1 + 1) % 65536)).s_fin (x := x) (by unfold fsOf; rw [if_pos (by omega)])
        have If : IV x ti ro tr ou fi un ((nx1 + 1) % 65536) wi en ic rc := ⟨⟨by omega, b2, b3, b4, b5, b6, b7, b8, by omega, b10, b11, b12, b13⟩, fun z => by omega, fun z => by omega, fun z => by omega, fun z => by rw [hdu], fun z => by omega⟩
        rw [up_comm (p := 98) (q := 104) (by decide)] at Kf
        obtain ⟨v4, w4, t4, e1, e2, e3, e4, e5, e6, e7⟩ := tm_go hh hj hE hB hs Kf If (by omega)
        have q3 : ∀ p, p < E ∨ E + 6 < p → v4 p = v3 p := fun p hp => by
          rw [e5 p (by omega), sv_up_off _ _ _ (by omega), sv_up_off _ _ _ (by omega)]
        have q4 : ∀ p, p ≠ 110 → p ≠ 95 → p ≠ 98 → p ≠ 104 → w4 p = w3 p := fun p h1 h2 h3 h4 => by
          rw [e6 p h1, sv_up_off _ _ _ h2, sv_up_off _ _ _ h3, sv_up_off _ _ _ h4]
        have q5 : ∀ p, p = E + 4 ∨ p = E + 6 → v4 p = v1 p := fun p hp => by
          rw [e5 p (by omega), sv_up_off _ _ _ (by omega), sv_up_off _ _ _ (by omega), d5 p (by omega) (by omega)]
        have q6 : ∀ p, 107 ≤ p → p ≤ 109 → w4 p = w1 p := fun p h1 h2 => by
          rw [q4 p (by omega) (by omega) (by omega) (by omega), d6.1 p (by omega) (by omega) (by omega) (by omega) (by omega)]
        refine ⟨v4, w4, ms1 ++ [m3], hcl v4 ?_, hml w4 ?_, ?_, by rw [List.length_append]; simp; omega, ⟨_, _, _, _, _, _, _, _, _, _, _, _, _, _, e3, e4, fun z => by omega, fun z1 z2 => K2' v4 w4 q5 q6 (by omega)⟩, (a7.tr d5.cx).tr (fun p h1 _ => q3 p h1), ((a8.tr (d6.mx (s := s))).tr ?_).tr e7⟩
        · rw [k10.1, if_eq0 (by omega), if_neg ze]
          unfold f_Snd_unsentCount
          rw [sn_c k5.1 k7.1 k8.1 b6 b8 b9]
          simp only [sv_bi, Option.bind_some, k5.1]
          rw [zs, Nat.min_self, pk_sub (by omega), Nat.sub_self, if_pos (by decide), k8.1, show f_Ep_emit E 17 (nI nx1) v1 = some v3 from d1]
          unfold f_Snd_countSent f_Ep_push_b68
          simp only [sv_bv, sv_ls, Option.bind_some]
          rw [d4.2.2.2.2.2.2.2.1.1, en16, up_q (by omega), d4.1.1, show (4 : Int32) = nI 4 from rfl, if_eq (by omega) (by omega)]
          rcases hx5 with ⟨z1, z2⟩ | ⟨z1, z2⟩
          · rw [if_pos z1]
            rw [z2] at e1
            exact e1
          · rw [if_neg (by omega)]
            rw [z2] at e1
            exact e1
        · unfold f_M_push_x181
          simp only [ck_n hs4 (show 4 < 2 ^ 31 by omega), nI_clamp (show s < 2 ^ 31 by omega), k10.2, sn_m hs4 a5 a6, sv_bi, Option.bind_some, k5.2, k8.2]
          rw [if_eq0 (by omega), if_neg ze, zs, Nat.min_self, if_pos rfl, show f_M_go (nI s) 17 (nI nx1) w1 = some w3 from d2]
          unfold f_M_push_b262
          simp only [sv_bv, sv_ls, Option.bind_some, ck_n hs4 (show 4 < 2 ^ 31 by omega), nI_clamp (show s < 2 ^ 31 by omega)]
          rw [up_q (show 98 ≠ 104 by decide), d4.2.2.2.2.2.2.2.1.2, en16, up_q (show 95 ≠ 98 by decide), up_q (show 95 ≠ 104 by decide), d4.1.2, show (4 : Int32) = nI 4 from rfl, if_eq (by omega) (by omega)]
          rcases hx5 with ⟨z1, z2⟩ | ⟨z1, z2⟩
          · rw [if_pos z1]
            rw [z2] at e2
            exact e2
          · rw [if_neg (by omega)]
            rw [z2] at e2
            exact e2
        · rw [← List.append_assoc]
          exact d3.keep hh hj hE hB q3 (fun p h1 h2 => q4 p (by omega) (by omega) (by omega) (by omega))
        · exact ((mx_up (by omega) (by omega) (by omega) (by omega) (by omega) (by omega)).tr (mx_up (by omega) (by omega) (by omega) (by omega) (by omega) (by omega))).tr (mx_up (by omega) (by omega) (by omega) (by omega) (by omega) (by omega))
      · refine plain rfl (fun v2 e => hcl v2 ?_) (fun w2 e => ?_)
        · rw [k10.1, if_eq0 (by omega), if_neg ze]
          unfold f_Snd_unsentCount
          rw [sn_c k5.1 k7.1 k8.1 b6 b8 b9]
          simp only [sv_bi, Option.bind_some, k5.1]
          rw [pk_sub (by omega), if_eq0 (by omega), if_neg (by omega)]
          exact e
        · unfold f_M_push_x181
          simp only [ck_n hs4 (show 4 < 2 ^ 31 by omega), nI_clamp (show s < 2 ^ 31 by omega), k10.2, sn_m hs4 a5 a6, sv_bi, Option.bind_some, k5.2]
          rw [if_eq0 (by omega), if_neg ze, if_eq (by omega) (by omega), if_neg (by omega)]
          exact e
  · refine ⟨v, w, [], ?_, ?_, by rw [List.append_nil]; exact P, by simp, ⟨_, _, _, _, _, _, _, _, _, _, _, _, _, _, K, I, K1, K2⟩, CX.rf, MX.rf⟩
    · unfold f_Ep_push f_Ep_isSendingState
      rw [k1.1, show (4 : Int32) = nI 4 from rfl, show (7 : Int32) = nI 7 from rfl, if_eq (by omega) (by omega), if_eq (by omega) (by omega), if_neg (by omega), if_neg (by omega)]
      rfl
    · unfold f_M_push
      simp only [ck_n hs4 (show 4 < 2 ^ 31 by omega), nI_clamp (show s < 2 ^ 31 by omega), k1.2]
      rw [show (4 : Int32) = nI 4 from rfl, show (7 : Int32) = nI 7 from rfl, if_eq (by omega) (by omega), if_eq (by omega) (by omega), if_neg (by omega), if_neg (by omega)]
