theorem IV.wi {st ti ro tr ou fi un nx wi en ic rc x : Nat} (I : IV st ti ro tr ou fi un nx wi en ic rc) (hx : x < 256) (h2 : 2 ≤ st) : IV st ti ro tr ou fi un nx x en ic rc := by
  obtain ⟨⟨i1, i2, i3, i4, i5, i6, i7, i8, i9, i10, i11, i12, i13⟩, j1, j2, j3, j4, j5⟩ := I
  exact ⟨⟨i1, i2, i3, i4, i5, i6, i7, i8, i9, hx, i11, i12, i13⟩, fun z => by omega, j2, j3, j4, j5⟩
/-- what follows when all is confirmed -/
theorem al_go {v w w0 : sv_T} {h j E B s st ti ro tr ou fi un nx wi en ic rc : Nat} {ob ib : Nat → Nat} {ms : List MG} (hh : h ≤ 1) (hj : j ≤ 1) (hE : E = 25 + 33 * h + 7 * j) (hB : B = 9 + 33 * h) (hs : s = 2 * h + j) (P : PN h B w0 ms v w) (K : SK v w E s st ti ro tr ou fi un nx wi en ic rc ob ib)
    (b : st ≤ 10 ∧ ti ≤ 32 ∧ 4 ≤ ro ∧ ro ≤ 32 ∧ tr ≤ 6 ∧ ou ≤ 64 ∧ fi < 65536 ∧ un < 65536 ∧ nx < 65536 ∧ wi < 256 ∧ en ≤ 1 ∧ ic ≤ 24 ∧ rc < 65536) (hq : ¬ (un = nx ∧ (st = 5 ∨ st = 8 ∨ st = 9)) → IV st ti ro tr ou fi un nx wi en ic rc) (hz : un = nx → (st = 5 ∨ st = 8 ∨ st = 9) → ou = 0) (hst : 4 ≤ st) (K2 : st ≤ 6 → KP v w E s rc ic) :
    ∃ v' w' x, x ≤ 1 ∧ (sv_bi (f_Snd_isAllConfirmed (E + 2) v) fun x7 v6 => if x7 = 0 then f_Ep_takeConfirmation_b77 E v6 else sv_bv (f_Ep_allIsConfirmed E v6) fun v8 => f_Ep_takeConfirmation_b77 E v8) = some (nI (1 - x), v') ∧ f_M_ends (nI s) w = some (nI x, w') ∧ PN h B w0 ms v' w' ∧ SR v' w' E s ∧ CX E B v v' ∧ MX s w w' ∧ (x = 0 → ∃ st', 4 ≤ st' ∧ st' ≤ 10 ∧ v' E 6 = nI st') ∧ w' 114 = w 114 := by
  have hs4 : s < 4 := by omega
  obtain ⟨i1, i2, i3, i4, i5, i6, i7, i8, i9, i10, i11, i12, i13⟩ := b
  have K0 := K
  obtain ⟨k1, k2, k3, k4, k5, k6, k7, k8, k9, k10, k11, k12, k13, k14, k15⟩ := K
  have hfs : fsOf st ≤ 1 := by unfold fsOf; split <;> omega
  have e77 : ∀ (v' : sv_T) (x : Nat), x ≠ 0 → x ≤ 10 → v' E 6 = nI x → f_Ep_takeConfirmation_b77 E v' = some (nI 1, v') := fun v' x h0 h1 h2 => by
    unfold f_Ep_takeConfirmation_b77
    rw [h2, if_eq0 (by omega), if_neg h0]
    rfl
  have same : f_M_ends (nI s) w = some (nI 0, w) → (sv_bi (f_Snd_isAllConfirmed (E + 2) v) fun x7 v6 => if x7 = 0 then f_Ep_takeConfirmation_b77 E v6 else sv_bv (f_Ep_allIsConfirmed E v6) fun v8 => f_Ep_takeConfirmation_b77 E v8) = some (nI 1, v) → IV st ti ro tr ou fi un nx wi en ic rc → ∃ v' w' x, x ≤ 1 ∧ (sv_bi (f_Snd_isAllConfirmed (E + 2) v) fun x7 v6 => if x7 = 0 then f_Ep_takeConfirmation_b77 E v6 else sv_bv (f_Ep_allIsConfirmed E v6) fun v8 => f_Ep_takeConfirmation_b77 E v8) = some (nI (1 - x), v') ∧ f_M_ends (nI s) w = some (nI x, w') ∧ PN h B w0 ms v' w' ∧ SR v' w' E s ∧ CX E B v v' ∧ MX s w w' ∧ (x = 0 → ∃ st', 4 ≤ st' ∧ st' ≤ 10 ∧ v' E 6 = nI st') ∧ w' 114 = w 114 :=
    fun h1 h2 h3 => ⟨v, w, 0, by omega, h2, h1, P, ⟨_, _, _, _, _, _, _, _, _, _, _, _, _, _, K0, h3, fun z => by omega, fun _ z => K2 z⟩, CX.rf, MX.rf, fun _ => ⟨st, hst, i1, k1.1⟩, rfl⟩
  have hM : f_M_ends (nI s) w = if fsOf st = 0 then some (nI 0, w) else if un = nx then (if st = 5 then some (nI 0, sv_up w 95 s (nI 6)) else if st = 8 then some (nI 0, sv_up (sv_up w 95 s (nI 10)) 110 s (nI 8)) else if st = 9 then sv_bv (f_M_closes (nI s) w) fun v1 => some (nI 1, v1) else some (nI 0, w)) else some (nI 0, w) := by
    unfold f_M_ends
    simp only [sv_ls, ck_n hs4 (show 4 < 2 ^ 31 by omega), nI_clamp (show s < 2 ^ 31 by omega), k13, k7.2, k8.2, k1.2, show (5 : Int32) = nI 5 from rfl, show (8 : Int32) = nI 8 from rfl, show (9 : Int32) = nI 9 from rfl]
    rw [if_eq0 (by omega), if_eq (by omega) (by omega), if_eq (by omega) (by omega), if_eq (by omega) (by omega), if_eq (by omega) (by omega)]
    rfl
  have hC : (sv_bi (f_Snd_isAllConfirmed (E + 2) v) fun x7 v6 => if x7 = 0 then f_Ep_takeConfirmation_b77 E v6 else sv_bv (f_Ep_allIsConfirmed E v6) fun v8 => f_Ep_takeConfirmation_b77 E v8) = if un = nx then (sv_bv (f_Ep_allIsConfirmed E v) fun v8 => f_Ep_takeConfirmation_b77 E v8) else f_Ep_takeConfirmation_b77 E v := by
    unfold f_Snd_isAllConfirmed
    rw [k7.1, k8.1, if_eq (by omega) (by omega)]
    by_cases z : un = nx
    · rw [if_pos z, if_pos z]
      rfl
    · rw [if_neg z, if_neg z]
      rfl
  have hA : f_Ep_allIsConfirmed E v = if st = 5 then some (sv_up v E 6 (nI 6)) else if st = 8 then some (sv_up (sv_up v E 6 (nI 10)) E 7 (nI 8)) else if st = 9 then sv_bv (f_Ep_shut E v) fun v1 => some v1 else some v := by
    unfold f_Ep_allIsConfirmed f_Ep_startTime
    simp only [sv_ls, sv_bv, Option.bind_some, k1.1, show (5 : Int32) = nI 5 from rfl, show (8 : Int32) = nI 8 from rfl, show (9 : Int32) = nI 9 from rfl]
    rw [if_eq (by omega) (by omega), if_eq (by omega) (by omega), if_eq (by omega) (by omega)]
    rfl
  by_cases z : un = nx
  · have hC2 := hC
    rw [if_pos z, hA] at hC2
    by_cases z5 : st = 5
    · have ef : fsOf st = 1 := by rw [z5]; rfl
      rw [ef, if_neg (by omega), if_pos z, if_pos z5] at hM
      rw [if_pos z5] at hC2
      have e0 := hz z (Or.inl z5)
      refine ⟨_, _, 0, by omega, hC2.trans (e77 _ 6 (by omega) (by omega) up_s), hM, P.keep hh hj hE hB (fun p hp => sv_up_off _ _ _ (by omega)) (fun p h1 h2 => sv_up_off _ _ _ (by omega)), ⟨_, _, _, _, _, _, _, _, _, _, _, _, _, _, K0.s_st (x := 6) (by rw [ef]; rfl), ⟨⟨by omega, i2, i3, i4, i5, i6, i7, i8, i9, i10, i11, i12, i13⟩, fun z => by omega, fun z => by omega, fun z => by omega, fun z => by omega, fun _ => ⟨z.symm, e0⟩⟩, fun z => by omega, fun _ _ => (K2 (by omega)).same (fun p hp => sv_up_off _ _ _ (by omega)) (fun p h1 h2 => sv_up_off _ _ _ (by omega))⟩, cx_e, mx_up (by omega) (by omega) (by omega) (by omega) (by omega) (by omega), fun _ => ⟨6, by omega, by omega, up_s⟩, sv_up_off _ _ _ (by omega)⟩
    · rw [if_neg z5] at hC2
      by_cases z8 : st = 8
      · have ef : fsOf st = 1 := by rw [z8]; rfl
        rw [ef, if_neg (by omega), if_pos z, if_neg z5, if_pos z8] at hM
        rw [if_pos z8] at hC2
        have e0 := hz z (Or.inr (Or.inl z8))
        have e6 : sv_up (sv_up v E 6 (nI 10)) E 7 (nI 8) E 6 = nI 10 := by rw [up_i (by decide), up_s]
        refine ⟨_, _, 0, by omega, hC2.trans (e77 _ 10 (by omega) (by omega) e6), hM, P.keep hh hj hE hB (fun p hp => by rw [sv_up_off _ _ _ (by omega), sv_up_off _ _ _ (by omega)]) (fun p h1 h2 => by rw [sv_up_off _ _ _ (by omega), sv_up_off _ _ _ (by omega)]), ⟨_, _, _, _, _, _, _, _, _, _, _, _, _, _, (K0.s_st (x := 10) (by rw [ef]; rfl)).s_ti (x := 8), ⟨⟨by omega, by omega, i3, i4, i5, i6, i7, i8, i9, i10, i11, i12, i13⟩, fun z => by omega, fun z => by omega, fun z => by omega, fun z => by omega, fun _ => ⟨z.symm, e0⟩⟩, fun z => by omega, fun _ z => by omega⟩, cx_e.tr cx_e, (mx_up (by omega) (by omega) (by omega) (by omega) (by omega) (by omega)).tr (mx_up (by omega) (by omega) (by omega) (by omega) (by omega) (by omega)), fun _ => ⟨10, by omega, by omega, e6⟩, by rw [sv_up_off _ _ _ (by omega), sv_up_off _ _ _ (by omega)]⟩
      · rw [if_neg z8] at hC2
        by_cases z9 : st = 9
        · have ef : fsOf st = 1 := by rw [z9]; rfl
          rw [ef, if_neg (by omega), if_pos z, if_neg z5, if_neg z8, if_pos z9] at hM
          rw [if_pos z9] at hC2
          obtain ⟨v', w', a1, a2, ⟨a3, a4⟩, a5, a6, a7⟩ := sh_go (v := v) (w := w) hh hj hE hB hs
          refine ⟨v', w', 1, by omega, ?_, ?_, P.keep hh hj hE hB (fun p hp => a5 p hp) (fun p h1 h2 => a7 p (by omega)), ⟨_, _, _, _, _, _, _, _, _, _, _, _, _, _, a3, IV.fresh (by omega), fun _ => a4, fun z => by omega⟩, fun p h1 _ => a5 p h1, a6, fun z => by omega, a7 114 (by omega)⟩
          · rw [hC2, a1]
            show f_Ep_takeConfirmation_b77 E v' = _
            unfold f_Ep_takeConfirmation_b77
            rw [a3.1.1]
            rfl
          · rw [hM, a2]
            rfl
        · rw [if_neg z9] at hC2
          have I := hq (by omega)
          refine same ?_ (hC2.trans (e77 v st (by omega) i1 k1.1)) I
          rw [hM]
          by_cases zf : fsOf st = 0
          · rw [if_pos zf]
          · rw [if_neg zf, if_pos z, if_neg z5, if_neg z8, if_neg z9]
  · have I := hq (fun q => z q.1)
    refine same ?_ ?_ I
    · rw [hM, if_neg z]
      by_cases zf : fsOf st = 0
      · rw [if_pos zf]
      · rw [if_neg zf]
    · rw [hC, if_neg z]
      exact e77 v st (by omega) i1 k1.1
