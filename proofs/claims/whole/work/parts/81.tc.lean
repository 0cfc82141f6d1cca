/-- the reference's way from the confirming on -/
def mtc (s : Nat) (w : sv_T) (Z : sv_T → Option sv_T) : Option sv_T := sv_bi (f_M_confirms (nI s) w) fun x11 v10 => if x11 = 0 then some v10 else sv_bi (f_M_ends (nI s) v10) fun x13 v12 => if x13 = 0 then Z v12 else some v12
/-- the confirming, on both sides: over, or on to the contents -/
def TC (h B E s : Nat) (w0 : sv_T) (ms : List MG) (v w : sv_T) (X : Option (Int32 × sv_T)) (Y : (sv_T → Option sv_T) → Option sv_T) : Prop :=
  (∃ v' w' ms', X = some (0, v') ∧ (∀ Z, Y Z = some w') ∧ PN h B w0 (ms ++ ms') v' w' ∧ ms'.length ≤ 1 ∧ SR v' w' E s ∧ CX E B v v' ∧ MX s w w') ∨ ∃ v' w', X = some (1, v') ∧ (∀ Z, Y Z = Z w') ∧ PN h B w0 ms v' w' ∧ SR v' w' E s ∧ CX E B v v' ∧ MX s w w' ∧ (∃ st', 4 ≤ st' ∧ st' ≤ 10 ∧ v' E 6 = nI st') ∧ w' 114 = w 114
theorem tc_go {v w w0 : sv_T} {h j E B s st ti ro tr ou fi un nx wi en ic rc G A fl sq ak wn dc : Nat} {dt : Nat → Nat} {ob ib : Nat → Nat} {ms : List MG} (hh : h ≤ 1) (hj : j ≤ 1) (hE : E = 25 + 33 * h + 7 * j) (hB : B = 9 + 33 * h) (hs : s = 2 * h + j) (hG : G = B + 15) (P : PN h B w0 ms v w) (hl : ms.length < 8) (K : SK v w E s st ti ro tr ou fi un nx wi en ic rc ob ib)
    (b : st ≤ 10 ∧ ti ≤ 32 ∧ 4 ≤ ro ∧ ro ≤ 32 ∧ tr ≤ 6 ∧ ou ≤ 64 ∧ fi < 65536 ∧ un < 65536 ∧ nx < 65536 ∧ wi < 256 ∧ en ≤ 1 ∧ ic ≤ 24 ∧ rc < 65536) (J : IV st ti ro tr ou fi un nx wi en ic rc ∨ (st = 4 ∧ ou = 0 ∧ nx = (un + 1) % 65536 ∧ ak = nx)) (hst : 4 ≤ st) (K2 : st ≤ 6 → KP v w E s rc ic) (S : SG v w G A fl sq ak wn dc dt) :
    TC h B E s w0 ms v w (f_Ep_takeConfirmation E G v) (mtc s w) := by
  obtain ⟨s1, s2, s3, s4, s5, s6, s7, s8, s9, s10, s11, s12, s13⟩ := sh_E hh hj hE hB
  have hs4 : s < 4 := by omega
  have b0 := b
  obtain ⟨i1, i2, i3, i4, i5, i6, i7, i8, i9, i10, i11, i12, i13⟩ := b
  obtain ⟨g1, g2, g3, g4, g5, g6, g7, g8, g9, g10, g11⟩ := S
  have K0 := K
  obtain ⟨k1, k2, k3, k4, k5, k6, k7, k8, k9, k10, k11, k12, k13, k14, k15⟩ := K
  have hd1 : du ak un < 65536 := Nat.mod_lt _ (by omega)
  have hd2 : du nx un < 65536 := Nat.mod_lt _ (by omega)
  have hd3 : du ak nx < 65536 := Nat.mod_lt _ (by omega)
  have hC : f_Ep_takeConfirmation E G v = if du ak un < 1 ∨ du nx un < du ak un then (if ak = un ∨ du ak nx < 1 ∨ 32767 < du ak nx then f_Ep_takeConfirmation_b52 E G v else sv_bv (f_Ep_emitAck E v) fun v9 => some (0, v9)) else sv_bv (f_Snd_confirm (E + 2) (nI ak) v) fun v10 => sv_bv (f_Ep_restartTimer E v10) fun v11 => f_Ep_takeConfirmation_b52 E G v11 := by
    have cs : f_Snd_confirms (E + 2) (nI ak) v = if du ak un < 1 ∨ du nx un < du ak un then some (0, v) else some (1, v) := by
      unfold f_Snd_confirms
      simp only [sv_le, k7.1, k8.1, sub16 (show ak < 2 ^ 31 by omega) i8, sub16 (show nx < 2 ^ 31 by omega) i8]
      rw [show (1 : Int32) = nI 1 from rfl, if_lt (by omega) (by omega), if_le (by omega) (by omega)]
      by_cases c1 : du ak un < 1
      · rw [if_pos c1, if_pos (Or.inl c1)]
      · rw [if_neg c1]
        by_cases c2 : du ak un ≤ du nx un
        · rw [if_pos c2, if_neg (by omega)]
        · rw [if_neg c2, if_pos (by omega)]
    have ah : f_Snd_isAhead (E + 2) (nI ak) v = if ak = un ∨ du ak nx < 1 ∨ 32767 < du ak nx then some (0, v) else some (1, v) := by
      unfold f_Snd_isAhead
      simp only [sv_le, k7.1, k8.1, sub16 (show ak < 2 ^ 31 by omega) i9]
      rw [show (1 : Int32) = nI 1 from rfl, show (32767 : Int32) = nI 32767 from rfl, if_eq (by omega) (by omega), if_lt (by omega) (by omega), if_le (by omega) (by omega)]
      by_cases a1 : ak = un
      · rw [if_pos a1, if_pos (Or.inl a1)]
      · rw [if_neg a1]
        by_cases a2 : du ak nx < 1
        · rw [if_pos a2, if_pos (Or.inr (Or.inl a2))]
        · rw [if_neg a2]
          by_cases a3 : du ak nx ≤ 32767
          · rw [if_pos a3, if_neg (by omega)]
          · rw [if_neg a3, if_pos (by omega)]
    unfold f_Ep_takeConfirmation
    rw [s5, g4.1, cs]
    by_cases c : du ak un < 1 ∨ du nx un < du ak un
    · rw [if_pos c, if_pos c]
      simp only [sv_bi, Option.bind_some]
      rw [if_pos trivial, g4.1, ah]
      by_cases c2 : ak = un ∨ du ak nx < 1 ∨ 32767 < du ak nx
      · rw [if_pos c2, if_pos c2]
        rfl
      · rw [if_neg c2, if_neg c2]
        rfl
    · rw [if_neg c, if_neg c]
      simp only [sv_bi, Option.bind_some]
      rw [if_neg (by decide), g4.1]
  have hM : f_M_confirms (nI s) w = if du ak un < 1 ∨ du nx un < du ak un then (if ak = un ∨ du ak nx < 1 ∨ 32767 < du ak nx then f_M_confirms_b219 (nI s) w else sv_bv (f_M_go (nI s) (nI 16) (nI nx) w) fun v8 => some (0, v8)) else f_M_confirms_b60 (nI s) (nI (min (du ak un) ou)) w := by
    unfold f_M_confirms f_M_confirms_b171 f_M_less
    simp only [sv_bi, Option.bind_some, ck_n hs4 (show 4 < 2 ^ 31 by omega), nI_clamp (show s < 2 ^ 31 by omega), g4.2, k7.2, k8.2, k5.2, sub16 (show ak < 2 ^ 31 by omega) i8, sub16 (show nx < 2 ^ 31 by omega) i8, sub16 (show ak < 2 ^ 31 by omega) i9, show (1 : Int32) = nI 1 from rfl, show (32767 : Int32) = nI 32767 from rfl, show (16 : Int32) = nI 16 from rfl]
    rw [if_lt (a := du ak un) (b := 1) (by omega) (by omega), if_le (a := du ak un) (b := du nx un) (by omega) (by omega), if_lt (a := du ak un) (b := ou) (by omega) (by omega), if_eq0 (by omega), if_lt (by omega) (by omega), if_le (by omega) (by omega)]
    have ez : du ak un = 0 ↔ ak = un := by unfold du; omega
    have tail : (if du ak un = 0 then f_M_confirms_b219 (nI s) w else if du ak nx < 1 then f_M_confirms_b219 (nI s) w else if du ak nx ≤ 32767 then sv_bv (f_M_go (nI s) (nI 16) (nI nx) w) fun v8 => some (0, v8) else f_M_confirms_b219 (nI s) w) = if ak = un ∨ du ak nx < 1 ∨ 32767 < du ak nx then f_M_confirms_b219 (nI s) w else sv_bv (f_M_go (nI s) (nI 16) (nI nx) w) fun v8 => some (0, v8) := by
      by_cases a1 : ak = un
      · rw [if_pos (ez.mpr a1), if_pos (Or.inl a1)]
      · rw [if_neg (fun q => a1 (ez.mp q))]
        by_cases a2 : du ak nx < 1
        · rw [if_pos a2, if_pos (Or.inr (Or.inl a2))]
        · rw [if_neg a2]
          by_cases a3 : du ak nx ≤ 32767
          · rw [if_pos a3, if_neg (by omega)]
          · rw [if_neg a3, if_pos (by omega)]
    by_cases c1 : du ak un < 1
    · rw [if_pos c1, if_pos (Or.inl c1)]
      exact tail
    · rw [if_neg c1]
      by_cases c2 : du ak un ≤ du nx un
      · rw [if_pos c2, if_neg (c := du ak un < 1 ∨ du nx un < du ak un) (by omega)]
        by_cases c3 : du ak un < ou
        · rw [if_pos c3, show min (du ak un) ou = du ak un by omega]
        · rw [if_neg c3, show min (du ak un) ou = ou by omega]
      · rw [if_neg c2, if_pos (c := du ak un < 1 ∨ du nx un < du ak un) (by omega)]
        exact tail
  -- the window is taken, then what follows when all is confirmed
  have rest : ∀ (v1 w1 : sv_T) (ti' ro' tr' ou' un' : Nat) (ob' : Nat → Nat), PN h B w0 ms v1 w1 → SK v1 w1 E s st ti' ro' tr' ou' fi un' nx wi en ic rc ob' ib → (st ≤ 10 ∧ ti' ≤ 32 ∧ 4 ≤ ro' ∧ ro' ≤ 32 ∧ tr' ≤ 6 ∧ ou' ≤ 64 ∧ fi < 65536 ∧ un' < 65536 ∧ nx < 65536 ∧ wi < 256 ∧ en ≤ 1 ∧ ic ≤ 24 ∧ rc < 65536) → (¬ (un' = nx ∧ (st = 5 ∨ st = 8 ∨ st = 9)) → IV st ti' ro' tr' ou' fi un' nx wi en ic rc) → (un' = nx → (st = 5 ∨ st = 8 ∨ st = 9) → ou' = 0) → (st ≤ 6 → KP v1 w1 E s rc ic) → CX E B v v1 → MX s w w1 → w1 114 = w 114 → f_Ep_takeConfirmation E G v = f_Ep_takeConfirmation_b52 E G v1 → f_M_confirms (nI s) w = f_M_confirms_b219 (nI s) w1 → TC h B E s w0 ms v w (f_Ep_takeConfirmation E G v) (mtc s w) := by
    intro v1 w1 ti' ro' tr' ou' un' ob' P1 KK bb hq hz KP1 C1 M1 h114 e1 e2
    have n0 : G ≠ E + 2 := by omega
    have r1 : v1 G = v G := C1 G (by omega) (by omega)
    have r2 : w1 75 48 = w 75 48 := M1.2 48 (by omega) (by omega) (by omega)
    obtain ⟨j1, j2, j3, j4, j5, j6, j7, j8, j9, j10, j11, j12, j13⟩ := bb
    obtain ⟨v', w', x, a1, a2, a3, a4, a5, a6, a7, a8, a9⟩ := al_go hh hj hE hB hs (P1.keep (v1 := sv_up v1 (E + 2) 5 (nI wn)) (w1 := sv_up w1 100 s (nI wn)) hh hj hE hB (fun p hp => sv_up_off _ _ _ (by omega)) (fun p h1 h2 => sv_up_off _ _ _ (by omega))) (KK.s_wi (x := wn)) ⟨j1, j2, j3, j4, j5, j6, j7, j8, j9, g10, j11, j12, j13⟩ (fun q => (hq q).wi g10 (by omega)) hz hst (fun z => (KP1 z).same (fun p hp => sv_up_off _ _ _ (by omega)) (fun p h1 h2 => sv_up_off _ _ _ (by omega)))
    have C2 : CX E B v v' := (C1.tr (cx_up (k := 2) (by omega))).tr a6
    have M2 : MX s w w' := (M1.tr (mx_up (p0 := 100) (x := nI wn) (by omega) (by omega) (by omega) (by omega) (by omega) (by omega))).tr a7
    have eC : f_Ep_takeConfirmation E G v = some (nI (1 - x), v') := by
      rw [e1, ← a2]
      unfold f_Ep_takeConfirmation_b52
      simp only [sv_ls, s5, r1, g5.1]
    have eM : f_M_confirms (nI s) w = some (nI 1, sv_up w1 100 s (nI wn)) := by
      rw [e2]
      unfold f_M_confirms_b219
      simp only [sv_ls, ck_n hs4 (show 4 < 2 ^ 31 by omega), nI_clamp (show s < 2 ^ 31 by omega), r2, g5.2]
      rfl
    have eZ : ∀ Z, mtc s w Z = if x = 0 then Z w' else some w' := fun Z => by
      unfold mtc
      rw [eM]
      simp only [sv_bi, Option.bind_some]
      rw [if_neg (by decide), a3]
      simp only [Option.bind_some]
      exact if_eq0 (by omega)
    rcases (show x = 0 ∨ x = 1 by omega) with rfl | rfl
    · exact Or.inr ⟨v', w', eC, fun Z => (eZ Z).trans (if_pos rfl), a4, a5, C2, M2, a8 rfl, by rw [a9, sv_up_off _ _ _ (by omega), h114]⟩
    · exact Or.inl ⟨v', w', [], eC, fun Z => (eZ Z).trans (if_neg (by omega)), by rw [List.append_nil]; exact a4, by simp, a5, C2, M2⟩
  by_cases c : du ak un < 1 ∨ du nx un < du ak un
  · have I : IV st ti ro tr ou fi un nx wi en ic rc := by
      rcases J with I | ⟨q1, q2, q3, q4⟩
      · exact I
      · exfalso
        unfold du at c
        omega
    by_cases c2 : ak = un ∨ du ak nx < 1 ∨ 32767 < du ak nx
    · rw [if_pos c, if_pos c2] at hC hM
      refine rest v w ti ro tr ou un ob P K0 b0 (fun _ => I) (fun q1 q2 => ?_) K2 CX.rf MX.rf rfl hC hM
      have := I.2.2.2.2.1 q2
      unfold du at this
      omega
    · rw [if_pos c, if_neg c2] at hC hM
      obtain ⟨v', w', ms', a1, a2, a3, a4, a5, a6, a7⟩ := op_em (fl := 16) (sq := nx) hh hj hE hB hs P hl ⟨_, _, _, _, _, _, _, _, _, _, _, _, _, _, K0, I, fun z => by omega, fun _ z => K2 z⟩ (by omega) (by omega)
      refine Or.inl ⟨v', w', ms', ?_, fun Z => ?_, a3, a4, a5, a6, a7⟩
      · rw [hC, ack_c, s5, k8.1, show f_Ep_emit E 16 (nI nx) v = some v' from a1]
        rfl
      · unfold mtc
        rw [hM, a2]
        rfl
  · rw [if_neg c] at hC hM
    obtain ⟨v1, w1, v0, a1, a2, a3, a4, a5, a6, a7⟩ := cf_go hh hj hE hB hs K0 i6 i8 g9 i9 rfl g4.2
    rw [a1] at hC
    have hC1 : f_Ep_takeConfirmation E G v = f_Ep_takeConfirmation_b52 E G v1 := by
      rw [hC]
      simp only [sv_bv, Option.bind_some]
      rw [a2]
      rfl
    have ht : (if ak = nx then 0 else 4) ≤ 4 := by split <;> omega
    have b1 : st ≤ 10 ∧ (if ak = nx then 0 else 4) ≤ 32 ∧ 4 ≤ 4 ∧ 4 ≤ 32 ∧ 0 ≤ 6 ∧ ou - min (du ak un) ou ≤ 64 ∧ fi < 65536 ∧ ak < 65536 ∧ nx < 65536 ∧ wi < 256 ∧ en ≤ 1 ∧ ic ≤ 24 ∧ rc < 65536 := ⟨i1, by omega, by omega, by omega, by omega, by omega, i7, g9, i9, i10, i11, i12, i13⟩
    refine rest v1 w1 _ 4 0 _ ak _ (P.keep hh hj hE hB (fun p hp => a5 p (by omega) (by omega) (by omega)) (fun p h1 h2 => a6 p (by omega))) a4 b1 (fun q => ⟨b1, fun z => by omega, fun z => by omega, fun z => ?_, fun z => ?_, fun z => ?_⟩) (fun q1 q2 => ?_) (fun z => (K2 z).same (fun p hp => a5 p (by omega) (by omega) (by omega)) (fun p h1 h2 => a6 p (by omega))) (fun p h1 _ => a5 p (by omega) (by omega) (by omega)) a7 (a6 114 (by omega)) hC1 (hM.trans a3)
    · rcases J with I | ⟨q1, q2, q3, q4⟩
      · have := I.2.2.2.1 z
        unfold du at c this ⊢
        omega
      · unfold du at c ⊢
        omega
    · rcases J with I | ⟨q1, q2, q3, q4⟩
      · have := I.2.2.2.2.1 z
        have q' : ak ≠ nx := fun e => q ⟨e, z⟩
        unfold du at c this ⊢
        omega
      · omega
    · rcases J with I | ⟨q1, q2, q3, q4⟩
      · have := I.2.2.2.2.2 z
        unfold du at c
        omega
      · omega
    · rcases J with I | ⟨q3, q4, q5, q6⟩
      · have := I.2.2.2.2.1 q2
        unfold du at c this ⊢
        omega
      · omega
