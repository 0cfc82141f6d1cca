/-- confirmed bytes go, on both sides -/
theorem cf_go {v w : sv_T} {h j E B s st ti ro tr ou fi un nx wi en ic rc ak g : Nat} {ob ib : Nat → Nat} (hh : h ≤ 1) (hj : j ≤ 1) (hE : E = 25 + 33 * h + 7 * j) (hB : B = 9 + 33 * h) (hs : s = 2 * h + j) (K : SK v w E s st ti ro tr ou fi un nx wi en ic rc ob ib) (hou : ou ≤ 64) (hun : un < 65536) (hak : ak < 65536) (hnx : nx < 65536) (hg : g = min (du ak un) ou) (hw : w 75 47 = nI ak) :
    ∃ v' w' v1, f_Snd_confirm (E + 2) (nI ak) v = some v1 ∧ f_Ep_restartTimer E v1 = some v' ∧ f_M_confirms_b60 (nI s) (nI g) w = f_M_confirms_b219 (nI s) w' ∧ SK v' w' E s st (if ak = nx then 0 else 4) 4 0 (ou - g) fi ak nx wi en ic rc (fun i => ob (g + i)) ib ∧ (∀ p, p ≠ E → p ≠ E + 2 → p ≠ E + 3 → v' p = v p) ∧ (∀ p, p < 97 ∨ (98 ≤ p ∧ p ≤ 100) ∨ (103 ≤ p ∧ p ≤ 109) ∨ 112 < p → w' p = w p) ∧ MX s w w' := by
  obtain ⟨s1, s2, s3, s4, s5, s6, s7, s8, s9, s10, s11, s12, s13⟩ := sh_E hh hj hE hB
  have hs4 : s < 4 := by omega
  have hdu : du ak un < 65536 := Nat.mod_lt _ (by omega)
  have K0 := K
  obtain ⟨k1, k2, k3, k4, k5, k6, k7, k8, k9, k10, k11, k12, k13, k14, k15⟩ := K
  generalize hvA : sv_up v (E + 2) 1 (nI (ou - g)) = vA
  generalize hvB : sv_cp vA (E + 3) g (E + 3) 0 (ou - g) = vB
  generalize hvC : sv_up vB (E + 2) 3 (nI ak) = vC
  generalize hwA : sv_up w 101 s (nI (ou - g)) = wA
  generalize hwB : sv_cp wA 102 (64 * s + g) 102 (64 * s) (ou - g) = wB
  generalize hwC : sv_up wB 97 s (nI ak) = wC
  have fv : ∀ p, p ≠ E + 2 → p ≠ E + 3 → vC p = v p := fun p h1 h2 => by
    rw [← hvC, ← hvB, ← hvA, sv_up_off _ _ _ h1, cp_off h2, sv_up_off _ _ _ h1]
  have fw : ∀ p, p ≠ 97 → p ≠ 101 → p ≠ 102 → wC p = w p := fun p h1 h2 h3 => by
    rw [← hwC, ← hwB, ← hwA, sv_up_off _ _ _ h1, cp_off h3, sv_up_off _ _ _ h2]
  have fv2 : ∀ i, i ≠ 1 → i ≠ 3 → vC (E + 2) i = v (E + 2) i := fun i h1 h2 => by
    rw [← hvC, ← hvB, ← hvA, up_i h2, cp_q (by omega), up_i h1]
  have M0 : MX s w wC := by
    rw [← hwC, ← hwB, ← hwA]
    refine (mx_up (p0 := 101) (x := nI (ou - g)) (by omega) (by omega) (by omega) (by omega) (by omega) (by omega)).tr (MX.tr ?_ (mx_up (p0 := 97) (by omega) (by omega) (by omega) (by omega) (by omega) (by omega)))
    refine ⟨fun p i h1 _ _ _ _ hm => ?_, fun i _ _ _ => cp_q (by omega)⟩
    by_cases z : p = 102
    · subst z
      exact cp_out (by have := hm.1 rfl; omega)
    · exact cp_q z
  have KC : SK vC wC E s st ti ro tr (ou - g) fi ak nx wi en ic rc (fun i => ob (g + i)) ib := by
    refine ⟨?_, ?_, ?_, ?_, ?_, ?_, ?_, ?_, ?_, ?_, ?_, ?_, ?_, fun i hi => ⟨?_, ?_, (k14 (g + i) (by omega)).2.2⟩, fun i hi => ?_⟩
    · rw [fv E (by omega) (by omega), fw 95 (by omega) (by omega) (by omega)]; exact k1
    · rw [fv E (by omega) (by omega), fw 110 (by omega) (by omega) (by omega)]; exact k2
    · rw [fv E (by omega) (by omega), fw 111 (by omega) (by omega) (by omega)]; exact k3
    · rw [fv E (by omega) (by omega), fw 112 (by omega) (by omega) (by omega)]; exact k4
    · rw [← hvC, ← hvB, ← hvA, ← hwC, ← hwB, ← hwA, up_i (by omega), cp_q (by omega), up_s, up_q (by omega), cp_q (by omega), up_s]; exact ⟨rfl, rfl⟩
    · rw [fv2 2 (by omega) (by omega), fw 96 (by omega) (by omega) (by omega)]; exact k6
    · rw [← hvC, ← hwC, up_s, up_s]; exact ⟨rfl, rfl⟩
    · rw [fv2 4 (by omega) (by omega), fw 98 (by omega) (by omega) (by omega)]; exact k8
    · rw [fv2 5 (by omega) (by omega), fw 100 (by omega) (by omega) (by omega)]; exact k9
    · rw [fv2 6 (by omega) (by omega), fw 103 (by omega) (by omega) (by omega)]; exact k10
    · rw [fv (E + 4) (by omega) (by omega), fw 105 (by omega) (by omega) (by omega)]; exact k11
    · rw [fv (E + 4) (by omega) (by omega), fw 99 (by omega) (by omega) (by omega)]; exact k12
    · rw [fw 104 (by omega) (by omega) (by omega)]; exact k13
    · rw [← hvC, up_q (by omega), ← hvB, show i = 0 + i by omega, cp_in (by omega), ← hvA, up_q (by omega), (k14 (g + i) (by omega)).1]
      simp
    · rw [← hwC, up_q (by omega), ← hwB, cp_in (by omega), ← hwA, up_q (by omega), Nat.add_assoc, (k14 (g + i) (by omega)).2.1]
    · rw [fv (E + 5) (by omega) (by omega), fw 106 (by omega) (by omega) (by omega)]; exact k15 i hi
  have k7' := KC.2.2.2.2.2.2.1
  have k8' := KC.2.2.2.2.2.2.2.1
  refine ⟨_, _, vC, ?_, ?_, ?_, ((KC.s_tr (x := 0)).s_ro (x := 4)).s_ti (x := if ak = nx then 0 else 4), fun p h1 h2 h3 => ?_, fun p h1 => ?_, ?_⟩
  · unfold f_Snd_confirm
    simp only [sv_ls, sv_le, k7.1, k5.1, sub16 (show ak < 2 ^ 31 by omega) hun, sv_min_n (show du ak un < 2 ^ 31 by omega) (show ou < 2 ^ 31 by omega), ← hg]
    rw [pk_sub (by omega), hvA, s7]
    have e1 : vA (E + 2) 1 = nI (ou - g) := by rw [← hvA]; exact up_s
    rw [e1, show (0 : Int32) = nI 0 from rfl, cc_n (by omega) (by omega) (by omega) (by omega), nI_clamp (by omega), nI_clamp (by omega), nI_clamp (by omega), hvB, hvC]
  · unfold f_Ep_restartTimer f_Ep_restartTimer_b29 f_Snd_isAllConfirmed
    have n1 : E + 2 ≠ E := by omega
    simp only [sv_ls, sv_bi, s5, up_q n1, k7'.1, k8'.1]
    rw [if_eq (by omega) (by omega)]
    by_cases z : ak = nx
    · rw [if_pos z, if_pos z]
      rfl
    · rw [if_neg z, if_neg z]
      simp only [Option.bind_some]
      rw [if_pos trivial, up_s]
      rfl
  · unfold f_M_confirms_b60
    simp only [sv_ls, sv_le, ck_n hs4 (show 4 < 2 ^ 31 by omega), nI_clamp (show s < 2 ^ 31 by omega), k5.2]
    rw [pk_sub (by omega), hwA, show (64 : Int32) = nI 64 from rfl, pk_mul]
    have eA : wA 101 s = nI (ou - g) := by rw [← hwA]; exact up_s
    have key := lp_to (f := fun (t : Int32 × sv_T) => f_M_confirms_l79 (nI s) (nI g) t.1 (t.2)) (fun k => (nI (64 * s + k), sv_cp wA 102 (64 * s + g) 102 (64 * s) k)) (ou - g) (a := wB) (fun k hk => ?_) ?_ (n := 100000) (by omega)
    · rw [cp_0] at key
      rw [show nI (64 * s) = nI (64 * s + 0) from rfl, key]
      unfold f_M_confirms_x118 f_M_confirms_b167
      simp only [Option.bind_some, sv_ls, ck_n hs4 (show 4 < 2 ^ 31 by omega), nI_clamp (show s < 2 ^ 31 by omega)]
      have e75 : wB 75 = w 75 := by rw [← hwB, ← hwA, cp_off (by omega), sv_up_off _ _ _ (by omega)]
      rw [e75, hw, hwC, up_q (by omega), up_q (by omega), up_q (by omega), up_q (by omega), k7'.2, k8'.2, if_eq (by omega) (by omega)]
      by_cases z : ak = nx
      · rw [if_pos z, if_pos z]
        rfl
      · rw [if_neg z, if_neg z]
        rfl
    · show f_M_confirms_l79 (nI s) (nI g) (nI (64 * s + k)) (sv_cp wA 102 (64 * s + g) 102 (64 * s) k) = _
      unfold f_M_confirms_l79
      dsimp only [sv_ls, sv_le]
      rw [ck_n hs4 (by omega), nI_clamp (by omega), cp_q (by omega), eA, show (64 : Int32) = nI 64 from rfl, pk_mul, nI_add, if_lt (by omega) (by omega), if_pos (by omega), nI_add, ck_n (by omega) (by omega), ck_n (by omega) (by omega), nI_clamp (by omega), nI_clamp (by omega), nI_1, up_cp rfl ?_]
      · rfl
      · rw [cp_out (by omega)]
        congr 1
        omega
    · show f_M_confirms_l79 (nI s) (nI g) (nI (64 * s + (ou - g))) (sv_cp wA 102 (64 * s + g) 102 (64 * s) (ou - g)) = _
      unfold f_M_confirms_l79
      rw [hwB, ck_n hs4 (by omega), nI_clamp (by omega), show wB 101 = wA 101 by rw [← hwB, cp_off (by omega)], eA, show (64 : Int32) = nI 64 from rfl, pk_mul, nI_add, if_lt (by omega) (by omega), if_neg (by omega)]
  · rw [sv_up_off _ _ _ h1, sv_up_off _ _ _ h1, sv_up_off _ _ _ h1, fv p h2 h3]
  · rw [sv_up_off _ _ _ (by omega), sv_up_off _ _ _ (by omega), sv_up_off _ _ _ (by omega), fw p (by omega) (by omega) (by omega)]
  · exact M0.tr (((mx_up (by omega) (by omega) (by omega) (by omega) (by omega) (by omega)).tr (mx_up (by omega) (by omega) (by omega) (by omega) (by omega) (by omega))).tr (mx_up (by omega) (by omega) (by omega) (by omega) (by omega) (by omega)))
