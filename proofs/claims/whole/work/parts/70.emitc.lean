/-- the shape of socket 1 + j of host h: its place E -/
theorem sh_E {h j E B : Nat} (hh : h ≤ 1) (hj : j ≤ 1) (hE : E = 25 + 33 * h + 7 * j) (hB : B = 9 + 33 * h) : sv_int (sg E) 0 = nI h ∧ sv_int (sg E) 1 = nI (1 + j) ∧ sv_ref (sg E) 2 = B + 2 ∧ sv_ref (sg E) 3 = E + 1 ∧ sv_ref (sg E) 4 = E + 2 ∧ sv_ref (sg E) 5 = E + 4 ∧ sv_ref (sg (E + 2)) 0 = E + 3 ∧ sv_ref (sg (E + 4)) 0 = E + 5 ∧ sv_ref (sg (E + 4)) 1 = E + 6 ∧ sv_len (sg (E + 1)) = 49 ∧ sv_len (sg (E + 3)) = 64 ∧ sv_len (sg (E + 5)) = 24 ∧ sv_len (sg (E + 6)) = 32 := by
  subst hE
  subst hB
  rcases (show h = 0 ∨ h = 1 by omega) with rfl | rfl <;> rcases (show j = 0 ∨ j = 1 by omega) with rfl | rfl <;> exact ⟨rfl, rfl, rfl, rfl, rfl, rfl, rfl, rfl, rfl, rfl, rfl, rfl, rfl⟩
theorem OB.add {v v1 : sv_T} {B a n : Nat} {ms : List MG} {m : MG} (S : RS (B + 2) 8 49) (O : OB v B ms) (hl : ms.length < 8) (K : MGok m) (hn : n = 1 + m.2.1) (ha : a ≠ B + 2) (ha1 : a ≠ B + 3) (ha2 : a ≠ B + 4) (hl1 : n ≤ sv_len (sg a)) (hl2 : sv_len (sg a) ≤ 1000) (h1 : v1 (B + 2) = v (B + 2)) (h2 : v1 (B + 3) = v (B + 3)) (h3 : v1 (B + 4) = v (B + 4)) (h0 : v1 a 0 = nI m.1) (hm : ∀ i, i < m.2.1 → v1 a (1 + i) = nI (m.2.2 i)) : ∃ v', f_Rows_add (B + 2) a (nI n) v1 = some v' ∧ OB v' B (ms ++ [m]) ∧ ∀ p, p ≠ B + 2 → p ≠ B + 3 → p ≠ B + 4 → v' p = v1 p := by
  obtain ⟨sz, bs, a1, a2, a3⟩ := O
  obtain ⟨k1, k2, k3⟩ := K
  obtain ⟨v', e1, e2, e3⟩ := rc_add (n := n) (r := fun i => if i = 0 then m.1 else m.2.2 (i - 1)) S (a1.same h1 h2 h3) a2 hl ha ha1 ha2 (fun i hi => by
    by_cases z : i = 0
    · rw [if_pos z, z]; exact h0
    · rw [if_neg z]
      have := hm (i - 1) (by omega)
      rw [show 1 + (i - 1) = i by omega] at this
      exact this) (by omega) hl1 hl2
  refine ⟨v', e1, ⟨ra_sz ms.length sz n, ra_bs ms.length bs (fun i => if i = 0 then m.1 else m.2.2 (i - 1)), ?_, ?_, fun k m' hk => ?_⟩, e3⟩
  · rw [List.length_append]
    exact e2
  · rw [List.length_append]
    refine a2.add (by omega) (fun i hi => ?_)
    by_cases z : i = 0
    · rw [if_pos z]; exact k1
    · rw [if_neg z]; exact k3 (i - 1) (by omega)
  · by_cases z : k < ms.length
    · rw [List.getElem?_append_left z] at hk
      obtain ⟨b1, b2, b3, b4⟩ := a3 k m' hk
      refine ⟨b1, ?_, ?_, fun i hi => ?_⟩
      · unfold ra_sz; rw [if_neg (by omega)]; exact b2
      · unfold ra_bs; rw [if_neg (by omega)]; exact b3
      · unfold ra_bs; rw [if_neg (by omega)]; exact b4 i hi
    · rw [List.getElem?_append_right (by omega)] at hk
      have hz : k - ms.length < 1 := (List.getElem?_eq_some_iff.mp hk).1
      have hk0 : k = ms.length := by omega
      subst hk0
      rw [Nat.sub_self] at hk
      cases hk
      refine ⟨⟨k1, k2, k3⟩, ?_, ?_, fun i hi => ?_⟩
      · unfold ra_sz; rw [if_pos rfl]; exact hn
      · unfold ra_bs; rw [if_pos rfl]; rfl
      · unfold ra_bs; rw [if_pos rfl]
        show (if 1 + i = 0 then m.1 else m.2.2 (1 + i - 1)) = m.2.2 i
        rw [if_neg (by omega), show 1 + i - 1 = i by omega]
/-- the class's places that an emission of the socket at E may change -/
def CE (E B : Nat) (v v' : sv_T) : Prop := ∀ p, p ≠ E + 1 → (p < B + 2 ∨ B + 4 < p) → v' p = v p
set_option maxHeartbeats 2000000 in
/-- a segment goes (the class): into the outbox -/
theorem ce_go {v : sv_T} {h j E B fl sq ak fr n rm ou : Nat} {d : Nat → Nat} {ms : List MG} (hh : h ≤ 1) (hj : j ≤ 1) (hE : E = 25 + 33 * h + 7 * j) (hB : B = 9 + 33 * h) (O : OB v B ms) (hl : ms.length < 8) (hf : fl < 256) (hsq : sq < 2 ^ 31) (hak : ak < 2 ^ 31) (hn : n ≤ 32) (hou : ou ≤ 64) (hfr : fr + n ≤ ou) (hrm : rm ≤ 24) (h1 : v (E + 2) 1 = nI ou) (h2 : v (E + 4) 2 = nI (24 - rm)) (hd : ∀ i, i < n → v (E + 3) (fr + i) = nI (d i)) (hd2 : ∀ i, i < n → d i < 256) :
    ∃ v', f_Ep_emitWhole E (nI fl) (nI sq) (nI ak) (nI fr) (nI n) v = some v' ∧ OB v' B (ms ++ [em_m h n (1 + j) fl sq ak rm d]) ∧ CE E B v v' := by
  obtain ⟨s1, s2, s3, s4, s5, s6, s7, s8, s9, s10, s11, s12, s13⟩ := sh_E hh hj hE hB
  have S12 := (sh_H hh hB).2.2.2.2.2.2.2.2.2.2.2.1
  generalize hv1 : sv_up (sv_up (sv_up (sv_up (sv_up (sv_up (sv_up (sv_up (sv_up (sv_up (sv_up v (E + 1) 0 (nI 6)) (E + 1) 1 (nI (1 + j))) (E + 1) 2 (nI fl)) (E + 1) 3 (nI (sq / 256 % 256))) (E + 1) 4 (nI (sq % 256))) (E + 1) 5 (nI (ak / 256 % 256))) (E + 1) 6 (nI (ak % 256))) (E + 1) 7 (nI rm)) (E + 1) 8 (nI 0)) (E + 1) 9 (nI 0)) (E + 1) 10 (nI 0) = v1
  have k1 : ∀ p, p ≠ E + 1 → v1 p = v p := fun p hp => by
    rw [← hv1]
    simp only [sv_up_off _ _ _ hp]
  generalize hv2 : sv_cp v1 (E + 3) fr (E + 1) 11 n = v2
  have k2 : ∀ p, p ≠ E + 1 → v2 p = v p := fun p hp => by
    rw [← hv2, cp_off hp, k1 p hp]
  have hm : ∀ i, i < 10 + n → v2 (E + 1) (1 + i) = nI (em_f (1 + j) fl sq ak rm d i) := fun i hi => by
    rw [← hv2]
    by_cases z : i < 10
    · rw [cp_out (by omega), ← hv1]
      rcases (show i = 0 ∨ i = 1 ∨ i = 2 ∨ i = 3 ∨ i = 4 ∨ i = 5 ∨ i = 6 ∨ i = 7 ∨ i = 8 ∨ i = 9 by omega) with rfl | rfl | rfl | rfl | rfl | rfl | rfl | rfl | rfl | rfl <;> simp [up_a, em_f]
    · obtain ⟨i', rfl⟩ : ∃ i', i = i' + 10 := ⟨i - 10, by omega⟩
      rw [show 1 + (i' + 10) = 11 + i' by omega, cp_in (by omega), k1 _ (by omega), hd i' (by omega)]
      rfl
  have h0 : v2 (E + 1) 0 = nI 6 := by
    rw [← hv2, cp_out (by omega), ← hv1]
    simp [up_a]
  have hlt := em_lt (p := 1 + j) (fl := fl) (sq := sq) (ak := ak) (rm := rm) (n := n) (d := d) (by omega) hf (by omega) hd2
  have hck := cc_check (st := 256 * (1 + h) + (2 - h) + 256 * 6 + (10 + n)) (a := E + 1) (from0 := 1) (n := 10 + n) (v := v2) (f := em_f (1 + j) fl sq ak rm d) (by omega) (by omega) (by omega) hm hlt
  have hc : em_c h n (em_f (1 + j) fl sq ak rm d) ≤ 65535 := by
    unfold em_c
    omega
  generalize hv3 : sv_up (sv_up v2 (E + 1) 9 (nI (em_c h n (em_f (1 + j) fl sq ak rm d) / 256 % 256))) (E + 1) (9 + 1) (nI (em_c h n (em_f (1 + j) fl sq ak rm d) % 256)) = v3
  have k3 : ∀ p, p ≠ E + 1 → v3 p = v p := fun p hp => by
    rw [← hv3, sv_up_off _ _ _ hp, sv_up_off _ _ _ hp, k2 p hp]
  obtain ⟨v', f1, f2, f3⟩ := OB.add (m := em_m h n (1 + j) fl sq ak rm d) (a := E + 1) (n := 11 + n) (v1 := v3) S12 O hl (em_ok hn (by omega) hf (by omega) hd2) (by show 11 + n = 1 + (10 + n); omega) (by omega) (by omega) (by omega) (by omega) (by omega) (k3 _ (by omega)) (k3 _ (by omega)) (k3 _ (by omega)) (by
    rw [← hv3, up_i (by decide), up_i (by decide), h0]
    rfl) (fun i hi => by
    show v3 (E + 1) (1 + i) = nI (em_g _ _ i)
    unfold em_g
    rw [← hv3]
    by_cases z9 : i = 9
    · subst z9
      rw [up_s]
      rfl
    · rw [up_i (by omega), if_neg z9]
      by_cases z8 : i = 8
      · subst z8
        rw [up_s, if_pos rfl, show em_c h n (em_f (1 + j) fl sq ak rm d) / 256 % 256 = em_c h n (em_f (1 + j) fl sq ak rm d) / 256 by omega]
      · rw [up_i (by omega), if_neg z8]
        exact hm i hi)
  refine ⟨v', ?_, f2, fun p p1 p2 => (f3 p (by omega) (by omega) (by omega)).trans (k3 p p1)⟩
  unfold f_Ep_emitWhole f_Link_addressOf f_Seg_startOfCheck f_Rcv_room f_Snd_copyTo
  dsimp only [sv_ls, sv_le, sv_bi, Option.bind]
  rw [s1, s2, s3, s4, s5, s6, s7, s10]
  rw [show (1 : Int32) + 1 = nI 2 from rfl, show (1 : Int32) + 2 = nI 3 from rfl, show (1 : Int32) + 4 = nI 5 from rfl, show (1 : Int32) + 6 = nI 7 from rfl, show (1 : Int32) + 7 = nI 8 from rfl, show (1 : Int32) + 8 = nI 9 from rfl, show (1 : Int32) + 10 = nI 11 from rfl]
  rw [ck_n (by omega) (by omega), nI_clamp (n := 2) (by omega), pp_go (by omega) (by omega) hsq]
  dsimp only [sv_bv, Option.bind]
  rw [pp_go (by omega) (by omega) hak]
  dsimp only [Option.bind]
  rw [ck_n (by omega) (by omega), ck_n (by omega) (by omega), nI_clamp (n := 7) (by omega), nI_clamp (n := 8) (by omega)]
  simp only [up_q (show E + 4 ≠ E + 1 by omega)]
  rw [h2, show (24 : Int32) = nI 24 from rfl, pk_sub (by omega), show 24 - (24 - rm) = rm by omega]
  rw [show f_Num_putPair (E + 1) (nI 9) 0 = f_Num_putPair (E + 1) (nI 9) (nI 0) from rfl, pp_go (by omega) (by omega) (by omega)]
  dsimp only [Option.bind]
  rw [show sv_up (sv_up (sv_up (sv_up (sv_up (sv_up (sv_up (sv_up (sv_up (sv_up (sv_up v (E + 1) 0 6) (E + 1) 1 (nI (1 + j))) (E + 1) 2 (nI fl)) (E + 1) 3 (nI (sq / 256 % 256))) (E + 1) (3 + 1) (nI (sq % 256))) (E + 1) 5 (nI (ak / 256 % 256))) (E + 1) (5 + 1) (nI (ak % 256))) (E + 1) 7 (nI rm)) (E + 1) 8 0) (E + 1) 9 (nI (0 / 256 % 256))) (E + 1) (9 + 1) (nI (0 % 256)) = v1 from hv1]
  rw [if_neg0 (by omega), if_neg0 (by omega), if_neg0 (by omega), nI_add, k1 (E + 2) (by omega), h1, if_le (by omega) (by omega), if_pos hfr, nI_add, show Int32.ofNat 49 = nI 49 from rfl, if_le (by omega) (by omega), if_pos (by omega), cc_n (by omega) (by omega) (by omega) (by omega), nI_clamp (n := fr) (by omega), nI_clamp (n := 11) (by omega), nI_clamp (n := n) (by omega), hv2]
  dsimp only [Option.bind]
  have x1 : ((((1 : Int32) + nI h) <<< (8 : Int32) + ((1 : Int32) + ((1 : Int32) - nI h))) + (1536 : Int32)) + ((10 : Int32) + nI n) = nI (256 * (1 + h) + (2 - h) + 256 * 6 + (10 + n)) := by
    rw [show (1 : Int32) = nI 1 from rfl, pk_sub hh, nI_add, nI_add, pk_shlN 8 8 (by decide) (by omega), show (1536 : Int32) = nI 1536 from rfl, show (10 : Int32) = nI 10 from rfl, nI_add, nI_add, nI_add, nI_add, show (1 + h) * 2 ^ 8 + (1 + (1 - h)) + 1536 + (10 + n) = 256 * (1 + h) + (2 - h) + 256 * 6 + (10 + n) by omega]
  rw [x1, show (10 : Int32) + nI n = nI (10 + n) from nI_add 10 n, show f_Num_check (nI (256 * (1 + h) + (2 - h) + 256 * 6 + (10 + n))) (E + 1) 1 (nI (10 + n)) v2 = _ from hck]
  dsimp only [Option.bind]
  rw [pp_go (x := 65535 - ck_r (256 * (1 + h) + (2 - h) + 256 * 6 + (10 + n) + ck_s (em_f (1 + j) fl sq ak rm d) (10 + n))) (by omega) (by omega) (by omega)]
  dsimp only [Option.bind]
  rw [show sv_up (sv_up v2 (E + 1) 9 (nI ((65535 - ck_r (256 * (1 + h) + (2 - h) + 256 * 6 + (10 + n) + ck_s (em_f (1 + j) fl sq ak rm d) (10 + n))) / 256 % 256))) (E + 1) (9 + 1) (nI ((65535 - ck_r (256 * (1 + h) + (2 - h) + 256 * 6 + (10 + n) + ck_s (em_f (1 + j) fl sq ak rm d) (10 + n))) % 256)) = v3 from hv3, show (1 : Int32) + nI (10 + n) = nI (11 + n) by rw [show (1 : Int32) = nI 1 from rfl, nI_add, show 1 + (10 + n) = 11 + n by omega], f1]
