/-- a host's work that leaves messages in its outbox, on both sides -/
def HP (h : Nat) (w0 : sv_T) (ms : List MG) (v w : sv_T) (X Y : Option sv_T) : Prop := ∃ v' w' ms', X = some v' ∧ Y = some w' ∧ HI h w0 (ms ++ ms') v' w' ∧ ms'.length ≤ 4 ∧ LO v v' ∧ HO w w'
theorem HP.no {h : Nat} {w0 v w v1 w1 : sv_T} {ms : List MG} (H : HI h w0 ms v1 w1) (L : LO v v1) (O : HO w w1) : HP h w0 ms v w (some v1) (some w1) := ⟨v1, w1, [], rfl, rfl, by rw [List.append_nil]; exact H, Nat.zero_le _, L, O⟩
theorem NR.host {v v1 w : sv_T} (N : NR v w) (hv : ∀ p, p ≤ 8 ∨ (14 ≤ p ∧ p ≤ 17) ∨ (47 ≤ p ∧ p ≤ 50) → v1 p = v p) (h11 : ∀ h, h ≤ 1 → v1 (9 + 33 * h) 11 = v (9 + 33 * h) 11) : NR v1 w := by
  refine ⟨N.1.frame (hv _ (by omega)) (hv _ (by omega)) (hv _ (by omega)) rfl rfl rfl, N.2.1.frame (hv _ (by omega)) (hv _ (by omega)) (hv _ (by omega)) rfl rfl rfl, fun h hh => ?_⟩
  obtain ⟨n1, n2, n3, n4, n5⟩ := N.2.2 h hh
  refine ⟨n1.frame (hv _ (by omega)) (hv _ (by omega)) (hv _ (by omega)) rfl rfl rfl, ?_, ?_, ?_, ?_⟩
  · rw [hv _ (by omega)]; exact n2
  · rw [hv _ (by omega)]; exact n3
  · rw [hv _ (by omega)]; exact n4
  · rw [h11 h hh]; exact n5
/-- an answer to an echo has come -/
theorem HI.pong {h : Nat} {w0 v w : sv_T} {ms : List MG} {x y : Int32} (hh : h ≤ 1) (H : HI h w0 ms v w) : HI h w0 ms (sv_up (sv_up v (9 + 33 * h) 12 x) (9 + 33 * h) 13 y) (sv_up (sv_up w 86 h x) 87 h y) := by
  obtain ⟨⟨p1, p2, p3, p4⟩, ⟨a1, a2, a3, a4⟩, H3⟩ := H
  generalize hv1 : sv_up (sv_up v (9 + 33 * h) 12 x) (9 + 33 * h) 13 y = v1
  generalize hw1 : sv_up (sv_up w 86 h x) 87 h y = w1
  have kv : ∀ p, p ≠ 9 + 33 * h → v1 p = v p := fun p hp => by rw [← hv1, sv_up_off _ _ _ hp, sv_up_off _ _ _ hp]
  have kw : ∀ p, p ≠ 86 → p ≠ 87 → w1 p = w p := fun p h1 h2 => by rw [← hw1, sv_up_off _ _ _ h2, sv_up_off _ _ _ h1]
  have d : h = 0 ∨ h = 1 := by omega
  have hM : ∀ p, 76 ≤ p → p ≤ 85 → w1 p = w p := fun p x y => kw p (by omega) (by omega)
  refine ⟨⟨p1.host (fun p hp => kv p (by omega)) (fun h' hh' => ?_), ?_, p3.same (kv _ (by omega)) (kv _ (by omega)) (kv _ (by omega)), p4.keep hM⟩, ⟨fun h' j x y => ?_, fun h' k x y => ?_, fun h' x => ?_, ?_⟩, H3.same (kv _ (by omega)) (kv _ (by omega)) (kv _ (by omega))⟩
  · by_cases z : h' = h
    · rw [z, ← hv1, up_i (by decide), up_i (by decide)]
    · rw [kv _ (by omega)]
  · have := p2.app (ms' := []) hM
    rwa [List.append_nil] at this
  · have d' : h' = 0 ∨ h' = 1 := by omega
    exact (a1 h' j x y).same (fun p hp => kv p (by omega)) (fun p z t => kw p (by omega) (by omega))
  · have d' : h' = 0 ∨ h' = 1 := by omega
    exact (a2 h' k x y).same (kv _ (by omega)) (kv _ (by omega)) (fun p z t => by rw [kw p (by omega) (by omega)]) (fun i _ => by rw [kw 93 (by omega) (by omega), kw 94 (by omega) (by omega)]; exact ⟨rfl, rfl⟩)
  · by_cases z : h' = h
    · rw [z, ← hv1, ← hw1, up_i (by decide), up_s, up_s, up_q (by decide), up_s, up_s]
      exact ⟨rfl, rfl⟩
    · rw [kv _ (by omega), ← hw1, up_q (by decide), up_i z, up_i z, up_q (by decide)]
      exact a3 h' x
  · rw [kv 0 (by omega), kw 75 (by omega) (by omega)]
    exact a4
set_option maxHeartbeats 1000000 in
/-- a message of echo -/
theorem te_go {h B m : Nat} {w0 v w : sv_T} {ms : List MG} {f : Nat → Nat} (hh : h ≤ 1) (hB : B = 9 + 33 * h) (H : HI h w0 ms v w) (hl : ms.length < 8) (hm : m ≤ 48) (h41 : w 75 41 = nI m) (hv : ∀ i, i < m → v (B + 1) i = nI (f i)) (hw : ∀ i, i < m → w 114 i = nI (f i)) (hf : ∀ i, i < m → f i < 256) : HP h w0 ms v w (f_Host_takeEcho B (nI m) v) (f_M_echo (nI h) w) := by
  obtain ⟨s1, s2, s3, s4, s5, s6, s7, s8, s9, s10, s11, s12, s13, s14, s15, s16⟩ := sh_H hh hB
  unfold f_Host_takeEcho f_M_echo
  rw [h41, mc_go (a := 114) (by omega) (by show m ≤ 64; omega) (by decide) (by decide)]
  simp only [sv_bv, Option.bind_some]
  generalize hw1 : sv_up (sv_cp w 114 0 115 0 m) 75 43 (nI m) = w1
  have kw : ∀ p, p ≠ 115 → p ≠ 75 → w1 p = w p := fun p h1 h2 => by rw [← hw1, sv_up_off _ _ _ h2, cp_off h1]
  have kw5 : ∀ i, i ≠ 43 → w1 75 i = w 75 i := fun i hi => by rw [← hw1, up_i hi, cp_q (by decide)]
  have M1 : ME w w1 := ⟨fun p h1 h2 h3 h4 h5 => kw p h4 (by omega), fun i h1 h2 h3 => kw5 i h3⟩
  have H1 : HI h w0 ms v w1 := H.keep hh (fun _ _ _ _ _ _ _ => rfl) M1 (fun p h1 h2 => kw p (by omega) (by omega))
  rw [kw5 41 (by decide), h41, show (5 : Int32) = nI 5 from rfl, if_lt (by omega) (by omega), if_lt (by omega) (by omega)]
  by_cases z : m < 5
  · rw [if_pos z, if_pos z]
    exact HP.no H1 LO.rf M1.ho
  rw [if_neg z, if_neg z, s8, hv 1 (by omega), kw 114 (by decide) (by decide), hw 1 (by omega)]
  have f1 := hf 1 (by omega)
  have f0 := hf 0 (by omega)
  rw [if_eq0 (a := f 1) (by omega), if_eq0 (a := f 1) (by omega)]
  by_cases z1 : f 1 = 0
  · rw [if_pos z1, if_pos z1]
    have hck := cc_check (st := 0) (a := B + 1) (from0 := 0) (n := m) (v := v) (f := f) (by omega) (by omega) (by omega) (fun i hi => by rw [Nat.zero_add]; exact hv i hi) hf
    rw [Nat.zero_add] at hck
    have hmk := cm_check (w := w1) (n := m) (f := f) (by omega) (by rw [← hw1, up_s]) (fun i hi => by
      have e := cp_in (v := w) (q := 114) (sp := 0) (q1 := 115) (dp := 0) (n := m) (i := i) hi
      rw [Nat.zero_add] at e
      rw [← hw1, up_q (by decide), e]
      exact hw i hi) hf
    have hC : 65535 - ck_r (ck_s f m) < 2 ^ 31 := by omega
    generalize 65535 - ck_r (ck_s f m) = C at hck hmk hC
    have hck' : f_Num_check 0 (B + 1) 0 (nI m) v = some (nI C, v) := hck
    rw [hck', hmk]
    simp only [sv_bi, Option.bind_some]
    rw [hv 0 (by omega), kw 114 (by decide) (by decide), hw 0 (by omega), if_eq0 (a := C) (by omega), if_eq0 (a := C) (by omega), show (8 : Int32) = nI 8 from rfl, if_eq (a := f 0) (by omega) (by omega), if_eq (a := f 0) (by omega) (by omega), if_eq0 (a := f 0) (by omega), if_eq0 (a := f 0) (by omega)]
    by_cases z2 : C = 0
    · rw [if_pos z2, if_pos z2]
      by_cases z3 : f 0 = 8
      · rw [if_pos z3, if_pos z3, s11, show (1 : Int32) = nI 1 from rfl, show (0 : Int32) = nI 0 from rfl, cc_n (by omega) (by omega) (by omega) (by omega), nI_clamp (n := 0) (by omega), nI_clamp (n := 1) (by omega), nI_clamp (n := m) (by omega)]
        simp only [sv_ls]
        generalize hv1 : sv_up (sv_cp v (B + 1) 0 (B + 32) 1 m) (B + 32) 1 (nI 0) = v1
        have kv : ∀ p, p ≠ B + 32 → v1 p = v p := fun p hp => by rw [← hv1, sv_up_off _ _ _ hp, cp_off hp]
        have H2 : HI h w0 ms v1 w1 := H1.keep hh (fun p h1 h2 h3 h4 h5 h6 => kv p (by omega)) ⟨fun _ _ _ _ _ _ => rfl, fun _ _ _ _ => rfl⟩ (fun _ _ _ => rfl)
        obtain ⟨v2, w2, mm, c1, c2, c3, c4, c5⟩ := H2.echo (B := B) (n := m) (f := fun i => if i = 0 then 0 else f i) hh hB hl (by omega) (by omega) (fun i hi => by
          show (if i = 0 then 0 else f i) < 256
          split
          · omega
          · exact hf i hi) (fun i hi _ _ => by
          show v1 (B + 32) (1 + i) = nI (if i = 0 then 0 else f i)
          rw [← hv1]
          by_cases y : i = 0
          · subst y
            rw [up_s]; rfl
          · rw [up_i (by omega), cp_in hi, if_neg y, Nat.zero_add]
            exact hv i hi) (by rw [kw5 41 (by decide)]; exact h41) (fun i hi h0 _ _ => by
          show w1 114 i = nI (if i = 0 then 0 else f i)
          rw [kw 114 (by decide) (by decide), if_neg h0]
          exact hw i hi)
        have c2' : f_M_sendEcho (nI h) (nI 0) w1 = some w2 := c2
        refine ⟨v2, w2, [mm], ?_, ?_, c3, by show 1 ≤ 4; omega, LO.tr (fun p hp => kv p (by omega)) c4, M1.ho.tr c5⟩
        · rw [c1]; rfl
        · rw [c2']; rfl
      · rw [if_neg z3, if_neg z3]
        by_cases z4 : f 0 = 0
        · rw [if_pos z4, if_pos z4]
          simp only [sv_ls]
          rw [ck_n (by omega) (by omega), ck_n (by omega) (by omega), ck_n (by omega) (by omega), nI_clamp (by omega), up_q (show B + 1 ≠ B by omega), up_q (show (114 : Nat) ≠ 86 by decide), kw 114 (by decide) (by decide), hv 4 (by omega), hw 4 (by omega), (H1.2.1.2.2.1 h hh).1.symm, hB]
          have HH := H1.pong (x := v (9 + 33 * h) 12 + 1) (y := nI (f 4)) hh
          exact HP.no HH (fun p hp => by rw [sv_up_off _ _ _ (by omega), sv_up_off _ _ _ (by omega)]) (M1.ho.tr fun p hp => by rw [sv_up_off _ _ _ (by omega), sv_up_off _ _ _ (by omega)])
        · rw [if_neg z4, if_neg z4]
          exact HP.no H1 LO.rf M1.ho
    · rw [if_neg z2, if_neg z2]
      exact HP.no H1 LO.rf M1.ho
  · rw [if_neg z1, if_neg z1]
    exact HP.no H1 LO.rf M1.ho
