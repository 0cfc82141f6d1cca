theorem if_lt0 {α : Type} {b : Nat} {X Y : α} (hb : b < 2 ^ 31) : (if (0 : Int32) < nI b then X else Y) = if 0 < b then X else Y := if_lt (a := 0) (by omega) hb
theorem if_eq0 {α : Type} {a : Nat} {X Y : α} (ha : a < 2 ^ 31) : (if nI a = (0 : Int32) then X else Y) = if a = 0 then X else Y := if_eq (b := 0) ha (by omega)
theorem if_neg0 {α : Type} {a : Nat} {X Y : α} (ha : a < 2 ^ 31) : (if nI a < (0 : Int32) then X else Y) = Y := if_neg (nI_pos ha)
theorem NR.ident {v w : sv_T} {h B x : Nat} (N : NR v w) (hh : h ≤ 1) (hB : B = 9 + 33 * h) (hx : x < 256) : NR (sv_up v B 11 (nI x)) (sv_up w 85 h (nI x)) := by
  have kv : ∀ p, p ≠ B → sv_up v B 11 (nI x) p = v p := fun p hp => sv_up_off _ _ _ hp
  have kw : ∀ p, p ≠ 85 → sv_up w 85 h (nI x) p = w p := fun p hp => sv_up_off _ _ _ hp
  refine ⟨N.1.frame (kv _ (by omega)) (kv _ (by omega)) (kv _ (by omega)) (kw _ (by omega)) (kw _ (by omega)) (kw _ (by omega)), N.2.1.frame (kv _ (by omega)) (kv _ (by omega)) (kv _ (by omega)) (kw _ (by omega)) (kw _ (by omega)) (kw _ (by omega)), fun h' hh' => ?_⟩
  obtain ⟨m1, m2, m3, m4, m5⟩ := N.2.2 h' hh'
  refine ⟨m1.frame (kv _ (by omega)) (kv _ (by omega)) (kv _ (by omega)) (kw _ (by omega)) (kw _ (by omega)) (kw _ (by omega)), ?_, ?_, ?_, ?_⟩
  · rw [kv _ (by omega), kw _ (by omega)]; exact m2
  · rw [kv _ (by omega), kw _ (by omega)]; exact m3
  · rw [kv _ (by omega), kw _ (by omega)]; exact m4
  · by_cases z : h' = h
    · subst z
      rw [← hB, up_s, up_s]
      exact EQ.of hx
    · rw [kv _ (by omega), up_i z]
      exact m5
/-- the class's places that sendOut may change (of the host itself only the ident, slot 11) -/
def CS (h : Nat) (v v' : sv_T) : Prop := (∀ p, (p = 0 ∨ 6 < p) → (p < 9 + 33 * h + 2 ∨ 9 + 33 * h + 9 < p) → p ≠ 9 + 33 * h → p ≠ 9 + 33 * h + 31 → p ≠ 9 + 33 * h + 32 → v' p = v p) ∧ ∀ i, i ≠ 11 → v' (9 + 33 * h) i = v (9 + 33 * h) i
theorem CS.rf {h : Nat} {v : sv_T} : CS h v v := ⟨fun _ _ _ _ _ _ => rfl, fun _ _ => rfl⟩
theorem CS.tr {h : Nat} {v v' v'' : sv_T} (h1 : CS h v v') (h2 : CS h v' v'') : CS h v v'' := ⟨fun p a b c d e => (h2.1 p a b c d e).trans (h1.1 p a b c d e), fun i a => (h2.2 i a).trans (h1.2 i a)⟩
theorem CP.cs {h : Nat} {v v' : sv_T} (H : CP h v v') : CS h v v' := ⟨fun p a b c d e => H p a (by omega) (by omega), fun i _ => congrFun (H _ (by omega) (by omega) (by omega)) i⟩
/-- a message: protocol, length, bytes -/
abbrev MG : Type := Nat × Nat × (Nat → Nat)
def MGok (m : MG) : Prop := m.1 < 256 ∧ m.2.1 ≤ 48 ∧ ∀ i, i < m.2.1 → m.2.2 i < 256
/-- the reference's message stands ready -/
def MGat (w : sv_T) (m : MG) : Prop := w 75 41 = nI m.2.1 ∧ ∀ i, i < m.2.1 → w 114 i = nI (m.2.2 i)
theorem ie_go {v w : sv_T} {h B : Nat} {left : Nat} (hh : h ≤ 1) (hB : B = 9 + 33 * h) (N : NR v w) (hl : 0 < left) (hl2 : left ≤ 100) : ∃ v' w', f_Host_sendOut_b68 B (nI left) v = some (.inl (nI (left - 1), v')) ∧ f_M_sends_b50 (nI h) w = some w' ∧ NR v' w' ∧ (∀ p, p ≠ B → v' p = v p) ∧ (∀ i, i ≠ 11 → v' B i = v B i) ∧ (∀ p, p ≠ 85 → w' p = w p) := by
  obtain ⟨n1, n2, n3, n4, ⟨id, i1, i2, i3⟩⟩ := N.2.2 h hh
  rw [← hB] at i2
  refine ⟨_, _, ?_, ?_, N.ident (x := (id + 1) % 256) hh hB (by omega), fun p hp => sv_up_off _ _ _ hp, fun i hi => up_i hi, fun p hp => sv_up_off _ _ _ hp⟩
  · unfold f_Host_sendOut_b68
    dsimp only [sv_ls, sv_le]
    have e1 : nI (id + 1) &&& 255 = nI ((id + 1) % 256) := pk_andN (m := 255) (by omega) 8 (by decide)
    obtain ⟨l', rfl⟩ : ∃ l', left = l' + 1 := ⟨left - 1, by omega⟩
    rw [i2, nI_1, e1, pk_m1]
    rfl
  · unfold f_M_sends_b50
    dsimp only [sv_ls, sv_le]
    have e1 : sv_rem (nI (id + 1)) 256 = nI ((id + 1) % 256) := pk_rem (d := 256) (by omega) (by omega) (by omega)
    rw [ck_n (by omega) (by omega), ck_n (by omega) (by omega), nI_clamp (by omega), i3, nI_1, e1]
/-- what the outbox of the host at B holds -/
def OB (v : sv_T) (B : Nat) (ms : List MG) : Prop := ∃ (sz : Nat → Nat) (bs : Nat → Nat → Nat), RC v (B + 2) 49 ms.length sz bs ∧ RB 49 ms.length sz bs ∧ ∀ (k : Nat) (m : MG), ms[k]? = some m → MGok m ∧ sz k = 1 + m.2.1 ∧ bs k 0 = m.1 ∧ ∀ i, i < m.2.1 → bs k (1 + i) = m.2.2 i
theorem OB.same {v v' : sv_T} {B : Nat} {ms : List MG} (H : OB v B ms) (h1 : v' (B + 2) = v (B + 2)) (h2 : v' (B + 3) = v (B + 3)) (h3 : v' (B + 4) = v (B + 4)) : OB v' B ms := by
  obtain ⟨sz, bs, a1, a2, a3⟩ := H
  exact ⟨sz, bs, a1.same h1 h2 h3, a2, a3⟩
theorem sv_min_n {a b : Nat} (ha : a < 2 ^ 31) (hb : b < 2 ^ 31) : sv_min (nI a) (nI b) = nI (min a b) := by
  unfold sv_min
  rw [if_lt hb ha]
  by_cases h : b < a
  · rw [if_pos h, Nat.min_eq_right (by omega)]
  · rw [if_neg h, Nat.min_eq_left (by omega)]
/-- one message of the outbox goes -/
theorem nr_one {v w : sv_T} {h B left : Nat} {m : MG} {ms : List MG} (hh : h ≤ 1) (hB : B = 9 + 33 * h) (N : NR v w) (O : OB v B (m :: ms)) (hms : ms.length < 8) (M : MGat w m) (hl : 0 < left) (hl2 : left ≤ 100) :
    ∃ v' w', f_Host_sendOut_l8 B (nI left) v = some (.inl (nI (left - 1), v')) ∧ f_M_sends (nI h) (nI m.1) w = some w' ∧ NR v' w' ∧ OB v' B ms ∧ CS h v v' ∧ MS w w' := by
  obtain ⟨s1, s2, s3, s4, s5, s6, s7, s8, s9, s10, s11, s12, s13, s14, s15, s16⟩ := sh_H hh hB
  obtain ⟨sz, bs, a1, a2, a3⟩ := O
  obtain ⟨⟨m1, m2, m3⟩, z1, z2, z3⟩ := a3 0 m rfl
  obtain ⟨v3, t1, t2, t3, t4, t5⟩ := rc_take (a := B + 32) (fr := 0) s12 a1 a2 (by simp) (by simp; omega) (by omega) (by omega) (by omega) (by omega) (by omega)
  have O3 : OB v3 B ms := ⟨rd_sz sz, rd_bs bs, t2, a2.drop, fun k m' hk => a3 (k + 1) m' hk⟩
  have N3 : NR v3 w := N.keep (fun p hp => t3 p (by omega) (by omega) (by omega) (by omega)) (fun _ _ _ => rfl)
  have C3 : CS h v v3 := ⟨fun p p1 p2 p3 p4 p5 => t3 p (by omega) (by omega) (by omega) (by omega), fun i _ => congrFun (t3 _ (by omega) (by omega) (by omega) (by omega)) i⟩
  have l0 : v3 (B + 32) 0 = nI m.1 := by
    have := t4 0 (by omega)
    rw [z2] at this
    exact this
  have lm : ∀ i, i < m.2.1 → v3 (B + 32) (1 + i) = nI (m.2.2 i) := fun i hi => by
    have := t4 (1 + i) (by omega)
    rw [z3 i hi, Nat.zero_add] at this
    exact this
  have t1 : f_Rows_takeFirst (B + 2) (B + 32) (0 : Int32) v = some (nI (sz 0), v3) := t1
  have hx5 : nI (sz 0) - (1 : Int32) = nI m.2.1 := by
    rw [z1, show (1 : Int32) = nI 1 from rfl, pk_sub (by omega), show 1 + m.2.1 - 1 = m.2.1 by omega]
  have hx6 : sv_min (nI m.2.1) 24 = nI (min m.2.1 24) := sv_min_n (b := 24) (by omega) (by omega)
  unfold f_Host_sendOut_l8 f_M_sends
  dsimp only [sv_le]
  rw [s7, s11, if_lt0 (by omega), if_pos hl, t1]
  dsimp only [sv_bi, Option.bind]
  rw [hx5, hx6, pk_sub (Nat.min_le_left _ _), if_lt0 (by omega), M.1, show (24 : Int32) = nI 24 from rfl, if_le (by omega) (by omega)]
  by_cases hs : m.2.1 ≤ 24
  · rw [if_neg (by omega), if_pos hs, show min m.2.1 24 = m.2.1 by omega, Nat.sub_self]
    obtain ⟨v4, w4, f1, f2, f3, f4, f5⟩ := nr_part (n := m.2.1) (off := 0) (mo := 0) (mr := 0) (proto := m.1) (m := m.2.2) hh hB N3 hs (by omega) (Or.inl ⟨rfl, rfl⟩) m1 l0 (fun i hi => by rw [Nat.zero_add]; exact lm i hi) (fun i hi => by rw [Nat.zero_add]; exact M.2 i hi) (fun i hi => by rw [Nat.zero_add]; exact m3 i hi)
    obtain ⟨v5, w5, g1, g2, g3, g4, g5, g6⟩ := ie_go hh hB f3 hl hl2
    have C5 : CS h v4 v5 := ⟨fun p p1 p2 p3 p4 p5 => g4 p (by omega), fun i hi => by rw [← hB]; exact g5 i hi⟩
    refine ⟨v5, w5, ?_, ?_, g3, ?_, (C3.tr f4.cs).tr C5, f5.tr ⟨fun p h1 h2 h3 h4 => g6 p (by omega), fun i _ _ => congrFun (g6 75 (by omega)) i⟩⟩
    · unfold f_Host_sendOut_b52
      show Option.bind (f_Host_sendPacket B (nI 0) (nI m.2.1) 0 v3) _ = _
      rw [f1]
      exact g1
    · show Option.bind (f_M_part (nI h) (nI m.1) (nI 0) (nI m.2.1) 0 w) _ = _
      rw [f2]
      exact g2
    · refine O3.same ?_ ?_ ?_
      · rw [g4 _ (by omega), f4 _ (by omega) (by omega) (by omega)]
      · rw [g4 _ (by omega), f4 _ (by omega) (by omega) (by omega)]
      · rw [g4 _ (by omega), f4 _ (by omega) (by omega) (by omega)]
  · rw [if_pos (by omega), if_neg hs, show min m.2.1 24 = 24 by omega]
    obtain ⟨v4, w4, f1, f2, f3, f4, f5⟩ := nr_part (n := 24) (off := 0) (mo := 128) (mr := 1) (proto := m.1) (m := m.2.2) hh hB N3 (by omega) (by omega) (Or.inr ⟨rfl, rfl⟩) m1 l0 (fun i hi => by rw [Nat.zero_add]; exact lm i (by omega)) (fun i hi => by rw [Nat.zero_add]; exact M.2 i (by omega)) (fun i hi => by rw [Nat.zero_add]; exact m3 i (by omega))
    have k32 : v4 (B + 32) = v3 (B + 32) := f4 _ (by omega) (by omega) (by omega)
    have k114 : w4 114 = w 114 := f5.1 114 (by omega) (by omega) (by omega) (by omega)
    have k41 : w4 75 41 = nI m.2.1 := (f5.2 41 (by omega) (by omega)).trans M.1
    obtain ⟨v6, w6, j1, j2, j3, j4, j5⟩ := nr_part (n := m.2.1 - 24) (off := 24) (mo := 0) (mr := 0) (proto := m.1) (m := m.2.2) hh hB f3 (by omega) (by omega) (Or.inl ⟨rfl, rfl⟩) m1 (by rw [k32]; exact l0) (fun i hi => by rw [k32]; exact lm (24 + i) (by omega)) (fun i hi => by rw [k114]; exact M.2 (24 + i) (by omega)) (fun i hi => m3 (24 + i) (by omega))
    obtain ⟨v5, w5, g1, g2, g3, g4, g5, g6⟩ := ie_go hh hB j3 hl hl2
    have C5 : CS h v6 v5 := ⟨fun p p1 p2 p3 p4 p5 => g4 p (by omega), fun i hi => by rw [← hB]; exact g5 i hi⟩
    refine ⟨v5, w5, ?_, ?_, g3, ?_, ((C3.tr f4.cs).tr j4.cs).tr C5, (f5.tr j5).tr ⟨fun p h1 h2 h3 h4 => g6 p (by omega), fun i _ _ => congrFun (g6 75 (by omega)) i⟩⟩
    · unfold f_Host_sendOut_b52
      show Option.bind (f_Host_sendPacket B (nI 0) (nI 24) 1 v3) _ = _
      rw [f1]
      show (if (0 : Int32) < nI (m.2.1 - 24) then Option.bind (f_Host_sendPacket B (nI 24) (nI (m.2.1 - 24)) 0 v4) (fun v11 => f_Host_sendOut_b68 B (nI left) v11) else _) = _
      rw [if_lt0 (by omega), if_pos (by omega), j1]
      exact g1
    · show Option.bind (f_M_part (nI h) (nI m.1) (nI 0) (nI 24) 1 w) _ = _
      rw [f2]
      show Option.bind (f_M_part (nI h) (nI m.1) (nI 24) (w4 75 41 - nI 24) 0 w4) _ = _
      rw [k41, pk_sub (by omega), j2]
      exact g2
    · refine O3.same ?_ ?_ ?_
      · rw [g4 _ (by omega), j4 _ (by omega) (by omega) (by omega), f4 _ (by omega) (by omega) (by omega)]
      · rw [g4 _ (by omega), j4 _ (by omega) (by omega) (by omega), f4 _ (by omega) (by omega) (by omega)]
      · rw [g4 _ (by omega), j4 _ (by omega) (by omega) (by omega), f4 _ (by omega) (by omega) (by omega)]
/-- the reference has sent these messages, one behind another -/
def SQ (h : Nat) : List MG → sv_T → sv_T → Prop
  | [], w, w' => ∀ p, 76 ≤ p → p ≤ 85 → w' p = w p
  | m :: ms, w, w' => ∃ u u', (∀ p, 76 ≤ p → p ≤ 85 → u p = w p) ∧ MGat u m ∧ f_M_sends (nI h) (nI m.1) u = some u' ∧ SQ h ms u' w'
theorem SQ.app {h : Nat} : ∀ {ms ms' : List MG} {w w' w'' : sv_T}, SQ h ms w w' → SQ h ms' w' w'' → SQ h (ms ++ ms') w w''
  | [], [], _, _, _, h1, h2 => fun p a b => (h2 p a b).trans (h1 p a b)
  | [], m :: ms', _, _, _, h1, h2 => by
    obtain ⟨u, u', a, b, c, d⟩ := h2
    exact ⟨u, u', fun p x y => (a p x y).trans (h1 p x y), b, c, d⟩
  | m :: ms, ms', _, _, _, h1, h2 => by
    obtain ⟨u, u', a, b, c, d⟩ := h1
    exact ⟨u, u', a, b, c, d.app h2⟩
/-- all of the outbox goes, as the reference has sent it already -/
theorem nr_out {h B : Nat} (hh : h ≤ 1) (hB : B = 9 + 33 * h) : ∀ (ms : List MG) (n : Nat) {v w w' : sv_T}, NR v w → OB v B ms → ms.length ≤ 8 → ms.length < n → SQ h ms w w' → ∃ v', sv_loop (fun (s : Int32 × sv_T) => f_Host_sendOut_l8 B s.1 (s.2)) n (nI ms.length, v) = some v' ∧ NR v' w' ∧ OB v' B [] ∧ CS h v v'
  | [], n, v, w, w', N, O, _, hn, S => by
    refine ⟨v, lp_e (by omega) ?_, N.keep (fun _ _ => rfl) S, O, CS.rf⟩
    show f_Host_sendOut_l8 B (nI 0) v = _
    unfold f_Host_sendOut_l8
    rw [if_neg (by decide)]
  | m :: ms, n, v, w, w', N, O, hl, hn, S => by
    obtain ⟨u, u', a, b, c, d⟩ := S
    have hl' : ms.length + 1 ≤ 8 := hl
    have hn' : ms.length + 1 < n := hn
    obtain ⟨v1, w1, f1, f2, f3, f4, f5, f6⟩ := nr_one (left := ms.length + 1) hh hB (N.keep (fun _ _ => rfl) a) O (by omega) b (by omega) (by omega)
    rw [c] at f2
    cases f2
    obtain ⟨v2, g1, g2, g3, g4⟩ := nr_out hh hB ms (n - 1) f3 f4 (by omega) (by omega) d
    refine ⟨v2, ?_, g2, g3, f5.tr g4⟩
    show sv_loop _ n (nI (ms.length + 1), v) = _
    rw [lp_s (by omega) f1]
    exact g1
theorem nr_sendOut {h B : Nat} {ms : List MG} {v w w' : sv_T} (hh : h ≤ 1) (hB : B = 9 + 33 * h) (N : NR v w) (O : OB v B ms) (hl : ms.length ≤ 8) (S : SQ h ms w w') : ∃ v', f_Host_sendOut B v = some (1, v') ∧ NR v' w' ∧ OB v' B [] ∧ CS h v v' := by
  obtain ⟨v', f1, f2, f3, f4⟩ := nr_out hh hB ms 100000 N O hl (by omega) S
  refine ⟨v', ?_, f2, f3, f4⟩
  obtain ⟨sz, bs, a1, a2, a3⟩ := O
  unfold f_Host_sendOut f_Rows_count
  dsimp only [sv_bi, Option.bind]
  rw [(sh_H hh hB).2.2.2.2.2.2.1, a1.1, f1]
  rfl
