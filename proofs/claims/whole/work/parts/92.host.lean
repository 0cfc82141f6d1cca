/-- a slot in use, on both sides -/
def SU (v w : sv_T) (q s : Nat) : Prop := v q 2 = w 89 s ∧ v q 3 = w 90 s ∧ EQ (v q 4) (w 91 s) 10 ∧ ((v q 5 = -1 ∧ w 92 s = 0) ∨ ∃ n : Nat, 0 < n ∧ n ≤ 48 ∧ v q 5 = nI n ∧ w 92 s = nI n) ∧ ∀ i, i < 48 → (w 94 (48 * s + i) = 0 ∧ v (q + 1) i = -1) ∨ (w 94 (48 * s + i) = 1 ∧ ∃ b : Nat, b < 256 ∧ v (q + 1) i = nI b ∧ w 93 (48 * s + i) = nI b)
/-- a slot for pieces, on both sides -/
def SL (v w : sv_T) (q s : Nat) : Prop := ∃ u : Nat, u ≤ 1 ∧ v q 1 = nI u ∧ w 88 s = nI u ∧ (u = 1 → SU v w q s)
theorem SU.same {v v' w w' : sv_T} {q s : Nat} (H : SU v w q s) (h1 : ∀ i, i ≠ 1 → v' q i = v q i) (h2 : v' (q + 1) = v (q + 1)) (h3 : ∀ p, 89 ≤ p → p ≤ 92 → w' p s = w p s) (h4 : ∀ i, i < 48 → w' 93 (48 * s + i) = w 93 (48 * s + i) ∧ w' 94 (48 * s + i) = w 94 (48 * s + i)) : SU v' w' q s := by
  obtain ⟨b1, b2, b3, b4, b5⟩ := H
  unfold SU
  rw [h1 2 (by omega), h1 3 (by omega), h1 4 (by omega), h1 5 (by omega), h2, h3 89 (by omega) (by omega), h3 90 (by omega) (by omega), h3 91 (by omega) (by omega), h3 92 (by omega) (by omega)]
  refine ⟨b1, b2, b3, b4, fun i hi => ?_⟩
  rw [(h4 i hi).1, (h4 i hi).2]
  exact b5 i hi
theorem SL.same {v v' w w' : sv_T} {q s : Nat} (H : SL v w q s) (h1 : v' q = v q) (h2 : v' (q + 1) = v (q + 1)) (h3 : ∀ p, 88 ≤ p → p ≤ 92 → w' p s = w p s) (h4 : ∀ i, i < 48 → w' 93 (48 * s + i) = w 93 (48 * s + i) ∧ w' 94 (48 * s + i) = w 94 (48 * s + i)) : SL v' w' q s := by
  obtain ⟨u, a1, a2, a3, a4⟩ := H
  exact ⟨u, a1, by rw [h1]; exact a2, by rw [h3 88 (by omega) (by omega)]; exact a3, fun z => (a4 z).same (fun i _ => by rw [h1]) h2 (fun p x y => h3 p (by omega) y) h4⟩
/-- the sockets, slots, echoes and the clock, on both sides -/
def HR (v w : sv_T) : Prop := (∀ h j, h ≤ 1 → j ≤ 1 → SR v w (25 + 33 * h + 7 * j) (2 * h + j)) ∧ (∀ h k, h ≤ 1 → k ≤ 1 → SL v w (20 + 33 * h + 2 * k) (2 * h + k)) ∧ (∀ h, h ≤ 1 → v (9 + 33 * h) 12 = w 86 h ∧ v (9 + 33 * h) 13 = w 87 h) ∧ v 0 2 = w 75 0
/-- between two calls -/
def RI (v w : sv_T) : Prop := NR v w ∧ HR v w ∧ ∀ h, h ≤ 1 → OB v (9 + 33 * h) []
/-- in the midst of a call at host h -/
def HI (h : Nat) (w0 : sv_T) (ms : List MG) (v w : sv_T) : Prop := PN h (9 + 33 * h) w0 ms v w ∧ HR v w ∧ OB v (9 + 33 * (1 - h)) []
def LO (v v' : sv_T) : Prop := ∀ p, 75 ≤ p → v' p = v p
def HO (w w' : sv_T) : Prop := ∀ p, p < 75 → w' p = w p
theorem LO.rf {v : sv_T} : LO v v := fun _ _ => rfl
theorem HO.rf {v : sv_T} : HO v v := fun _ _ => rfl
theorem LO.tr {v v' v'' : sv_T} (h1 : LO v v') (h2 : LO v' v'') : LO v v'' := fun p a => (h2 p a).trans (h1 p a)
theorem HO.tr {v v' v'' : sv_T} (h1 : HO v v') (h2 : HO v' v'') : HO v v'' := fun p a => (h2 p a).trans (h1 p a)
theorem RI.hi {h : Nat} {v w : sv_T} (R : RI v w) (hh : h ≤ 1) : HI h w [] v w :=
  ⟨⟨R.1, fun _ _ _ => rfl, R.2.2 h hh, v, R.1⟩, R.2.1, R.2.2 (1 - h) (by omega)⟩
theorem HR.cs {h : Nat} {v v' w : sv_T} (hh : h ≤ 1) (H : HR v w) (C : CS h v v') : HR v' w := by
  obtain ⟨a1, a2, a3, a4⟩ := H
  have d : h = 0 ∨ h = 1 := by omega
  refine ⟨fun h' j b1 b2 => ?_, fun h' k b1 b2 => ?_, fun h' b => ?_, ?_⟩
  · have d' : h' = 0 ∨ h' = 1 := by omega
    exact (a1 h' j b1 b2).same (fun p hp => C.1 p (by omega) (by omega) (by omega) (by omega) (by omega)) (fun _ _ _ => rfl)
  · have d' : h' = 0 ∨ h' = 1 := by omega
    exact (a2 h' k b1 b2).same (C.1 _ (by omega) (by omega) (by omega) (by omega) (by omega)) (C.1 _ (by omega) (by omega) (by omega) (by omega) (by omega)) (fun _ _ _ => rfl) (fun _ _ => ⟨rfl, rfl⟩)
  · by_cases z : h' = h
    · rw [z, C.2 12 (by omega), C.2 13 (by omega), ← z]
      exact a3 h' b
    · rw [C.1 (9 + 33 * h') (by omega) (by omega) (by omega) (by omega) (by omega)]
      exact a3 h' b
  · rw [C.1 0 (by omega) (by omega) (by omega) (by omega) (by omega)]
    exact a4
theorem CS.lo {h : Nat} {v v' : sv_T} (hh : h ≤ 1) (C : CS h v v') : LO v v' := fun p hp => C.1 p (by omega) (by omega) (by omega) (by omega) (by omega)
/-- what waits in the outbox goes, and all is at rest again -/
theorem HI.out {h : Nat} {w0 v w : sv_T} {ms : List MG} (hh : h ≤ 1) (H : HI h w0 ms v w) (hl : ms.length ≤ 8) : ∃ v', f_Host_sendOut (9 + 33 * h) v = some (1, v') ∧ RI v' w ∧ LO v v' := by
  obtain ⟨⟨p1, p2, p3, p4⟩, a2, a3⟩ := H
  obtain ⟨v', b1, b2, b3, b4⟩ := nr_sendOut hh rfl p1 p3 hl p2
  refine ⟨v', b1, ⟨b2, a2.cs hh b4, fun h' hh' => ?_⟩, b4.lo hh⟩
  by_cases z : h' = h
  · rw [z]; exact b3
  · have e : h' = 1 - h := by omega
    rw [e]
    exact a3.same (b4.1 _ (by omega) (by omega) (by omega) (by omega) (by omega)) (b4.1 _ (by omega) (by omega) (by omega) (by omega) (by omega)) (b4.1 _ (by omega) (by omega) (by omega) (by omega) (by omega))
theorem MX.at {s p i : Nat} {w w' : sv_T} (M : MX s w w') (h1 : p < 75 ∨ 85 < p) (h2 : p < 95 ∨ 116 < p) : w' p i = w p i := M.1 p i h1 (by omega) (by omega) (by omega) (by omega) ⟨fun z => by omega, fun z => by omega, fun z => by omega⟩
theorem HR.sock {h j E B s : Nat} {v w v' w' : sv_T} (hh : h ≤ 1) (hj : j ≤ 1) (hE : E = 25 + 33 * h + 7 * j) (hB : B = 9 + 33 * h) (hs : s = 2 * h + j) (H : HR v w) (S : SR v' w' E s) (C : CX E B v v') (M : MX s w w') : HR v' w' := by
  obtain ⟨a1, a2, a3, a4⟩ := H
  have d : h = 0 ∨ h = 1 := by omega
  have dj : j = 0 ∨ j = 1 := by omega
  refine ⟨fun h' j' b1 b2 => ?_, fun h' k b1 b2 => ?_, fun h' b => ?_, ?_⟩
  · have d' : h' = 0 ∨ h' = 1 := by omega
    have dj' : j' = 0 ∨ j' = 1 := by omega
    by_cases z : h' = h ∧ j' = j
    · obtain ⟨rfl, rfl⟩ := z
      rw [← hE, ← hs]
      exact S
    · exact (a1 h' j' b1 b2).other (s := s) (E := E) (B := B) (by omega) (by omega) (by omega) (by omega) (by omega) C M
  · have d' : h' = 0 ∨ h' = 1 := by omega
    have dk : k = 0 ∨ k = 1 := by omega
    exact (a2 h' k b1 b2).same (C _ (by omega) (by omega)) (C _ (by omega) (by omega)) (fun p _ _ => M.at (by omega) (by omega)) (fun i _ => ⟨M.at (by omega) (by omega), M.at (by omega) (by omega)⟩)
  · have d' : h' = 0 ∨ h' = 1 := by omega
    rw [C _ (by omega) (by omega), M.at (by omega) (by omega), M.at (by omega) (by omega)]
    exact a3 h' b
  · rw [C 0 (by omega) (by omega), M.2 0 (by omega) (by omega) (by omega)]
    exact a4
theorem CX.lo {h j E B : Nat} {v v' : sv_T} (hh : h ≤ 1) (hj : j ≤ 1) (hE : E = 25 + 33 * h + 7 * j) (hB : B = 9 + 33 * h) (C : CX E B v v') : LO v v' := fun p hp => C p (by omega) (by omega)
theorem MX.ho {s : Nat} {w w' : sv_T} (M : MX s w w') : HO w w' := fun p hp => funext fun _ => M.at (by omega) (by omega)
/-- a socket's call within a host's -/
theorem HI.sock {h j E B s : Nat} {w0 v w v' w' : sv_T} {ms ms' : List MG} (hh : h ≤ 1) (hj : j ≤ 1) (hE : E = 25 + 33 * h + 7 * j) (hB : B = 9 + 33 * h) (hs : s = 2 * h + j) (H : HI h w0 ms v w) (P : PN h B w0 ms' v' w') (S : SR v' w' E s) (C : CX E B v v') (M : MX s w w') : HI h w0 ms' v' w' := by
  refine ⟨by rw [← hB]; exact P, H.2.1.sock hh hj hE hB hs S C M, H.2.2.same (C _ (by omega) (by omega)) (C _ (by omega) (by omega)) (C _ (by omega) (by omega))⟩
/-- a call of the program on both sides: the same answer, and at rest again -/
def ST (v w : sv_T) (X Y : Option (Int32 × sv_T)) : Prop := ∃ r v' w', X = some (r, v') ∧ Y = some (r, w') ∧ RI v' w' ∧ LO v v' ∧ HO w w'
theorem RI.keep {v w v1 w1 : sv_T} (R : RI v w) (h1 : ∀ p, p < 75 → v1 p = v p) (h2 : ∀ p, 75 ≤ p → w1 p = w p) : RI v1 w1 := by
  obtain ⟨n, ⟨a1, a2, a3, a4⟩, o⟩ := R
  refine ⟨n.keep (fun p hp => h1 p (by omega)) (fun p x y => h2 p (by omega)), ⟨fun h j x y => (a1 h j x y).same (fun p hp => h1 p (by omega)) (fun p z t => h2 p (by omega)), fun h k x y => (a2 h k x y).same (h1 _ (by omega)) (h1 _ (by omega)) (fun p z t => by rw [h2 p (by omega)]) (fun i _ => by rw [h2 93 (by omega), h2 94 (by omega)]; exact ⟨rfl, rfl⟩), fun h x => ?_, ?_⟩, fun h x => (o h x).same (h1 _ (by omega)) (h1 _ (by omega)) (h1 _ (by omega))⟩
  · rw [h1 _ (by omega), h2 86 (by omega), h2 87 (by omega)]
    exact a3 h x
  · rw [h1 0 (by omega), h2 75 (by omega)]
    exact a4
theorem st_fin {X Y : sv_T → Option (Int32 × sv_T)} (H : ∀ v w, RI v w → ST v w (X v) (Y w)) : ∀ v, RI v v → ∃ r v1 v2, X v = some (r, v1) ∧ Y v1 = some (r, v2) ∧ RI v2 v2 := by
  intro v R
  obtain ⟨r, v1, w1, a1, _, _, a4, _⟩ := H v v R
  obtain ⟨r2, v2, w2, b1, b2, b3, b4, b5⟩ := H v v1 (R.keep (fun _ _ => rfl) a4)
  rw [a1] at b1
  cases b1
  exact ⟨r, v1, w2, a1, b2, b3.keep b5 (fun _ _ => rfl)⟩
theorem st_same {v w : sv_T} (r : Int32) (R : RI v w) : ST v w (some (r, v)) (some (r, w)) := ⟨r, v, w, rfl, rfl, R, LO.rf, HO.rf⟩
theorem eh_of (a : Int32) : (∃ h : Nat, h ≤ 1 ∧ a = nI h) ∨ (a ≠ 0 ∧ a ≠ 1) := by
  by_cases z : a = 0
  · exact Or.inl ⟨0, by omega, z⟩
  · by_cases z1 : a = 1
    · exact Or.inl ⟨1, by omega, z1⟩
    · exact Or.inr ⟨z, z1⟩
theorem wh_yes {h : Nat} {v : sv_T} (hh : h ≤ 1) : f_W_isHost (nI h) v = some (1, v) ∧ f_M_isHost (nI h) v = some (1, v) := by
  obtain rfl | rfl : h = 0 ∨ h = 1 := by omega
  · exact ⟨rfl, rfl⟩
  · exact ⟨rfl, rfl⟩
theorem wh_no {a : Int32} {v : sv_T} (ha : a ≠ 0 ∧ a ≠ 1) : f_W_isHost a v = some (0, v) ∧ f_M_isHost a v = some (0, v) := by
  unfold f_W_isHost f_M_isHost
  rw [if_neg ha.1, if_neg ha.2]
  exact ⟨rfl, rfl⟩
theorem ea_of (a b : Int32) : (∃ h j : Nat, h ≤ 1 ∧ j ≤ 1 ∧ a = nI h ∧ b = nI (1 + j)) ∨ ∀ v, f_W_endpointAt a b v = some (none, v) ∧ f_M_isSocket a b v = some (0, v) := by
  rcases eh_of a with ⟨h, hh, rfl⟩ | ha
  · by_cases z : b = 1
    · exact Or.inl ⟨h, 0, hh, by omega, rfl, z⟩
    · by_cases z2 : b = 2
      · exact Or.inl ⟨h, 1, hh, by omega, rfl, z2⟩
      · refine Or.inr fun v => ?_
        unfold f_W_endpointAt f_M_isSocket
        rw [(wh_yes hh).1, (wh_yes hh).2]
        unfold f_Host_endpointAt
        simp only [sv_bi, Option.bind_some, if_neg z, if_neg z2]
        obtain rfl | rfl : h = 0 ∨ h = 1 := by omega
        · exact ⟨rfl, rfl⟩
        · exact ⟨rfl, rfl⟩
  · refine Or.inr fun v => ?_
    unfold f_W_endpointAt f_M_isSocket
    rw [(wh_no ha).1, (wh_no ha).2]
    exact ⟨rfl, rfl⟩
theorem ea_yes {h j : Nat} {v : sv_T} (hh : h ≤ 1) (hj : j ≤ 1) : f_W_endpointAt (nI h) (nI (1 + j)) v = some (some (25 + 33 * h + 7 * j), v) := by
  obtain rfl | rfl : h = 0 ∨ h = 1 := by omega
  · obtain rfl | rfl : j = 0 ∨ j = 1 := by omega
    · rfl
    · rfl
  · obtain rfl | rfl : j = 0 ∨ j = 1 := by omega
    · rfl
    · rfl
theorem to_E {α : Type} {h j : Nat} {X : Option α} (hh : h ≤ 1) (hj : j ≤ 1) : sv_to (25 + 33 * h + 7 * j) 7 X = X := by
  obtain rfl | rfl : h = 0 ∨ h = 1 := by omega
  · obtain rfl | rfl : j = 0 ∨ j = 1 := by omega
    · rfl
    · rfl
  · obtain rfl | rfl : j = 0 ∨ j = 1 := by omega
    · rfl
    · rfl
/-- hosts by number -/
theorem hs_at {α : Type} {h : Nat} {K : Nat → Option α} (hh : h ≤ 1) : (sv_ck (nI h) 2 <| sv_lr (List.getD [9, 42] (nI h).toNatClampNeg 0) fun r => sv_to r 2 <| K r) = K (9 + 33 * h) := by
  obtain rfl | rfl : h = 0 ∨ h = 1 := by omega
  · rfl
  · rfl
theorem ws_at {α : Type} {h : Nat} {K : Nat → Option α} (hh : h ≤ 1) : (sv_ck (nI h) 2 <| sv_lr (List.getD [1, 4] (nI h).toNatClampNeg 0) fun r => sv_to r 1 <| K r) = K (1 + 3 * h) := by
  obtain rfl | rfl : h = 0 ∨ h = 1 := by omega
  · rfl
  · rfl
