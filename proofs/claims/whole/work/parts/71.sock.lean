-- numbers of two bytes
def du (a b : Nat) : Nat := (a + 65536 - b) % 65536
theorem sub16 {a b : Nat} (ha : a < 2 ^ 31) (hb : b < 65536) : (nI a - nI b) &&& 65535 = nI (du a b) := by
  rw [pk_and (m := 65535) _ 16 (by decide)]
  have e : (nI a - nI b).toBitVec.toNat = (2 ^ 32 - b + a) % 2 ^ 32 := by
    show ((nI a).toBitVec - (nI b).toBitVec).toNat = _
    rw [BitVec.toNat_sub, pk_tn (by omega), pk_tn (by omega)]
  rw [e]
  unfold du
  congr 1
  omega
theorem add16 {a b : Nat} (ha : a < 2 ^ 30) (hb : b < 2 ^ 30) : (nI a + nI b) &&& 65535 = nI ((a + b) % 65536) := by
  rw [nI_add]
  exact pk_andN (m := 65535) (by omega) 16 (by decide)
def fsOf (st : Nat) : Nat := if st = 5 ∨ st = 6 ∨ st = 8 ∨ st = 9 ∨ st = 10 then 1 else 0
/-- a socket of both sides: the class's at E, the reference's s -/
def SK (v w : sv_T) (E s st ti ro tr ou fi un nx wi en ic rc : Nat) (ob ib : Nat → Nat) : Prop :=
  (v E 6 = nI st ∧ w 95 s = nI st) ∧ (v E 7 = nI ti ∧ w 110 s = nI ti) ∧ (v E 8 = nI ro ∧ w 111 s = nI ro) ∧ (v E 9 = nI tr ∧ w 112 s = nI tr) ∧
  (v (E + 2) 1 = nI ou ∧ w 101 s = nI ou) ∧ (v (E + 2) 2 = nI fi ∧ w 96 s = nI fi) ∧ (v (E + 2) 3 = nI un ∧ w 97 s = nI un) ∧ (v (E + 2) 4 = nI nx ∧ w 98 s = nI nx) ∧ (v (E + 2) 5 = nI wi ∧ w 100 s = nI wi) ∧ (v (E + 2) 6 = nI en ∧ w 103 s = nI en) ∧
  (v (E + 4) 2 = nI ic ∧ w 105 s = nI ic) ∧ (v (E + 4) 3 = nI rc ∧ w 99 s = nI rc) ∧ w 104 s = nI (fsOf st) ∧
  (∀ i, i < ou → v (E + 3) i = nI (ob i) ∧ w 102 (64 * s + i) = nI (ob i) ∧ ob i < 256) ∧ ∀ i, i < ic → v (E + 5) i = nI (ib i) ∧ w 106 (32 * s + i) = nI (ib i) ∧ ib i < 256
/-- bounds, and what a state says of the numbers -/
def IV (st ti ro tr ou fi un nx wi en ic rc : Nat) : Prop :=
  (st ≤ 10 ∧ ti ≤ 32 ∧ 4 ≤ ro ∧ ro ≤ 32 ∧ tr ≤ 6 ∧ ou ≤ 64 ∧ fi < 65536 ∧ un < 65536 ∧ nx < 65536 ∧ wi < 256 ∧ en ≤ 1 ∧ ic ≤ 24 ∧ rc < 65536) ∧
  (st ≤ 1 → ti = 0 ∧ ro = 4 ∧ tr = 0 ∧ ou = 0 ∧ fi = 0 ∧ un = 0 ∧ nx = 0 ∧ wi = 0 ∧ en = 0 ∧ ic = 0 ∧ rc = 0) ∧
  (st = 2 ∨ st = 3 → ou = 0 ∧ ic = 0 ∧ en = 0 ∧ nx = (un + 1) % 65536) ∧
  (st = 4 ∨ st = 7 → du nx un ≤ ou) ∧ (st = 5 ∨ st = 8 ∨ st = 9 → du nx un = ou + 1) ∧ (st = 6 ∨ st = 10 → nx = un ∧ ou = 0)
/-- nothing is kept -/
def KE (v w : sv_T) (E s : Nat) : Prop := v (E + 4) 4 = -1 ∧ w 109 s = -1 ∧ ∀ d, d < 32 → w 107 (32 * s + d) = 0 ∧ v (E + 6) d = -1
/-- what is kept: of the class by the number, of the reference by the distance -/
def KP (v w : sv_T) (E s rc ic : Nat) : Prop := (v (E + 4) 4 = w 109 s ∧ (w 109 s = -1 ∨ ∃ x : Nat, x < 65536 ∧ w 109 s = nI x)) ∧ ∀ d, d < 32 → (w 107 (32 * s + d) = 0 ∧ v (E + 6) ((rc + d) % 32) = -1) ∨ (w 107 (32 * s + d) = 1 ∧ d + ic < 24 ∧ ∃ b : Nat, b < 256 ∧ v (E + 6) ((rc + d) % 32) = nI b ∧ w 108 (32 * s + d) = nI b)
theorem KE.kp {v w : sv_T} {E s rc ic : Nat} (K : KE v w E s) : KP v w E s rc ic := by
  obtain ⟨k1, k2, k3⟩ := K
  refine ⟨⟨k1.trans k2.symm, Or.inl k2⟩, fun d hd => Or.inl ⟨(k3 d hd).1, (k3 ((rc + d) % 32) (Nat.mod_lt _ (by omega))).2⟩⟩
def SR (v w : sv_T) (E s : Nat) : Prop := ∃ (st ti ro tr ou fi un nx wi en ic rc : Nat) (ob ib : Nat → Nat), SK v w E s st ti ro tr ou fi un nx wi en ic rc ob ib ∧ IV st ti ro tr ou fi un nx wi en ic rc ∧ (st ≤ 3 → KE v w E s) ∧ (4 ≤ st → st ≤ 6 → KP v w E s rc ic)
/-- the class's places that a call on the socket at E may change -/
def CX (E B : Nat) (v v' : sv_T) : Prop := ∀ p, (p < E ∨ E + 6 < p) → (p < B + 2 ∨ B + 4 < p) → v' p = v p
def MK (s p i : Nat) : Prop := (p = 102 → i < 64 * s ∨ 64 * s + 64 ≤ i) ∧ (p = 106 ∨ p = 107 ∨ p = 108 → i < 32 * s ∨ 32 * s + 32 ≤ i) ∧ (95 ≤ p → p ≤ 112 → p ≠ 102 → p ≠ 106 → p ≠ 107 → p ≠ 108 → i ≠ s)
def MX (s : Nat) (w w' : sv_T) : Prop := (∀ p i, p < 75 ∨ 85 < p → p ≠ 113 → p ≠ 114 → p ≠ 115 → p ≠ 116 → MK s p i → w' p i = w p i) ∧ ∀ i, i ≠ 39 → i ≠ 41 → i ≠ 43 → w' 75 i = w 75 i
theorem CX.rf {E B : Nat} {v : sv_T} : CX E B v v := fun _ _ _ => rfl
theorem CX.tr {E B : Nat} {v v' v'' : sv_T} (h1 : CX E B v v') (h2 : CX E B v' v'') : CX E B v v'' := fun p a b => (h2 p a b).trans (h1 p a b)
theorem MX.rf {s : Nat} {w : sv_T} : MX s w w := ⟨fun _ _ _ _ _ _ _ _ => rfl, fun _ _ _ _ => rfl⟩
theorem MX.tr {s : Nat} {w w' w'' : sv_T} (h1 : MX s w w') (h2 : MX s w' w'') : MX s w w'' := ⟨fun p i a b c d e f => (h2.1 p i a b c d e f).trans (h1.1 p i a b c d e f), fun i a b c => (h2.2 i a b c).trans (h1.2 i a b c)⟩
theorem CE.cx {E B : Nat} {v v' : sv_T} (H : CE E B v v') : CX E B v v' := fun p a b => H p (by omega) b
theorem ME.mx {s : Nat} {w w' : sv_T} (H : ME w w') : MX s w w' := ⟨fun p i a b c d e _ => congrFun (H.1 p a b c d e) i, H.2⟩
/-- the same socket in other stores -/
theorem SK.same {v v' w w' : sv_T} {E s st ti ro tr ou fi un nx wi en ic rc : Nat} {ob ib : Nat → Nat} (K : SK v w E s st ti ro tr ou fi un nx wi en ic rc ob ib) (hv : ∀ p, p = E ∨ (E + 2 ≤ p ∧ p ≤ E + 6) → v' p = v p) (hw : ∀ p, 95 ≤ p → p ≤ 112 → w' p = w p) : SK v' w' E s st ti ro tr ou fi un nx wi en ic rc ob ib := by
  unfold SK at K ⊢
  rw [hv E (by omega), hv (E + 2) (by omega), hv (E + 3) (by omega), hv (E + 4) (by omega), hv (E + 5) (by omega), hw 95 (by omega) (by omega), hw 96 (by omega) (by omega), hw 97 (by omega) (by omega), hw 98 (by omega) (by omega), hw 99 (by omega) (by omega), hw 100 (by omega) (by omega), hw 101 (by omega) (by omega), hw 102 (by omega) (by omega), hw 103 (by omega) (by omega), hw 104 (by omega) (by omega), hw 105 (by omega) (by omega), hw 106 (by omega) (by omega), hw 110 (by omega) (by omega), hw 111 (by omega) (by omega), hw 112 (by omega) (by omega)]
  exact K
theorem KE.same {v v' w w' : sv_T} {E s : Nat} (K : KE v w E s) (hv : ∀ p, p = E + 4 ∨ p = E + 6 → v' p = v p) (hw : ∀ p, p = 107 ∨ p = 109 → w' p = w p) : KE v' w' E s := by
  unfold KE at K ⊢
  rw [hv (E + 4) (by omega), hv (E + 6) (by omega), hw 107 (by omega), hw 109 (by omega)]
  exact K
theorem KP.same {v v' w w' : sv_T} {E s rc ic : Nat} (K : KP v w E s rc ic) (hv : ∀ p, p = E + 4 ∨ p = E + 6 → v' p = v p) (hw : ∀ p, 107 ≤ p → p ≤ 109 → w' p = w p) : KP v' w' E s rc ic := by
  unfold KP at K ⊢
  rw [hv (E + 4) (by omega), hv (E + 6) (by omega), hw 107 (by omega) (by omega), hw 108 (by omega) (by omega), hw 109 (by omega) (by omega)]
  exact K
/-- another socket stays as it is -/
theorem SR.other {v v' w w' : sv_T} {E s E' s' B : Nat} (H : SR v w E' s') (hs : s < 4) (hs' : s' < 4) (hne : s' ≠ s) (hE : E' + 6 < E ∨ E + 6 < E') (hE2 : E' + 6 < B + 2 ∨ B + 4 < E') (C : CX E B v v') (M : MX s w w') : SR v' w' E' s' := by
  obtain ⟨st, ti, ro, tr, ou, fi, un, nx, wi, en, ic, rc, ob, ib, K, I, K1, K2⟩ := H
  have hv : ∀ p, E' ≤ p → p ≤ E' + 6 → v' p = v p := fun p h1 h2 => C p (by omega) (by omega)
  have hw : ∀ p, 95 ≤ p → p ≤ 112 → p ≠ 102 → p ≠ 106 → p ≠ 107 → p ≠ 108 → w' p s' = w p s' := fun p h1 h2 h3 h4 h5 h6 => M.1 p s' (by omega) (by omega) (by omega) (by omega) (by omega) ⟨fun _ => by omega, fun _ => by omega, fun _ _ _ _ _ _ => hne⟩
  have hw2 : ∀ i, i < 64 → w' 102 (64 * s' + i) = w 102 (64 * s' + i) := fun i hi => M.1 102 _ (by omega) (by omega) (by omega) (by omega) (by omega) ⟨fun _ => by omega, fun _ => by omega, fun _ _ h _ _ _ => absurd rfl h⟩
  have hw3 : ∀ p i, p = 106 ∨ p = 107 ∨ p = 108 → i < 32 → w' p (32 * s' + i) = w p (32 * s' + i) := fun p i hp hi => M.1 p _ (by omega) (by omega) (by omega) (by omega) (by omega) ⟨fun _ => by omega, fun _ => by omega, fun _ _ _ _ _ _ => by omega⟩
  obtain ⟨⟨i1, i2, i3, i4, i5, i6, i7, i8, i9, i10, i11, i12, i13⟩, I2⟩ := I
  refine ⟨st, ti, ro, tr, ou, fi, un, nx, wi, en, ic, rc, ob, ib, ?_, ⟨⟨i1, i2, i3, i4, i5, i6, i7, i8, i9, i10, i11, i12, i13⟩, I2⟩, fun h => ?_, fun h h2 => ?_⟩
  · obtain ⟨k1, k2, k3, k4, k5, k6, k7, k8, k9, k10, k11, k12, k13, k14, k15⟩ := K
    refine ⟨?_, ?_, ?_, ?_, ?_, ?_, ?_, ?_, ?_, ?_, ?_, ?_, ?_, fun i hi => ?_, fun i hi => ?_⟩
    · rw [hv E' (by omega) (by omega), hw 95 (by omega) (by omega) (by omega) (by omega) (by omega) (by omega)]; exact k1
    · rw [hv E' (by omega) (by omega), hw 110 (by omega) (by omega) (by omega) (by omega) (by omega) (by omega)]; exact k2
    · rw [hv E' (by omega) (by omega), hw 111 (by omega) (by omega) (by omega) (by omega) (by omega) (by omega)]; exact k3
    · rw [hv E' (by omega) (by omega), hw 112 (by omega) (by omega) (by omega) (by omega) (by omega) (by omega)]; exact k4
    · rw [hv (E' + 2) (by omega) (by omega), hw 101 (by omega) (by omega) (by omega) (by omega) (by omega) (by omega)]; exact k5
    · rw [hv (E' + 2) (by omega) (by omega), hw 96 (by omega) (by omega) (by omega) (by omega) (by omega) (by omega)]; exact k6
    · rw [hv (E' + 2) (by omega) (by omega), hw 97 (by omega) (by omega) (by omega) (by omega) (by omega) (by omega)]; exact k7
    · rw [hv (E' + 2) (by omega) (by omega), hw 98 (by omega) (by omega) (by omega) (by omega) (by omega) (by omega)]; exact k8
    · rw [hv (E' + 2) (by omega) (by omega), hw 100 (by omega) (by omega) (by omega) (by omega) (by omega) (by omega)]; exact k9
    · rw [hv (E' + 2) (by omega) (by omega), hw 103 (by omega) (by omega) (by omega) (by omega) (by omega) (by omega)]; exact k10
    · rw [hv (E' + 4) (by omega) (by omega), hw 105 (by omega) (by omega) (by omega) (by omega) (by omega) (by omega)]; exact k11
    · rw [hv (E' + 4) (by omega) (by omega), hw 99 (by omega) (by omega) (by omega) (by omega) (by omega) (by omega)]; exact k12
    · rw [hw 104 (by omega) (by omega) (by omega) (by omega) (by omega) (by omega)]; exact k13
    · rw [hv (E' + 3) (by omega) (by omega), hw2 i (by omega)]; exact k14 i hi
    · rw [hv (E' + 5) (by omega) (by omega), hw3 106 i (by omega) (by omega)]; exact k15 i hi
  · obtain ⟨a1, a2, a3⟩ := K1 h
    refine ⟨?_, ?_, fun d hd => ?_⟩
    · rw [hv (E' + 4) (by omega) (by omega)]; exact a1
    · rw [hw 109 (by omega) (by omega) (by omega) (by omega) (by omega) (by omega)]; exact a2
    · rw [hv (E' + 6) (by omega) (by omega), hw3 107 d (by omega) hd]; exact a3 d hd
  · obtain ⟨a1, a2⟩ := K2 h h2
    refine ⟨?_, fun d hd => ?_⟩
    · rw [hv (E' + 4) (by omega) (by omega), hw 109 (by omega) (by omega) (by omega) (by omega) (by omega) (by omega)]; exact a1
    · rw [hv (E' + 6) (by omega) (by omega), hw3 107 d (by omega) hd, hw3 108 d (by omega) hd]; exact a2 d hd
/-- in the midst of a call on host h: the class's network is still that of w0; what is in the outbox the reference has sent -/
def PN (h B : Nat) (w0 : sv_T) (ms : List MG) (v w : sv_T) : Prop := NR v w0 ∧ SQ h ms w0 w ∧ OB v B ms ∧ GH w
/-- a segment goes on both sides -/
theorem pn_emit {v w w0 : sv_T} {h j E B s st ti ro tr ou fi un nx wi en ic rc fl sq ak fr n : Nat} {ob ib : Nat → Nat} {ms : List MG} (hh : h ≤ 1) (hj : j ≤ 1) (hE : E = 25 + 33 * h + 7 * j) (hB : B = 9 + 33 * h) (hs : s = 2 * h + j) (P : PN h B w0 ms v w) (hl : ms.length < 8) (K : SK v w E s st ti ro tr ou fi un nx wi en ic rc ob ib) (hou : ou ≤ 64) (hic : ic ≤ 24) (hf : fl < 256) (hsq : sq < 2 ^ 31) (hak : ak < 2 ^ 31) (hn : n ≤ 32) (hfr : fr + n ≤ ou) :
    ∃ v' w' m, f_Ep_emitWhole E (nI fl) (nI sq) (nI ak) (nI fr) (nI n) v = some v' ∧ f_M_segmentGoes (nI s) (nI fl) (nI sq) (nI ak) (nI fr) (nI n) w = some w' ∧ PN h B w0 (ms ++ [m]) v' w' ∧ CE E B v v' ∧ ME w w' := by
  obtain ⟨p1, p2, p3, p4⟩ := P
  have k5 := K.2.2.2.2.1
  have k11 := K.2.2.2.2.2.2.2.2.2.2.1
  have k14 := K.2.2.2.2.2.2.2.2.2.2.2.2.2.1
  obtain ⟨v', c1, c2, c3⟩ := ce_go (rm := 24 - ic) (d := fun i => ob (fr + i)) hh hj hE hB p3 hl hf hsq hak hn hou hfr (by omega) k5.1 (by rw [k11.1]; congr 1; omega) (fun i hi => (k14 (fr + i) (by omega)).1) (fun i hi => (k14 (fr + i) (by omega)).2.2)
  obtain ⟨w', m1, m2, m3, m4⟩ := me_go (s := s) (fl := fl) (sq := sq) (ak := ak) (fr := fr) (n := n) (rm := 24 - ic) (d := fun i => ob (fr + i)) hh (by omega) p4 hf hsq hak hn (by omega) (by omega) (by rw [k11.2]; congr 1; omega) (fun i hi => by
    have := (k14 (fr + i) (by omega)).2.1
    rw [← Nat.add_assoc] at this
    exact this) (fun i hi => (k14 (fr + i) (by omega)).2.2)
  have es : s % 2 + 1 = 1 + j := by omega
  rw [es] at m2
  refine ⟨v', w', _, c1, m1, ⟨p1.keep (fun p hp => c3 p (by omega) (by omega)) (fun _ _ _ => rfl), p2.app m2, c2, m3⟩, c3, m4⟩
