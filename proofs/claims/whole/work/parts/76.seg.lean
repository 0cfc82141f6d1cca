/-- what a call on a socket does, on both sides: X the class's answer, Y the reference's, at most k messages -/
def OP (h B E s : Nat) (w0 : sv_T) (ms : List MG) (v w : sv_T) (k : Nat) (X Y : Option sv_T) : Prop := ∃ v' w' ms', X = some v' ∧ Y = some w' ∧ PN h B w0 (ms ++ ms') v' w' ∧ ms'.length ≤ k ∧ SR v' w' E s ∧ CX E B v v' ∧ MX s w w'
/-- a segment that has arrived, as both sides have read it: the class's at G, its data in the row A -/
def SG (v w : sv_T) (G A fl sq ak wn dc : Nat) (dt : Nat → Nat) : Prop := (v G 1 = nI dc ∧ w 75 49 = nI dc) ∧ (v G 3 = nI fl ∧ w 75 45 = nI fl) ∧ (v G 4 = nI sq ∧ w 75 46 = nI sq) ∧ (v G 5 = nI ak ∧ w 75 47 = nI ak) ∧ (v G 6 = nI wn ∧ w 75 48 = nI wn) ∧ (∀ i, i < dc → v A (10 + i) = nI (dt i) ∧ dt i < 256) ∧ fl < 32 ∧ sq < 65536 ∧ ak < 65536 ∧ wn < 256 ∧ dc ≤ 32
def hb (fl : Nat) (f : Int32) : Nat := if (nI fl &&& f) = 0 then 0 else 1
theorem hb_le {fl : Nat} {f : Int32} : hb fl f ≤ 1 := by
  unfold hb
  split <;> omega
theorem has_c {v : sv_T} {G fl : Nat} {f : Int32} (h : v G 3 = nI fl) : f_Seg_has G f v = some (nI (hb fl f), v) := by
  unfold f_Seg_has hb
  rw [h]
  by_cases z : (nI fl &&& f) = 0
  · rw [if_pos z, if_pos z]; rfl
  · rw [if_neg z, if_neg z]; rfl
theorem has_m {w : sv_T} {fl : Nat} {f : Int32} (h : w 75 45 = nI fl) : f_M_has f w = some (nI (hb fl f), w) := by
  unfold f_M_has hb
  rw [h]
  by_cases z : (nI fl &&& f) = 0
  · rw [if_pos z, if_pos z]; rfl
  · rw [if_neg z, if_neg z]; rfl
def sg_len (fl dc : Nat) : Nat := dc + hb fl 2 + hb fl 1
theorem len_c {v : sv_T} {G fl dc : Nat} (h : v G 3 = nI fl) (h1 : v G 1 = nI dc) : f_Seg_length G v = some (nI (sg_len fl dc), v) := by
  unfold f_Seg_length f_Seg_length_b17 f_Seg_length_b31
  simp only [has_c h, sv_bi, Option.bind_some, h1]
  have a := @hb_le fl 2
  have b := @hb_le fl 1
  unfold sg_len
  rcases (show hb fl 2 = 0 ∨ hb fl 2 = 1 by omega) with e2 | e2
  · rcases (show hb fl 1 = 0 ∨ hb fl 1 = 1 by omega) with e1 | e1
    · rw [e2, e1]
      show some (nI dc + nI 0 + nI 0, v) = _
      rw [nI_add, nI_add]
    · rw [e2, e1]
      show some (nI dc + nI 0 + nI 1, v) = _
      rw [nI_add, nI_add]
  · rcases (show hb fl 1 = 0 ∨ hb fl 1 = 1 by omega) with e1 | e1
    · rw [e2, e1]
      show some (nI dc + nI 1 + nI 0, v) = _
      rw [nI_add, nI_add]
    · rw [e2, e1]
      show some (nI dc + nI 1 + nI 1, v) = _
      rw [nI_add, nI_add]
theorem len_m {w : sv_T} {fl dc : Nat} (h : w 75 45 = nI fl) (h1 : w 75 49 = nI dc) : f_M_span w = some (nI (sg_len fl dc), w) := by
  unfold f_M_span f_M_span_b17 f_M_span_b31
  simp only [has_m h, sv_bi, Option.bind_some, h1]
  have a := @hb_le fl 2
  have b := @hb_le fl 1
  unfold sg_len
  rcases (show hb fl 2 = 0 ∨ hb fl 2 = 1 by omega) with e2 | e2
  · rcases (show hb fl 1 = 0 ∨ hb fl 1 = 1 by omega) with e1 | e1
    · rw [e2, e1]
      show some (nI dc + nI 0 + nI 0, w) = _
      rw [nI_add, nI_add]
    · rw [e2, e1]
      show some (nI dc + nI 0 + nI 1, w) = _
      rw [nI_add, nI_add]
  · rcases (show hb fl 1 = 0 ∨ hb fl 1 = 1 by omega) with e1 | e1
    · rw [e2, e1]
      show some (nI dc + nI 1 + nI 0, w) = _
      rw [nI_add, nI_add]
    · rw [e2, e1]
      show some (nI dc + nI 1 + nI 1, w) = _
      rw [nI_add, nI_add]
theorem near_c {v : sv_T} {q rc a l : Nat} (h3 : v q 3 = nI rc) (hrc : rc < 65536) (ha : a < 2 ^ 31) (hl : l < 2 ^ 31) : f_Rcv_isNear q (nI a) (nI l) v = some (nI (if du a rc < l then 1 else 0), v) := by
  have : du a rc < 65536 := Nat.mod_lt _ (by omega)
  unfold f_Rcv_isNear
  rw [h3, sub16 ha hrc, if_lt (by omega) hl]
  by_cases z : du a rc < l
  · rw [if_pos z, if_pos z]; rfl
  · rw [if_neg z, if_neg z]; rfl
theorem if01 {α : Type} {c : Prop} {D : Decidable c} {X Y : α} : (if (nI (@ite Nat c D 1 0)) = (0 : Int32) then X else Y) = @ite α c D Y X := by
  by_cases z : c
  · rw [if_pos z, if_pos z]
    exact if_neg (by decide)
  · rw [if_neg z, if_neg z]
    exact if_pos rfl
/-- does a segment fit: the same on both sides -/
theorem fits_go {v w : sv_T} {q s G A ic rc fl sq ak wn dc : Nat} {dt : Nat → Nat} (hs : s < 4) (S : SG v w G A fl sq ak wn dc dt) (k11 : v q 2 = nI ic ∧ w 105 s = nI ic) (k12 : v q 3 = nI rc ∧ w 99 s = nI rc) (hic : ic ≤ 24) (hrc : rc < 65536) : ∃ b : Nat, b ≤ 1 ∧ f_Rcv_fits q G v = some (nI b, v) ∧ f_M_fits (nI s) w = some (nI b, w) := by
  obtain ⟨g1, g2, g3, g4, g5, g6, g7, g8, g9, g10, g11⟩ := S
  have a := @hb_le fl 2
  have b := @hb_le fl 1
  have hlen : sg_len fl dc ≤ 34 := by unfold sg_len; omega
  have hdu : ∀ x, du x rc < 65536 := fun x => Nat.mod_lt _ (by omega)
  unfold f_Rcv_fits f_M_fits f_M_less f_M_room f_Rcv_room
  simp only [len_c g2.1 g1.1, len_m g2.2 g1.2, sv_bi, Option.bind_some, ck_n hs (show 4 < 2 ^ 31 by omega), nI_clamp (show s < 2 ^ 31 by omega), g3.1, g3.2, k12.1, k12.2, k11.1, k11.2]
  have e24 : (24 : Int32) - nI ic = nI (24 - ic) := pk_sub (a := 24) hic
  simp only [e24, sub16 (show sq < 2 ^ 31 by omega) hrc, near_c k12.1 hrc (show sq < 2 ^ 31 by omega) (show 24 - ic < 2 ^ 31 by omega), Option.bind_some]
  rw [if_eq0 (a := sg_len fl dc) (by omega), if_eq0 (a := sg_len fl dc) (by omega)]
  by_cases z : sg_len fl dc = 0
  · rw [if_pos z, if_pos z, if01, if_eq (by omega) (by omega), if_eq0 (a := du sq rc) (by have := hdu sq; omega), if_lt (by have := hdu sq; omega) (by omega)]
    by_cases z1 : sq = rc
    · have : du sq rc = 0 := by unfold du; omega
      rw [if_pos z1, if_pos this]
      exact ⟨1, by omega, rfl, rfl⟩
    · have : du sq rc ≠ 0 := by unfold du; omega
      rw [if_neg z1, if_neg this]
      by_cases z2 : du sq rc < 24 - ic
      · rw [if_pos z2, if_pos z2]; exact ⟨1, by omega, rfl, rfl⟩
      · rw [if_neg z2, if_neg z2]; exact ⟨0, by omega, rfl, rfl⟩
  · have e2 : nI sq + nI (sg_len fl dc) - 1 = nI (sq + sg_len fl dc - 1) := by
      rw [nI_add]
      exact pk_sub (b := 1) (by omega)
    rw [if_neg z, if_neg z]
    simp only [if01, g3.1, k11.1, e24, e2, sub16 (show sq + sg_len fl dc - 1 < 2 ^ 31 by omega) hrc, near_c k12.1 hrc (show sq + sg_len fl dc - 1 < 2 ^ 31 by omega) (show 24 - ic < 2 ^ 31 by omega), Option.bind_some]
    rw [if_lt0 (by omega), if_lt (by have := hdu sq; omega) (by omega), if_lt (by have := hdu (sq + sg_len fl dc - 1); omega) (by omega)]
    by_cases z0 : 0 < 24 - ic
    · rw [if_pos z0]
      by_cases z1 : du sq rc < 24 - ic
      · rw [if_pos z1, if_pos z1]; exact ⟨1, by omega, rfl, rfl⟩
      · rw [if_neg z1, if_neg z1]
        by_cases z2 : du (sq + sg_len fl dc - 1) rc < 24 - ic
        · rw [if_pos z2, if_pos z2]; exact ⟨1, by omega, rfl, rfl⟩
        · rw [if_neg z2, if_neg z2]; exact ⟨0, by omega, rfl, rfl⟩
    · rw [if_neg z0, if_neg (by omega), if_neg (by omega)]
      exact ⟨0, by omega, rfl, rfl⟩
theorem SG.keep {v v' w w' : sv_T} {G A fl sq ak wn dc : Nat} {dt : Nat → Nat} (S : SG v w G A fl sq ak wn dc dt) (h1 : v' G = v G) (h2 : v' A = v A) (h3 : ∀ i, 45 ≤ i → i ≤ 49 → w' 75 i = w 75 i) : SG v' w' G A fl sq ak wn dc dt := by
  unfold SG at S ⊢
  rw [h1, h2, h3 45 (by omega) (by omega), h3 46 (by omega) (by omega), h3 47 (by omega) (by omega), h3 48 (by omega) (by omega), h3 49 (by omega) (by omega)]
  exact S
