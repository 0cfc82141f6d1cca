theorem ob_nil {v : sv_T} {B : Nat} {ms : List MG} (O : OB v B []) (O2 : OB v B ms) (hl : ms.length ≤ 8) : ms = [] := by
  obtain ⟨sz, bs, a1, _⟩ := O
  obtain ⟨sz2, bs2, b1, _⟩ := O2
  have e : nI ms.length = nI 0 := b1.1.symm.trans a1.1
  have e2 := (nI_eq (show ms.length < 2 ^ 31 by omega) (show 0 < 2 ^ 31 by omega)).mp e
  exact List.length_eq_zero_iff.mp e2
theorem HI.rest {h : Nat} {w0 v w : sv_T} (hh : h ≤ 1) (H : HI h w0 [] v w) : RI v w := by
  obtain ⟨⟨p1, p2, p3, p4⟩, a2, a3⟩ := H
  refine ⟨p1.keep (fun _ _ => rfl) p2, a2, fun h' hh' => ?_⟩
  by_cases z : h' = h
  · rw [z]; exact p3
  · rw [show h' = 1 - h by omega]; exact a3
theorem bv_out {X : Option sv_T} {Y : sv_T → Option (Int32 × sv_T)} {r : Int32} {v' : sv_T} (h : sv_bv X Y = some (r, v')) : ∃ u, Y u = some (r, v') := by
  cases X with
  | none => cases h
  | some u => exact ⟨u, h⟩
theorem st_call {h j k : Nat} {v w : sv_T} {X Y : Option (Int32 × sv_T)} (hh : h ≤ 1) (hj : j ≤ 1) (R : RI v w) (hk : k ≤ 8) (O : OR h (9 + 33 * h) (25 + 33 * h + 7 * j) (2 * h + j) w [] v w k X Y) (Q : ∀ r v', X = some (r, v') → (r = 0 ∧ v' = v) ∨ r = 1) : ST v w (sv_bi X fun x5 v4 => if x5 = 0 then some ((0 : Int32), v4) else sv_ck (nI h) 2 <| sv_lr (List.getD [9, 42] (nI h).toNatClampNeg 0) fun r6 => sv_to r6 2 <| sv_bi (f_Host_sendOut r6 v4) fun x8 v7 => if x8 = 0 then some ((0 : Int32), v7) else some ((1 : Int32), v7)) Y := by
  obtain ⟨r, v', w', ms', a1, a2, a3, a4, a5, a6, a7⟩ := O
  have a3' : PN h (9 + 33 * h) w ms' v' w' := a3
  have H := (R.hi hh).sock hh hj rfl rfl rfl a3' a5 a6 a7
  rcases Q r v' a1 with ⟨rfl, rfl⟩ | rfl
  · have e := ob_nil (R.2.2 h hh) a3'.2.2.1 (by omega)
    subst e
    exact ⟨0, v', w', by rw [a1]; rfl, a2, H.rest hh, LO.rf, a7.ho⟩
  · obtain ⟨v2, b1, b2, b3⟩ := H.out hh (by omega)
    refine ⟨1, v2, w', ?_, a2, b2, (a6.lo hh hj rfl rfl).tr b3, a7.ho⟩
    rw [a1]
    show (sv_ck (nI h) 2 <| sv_lr (List.getD [9, 42] (nI h).toNatClampNeg 0) fun r6 => sv_to r6 2 <| sv_bi (f_Host_sendOut r6 v') fun x8 v7 => if x8 = 0 then some ((0 : Int32), v7) else some ((1 : Int32), v7)) = _
    rw [hs_at hh, b1]
    rfl
theorem w_listen {v w : sv_T} (a b : Int32) (R : RI v w) : ST v w (f_W_listen a b v) (f_M_listen a b w) := by
  rcases ea_of a b with ⟨h, j, hh, hj, rfl, rfl⟩ | z
  · obtain ⟨r, v', w', ms', a1, a2, a3, a4, a5, a6, a7⟩ := ls_go hh hj rfl rfl rfl (R.hi hh).1 (R.2.1.1 h j hh hj)
    have e : ms' = [] := List.length_eq_zero_iff.mp (by omega)
    subst e
    have H := (R.hi hh).sock hh hj rfl rfl rfl a3 a5 a6 a7
    refine ⟨r, v', w', ?_, a2, H.rest hh, a6.lo hh hj rfl rfl, a7.ho⟩
    unfold f_W_listen
    rw [ea_yes hh hj]
    show sv_to (25 + 33 * h + 7 * j) 7 _ = _
    rw [to_E hh hj, a1]
    show (if r = 0 then some ((0 : Int32), v') else some ((1 : Int32), v')) = _
    have q : r = 0 ∨ r = 1 := by
      unfold f_Ep_startListening at a1
      split at a1
      · cases a1; exact Or.inr rfl
      · cases a1; exact Or.inl rfl
    rcases q with rfl | rfl
    · rfl
    · rfl
  · unfold f_W_listen f_M_listen
    rw [(z v).1, (z w).2]
    exact st_same 0 R
theorem w_connect {v w : sv_T} (a b : Int32) (R : RI v w) : ST v w (f_W_connect a b v) (f_M_connect a b w) := by
  rcases ea_of a b with ⟨h, j, hh, hj, rfl, rfl⟩ | z
  · unfold f_W_connect
    rw [ea_yes hh hj]
    show ST v w (sv_to (25 + 33 * h + 7 * j) 7 _) _
    rw [to_E hh hj]
    refine st_call hh hj R (k := 1) (by omega) (cn_go hh hj rfl rfl rfl (R.hi hh).1 (Nat.zero_lt_succ _) (R.2.1.1 h j hh hj) R.2.1.2.2.2.symm) fun r v' e => ?_
    unfold f_Ep_startConnecting at e
    split at e
    · obtain ⟨u, e⟩ := bv_out e
      obtain ⟨u, e⟩ := bv_out e
      cases e; exact Or.inr rfl
    · cases e; exact Or.inl ⟨rfl, rfl⟩
  · unfold f_W_connect f_M_connect
    rw [(z v).1, (z w).2]
    exact st_same 0 R
theorem iss_id {E : Nat} {v : sv_T} : ∃ x, f_Ep_isSendingState E v = some (x, v) := by
  unfold f_Ep_isSendingState
  split
  · exact ⟨_, rfl⟩
  · split
    · exact ⟨_, rfl⟩
    · exact ⟨_, rfl⟩
theorem w_send {v w : sv_T} (a b c : Int32) (R : RI v w) : ST v w (f_W_send a b c v) (f_M_send a b c w) := by
  rcases ea_of a b with ⟨h, j, hh, hj, rfl, rfl⟩ | z
  · unfold f_W_send
    rw [ea_yes hh hj]
    show ST v w (sv_to (25 + 33 * h + 7 * j) 7 _) _
    rw [to_E hh hj]
    refine st_call hh hj R (k := 3) (by omega) (sd_go hh hj rfl rfl rfl (R.hi hh).1 (Nat.zero_le _) (R.2.1.1 h j hh hj)) fun r v' e => ?_
    unfold f_Ep_offerByte at e
    obtain ⟨x, hx⟩ := iss_id (E := 25 + 33 * h + 7 * j) (v := v)
    rw [hx] at e
    simp only [sv_bi, Option.bind_some] at e
    split at e
    · cases e; exact Or.inl ⟨rfl, rfl⟩
    · split at e
      · split at e
        · cases e; exact Or.inl ⟨rfl, rfl⟩
        · split at e
          · unfold f_Snd_isFull at e
            split at e
            · simp only [Option.bind_some] at e
              split at e
              · obtain ⟨u, e⟩ := bv_out e
                obtain ⟨u, e⟩ := bv_out e
                cases e; exact Or.inr rfl
              · cases e; exact Or.inl ⟨rfl, rfl⟩
            · simp only [Option.bind_some] at e
              split at e
              · obtain ⟨u, e⟩ := bv_out e
                obtain ⟨u, e⟩ := bv_out e
                cases e; exact Or.inr rfl
              · cases e; exact Or.inl ⟨rfl, rfl⟩
          · cases e; exact Or.inl ⟨rfl, rfl⟩
      · cases e; exact Or.inl ⟨rfl, rfl⟩
  · unfold f_W_send f_M_send
    rw [(z v).1, (z w).2]
    exact st_same 0 R
theorem w_close {v w : sv_T} (a b : Int32) (R : RI v w) : ST v w (f_W_close a b v) (f_M_close a b w) := by
  rcases ea_of a b with ⟨h, j, hh, hj, rfl, rfl⟩ | z
  · unfold f_W_close
    rw [ea_yes hh hj]
    show ST v w (sv_to (25 + 33 * h + 7 * j) 7 _) _
    rw [to_E hh hj]
    refine st_call hh hj R (k := 3) (by omega) (ce2_go hh hj rfl rfl rfl (R.hi hh).1 (Nat.zero_le _) (R.2.1.1 h j hh hj)) fun r v' e => ?_
    unfold f_Ep_startEnding f_Ep_startEnding_b16 at e
    obtain ⟨x, hx⟩ := iss_id (E := 25 + 33 * h + 7 * j) (v := v)
    rw [hx] at e
    split at e
    · obtain ⟨u, e⟩ := bv_out e
      cases e; exact Or.inr rfl
    · split at e
      · obtain ⟨u, e⟩ := bv_out e
        cases e; exact Or.inr rfl
      · simp only [sv_bi, Option.bind_some] at e
        split at e
        · cases e; exact Or.inl ⟨rfl, rfl⟩
        · split at e
          · obtain ⟨u, e⟩ := bv_out e
            cases e; exact Or.inr rfl
          · cases e; exact Or.inl ⟨rfl, rfl⟩
  · unfold f_W_close f_M_close
    rw [(z v).1, (z w).2]
    exact st_same 0 R
theorem w_abort {v w : sv_T} (a b : Int32) (R : RI v w) : ST v w (f_W_abort a b v) (f_M_abort a b w) := by
  rcases ea_of a b with ⟨h, j, hh, hj, rfl, rfl⟩ | z
  · unfold f_W_abort
    rw [ea_yes hh hj]
    show ST v w (sv_to (25 + 33 * h + 7 * j) 7 _) _
    rw [to_E hh hj]
    refine st_call hh hj R (k := 1) (by omega) (ab_go hh hj rfl rfl rfl (R.hi hh).1 (Nat.zero_lt_succ _) (R.2.1.1 h j hh hj)) fun r v' e => ?_
    unfold f_Ep_breakOff f_Ep_breakOff_b46 at e
    split at e
    · cases e; exact Or.inl ⟨rfl, rfl⟩
    · split at e
      · obtain ⟨u, e⟩ := bv_out e
        cases e; exact Or.inr rfl
      · split at e
        · obtain ⟨u, e⟩ := bv_out e
          cases e; exact Or.inr rfl
        · split at e
          · obtain ⟨u, e⟩ := bv_out e
            cases e; exact Or.inr rfl
          · obtain ⟨u, e⟩ := bv_out e
            obtain ⟨u, e⟩ := bv_out e
            cases e; exact Or.inr rfl
  · unfold f_W_abort f_M_abort
    rw [(z v).1, (z w).2]
    exact st_same 0 R
theorem w_read {v w : sv_T} (a b : Int32) (R : RI v w) : ST v w (f_W_read a b v) (f_M_read a b w) := by
  rcases ea_of a b with ⟨h, j, hh, hj, rfl, rfl⟩ | z
  · obtain ⟨r, v', w', ms', a1, a2, a3, a4, a5, a6, a7⟩ := rd_go hh hj rfl rfl rfl (R.hi hh).1 (Nat.zero_lt_succ _) (R.2.1.1 h j hh hj)
    have a3' : PN h (9 + 33 * h) w ms' v' w' := a3
    have H := (R.hi hh).sock hh hj rfl rfl rfl a3' a5 a6 a7
    obtain ⟨v2, b1, b2, b3⟩ := H.out hh (by omega)
    refine ⟨r, v2, w', ?_, a2, b2, (a6.lo hh hj rfl rfl).tr b3, a7.ho⟩
    unfold f_W_read
    rw [ea_yes hh hj]
    show sv_to (25 + 33 * h + 7 * j) 7 _ = _
    rw [to_E hh hj, a1]
    show (sv_ck (nI h) 2 <| sv_lr (List.getD [9, 42] (nI h).toNatClampNeg 0) fun r6 => sv_to r6 2 <| sv_bi (f_Host_sendOut r6 v') fun x8 v7 => some (r, v7)) = _
    rw [hs_at hh, b1]
    rfl
  · unfold f_W_read f_M_read
    rw [(z v).1, (z w).2]
    exact st_same (-1) R
theorem w_socket {v w : sv_T} (a b c : Int32) (R : RI v w) : ST v w (f_W_socket a b c v) (f_M_socket a b c w) := by
  rcases ea_of a b with ⟨h, j, hh, hj, rfl, rfl⟩ | z
  · unfold f_W_socket
    rw [ea_yes hh hj]
    show ST v w (sv_to (25 + 33 * h + 7 * j) 7 _) _
    rw [to_E hh hj]
    have hs4 : 2 * h + j < 4 := by omega
    obtain ⟨s1, s2, s3, s4, s5, s6, s7, s8, s9, s10, s11, s12, s13⟩ := sh_E hh hj (E := 25 + 33 * h + 7 * j) rfl (B := 9 + 33 * h) rfl
    obtain ⟨st, ti, ro, tr, ou, fi, un, nx, wi, en, ic, rc, ob, ib, ⟨k1, k2, k3, k4, k5, k6, k7, k8, k9, k10, k11, k12, k13, k14, k15⟩, I, K1, K2⟩ := R.2.1.1 h j hh hj
    unfold f_M_socket f_Ep_about
    simp only [sok hh hj, sat hh hj rfl, sv_bi, Option.bind_some, ck_n hs4 (show 4 < 2 ^ 31 by omega), nI_clamp (show 2 * h + j < 2 ^ 31 by omega), s5, s6, k1.1, k1.2, k2.1, k2.2, k3.1, k3.2, k4.1, k4.2, k5.1, k5.2, k7.1, k7.2, k8.1, k8.2, k9.1, k9.2, k10.1, k10.2, k11.1, k11.2, k12.1, k12.2]
    rw [if_neg (show ¬ (1 : Int32) = 0 by decide)]
    by_cases c0 : c = 0
    · simp only [if_pos c0]; exact st_same _ R
    simp only [if_neg c0]
    by_cases c1 : c = 1
    · simp only [if_pos c1]; exact st_same _ R
    simp only [if_neg c1]
    by_cases c2 : c = 2
    · simp only [if_pos c2]; exact st_same _ R
    simp only [if_neg c2]
    by_cases c3 : c = 3
    · simp only [if_pos c3]; exact st_same _ R
    simp only [if_neg c3]
    by_cases c4 : c = 4
    · simp only [if_pos c4]; exact st_same _ R
    simp only [if_neg c4]
    by_cases c5 : c = 5
    · simp only [if_pos c5]; exact st_same _ R
    simp only [if_neg c5]
    by_cases c6 : c = 6
    · simp only [if_pos c6]; exact st_same _ R
    simp only [if_neg c6]
    by_cases c7 : c = 7
    · simp only [if_pos c7]; exact st_same _ R
    simp only [if_neg c7]
    by_cases c8 : c = 8
    · simp only [if_pos c8]; exact st_same _ R
    simp only [if_neg c8]
    by_cases c9 : c = 9
    · simp only [if_pos c9]; exact st_same _ R
    simp only [if_neg c9]
    by_cases c10 : c = 10
    · simp only [if_pos c10]
      by_cases ce : nI en = 0
      · simp only [if_pos ce]; exact st_same _ R
      · simp only [if_neg ce]; exact st_same _ R
    · simp only [if_neg c10]; exact st_same _ R
  · unfold f_W_socket f_M_socket
    rw [(z v).1, (z w).2]
    exact st_same (-1) R
