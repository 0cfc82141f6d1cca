section FW
variable {d j pc : Nat} {ls : List (Option Value)} {st : List Value} {n : Nat} {h : fw_H} {a b : Nat} {P : fw_P}
theorem fw_sc {v : Value} (hv : fw_ok n v) (S : ∀ w ∈ st, fw_ok n w) : ∀ w ∈ v :: st, fw_ok n w := fun w hw => by
  rcases List.mem_cons.mp hw with e | e
  · rw [e]; exact hv
  · exact S w e
theorem fw_s1 {v : Value} (S : ∀ w ∈ v :: st, fw_ok n w) : ∀ w ∈ st, fw_ok n w := fun w hw => S w (List.mem_cons_of_mem _ hw)
theorem fw_s0 {v : Value} (S : ∀ w ∈ v :: st, fw_ok n w) : fw_ok n v := S v List.mem_cons_self
theorem fw_cat (ad : Nat → Nat) (v : Value) : (fw_v ad v).category = v.category := by cases v <;> rfl
def fw_lv (ad : Nat → Nat) (ls : List (Option Value)) : List (Nat × Value) := (List.range ls.length).filterMap (fun i => (ls[i]?.join).map (fun v => (i, fw_v ad v)))
theorem fw_lv_in {ad : Nat → Nat} {ls : List (Option Value)} {i : Nat} {v : Value} (hi : ls[i]? = some (some v)) : (i, fw_v ad v) ∈ fw_lv ad ls := by
  unfold fw_lv
  refine List.mem_filterMap.mpr ⟨i, List.mem_range.mpr (List.getElem?_eq_some_iff.mp hi).1, ?_⟩
  rw [hi]
  rfl
theorem fw_lv_of {ad : Nat → Nat} {ls : List (Option Value)} {q : Nat × Value} (hq : q ∈ fw_lv ad ls) : ∃ v, ls[q.1]? = some (some v) ∧ q.2 = fw_v ad v := by
  unfold fw_lv at hq
  obtain ⟨i, -, hi⟩ := List.mem_filterMap.mp hq
  cases hx : ls[i]? with
  | none => rw [hx] at hi; cases hi
  | some o =>
    cases o with
    | none => rw [hx] at hi; cases hi
    | some v =>
      rw [hx] at hi
      cases hi
      exact ⟨v, hx, rfl⟩
theorem fw_L.has {ad : Nat → Nat} {cs : Array Slot} {nL : Nat} (L : fw_L ad n ls cs nL) : lv_has cs nL (fw_lv ad ls) := by
  refine ⟨L.1, L.2.1, fun q hq => ?_⟩
  obtain ⟨v, h1, h2⟩ := fw_lv_of hq
  rw [h2]
  exact (L.2.2.2 _ _ h1).1
theorem fw_L.sto {ad : Nat → Nat} {cs cs' : Array Slot} {nL i : Nat} {v : Value} (L : fw_L ad n ls cs nL) (hv : fw_ok n v) (hi : i < nL)
    (hh : lv_has cs' nL ((i, fw_v ad v) :: (fw_lv ad ls).filter (fun q => !(q.1 == i) && !(q.1 + 1 == i && q.2.category == 2)))) : fw_L ad n (ls.set i (some v)) cs' nL := by
  refine ⟨hh.1, hh.2.1, by rw [List.length_set]; exact L.2.2.1, fun i' v' hx => ?_⟩
  by_cases e : i' = i
  · subst e
    rw [List.getElem?_set_self (by rw [L.2.2.1]; exact hi)] at hx
    cases hx
    exact ⟨hh.2.2 _ List.mem_cons_self, hv⟩
  · rw [List.getElem?_set_ne (Ne.symm e)] at hx
    have hok := (L.2.2.2 _ _ hx).2
    refine ⟨hh.2.2 (i', fw_v ad v') (List.mem_cons_of_mem _ (List.mem_filter.mpr ⟨fw_lv_in hx, ?_⟩)), hok⟩
    have hc : (fw_v ad v').category = 1 := by rw [fw_cat]; exact hok.1
    simp [e, hc]
theorem fw_L.ext {ad ad' : Nat → Nat} {n' : Nat} {cs : Array Slot} {nL : Nat} (L : fw_L ad n ls cs nL) (hn : n ≤ n') (he : ∀ k, k < n → ad' k = ad k) : fw_L ad' n' ls cs nL :=
  ⟨L.1, L.2.1, L.2.2.1, fun i v hx => ⟨by rw [fw_v_ext he (L.2.2.2 i v hx).2]; exact (L.2.2.2 i v hx).1, fw_ok_up hn (L.2.2.2 i v hx).2⟩⟩
theorem fw_S_ext {n' : Nat} (S : ∀ v ∈ st, fw_ok n v) (hn : n ≤ n') : ∀ v ∈ st, fw_ok n' v := fun v hv => fw_ok_up hn (S v hv)
theorem fw_Go.mono {P' : fw_P} (k : fw_Go d j pc ls st n h a b P) (hP : ∀ r n' h', P r n' h' → P' r n' h') : fw_Go d j pc ls st n h a b P' := by
  intro p l e R s m args below meth c H locs cells slots mc ms Qc free D tA ad A cs X yf yl yc ys y1 y2 I L S F Q
  exact (k p l e R s m args below meth c H locs cells slots mc ms Qc free D tA ad A cs X yf yl yc ys y1 y2 I L S F (fun r n' h' ad' t h => Q r n' h' ad' t (hP _ _ _ h)))
theorem fw_Go.deep {d' : Nat} (hd : d ≤ d') (k : fw_Go d j pc ls st n h a b P) : fw_Go d' j pc ls st n h a b P := by
  intro p l e R s m args below meth c H locs cells slots mc ms Qc free D tA ad A cs X yf yl yc ys y1 y2 I L S F Q
  exact (k p l e R s m args below meth c H locs cells slots mc ms Qc free D tA ad A cs X (Nat.le_trans hd yf) (Nat.le_trans (Nat.mul_le_mul_left _ hd) yl) yc ys y1 y2 I L S F Q)
theorem fw_Go.less {a' b' : Nat} (ha : a ≤ a') (hb : b ≤ b') (k : fw_Go d j pc ls st n h a b P) : fw_Go d j pc ls st n h a' b' P := by
  intro p l e R s m args below meth c H locs cells slots mc ms Qc free D tA ad A cs X yf yl yc ys y1 y2 I L S F Q
  exact (k p l e R s m args below meth c H locs cells slots mc ms Qc free D tA ad A cs X yf yl yc ys (by omega) (by omega) I L S F Q)
theorem fw_iconst {i : Int} {v : Int32} (hd : decode (tb_m j).2.1 pc = .ok (.iconst i, 1)) (hv : Int32.ofInt i = v) (k : fw_Go d j (pc + 1) (ls) (.int v :: st) (n) (h) (a) (b) P) : fw_Go d j (pc) (ls) (st) (n) (h) (a) (b) P := by
  intro p l e R s m args below meth c H locs cells slots mc ms Qc free D tA ad A cs X yf yl yc ys y1 y2 I L S F Q
  exact lv_iconst X.1 X.2.1 hd hv (k p l e R s m args below meth c H locs cells slots mc ms Qc free D tA ad A cs X yf yl yc ys y1 y2 I L (fw_sc (fw_ok_int n v) S) F Q)
theorem fw_bipush {i : Int} {v : Int32} (hd : decode (tb_m j).2.1 pc = .ok (.bipush i, 2)) (hv : (Int8.ofInt i).toInt32 = v) (k : fw_Go d j (pc + 2) (ls) (.int v :: st) (n) (h) (a) (b) P) : fw_Go d j (pc) (ls) (st) (n) (h) (a) (b) P := by
  intro p l e R s m args below meth c H locs cells slots mc ms Qc free D tA ad A cs X yf yl yc ys y1 y2 I L S F Q
  exact lv_bipush X.1 X.2.1 hd hv (k p l e R s m args below meth c H locs cells slots mc ms Qc free D tA ad A cs X yf yl yc ys y1 y2 I L (fw_sc (fw_ok_int n v) S) F Q)
theorem fw_sipush {i : Int} {v : Int32} (hd : decode (tb_m j).2.1 pc = .ok (.sipush i, 3)) (hv : (Int16.ofInt i).toInt32 = v) (k : fw_Go d j (pc + 3) (ls) (.int v :: st) (n) (h) (a) (b) P) : fw_Go d j (pc) (ls) (st) (n) (h) (a) (b) P := by
  intro p l e R s m args below meth c H locs cells slots mc ms Qc free D tA ad A cs X yf yl yc ys y1 y2 I L S F Q
  exact lv_sipush X.1 X.2.1 hd hv (k p l e R s m args below meth c H locs cells slots mc ms Qc free D tA ad A cs X yf yl yc ys y1 y2 I L (fw_sc (fw_ok_int n v) S) F Q)
theorem fw_null (hd : decode (tb_m j).2.1 pc = .ok (.aconst_null, 1)) (k : fw_Go d j (pc + 1) (ls) (.null :: st) (n) (h) (a) (b) P) : fw_Go d j (pc) (ls) (st) (n) (h) (a) (b) P := by
  intro p l e R s m args below meth c H locs cells slots mc ms Qc free D tA ad A cs X yf yl yc ys y1 y2 I L S F Q
  exact lv_null X.1 X.2.1 hd (k p l e R s m args below meth c H locs cells slots mc ms Qc free D tA ad A cs X yf yl yc ys y1 y2 I L (fw_sc (fw_ok_null n) S) F Q)
theorem fw_ldc {i : Nat} {v : Int32} (hw : Cond.constant (tb_m j).1.cls i v ∈ tb_ws) (hd : decode (tb_m j).2.1 pc = .ok (.ldc i, 2)) (k : fw_Go d j (pc + 2) (ls) (.int v :: st) (n) (h) (a) (b) P) : fw_Go d j (pc) (ls) (st) (n) (h) (a) (b) P := by
  intro p l e R s m args below meth c H locs cells slots mc ms Qc free D tA ad A cs X yf yl yc ys y1 y2 I L S F Q
  exact lv_ldc X.1 X.2.1 X.2.2.2.2.2.2.1 (X.2.2.2.2.2.1 _ (List.mem_cons_of_mem _ hw)) hd (k p l e R s m args below meth c H locs cells slots mc ms Qc free D tA ad A cs X yf yl yc ys y1 y2 I L (fw_sc (fw_ok_int n v) S) F Q)
theorem fw_ldcw {i : Nat} {v : Int32} (hw : Cond.constant (tb_m j).1.cls i v ∈ tb_ws) (hd : decode (tb_m j).2.1 pc = .ok (.ldc_w i, 3)) (k : fw_Go d j (pc + 3) (ls) (.int v :: st) (n) (h) (a) (b) P) : fw_Go d j (pc) (ls) (st) (n) (h) (a) (b) P := by
  intro p l e R s m args below meth c H locs cells slots mc ms Qc free D tA ad A cs X yf yl yc ys y1 y2 I L S F Q
  exact lv_ldcw X.1 X.2.1 X.2.2.2.2.2.2.1 (X.2.2.2.2.2.1 _ (List.mem_cons_of_mem _ hw)) hd (k p l e R s m args below meth c H locs cells slots mc ms Qc free D tA ad A cs X yf yl yc ys y1 y2 I L (fw_sc (fw_ok_int n v) S) F Q)
theorem fw_iload_n {i : Fin 4} {x : Int32} (hd : decode (tb_m j).2.1 pc = .ok (.iload_n i, 1)) (hx : ls[(i : Nat)]? = some (some (.int x))) (k : fw_Go d j (pc + 1) (ls) (.int x :: st) (n) (h) (a) (b) P) : fw_Go d j (pc) (ls) (st) (n) (h) (a) (b) P := by
  intro p l e R s m args below meth c H locs cells slots mc ms Qc free D tA ad A cs X yf yl yc ys y1 y2 I L S F Q
  exact lv_iload_n X.1 X.2.1 hd rfl (L.2.2.2 _ _ hx).1 (k p l e R s m args below meth c H locs cells slots mc ms Qc free D tA ad A cs X yf yl yc ys y1 y2 I L (fw_sc (fw_ok_int n x) S) F Q)
theorem fw_iload {i : Nat} {x : Int32} (hd : decode (tb_m j).2.1 pc = .ok (.iload i, 2)) (hx : ls[(i : Nat)]? = some (some (.int x))) (k : fw_Go d j (pc + 2) (ls) (.int x :: st) (n) (h) (a) (b) P) : fw_Go d j (pc) (ls) (st) (n) (h) (a) (b) P := by
  intro p l e R s m args below meth c H locs cells slots mc ms Qc free D tA ad A cs X yf yl yc ys y1 y2 I L S F Q
  exact lv_iload X.1 X.2.1 hd (L.2.2.2 _ _ hx).1 (k p l e R s m args below meth c H locs cells slots mc ms Qc free D tA ad A cs X yf yl yc ys y1 y2 I L (fw_sc (fw_ok_int n x) S) F Q)
theorem fw_aload_n {i : Fin 4} {o : Nat} (hd : decode (tb_m j).2.1 pc = .ok (.aload_n i, 1)) (hx : ls[(i : Nat)]? = some (some (.ref o))) (k : fw_Go d j (pc + 1) (ls) (.ref o :: st) (n) (h) (a) (b) P) : fw_Go d j (pc) (ls) (st) (n) (h) (a) (b) P := by
  intro p l e R s m args below meth c H locs cells slots mc ms Qc free D tA ad A cs X yf yl yc ys y1 y2 I L S F Q
  exact lv_aload_n X.1 X.2.1 hd rfl (L.2.2.2 _ _ hx).1 (k p l e R s m args below meth c H locs cells slots mc ms Qc free D tA ad A cs X yf yl yc ys y1 y2 I L (fw_sc (L.2.2.2 _ _ hx).2 S) F Q)
theorem fw_aload_nN {i : Fin 4} (hd : decode (tb_m j).2.1 pc = .ok (.aload_n i, 1)) (hx : ls[(i : Nat)]? = some (some .null)) (k : fw_Go d j (pc + 1) (ls) (.null :: st) (n) (h) (a) (b) P) : fw_Go d j (pc) (ls) (st) (n) (h) (a) (b) P := by
  intro p l e R s m args below meth c H locs cells slots mc ms Qc free D tA ad A cs X yf yl yc ys y1 y2 I L S F Q
  exact lv_aload_nN X.1 X.2.1 hd rfl (L.2.2.2 _ _ hx).1 (k p l e R s m args below meth c H locs cells slots mc ms Qc free D tA ad A cs X yf yl yc ys y1 y2 I L (fw_sc (fw_ok_null n) S) F Q)
theorem fw_aload {i : Nat} {o : Nat} (hd : decode (tb_m j).2.1 pc = .ok (.aload i, 2)) (hx : ls[(i : Nat)]? = some (some (.ref o))) (k : fw_Go d j (pc + 2) (ls) (.ref o :: st) (n) (h) (a) (b) P) : fw_Go d j (pc) (ls) (st) (n) (h) (a) (b) P := by
  intro p l e R s m args below meth c H locs cells slots mc ms Qc free D tA ad A cs X yf yl yc ys y1 y2 I L S F Q
  exact lv_aload X.1 X.2.1 hd (L.2.2.2 _ _ hx).1 (k p l e R s m args below meth c H locs cells slots mc ms Qc free D tA ad A cs X yf yl yc ys y1 y2 I L (fw_sc (L.2.2.2 _ _ hx).2 S) F Q)
theorem fw_aloadN {i : Nat} (hd : decode (tb_m j).2.1 pc = .ok (.aload i, 2)) (hx : ls[(i : Nat)]? = some (some .null)) (k : fw_Go d j (pc + 2) (ls) (.null :: st) (n) (h) (a) (b) P) : fw_Go d j (pc) (ls) (st) (n) (h) (a) (b) P := by
  intro p l e R s m args below meth c H locs cells slots mc ms Qc free D tA ad A cs X yf yl yc ys y1 y2 I L S F Q
  exact lv_aloadN X.1 X.2.1 hd (L.2.2.2 _ _ hx).1 (k p l e R s m args below meth c H locs cells slots mc ms Qc free D tA ad A cs X yf yl yc ys y1 y2 I L (fw_sc (fw_ok_null n) S) F Q)
theorem fw_istore_n {i : Fin 4} {x : Int32} (hd : decode (tb_m j).2.1 pc = .ok (.istore_n i, 1)) (hi : (i : Nat) < (tb_m j).2.2.1) (k : fw_Go d j (pc + 1) (ls.set (i : Nat) (some (.int x))) (st) (n) (h) (a) (b) P) : fw_Go d j (pc) (ls) (.int x :: st) (n) (h) (a) (b) P := by
  intro p l e R s m args below meth c H locs cells slots mc ms Qc free D tA ad A cs X yf yl yc ys y1 y2 I L S F Q
  exact lv_istore_n X.1 X.2.1 hd rfl L.has hi rfl (fun cs' hh => (k p l e R s m args below meth c H locs cells slots mc ms Qc free D tA ad A cs' X yf yl yc ys y1 y2 I (L.sto (fw_s0 S) hi hh) (fw_s1 S) F Q))
theorem fw_istore {i : Nat} {x : Int32} (hd : decode (tb_m j).2.1 pc = .ok (.istore i, 2)) (hi : (i : Nat) < (tb_m j).2.2.1) (k : fw_Go d j (pc + 2) (ls.set (i : Nat) (some (.int x))) (st) (n) (h) (a) (b) P) : fw_Go d j (pc) (ls) (.int x :: st) (n) (h) (a) (b) P := by
  intro p l e R s m args below meth c H locs cells slots mc ms Qc free D tA ad A cs X yf yl yc ys y1 y2 I L S F Q
  exact lv_istore X.1 X.2.1 hd L.has hi rfl (fun cs' hh => (k p l e R s m args below meth c H locs cells slots mc ms Qc free D tA ad A cs' X yf yl yc ys y1 y2 I (L.sto (fw_s0 S) hi hh) (fw_s1 S) F Q))
theorem fw_astore_n {i : Fin 4} {x : Nat} (hd : decode (tb_m j).2.1 pc = .ok (.astore_n i, 1)) (hi : (i : Nat) < (tb_m j).2.2.1) (k : fw_Go d j (pc + 1) (ls.set (i : Nat) (some (.ref x))) (st) (n) (h) (a) (b) P) : fw_Go d j (pc) (ls) (.ref x :: st) (n) (h) (a) (b) P := by
  intro p l e R s m args below meth c H locs cells slots mc ms Qc free D tA ad A cs X yf yl yc ys y1 y2 I L S F Q
  exact lv_astore_n X.1 X.2.1 hd rfl L.has hi rfl (fun cs' hh => (k p l e R s m args below meth c H locs cells slots mc ms Qc free D tA ad A cs' X yf yl yc ys y1 y2 I (L.sto (fw_s0 S) hi hh) (fw_s1 S) F Q))
theorem fw_astore {i : Nat} {x : Nat} (hd : decode (tb_m j).2.1 pc = .ok (.astore i, 2)) (hi : (i : Nat) < (tb_m j).2.2.1) (k : fw_Go d j (pc + 2) (ls.set (i : Nat) (some (.ref x))) (st) (n) (h) (a) (b) P) : fw_Go d j (pc) (ls) (.ref x :: st) (n) (h) (a) (b) P := by
  intro p l e R s m args below meth c H locs cells slots mc ms Qc free D tA ad A cs X yf yl yc ys y1 y2 I L S F Q
  exact lv_astore X.1 X.2.1 hd L.has hi rfl (fun cs' hh => (k p l e R s m args below meth c H locs cells slots mc ms Qc free D tA ad A cs' X yf yl yc ys y1 y2 I (L.sto (fw_s0 S) hi hh) (fw_s1 S) F Q))
theorem fw_astore_nN {i : Fin 4} (hd : decode (tb_m j).2.1 pc = .ok (.astore_n i, 1)) (hi : (i : Nat) < (tb_m j).2.2.1) (k : fw_Go d j (pc + 1) (ls.set (i : Nat) (some .null)) (st) (n) (h) (a) (b) P) : fw_Go d j (pc) (ls) (.null :: st) (n) (h) (a) (b) P := by
  intro p l e R s m args below meth c H locs cells slots mc ms Qc free D tA ad A cs X yf yl yc ys y1 y2 I L S F Q
  exact lv_astore_nN X.1 X.2.1 hd rfl L.has hi rfl (fun cs' hh => (k p l e R s m args below meth c H locs cells slots mc ms Qc free D tA ad A cs' X yf yl yc ys y1 y2 I (L.sto (fw_s0 S) hi hh) (fw_s1 S) F Q))
theorem fw_astoreN {i : Nat} (hd : decode (tb_m j).2.1 pc = .ok (.astore i, 2)) (hi : (i : Nat) < (tb_m j).2.2.1) (k : fw_Go d j (pc + 2) (ls.set (i : Nat) (some .null)) (st) (n) (h) (a) (b) P) : fw_Go d j (pc) (ls) (.null :: st) (n) (h) (a) (b) P := by
  intro p l e R s m args below meth c H locs cells slots mc ms Qc free D tA ad A cs X yf yl yc ys y1 y2 I L S F Q
  exact lv_astoreN X.1 X.2.1 hd L.has hi rfl (fun cs' hh => (k p l e R s m args below meth c H locs cells slots mc ms Qc free D tA ad A cs' X yf yl yc ys y1 y2 I (L.sto (fw_s0 S) hi hh) (fw_s1 S) F Q))
theorem fw_iinc {i : Nat} {z : Int} {x v : Int32} (hd : decode (tb_m j).2.1 pc = .ok (.iinc i z, 3)) (hx : ls[i]? = some (some (.int x))) (hv : x + Int32.ofInt z = v) (k : fw_Go d j (pc + 3) (ls.set i (some (.int v))) (st) (n) (h) (a) (b) P) : fw_Go d j (pc) (ls) (st) (n) (h) (a) (b) P := by
  intro p l e R s m args below meth c H locs cells slots mc ms Qc free D tA ad A cs X yf yl yc ys y1 y2 I L S F Q
  have hi : i < (tb_m j).2.2.1 := by rw [← L.2.2.1]; exact (List.getElem?_eq_some_iff.mp hx).1
  obtain ⟨k0, hk0⟩ := List.getElem?_of_mem (fw_lv_in (ad := ad) hx)
  exact lv_iinc X.1 X.2.1 hd L.has hk0 hv hi rfl (fun cs' hh => (k p l e R s m args below meth c H locs cells slots mc ms Qc free D tA ad A cs' X yf yl yc ys y1 y2 I (L.sto (fw_ok_int n v) hi hh) S F Q))
theorem fw_iadd {x y : Int32} (hd : decode (tb_m j).2.1 pc = .ok (.iadd, 1)) (k : fw_Go d j (pc + 1) (ls) (.int (x + y) :: st) (n) (h) (a) (b) P) : fw_Go d j (pc) (ls) (.int y :: .int x :: st) (n) (h) (a) (b) P := by
  intro p l e R s m args below meth c H locs cells slots mc ms Qc free D tA ad A cs X yf yl yc ys y1 y2 I L S F Q
  exact lv_iadd X.1 X.2.1 hd (k p l e R s m args below meth c H locs cells slots mc ms Qc free D tA ad A cs X yf yl yc ys y1 y2 I L (fw_sc (fw_ok_int n _) (fw_s1 (fw_s1 S))) F Q)
theorem fw_isub {x y : Int32} (hd : decode (tb_m j).2.1 pc = .ok (.isub, 1)) (k : fw_Go d j (pc + 1) (ls) (.int (x - y) :: st) (n) (h) (a) (b) P) : fw_Go d j (pc) (ls) (.int y :: .int x :: st) (n) (h) (a) (b) P := by
  intro p l e R s m args below meth c H locs cells slots mc ms Qc free D tA ad A cs X yf yl yc ys y1 y2 I L S F Q
  exact lv_isub X.1 X.2.1 hd (k p l e R s m args below meth c H locs cells slots mc ms Qc free D tA ad A cs X yf yl yc ys y1 y2 I L (fw_sc (fw_ok_int n _) (fw_s1 (fw_s1 S))) F Q)
theorem fw_imul {x y : Int32} (hd : decode (tb_m j).2.1 pc = .ok (.imul, 1)) (k : fw_Go d j (pc + 1) (ls) (.int (x * y) :: st) (n) (h) (a) (b) P) : fw_Go d j (pc) (ls) (.int y :: .int x :: st) (n) (h) (a) (b) P := by
  intro p l e R s m args below meth c H locs cells slots mc ms Qc free D tA ad A cs X yf yl yc ys y1 y2 I L S F Q
  exact lv_imul X.1 X.2.1 hd (k p l e R s m args below meth c H locs cells slots mc ms Qc free D tA ad A cs X yf yl yc ys y1 y2 I L (fw_sc (fw_ok_int n _) (fw_s1 (fw_s1 S))) F Q)
theorem fw_iand {x y : Int32} (hd : decode (tb_m j).2.1 pc = .ok (.iand, 1)) (k : fw_Go d j (pc + 1) (ls) (.int (x &&& y) :: st) (n) (h) (a) (b) P) : fw_Go d j (pc) (ls) (.int y :: .int x :: st) (n) (h) (a) (b) P := by
  intro p l e R s m args below meth c H locs cells slots mc ms Qc free D tA ad A cs X yf yl yc ys y1 y2 I L S F Q
  exact lv_iand X.1 X.2.1 hd (k p l e R s m args below meth c H locs cells slots mc ms Qc free D tA ad A cs X yf yl yc ys y1 y2 I L (fw_sc (fw_ok_int n _) (fw_s1 (fw_s1 S))) F Q)
theorem fw_ior {x y : Int32} (hd : decode (tb_m j).2.1 pc = .ok (.ior, 1)) (k : fw_Go d j (pc + 1) (ls) (.int (x ||| y) :: st) (n) (h) (a) (b) P) : fw_Go d j (pc) (ls) (.int y :: .int x :: st) (n) (h) (a) (b) P := by
  intro p l e R s m args below meth c H locs cells slots mc ms Qc free D tA ad A cs X yf yl yc ys y1 y2 I L S F Q
  exact lv_ior X.1 X.2.1 hd (k p l e R s m args below meth c H locs cells slots mc ms Qc free D tA ad A cs X yf yl yc ys y1 y2 I L (fw_sc (fw_ok_int n _) (fw_s1 (fw_s1 S))) F Q)
theorem fw_ixor {x y : Int32} (hd : decode (tb_m j).2.1 pc = .ok (.ixor, 1)) (k : fw_Go d j (pc + 1) (ls) (.int (x ^^^ y) :: st) (n) (h) (a) (b) P) : fw_Go d j (pc) (ls) (.int y :: .int x :: st) (n) (h) (a) (b) P := by
  intro p l e R s m args below meth c H locs cells slots mc ms Qc free D tA ad A cs X yf yl yc ys y1 y2 I L S F Q
  exact lv_ixor X.1 X.2.1 hd (k p l e R s m args below meth c H locs cells slots mc ms Qc free D tA ad A cs X yf yl yc ys y1 y2 I L (fw_sc (fw_ok_int n _) (fw_s1 (fw_s1 S))) F Q)
theorem fw_ishl {x y : Int32} (hd : decode (tb_m j).2.1 pc = .ok (.ishl, 1)) (k : fw_Go d j (pc + 1) (ls) (.int (x <<< (y &&& 31)) :: st) (n) (h) (a) (b) P) : fw_Go d j (pc) (ls) (.int y :: .int x :: st) (n) (h) (a) (b) P := by
  intro p l e R s m args below meth c H locs cells slots mc ms Qc free D tA ad A cs X yf yl yc ys y1 y2 I L S F Q
  exact lv_ishl X.1 X.2.1 hd (k p l e R s m args below meth c H locs cells slots mc ms Qc free D tA ad A cs X yf yl yc ys y1 y2 I L (fw_sc (fw_ok_int n _) (fw_s1 (fw_s1 S))) F Q)
theorem fw_ishr {x y : Int32} (hd : decode (tb_m j).2.1 pc = .ok (.ishr, 1)) (k : fw_Go d j (pc + 1) (ls) (.int (x >>> (y &&& 31)) :: st) (n) (h) (a) (b) P) : fw_Go d j (pc) (ls) (.int y :: .int x :: st) (n) (h) (a) (b) P := by
  intro p l e R s m args below meth c H locs cells slots mc ms Qc free D tA ad A cs X yf yl yc ys y1 y2 I L S F Q
  exact lv_ishr X.1 X.2.1 hd (k p l e R s m args below meth c H locs cells slots mc ms Qc free D tA ad A cs X yf yl yc ys y1 y2 I L (fw_sc (fw_ok_int n _) (fw_s1 (fw_s1 S))) F Q)
theorem fw_idiv {x y : Int32} (hd : decode (tb_m j).2.1 pc = .ok (.idiv, 1)) (hne : ¬ y = 0) (k : fw_Go d j (pc + 1) (ls) (.int (x / y) :: st) (n) (h) (a) (b) P) : fw_Go d j (pc) (ls) (.int y :: .int x :: st) (n) (h) (a) (b) P := by
  intro p l e R s m args below meth c H locs cells slots mc ms Qc free D tA ad A cs X yf yl yc ys y1 y2 I L S F Q
  exact lv_idiv X.1 X.2.1 hd hne (k p l e R s m args below meth c H locs cells slots mc ms Qc free D tA ad A cs X yf yl yc ys y1 y2 I L (fw_sc (fw_ok_int n _) (fw_s1 (fw_s1 S))) F Q)
theorem fw_irem {x y : Int32} (hd : decode (tb_m j).2.1 pc = .ok (.irem, 1)) (hne : ¬ y = 0) (k : fw_Go d j (pc + 1) (ls) (.int (x - x / y * y) :: st) (n) (h) (a) (b) P) : fw_Go d j (pc) (ls) (.int y :: .int x :: st) (n) (h) (a) (b) P := by
  intro p l e R s m args below meth c H locs cells slots mc ms Qc free D tA ad A cs X yf yl yc ys y1 y2 I L S F Q
  exact lv_irem X.1 X.2.1 hd hne (k p l e R s m args below meth c H locs cells slots mc ms Qc free D tA ad A cs X yf yl yc ys y1 y2 I L (fw_sc (fw_ok_int n _) (fw_s1 (fw_s1 S))) F Q)
theorem fw_dup {v : Value} (hd : decode (tb_m j).2.1 pc = .ok (.dup, 1)) (k : fw_Go d j (pc + 1) (ls) (v :: v :: st) (n) (h) (a) (b) P) : fw_Go d j (pc) (ls) (v :: st) (n) (h) (a) (b) P := by
  intro p l e R s m args below meth c H locs cells slots mc ms Qc free D tA ad A cs X yf yl yc ys y1 y2 I L S F Q
  exact lv_dup X.1 X.2.1 hd (by rw [fw_cat]; exact (fw_s0 S).1) (k p l e R s m args below meth c H locs cells slots mc ms Qc free D tA ad A cs X yf yl yc ys y1 y2 I L (fw_sc (fw_s0 S) S) F Q)
theorem fw_pop {v : Value} (hd : decode (tb_m j).2.1 pc = .ok (.pop, 1)) (k : fw_Go d j (pc + 1) (ls) (st) (n) (h) (a) (b) P) : fw_Go d j (pc) (ls) (v :: st) (n) (h) (a) (b) P := by
  intro p l e R s m args below meth c H locs cells slots mc ms Qc free D tA ad A cs X yf yl yc ys y1 y2 I L S F Q
  exact lv_pop X.1 X.2.1 hd (by rw [fw_cat]; exact (fw_s0 S).1) (k p l e R s m args below meth c H locs cells slots mc ms Qc free D tA ad A cs X yf yl yc ys y1 y2 I L (fw_s1 S) F Q)
theorem fw_dup_x1 {v u : Value} (hd : decode (tb_m j).2.1 pc = .ok (.dup_x1, 1)) (k : fw_Go d j (pc + 1) (ls) (v :: u :: v :: st) (n) (h) (a) (b) P) : fw_Go d j (pc) (ls) (v :: u :: st) (n) (h) (a) (b) P := by
  intro p l e R s m args below meth c H locs cells slots mc ms Qc free D tA ad A cs X yf yl yc ys y1 y2 I L S F Q
  exact lv_dup_x1 X.1 X.2.1 hd (by rw [fw_cat]; exact (fw_s0 S).1) (by rw [fw_cat]; exact (fw_s0 (fw_s1 S)).1) (k p l e R s m args below meth c H locs cells slots mc ms Qc free D tA ad A cs X yf yl yc ys y1 y2 I L (fw_sc (fw_s0 S) (fw_sc (fw_s0 (fw_s1 S)) (fw_sc (fw_s0 S) (fw_s1 (fw_s1 S))))) F Q)
theorem fw_dup2 {v u : Value} (hd : decode (tb_m j).2.1 pc = .ok (.dup2, 1)) (k : fw_Go d j (pc + 1) (ls) (v :: u :: v :: u :: st) (n) (h) (a) (b) P) : fw_Go d j (pc) (ls) (v :: u :: st) (n) (h) (a) (b) P := by
  intro p l e R s m args below meth c H locs cells slots mc ms Qc free D tA ad A cs X yf yl yc ys y1 y2 I L S F Q
  exact lv_dup2_11 X.1 X.2.1 hd (by rw [fw_cat]; exact (fw_s0 S).1) (by rw [fw_cat]; exact (fw_s0 (fw_s1 S)).1) (k p l e R s m args below meth c H locs cells slots mc ms Qc free D tA ad A cs X yf yl yc ys y1 y2 I L (fw_sc (fw_s0 S) (fw_sc (fw_s0 (fw_s1 S)) S)) F Q)
theorem fw_if_eq {x : Int32} {off : Int} (tg : Nat) (hd : decode (tb_m j).2.1 pc = .ok (.ifCond .eq off, 3)) (ht : (pc : Int) + off = (tg : Int)) (kt : x = 0 → fw_Go d j (tg) (ls) (st) (n) (h) (a) (b) P) (kf : ¬ x = 0 → fw_Go d j (pc + 3) (ls) (st) (n) (h) (a) (b) P) : fw_Go d j (pc) (ls) (.int x :: st) (n) (h) (a) (b) P := by
  intro p l e R s m args below meth c H locs cells slots mc ms Qc free D tA ad A cs X yf yl yc ys y1 y2 I L S F Q
  exact lv_if_eq X.1 X.2.1 hd ht (fun q => (kt q p l e R s m args below meth c H locs cells slots mc ms Qc free D tA ad A cs X yf yl yc ys y1 y2 I L (fw_s1 S) F Q)) (fun q => (kf q p l e R s m args below meth c H locs cells slots mc ms Qc free D tA ad A cs X yf yl yc ys y1 y2 I L (fw_s1 S) F Q))
theorem fw_icmp_eq {x y : Int32} {off : Int} (tg : Nat) (hd : decode (tb_m j).2.1 pc = .ok (.if_icmp .eq off, 3)) (ht : (pc : Int) + off = (tg : Int)) (kt : x = y → fw_Go d j (tg) (ls) (st) (n) (h) (a) (b) P) (kf : ¬ x = y → fw_Go d j (pc + 3) (ls) (st) (n) (h) (a) (b) P) : fw_Go d j (pc) (ls) (.int y :: .int x :: st) (n) (h) (a) (b) P := by
  intro p l e R s m args below meth c H locs cells slots mc ms Qc free D tA ad A cs X yf yl yc ys y1 y2 I L S F Q
  exact lv_icmp_eq X.1 X.2.1 hd ht (fun q => (kt q p l e R s m args below meth c H locs cells slots mc ms Qc free D tA ad A cs X yf yl yc ys y1 y2 I L (fw_s1 (fw_s1 S)) F Q)) (fun q => (kf q p l e R s m args below meth c H locs cells slots mc ms Qc free D tA ad A cs X yf yl yc ys y1 y2 I L (fw_s1 (fw_s1 S)) F Q))
theorem fw_if_ne {x : Int32} {off : Int} (tg : Nat) (hd : decode (tb_m j).2.1 pc = .ok (.ifCond .ne off, 3)) (ht : (pc : Int) + off = (tg : Int)) (kt : ¬ x = 0 → fw_Go d j (tg) (ls) (st) (n) (h) (a) (b) P) (kf : x = 0 → fw_Go d j (pc + 3) (ls) (st) (n) (h) (a) (b) P) : fw_Go d j (pc) (ls) (.int x :: st) (n) (h) (a) (b) P := by
  intro p l e R s m args below meth c H locs cells slots mc ms Qc free D tA ad A cs X yf yl yc ys y1 y2 I L S F Q
  exact lv_if_ne X.1 X.2.1 hd ht (fun q => (kt q p l e R s m args below meth c H locs cells slots mc ms Qc free D tA ad A cs X yf yl yc ys y1 y2 I L (fw_s1 S) F Q)) (fun q => (kf q p l e R s m args below meth c H locs cells slots mc ms Qc free D tA ad A cs X yf yl yc ys y1 y2 I L (fw_s1 S) F Q))
theorem fw_icmp_ne {x y : Int32} {off : Int} (tg : Nat) (hd : decode (tb_m j).2.1 pc = .ok (.if_icmp .ne off, 3)) (ht : (pc : Int) + off = (tg : Int)) (kt : ¬ x = y → fw_Go d j (tg) (ls) (st) (n) (h) (a) (b) P) (kf : x = y → fw_Go d j (pc + 3) (ls) (st) (n) (h) (a) (b) P) : fw_Go d j (pc) (ls) (.int y :: .int x :: st) (n) (h) (a) (b) P := by
  intro p l e R s m args below meth c H locs cells slots mc ms Qc free D tA ad A cs X yf yl yc ys y1 y2 I L S F Q
  exact lv_icmp_ne X.1 X.2.1 hd ht (fun q => (kt q p l e R s m args below meth c H locs cells slots mc ms Qc free D tA ad A cs X yf yl yc ys y1 y2 I L (fw_s1 (fw_s1 S)) F Q)) (fun q => (kf q p l e R s m args below meth c H locs cells slots mc ms Qc free D tA ad A cs X yf yl yc ys y1 y2 I L (fw_s1 (fw_s1 S)) F Q))
theorem fw_if_lt {x : Int32} {off : Int} (tg : Nat) (hd : decode (tb_m j).2.1 pc = .ok (.ifCond .lt off, 3)) (ht : (pc : Int) + off = (tg : Int)) (kt : x < 0 → fw_Go d j (tg) (ls) (st) (n) (h) (a) (b) P) (kf : ¬ x < 0 → fw_Go d j (pc + 3) (ls) (st) (n) (h) (a) (b) P) : fw_Go d j (pc) (ls) (.int x :: st) (n) (h) (a) (b) P := by
  intro p l e R s m args below meth c H locs cells slots mc ms Qc free D tA ad A cs X yf yl yc ys y1 y2 I L S F Q
  exact lv_if_lt X.1 X.2.1 hd ht (fun q => (kt q p l e R s m args below meth c H locs cells slots mc ms Qc free D tA ad A cs X yf yl yc ys y1 y2 I L (fw_s1 S) F Q)) (fun q => (kf q p l e R s m args below meth c H locs cells slots mc ms Qc free D tA ad A cs X yf yl yc ys y1 y2 I L (fw_s1 S) F Q))
theorem fw_icmp_lt {x y : Int32} {off : Int} (tg : Nat) (hd : decode (tb_m j).2.1 pc = .ok (.if_icmp .lt off, 3)) (ht : (pc : Int) + off = (tg : Int)) (kt : x < y → fw_Go d j (tg) (ls) (st) (n) (h) (a) (b) P) (kf : ¬ x < y → fw_Go d j (pc + 3) (ls) (st) (n) (h) (a) (b) P) : fw_Go d j (pc) (ls) (.int y :: .int x :: st) (n) (h) (a) (b) P := by
  intro p l e R s m args below meth c H locs cells slots mc ms Qc free D tA ad A cs X yf yl yc ys y1 y2 I L S F Q
  exact lv_icmp_lt X.1 X.2.1 hd ht (fun q => (kt q p l e R s m args below meth c H locs cells slots mc ms Qc free D tA ad A cs X yf yl yc ys y1 y2 I L (fw_s1 (fw_s1 S)) F Q)) (fun q => (kf q p l e R s m args below meth c H locs cells slots mc ms Qc free D tA ad A cs X yf yl yc ys y1 y2 I L (fw_s1 (fw_s1 S)) F Q))
theorem fw_if_ge {x : Int32} {off : Int} (tg : Nat) (hd : decode (tb_m j).2.1 pc = .ok (.ifCond .ge off, 3)) (ht : (pc : Int) + off = (tg : Int)) (kt : 0 ≤ x → fw_Go d j (tg) (ls) (st) (n) (h) (a) (b) P) (kf : ¬ 0 ≤ x → fw_Go d j (pc + 3) (ls) (st) (n) (h) (a) (b) P) : fw_Go d j (pc) (ls) (.int x :: st) (n) (h) (a) (b) P := by
  intro p l e R s m args below meth c H locs cells slots mc ms Qc free D tA ad A cs X yf yl yc ys y1 y2 I L S F Q
  exact lv_if_ge X.1 X.2.1 hd ht (fun q => (kt q p l e R s m args below meth c H locs cells slots mc ms Qc free D tA ad A cs X yf yl yc ys y1 y2 I L (fw_s1 S) F Q)) (fun q => (kf q p l e R s m args below meth c H locs cells slots mc ms Qc free D tA ad A cs X yf yl yc ys y1 y2 I L (fw_s1 S) F Q))
theorem fw_icmp_ge {x y : Int32} {off : Int} (tg : Nat) (hd : decode (tb_m j).2.1 pc = .ok (.if_icmp .ge off, 3)) (ht : (pc : Int) + off = (tg : Int)) (kt : y ≤ x → fw_Go d j (tg) (ls) (st) (n) (h) (a) (b) P) (kf : ¬ y ≤ x → fw_Go d j (pc + 3) (ls) (st) (n) (h) (a) (b) P) : fw_Go d j (pc) (ls) (.int y :: .int x :: st) (n) (h) (a) (b) P := by
  intro p l e R s m args below meth c H locs cells slots mc ms Qc free D tA ad A cs X yf yl yc ys y1 y2 I L S F Q
  exact lv_icmp_ge X.1 X.2.1 hd ht (fun q => (kt q p l e R s m args below meth c H locs cells slots mc ms Qc free D tA ad A cs X yf yl yc ys y1 y2 I L (fw_s1 (fw_s1 S)) F Q)) (fun q => (kf q p l e R s m args below meth c H locs cells slots mc ms Qc free D tA ad A cs X yf yl yc ys y1 y2 I L (fw_s1 (fw_s1 S)) F Q))
theorem fw_if_gt {x : Int32} {off : Int} (tg : Nat) (hd : decode (tb_m j).2.1 pc = .ok (.ifCond .gt off, 3)) (ht : (pc : Int) + off = (tg : Int)) (kt : 0 < x → fw_Go d j (tg) (ls) (st) (n) (h) (a) (b) P) (kf : ¬ 0 < x → fw_Go d j (pc + 3) (ls) (st) (n) (h) (a) (b) P) : fw_Go d j (pc) (ls) (.int x :: st) (n) (h) (a) (b) P := by
  intro p l e R s m args below meth c H locs cells slots mc ms Qc free D tA ad A cs X yf yl yc ys y1 y2 I L S F Q
  exact lv_if_gt X.1 X.2.1 hd ht (fun q => (kt q p l e R s m args below meth c H locs cells slots mc ms Qc free D tA ad A cs X yf yl yc ys y1 y2 I L (fw_s1 S) F Q)) (fun q => (kf q p l e R s m args below meth c H locs cells slots mc ms Qc free D tA ad A cs X yf yl yc ys y1 y2 I L (fw_s1 S) F Q))
theorem fw_icmp_gt {x y : Int32} {off : Int} (tg : Nat) (hd : decode (tb_m j).2.1 pc = .ok (.if_icmp .gt off, 3)) (ht : (pc : Int) + off = (tg : Int)) (kt : y < x → fw_Go d j (tg) (ls) (st) (n) (h) (a) (b) P) (kf : ¬ y < x → fw_Go d j (pc + 3) (ls) (st) (n) (h) (a) (b) P) : fw_Go d j (pc) (ls) (.int y :: .int x :: st) (n) (h) (a) (b) P := by
  intro p l e R s m args below meth c H locs cells slots mc ms Qc free D tA ad A cs X yf yl yc ys y1 y2 I L S F Q
  exact lv_icmp_gt X.1 X.2.1 hd ht (fun q => (kt q p l e R s m args below meth c H locs cells slots mc ms Qc free D tA ad A cs X yf yl yc ys y1 y2 I L (fw_s1 (fw_s1 S)) F Q)) (fun q => (kf q p l e R s m args below meth c H locs cells slots mc ms Qc free D tA ad A cs X yf yl yc ys y1 y2 I L (fw_s1 (fw_s1 S)) F Q))
theorem fw_if_le {x : Int32} {off : Int} (tg : Nat) (hd : decode (tb_m j).2.1 pc = .ok (.ifCond .le off, 3)) (ht : (pc : Int) + off = (tg : Int)) (kt : x ≤ 0 → fw_Go d j (tg) (ls) (st) (n) (h) (a) (b) P) (kf : ¬ x ≤ 0 → fw_Go d j (pc + 3) (ls) (st) (n) (h) (a) (b) P) : fw_Go d j (pc) (ls) (.int x :: st) (n) (h) (a) (b) P := by
  intro p l e R s m args below meth c H locs cells slots mc ms Qc free D tA ad A cs X yf yl yc ys y1 y2 I L S F Q
  exact lv_if_le X.1 X.2.1 hd ht (fun q => (kt q p l e R s m args below meth c H locs cells slots mc ms Qc free D tA ad A cs X yf yl yc ys y1 y2 I L (fw_s1 S) F Q)) (fun q => (kf q p l e R s m args below meth c H locs cells slots mc ms Qc free D tA ad A cs X yf yl yc ys y1 y2 I L (fw_s1 S) F Q))
theorem fw_icmp_le {x y : Int32} {off : Int} (tg : Nat) (hd : decode (tb_m j).2.1 pc = .ok (.if_icmp .le off, 3)) (ht : (pc : Int) + off = (tg : Int)) (kt : x ≤ y → fw_Go d j (tg) (ls) (st) (n) (h) (a) (b) P) (kf : ¬ x ≤ y → fw_Go d j (pc + 3) (ls) (st) (n) (h) (a) (b) P) : fw_Go d j (pc) (ls) (.int y :: .int x :: st) (n) (h) (a) (b) P := by
  intro p l e R s m args below meth c H locs cells slots mc ms Qc free D tA ad A cs X yf yl yc ys y1 y2 I L S F Q
  exact lv_icmp_le X.1 X.2.1 hd ht (fun q => (kt q p l e R s m args below meth c H locs cells slots mc ms Qc free D tA ad A cs X yf yl yc ys y1 y2 I L (fw_s1 (fw_s1 S)) F Q)) (fun q => (kf q p l e R s m args below meth c H locs cells slots mc ms Qc free D tA ad A cs X yf yl yc ys y1 y2 I L (fw_s1 (fw_s1 S)) F Q))
theorem fw_goto {off : Int} (tg : Nat) (hd : decode (tb_m j).2.1 pc = .ok (.goto off, 3)) (ht : (pc : Int) + off = (tg : Int)) (k : fw_Go d j (tg) (ls) (st) (n) (h) (a) (b) P) : fw_Go d j (pc) (ls) (st) (n) (h) (a) (b) P := by
  intro p l e R s m args below meth c H locs cells slots mc ms Qc free D tA ad A cs X yf yl yc ys y1 y2 I L S F Q
  exact lv_goto X.1 X.2.1 hd ht (k p l e R s m args below meth c H locs cells slots mc ms Qc free D tA ad A cs X yf yl yc ys y1 y2 I L S F Q)
theorem fw_ifnull {o : Nat} {off : Int} (hd : decode (tb_m j).2.1 pc = .ok (.ifnull off, 3)) (k : fw_Go d j (pc + 3) (ls) (st) (n) (h) (a) (b) P) : fw_Go d j (pc) (ls) (.ref o :: st) (n) (h) (a) (b) P := by
  intro p l e R s m args below meth c H locs cells slots mc ms Qc free D tA ad A cs X yf yl yc ys y1 y2 I L S F Q
  exact lv_ifnull X.1 X.2.1 hd (k p l e R s m args below meth c H locs cells slots mc ms Qc free D tA ad A cs X yf yl yc ys y1 y2 I L (fw_s1 S) F Q)
theorem fw_ifnullN {off : Int} (tg : Nat) (hd : decode (tb_m j).2.1 pc = .ok (.ifnull off, 3)) (ht : (pc : Int) + off = (tg : Int)) (k : fw_Go d j (tg) (ls) (st) (n) (h) (a) (b) P) : fw_Go d j (pc) (ls) (.null :: st) (n) (h) (a) (b) P := by
  intro p l e R s m args below meth c H locs cells slots mc ms Qc free D tA ad A cs X yf yl yc ys y1 y2 I L S F Q
  exact lv_ifnullN X.1 X.2.1 hd ht (k p l e R s m args below meth c H locs cells slots mc ms Qc free D tA ad A cs X yf yl yc ys y1 y2 I L (fw_s1 S) F Q)
theorem fw_ifnonnull {o : Nat} {off : Int} (tg : Nat) (hd : decode (tb_m j).2.1 pc = .ok (.ifnonnull off, 3)) (ht : (pc : Int) + off = (tg : Int)) (k : fw_Go d j (tg) (ls) (st) (n) (h) (a) (b) P) : fw_Go d j (pc) (ls) (.ref o :: st) (n) (h) (a) (b) P := by
  intro p l e R s m args below meth c H locs cells slots mc ms Qc free D tA ad A cs X yf yl yc ys y1 y2 I L S F Q
  exact lv_ifnonnull X.1 X.2.1 hd ht (k p l e R s m args below meth c H locs cells slots mc ms Qc free D tA ad A cs X yf yl yc ys y1 y2 I L (fw_s1 S) F Q)
theorem fw_ifnonnullN {off : Int} (hd : decode (tb_m j).2.1 pc = .ok (.ifnonnull off, 3)) (k : fw_Go d j (pc + 3) (ls) (st) (n) (h) (a) (b) P) : fw_Go d j (pc) (ls) (.null :: st) (n) (h) (a) (b) P := by
  intro p l e R s m args below meth c H locs cells slots mc ms Qc free D tA ad A cs X yf yl yc ys y1 y2 I L S F Q
  exact lv_ifnonnullN X.1 X.2.1 hd (k p l e R s m args below meth c H locs cells slots mc ms Qc free D tA ad A cs X yf yl yc ys y1 y2 I L (fw_s1 S) F Q)
theorem fw_tableIn {dflt lo hi : Int} {offs : Array Int} {len : Nat} {x : Int32} {off : Int} (tg : Nat) (hd : decode (tb_m j).2.1 pc = .ok (.tableswitch dflt lo hi offs, len)) (g1 : ¬ x.toInt < lo) (g2 : ¬ hi < x.toInt) (ho : offs[(x.toInt - lo).toNat]? = some off) (ht : (pc : Int) + off = (tg : Int)) (k : fw_Go d j (tg) (ls) (st) (n) (h) (a) (b) P) : fw_Go d j (pc) (ls) (.int x :: st) (n) (h) (a) (b) P := by
  intro p l e R s m args below meth c H locs cells slots mc ms Qc free D tA ad A cs X yf yl yc ys y1 y2 I L S F Q
  exact lv_tableIn X.1 X.2.1 hd g1 g2 ho ht (k p l e R s m args below meth c H locs cells slots mc ms Qc free D tA ad A cs X yf yl yc ys y1 y2 I L (fw_s1 S) F Q)
theorem fw_tableOut {dflt lo hi : Int} {offs : Array Int} {len : Nat} {x : Int32} (tg : Nat) (hd : decode (tb_m j).2.1 pc = .ok (.tableswitch dflt lo hi offs, len)) (g1 : x.toInt < lo ∨ hi < x.toInt) (ht : (pc : Int) + dflt = (tg : Int)) (k : fw_Go d j (tg) (ls) (st) (n) (h) (a) (b) P) : fw_Go d j (pc) (ls) (.int x :: st) (n) (h) (a) (b) P := by
  intro p l e R s m args below meth c H locs cells slots mc ms Qc free D tA ad A cs X yf yl yc ys y1 y2 I L S F Q
  exact lv_tableOut X.1 X.2.1 hd g1 ht (k p l e R s m args below meth c H locs cells slots mc ms Qc free D tA ad A cs X yf yl yc ys y1 y2 I L (fw_s1 S) F Q)
theorem fw_lookup {dflt : Int} {ps : Array (Int × Int)} {len : Nat} {x : Int32} {off : Int} (tg : Nat) (hd : decode (tb_m j).2.1 pc = .ok (.lookupswitch dflt ps, len)) (hp : (ps.toList.zip (ps.toList.drop 1)).all (fun (a, next) => a.1 < next.1) = true) (ho : Op.lookupswitch.offset ps.toList dflt x.toInt = off) (ht : (pc : Int) + off = (tg : Int)) (k : fw_Go d j (tg) (ls) (st) (n) (h) (a) (b) P) : fw_Go d j (pc) (ls) (.int x :: st) (n) (h) (a) (b) P := by
  intro p l e R s m args below meth c H locs cells slots mc ms Qc free D tA ad A cs X yf yl yc ys y1 y2 I L S F Q
  exact lv_lookup X.1 X.2.1 hd hp ho ht (k p l e R s m args below meth c H locs cells slots mc ms Qc free D tA ad A cs X yf yl yc ys y1 y2 I L (fw_s1 S) F Q)
end FW
