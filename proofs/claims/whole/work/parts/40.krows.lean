def fw_st (h : fw_H) (o : Nat) (c : fw_E) (n : Nat) (l : List fw_E) : fw_H := fun k => if k = o then c else if k < n then h k else l.getD (k - n) fw_no
theorem fw_st_o {h : fw_H} {o : Nat} {c : fw_E} {n : Nat} {l : List fw_E} : fw_st h o c n l o = c := if_pos rfl
theorem fw_st_n {h : fw_H} {o : Nat} {c : fw_E} {n : Nat} {l : List fw_E} (ho : o < n) {i : Nat} {x : fw_E} (hi : l[i]? = some x) : fw_st h o c n l (n + i) = x := by
  unfold fw_st
  rw [if_neg (by omega), if_neg (by omega), show n + i - n = i by omega, List.getD_eq_getElem?_getD, hi]
  rfl
theorem fw_st_old {h : fw_H} {o : Nat} {c : fw_E} {n : Nat} {l : List fw_E} {k : Nat} (h1 : k ≠ o) (h2 : k < n) : fw_st h o c n l k = h k := by
  unfold fw_st
  rw [if_neg h1, if_pos h2]
theorem fw_st_put {h : fw_H} {o : Nat} {c c' : fw_E} {n : Nat} {l : List fw_E} : fw_up (fw_st h o c n l) o c' = fw_st h o c' n l := by
  funext k
  unfold fw_up fw_st
  by_cases e : k = o
  · rw [if_pos e, if_pos e]
  · rw [if_neg e, if_neg e, if_neg e]
theorem fw_st_new {h : fw_H} {o : Nat} {c x : fw_E} {n : Nat} {l : List fw_E} (ho : o < n) : fw_up (fw_st h o c n l) (n + l.length) x = fw_st h o c n (l ++ [x]) := by
  funext k
  unfold fw_up fw_st
  by_cases e : k = n + l.length
  · subst e
    rw [if_pos rfl, if_neg (by omega), if_neg (by omega), show n + l.length - n = l.length by omega, List.getD_eq_getElem?_getD, List.getElem?_append_right (Nat.le_refl _), Nat.sub_self]
    rfl
  · rw [if_neg e]
    by_cases e1 : k = o
    · rw [if_pos e1, if_pos e1]
    · rw [if_neg e1, if_neg e1]
      by_cases e2 : k < n
      · rw [if_pos e2, if_pos e2]
      · rw [if_neg e2, if_neg e2, List.getD_eq_getElem?_getD, List.getD_eq_getElem?_getD]
        by_cases e3 : k - n < l.length
        · rw [List.getElem?_append_left e3]
        · rw [List.getElem?_eq_none (by omega), List.getElem?_eq_none (by rw [List.length_append]; show l.length + 1 ≤ _; omega)]
theorem fw_st_set {h : fw_H} {o : Nat} {c x : fw_E} {n i : Nat} {l : List fw_E} (ho : o < n) (hi : i < l.length) : fw_up (fw_st h o c n l) (n + i) x = fw_st h o c n (l.set i x) := by
  funext k
  unfold fw_up fw_st
  by_cases e : k = n + i
  · subst e
    rw [if_pos rfl, if_neg (by omega), if_neg (by omega), show n + i - n = i by omega, List.getD_eq_getElem?_getD, List.getElem?_set_self hi]
    rfl
  · rw [if_neg e]
    by_cases e1 : k = o
    · rw [if_pos e1, if_pos e1]
    · rw [if_neg e1, if_neg e1]
      by_cases e2 : k < n
      · rw [if_pos e2, if_pos e2]
      · rw [if_neg e2, if_neg e2, List.getD_eq_getElem?_getD, List.getD_eq_getElem?_getD, List.getElem?_set_ne (by omega)]
theorem fw_st_st {h : fw_H} {o : Nat} {c x : fw_E} {n i : Nat} {l l2 : List fw_E} (ho : o < n) (hi : i < l.length) : fw_st (fw_st h o c n l) (n + i) x (n + l.length) l2 = fw_st h o c n (l.set i x ++ l2) := by
  funext k
  unfold fw_st
  by_cases e : k = n + i
  · subst e
    rw [if_pos rfl, if_neg (by omega), if_neg (by omega), show n + i - n = i by omega, List.getD_eq_getElem?_getD, List.getElem?_append_left (by rw [List.length_set]; exact hi), List.getElem?_set_self hi]
    rfl
  · rw [if_neg e]
    by_cases e4 : k < n + l.length
    · rw [if_pos e4]
      by_cases e1 : k = o
      · rw [if_pos e1, if_pos e1]
      · rw [if_neg e1, if_neg e1]
        by_cases e2 : k < n
        · rw [if_pos e2, if_pos e2]
        · rw [if_neg e2, if_neg e2, List.getD_eq_getElem?_getD, List.getD_eq_getElem?_getD, List.getElem?_append_left (by rw [List.length_set]; omega), List.getElem?_set_ne (by omega)]
    · rw [if_neg e4, if_neg (by omega), if_neg (by omega), List.getD_eq_getElem?_getD, List.getD_eq_getElem?_getD, List.getElem?_append_right (by rw [List.length_set]; omega), List.length_set, show k - n - l.length = k - (n + l.length) by omega]
section KR
variable {d j pc nx : Nat} {ls : List (Option Value)} {st : List Value} {n : Nat} {h : fw_H} {a b : Nat} {P : fw_P}
theorem kg_iconst {i : Int} {x : Int32} (hd : sv_D j pc (.iconst i) 1 nx) (hv : Int32.ofInt i = x) (k : fw_Go (d) j (nx) (ls) (.int x :: st) (n) (h) (a) (b) P) : fw_Go (d) j (pc) (ls) (st) (n) (h) (a) (b) P := by
  obtain ⟨hd, rfl⟩ := hd
  exact fw_iconst hd hv k
theorem kg_bipush {i : Int} {x : Int32} (hd : sv_D j pc (.bipush i) 2 nx) (hv : (Int8.ofInt i).toInt32 = x) (k : fw_Go (d) j (nx) (ls) (.int x :: st) (n) (h) (a) (b) P) : fw_Go (d) j (pc) (ls) (st) (n) (h) (a) (b) P := by
  obtain ⟨hd, rfl⟩ := hd
  exact fw_bipush hd hv k
theorem kg_sipush {i : Int} {x : Int32} (hd : sv_D j pc (.sipush i) 3 nx) (hv : (Int16.ofInt i).toInt32 = x) (k : fw_Go (d) j (nx) (ls) (.int x :: st) (n) (h) (a) (b) P) : fw_Go (d) j (pc) (ls) (st) (n) (h) (a) (b) P := by
  obtain ⟨hd, rfl⟩ := hd
  exact fw_sipush hd hv k
theorem kg_iload_n {i : Fin 4} {x : Int32} (hd : sv_D j pc (.iload_n i) 1 nx) (hx : ls[(i : Nat)]? = some (some (.int x))) (k : fw_Go (d) j (nx) (ls) (.int x :: st) (n) (h) (a) (b) P) : fw_Go (d) j (pc) (ls) (st) (n) (h) (a) (b) P := by
  obtain ⟨hd, rfl⟩ := hd
  exact fw_iload_n hd hx k
theorem kg_iload {i : Nat} {x : Int32} (hd : sv_D j pc (.iload i) 2 nx) (hx : ls[(i : Nat)]? = some (some (.int x))) (k : fw_Go (d) j (nx) (ls) (.int x :: st) (n) (h) (a) (b) P) : fw_Go (d) j (pc) (ls) (st) (n) (h) (a) (b) P := by
  obtain ⟨hd, rfl⟩ := hd
  exact fw_iload hd hx k
theorem kg_aload_n {i : Fin 4} {o : Nat} (hd : sv_D j pc (.aload_n i) 1 nx) (hx : ls[(i : Nat)]? = some (some (.ref o))) (k : fw_Go (d) j (nx) (ls) (.ref o :: st) (n) (h) (a) (b) P) : fw_Go (d) j (pc) (ls) (st) (n) (h) (a) (b) P := by
  obtain ⟨hd, rfl⟩ := hd
  exact fw_aload_n hd hx k
theorem kg_aload {i : Nat} {o : Nat} (hd : sv_D j pc (.aload i) 2 nx) (hx : ls[(i : Nat)]? = some (some (.ref o))) (k : fw_Go (d) j (nx) (ls) (.ref o :: st) (n) (h) (a) (b) P) : fw_Go (d) j (pc) (ls) (st) (n) (h) (a) (b) P := by
  obtain ⟨hd, rfl⟩ := hd
  exact fw_aload hd hx k
theorem kg_astore_n {i : Fin 4} {x : Nat} {ls' : List (Option Value)} (hd : sv_D j pc (.astore_n i) 1 nx) (hi : (i : Nat) < (tb_m j).2.2.1) (hl : ls.set (i : Nat) (some (.ref x)) = ls') (k : fw_Go (d) j (nx) (ls') (st) (n) (h) (a) (b) P) : fw_Go (d) j (pc) (ls) (.ref x :: st) (n) (h) (a) (b) P := by
  obtain ⟨hd, rfl⟩ := hd
  subst hl
  exact fw_astore_n hd hi k
theorem kg_astore {i : Nat} {x : Nat} {ls' : List (Option Value)} (hd : sv_D j pc (.astore i) 2 nx) (hi : (i : Nat) < (tb_m j).2.2.1) (hl : ls.set (i : Nat) (some (.ref x)) = ls') (k : fw_Go (d) j (nx) (ls') (st) (n) (h) (a) (b) P) : fw_Go (d) j (pc) (ls) (.ref x :: st) (n) (h) (a) (b) P := by
  obtain ⟨hd, rfl⟩ := hd
  subst hl
  exact fw_astore hd hi k
theorem kg_dup {u : Value} (hd : sv_D j pc (.dup) 1 nx)  (k : fw_Go (d) j (nx) (ls) (u :: u :: st) (n) (h) (a) (b) P) : fw_Go (d) j (pc) (ls) (u :: st) (n) (h) (a) (b) P := by
  obtain ⟨hd, rfl⟩ := hd
  exact fw_dup hd k
theorem kg_iadd {x y : Int32} (hd : sv_D j pc (.iadd) 1 nx)  (k : fw_Go (d) j (nx) (ls) (.int (x + y) :: st) (n) (h) (a) (b) P) : fw_Go (d) j (pc) (ls) (.int y :: .int x :: st) (n) (h) (a) (b) P := by
  obtain ⟨hd, rfl⟩ := hd
  exact fw_iadd hd k
theorem kg_imul {x y : Int32} (hd : sv_D j pc (.imul) 1 nx)  (k : fw_Go (d) j (nx) (ls) (.int (x * y) :: st) (n) (h) (a) (b) P) : fw_Go (d) j (pc) (ls) (.int y :: .int x :: st) (n) (h) (a) (b) P := by
  obtain ⟨hd, rfl⟩ := hd
  exact fw_imul hd k
theorem kg_vret (hr : (tb_m j).2.2.2 = none) (hd : sv_D j pc (.return_) 1 nx) (hP : P none n h) : fw_Go (d) j (pc) (ls) ([]) (n) (h) (a) (b) P := by
  obtain ⟨hd, rfl⟩ := hd
  exact fw_vret hr hd hP
def kw_o (j idx : Nat) : Prop := Cond.methodLink (tb_m j).1.cls idx objectInit ∈ tb_ws ∧ Cond.instanceMethod objectInit ∈ tb_ws ∧ Cond.code objectInit ⟨#[0xb1]⟩ 1 none ∈ tb_ws
theorem kg_obj {o idx : Nat} (hd : sv_D j pc (.invokespecial idx) 3 nx) (hw : kw_o j idx) (hst : st.length ≤ 8) (k : fw_Go (d + 1) j (nx) (ls) (st) (n) (h) (a) (b) P) : fw_Go (d + 1) j (pc) (ls) (.ref o :: st) (n) (h) (a) (b) P := by
  obtain ⟨hd, rfl⟩ := hd
  exact fw_obj hw.1 hw.2.1 hw.2.2 hst hd k
def kn_ok (v : Value) : Bool := match v with
  | .int _ => true
  | .null => true
  | _ => false
theorem kn_ok_of {fs : List Value} (h : fs.all kn_ok = true) : ∀ v ∈ fs, fw_ok 0 v := fun v hv => by
  have h1 := List.all_eq_true.mp h v hv
  unfold kn_ok at h1
  split at h1
  · exact fw_ok_int 0 _
  · exact fw_ok_null 0
  · cases h1
def kw_n (j idx ci K : Nat) (fs : List Value) : Prop := ∃ (C : String) (T : u_T) (ty : Nat → FieldType), tb_cl[ci]? = some (C, T, K) ∧ (∀ w ∈ u_ws C T K, w ∈ tb_ws) ∧ (∀ k, k < K → parseFieldDescriptor (T k).2.2.1 = some (ty k)) ∧ Cond.classLink (tb_m j).1.cls idx C ∈ tb_ws ∧ Cond.instantiable C K ∈ tb_ws ∧ Cond.initialized C ∈ tb_ws ∧ (∀ i, i < K → defaultValue (ty i) = vp_V fs i) ∧ fs.all kn_ok = true
def kp_f (j idx ci fk : Nat) (ty : FieldType) : Prop := ∃ (C : String) (T : u_T) (N : Nat) (ty0 : Nat → FieldType), tb_cl[ci]? = some (C, T, N) ∧ (∀ w ∈ u_ws C T N, w ∈ tb_ws) ∧ fk < N ∧ Cond.fieldLink (tb_m j).1.cls idx (T fk).1 (T fk).2.1 (T fk).2.2.1 ∈ tb_ws ∧ (∀ k, k < N → parseFieldDescriptor (T k).2.2.1 = some (ty0 k)) ∧ (∀ a, a < N → ∀ b, b < N → a ≠ b → (T a).2.1 ≠ (T b).2.1) ∧ (T fk).2.2.2 = true ∧ (tb_m j).1.name = "<init>" ∧ (T fk).1 = (tb_m j).1.cls ∧ parseFieldDescriptor (T fk).2.2.1 = some ty
section KC
variable {o : Nat} {c : fw_E} {l l' : List fw_E} {m : Nat}
theorem kc_start (ho : h o = c) (hn : o < n) (k : fw_Go d j pc ls st (n + 0) (fw_st h o c n []) a b P) : fw_Go d j pc ls st n h a b P := by
  intro p l e R s m args below meth c H locs cells slots mc ms Qc free D tA ad A cs X yf yl yc ys y1 y2 I L S F Q
  have e9 : fw_st h o (h o) n [] = h := by
    funext k
    unfold fw_st
    by_cases e : k = o
    · rw [if_pos e, e]
    · rw [if_neg e]
      by_cases e2 : k < n
      · rw [if_pos e2]
      · rw [if_neg e2]
        exact (I.1.1 k (Nat.le_of_not_lt e2)).symm
  rw [← ho, e9] at k
  exact k p l e R s m args below meth c H locs cells slots mc ms Qc free D tA ad A cs X yf yl yc ys y1 y2 I L S F Q
theorem kc_new {idx ci K : Nat} {fs : List Value} (hd : sv_D j pc (.new idx) 3 nx) (hw : kw_n j idx ci K fs) (hm : l.length = m) (ho : o < n) (hl : l ++ [.inr (ci, fs)] = l') (k : fw_Go d j nx ls (.ref (n + m) :: st) (n + (m + 1)) (fw_st h o c n l') a b P) : fw_Go d j pc ls st (n + m) (fw_st h o c n l) (a + 1) (b + K) P := by
  obtain ⟨hd, rfl⟩ := hd
  subst hm
  subst hl
  obtain ⟨C, T, ty, h1, h2, h3, h4, h5, h6, h7, h8⟩ := hw
  exact fw_new h1 h2 h3 h4 h5 h6 h7 (kn_ok_of h8) hd (by rw [fw_st_new ho]; exact k)
theorem kc_newa {t N : Nat} {i : Int32} {atype : ArrayType} {ty : FieldType} (hd : sv_D j pc (.newarray atype) 2 nx) (hty : newarray.typeOf atype = ty) (ht : tb_ty[t]? = some ty) (hz : defaultValue ty = .int 0) (hw : Cond.arrayClass (newarray.typeOf atype) ∈ tb_ws) (hn : ¬ i < 0) (hN : i.toNatClampNeg = N) (hb : N * componentBytes ty ≤ 536870912) (hm : l.length = m) (ho : o < n) (hl : l ++ [.inl (t, N, .inl (fun _ => 0))] = l') (k : fw_Go d j nx ls (.ref (n + m) :: st) (n + (m + 1)) (fw_st h o c n l') a b P) : fw_Go d j pc ls (.int i :: st) (n + m) (fw_st h o c n l) (a + 1) (b + N) P := by
  obtain ⟨hd, rfl⟩ := hd
  subst hm
  subst hl
  exact fw_newa hty ht hz hw hn hN hb hd (by rw [fw_st_new ho]; exact k)
theorem kc_newq {t N idx : Nat} {i : Int32} {C : String} (hd : sv_D j pc (.anewarray idx) 3 nx) (ht : tb_ty[t]? = some (.object C)) (hw1 : Cond.classLink (tb_m j).1.cls idx C ∈ tb_ws) (hw2 : C = "WireHosts$Rows" ∨ C = "WireHosts$Host") (hn : ¬ i < 0) (hN : i.toNatClampNeg = N) (hb : N * 4 ≤ 536870912) (hm : l.length = m) (ho : o < n) (hl : l ++ [.inl (t, N, .inr (.inr (.inr (.inr (fun _ => none)))))] = l') (k : fw_Go d j nx ls (.ref (n + m) :: st) (n + (m + 1)) (fw_st h o c n l') a b P) : fw_Go d j pc ls (.int i :: st) (n + m) (fw_st h o c n l) (a + 1) (b + N) P := by
  obtain ⟨hd, rfl⟩ := hd
  subst hm
  subst hl
  exact fw_newq ht hw1 hw2 hn hN hb hd (by rw [fw_st_new ho]; exact k)
theorem kc_putF {ci fk idx : Nat} {fs fs' : List Value} {u : Value} {ty : FieldType} {n0 : Nat} (hd : sv_D j pc (.putfield idx) 3 nx) (hg : kp_f j idx ci fk ty) (hnar : ∀ ad, narrow ty (fw_v ad u) = fw_v ad u) (hfit : ∀ ad, fits ty (fw_v ad u) = true) (hk : fk < fs.length) (hl : fs.set fk u = fs') (k : fw_Go d j nx ls st n0 (fw_st h o (.inr (ci, fs')) n l) a b P) : fw_Go d j pc ls (u :: .ref o :: st) n0 (fw_st h o (.inr (ci, fs)) n l) a b P := by
  obtain ⟨hd, rfl⟩ := hd
  subst hl
  obtain ⟨C, T, N, ty0, h1, h2, h3, h4, h5, h6, h7, h8, h9, h10⟩ := hg
  exact fw_putF h1 h2 h3 h4 rfl h5 h6 h7 h8 h9 h10 hnar hfit fw_st_o hk hd (by rw [fw_st_put]; exact k)
theorem kc_put {ci fk idx : Nat} {fs fs' : List Value} {u : Value} {ty : FieldType} {n0 : Nat} (hd : sv_D j pc (.putfield idx) 3 nx) (hg : sv_pf j idx ci fk ty) (hnar : ∀ ad, narrow ty (fw_v ad u) = fw_v ad u) (hfit : ∀ ad, fits ty (fw_v ad u) = true) (hk : fk < fs.length) (hl : fs.set fk u = fs') (k : fw_Go d j nx ls st n0 (fw_st h o (.inr (ci, fs')) n l) a b P) : fw_Go d j pc ls (u :: .ref o :: st) n0 (fw_st h o (.inr (ci, fs)) n l) a b P := by
  obtain ⟨hd, rfl⟩ := hd
  subst hl
  exact hg.put fw_st_o hk hnar hfit hd (by rw [fw_st_put]; exact k)
theorem kc_get {ci fk idx : Nat} {fs : List Value} {u : Value} {n0 : Nat} (hd : sv_D j pc (.getfield idx) 3 nx) (hg : sv_gf j idx ci fk) (hv : fs[fk]? = some u) (k : fw_Go d j nx ls (u :: st) n0 (fw_st h o (.inr (ci, fs)) n l) a b P) : fw_Go d j pc ls (.ref o :: st) n0 (fw_st h o (.inr (ci, fs)) n l) a b P := by
  obtain ⟨hd, rfl⟩ := hd
  exact hg.get fw_st_o hv hd k
theorem kc_iast {t N i0 n0 : Nat} {f : Nat → Int32} {i x : Int32} (hd : sv_D j pc (.iastore) 1 nx) (ht : tb_ty[t]? = some .int) (ho : o < n) (hi0 : l[i0]? = some (.inl (t, N, .inl f))) (hi : sv_inb i N = true) (hl : l.set i0 (.inl (t, N, .inl (upd f i.toNatClampNeg x))) = l') (k : fw_Go d j nx ls st n0 (fw_st h o c n l') a b P) : fw_Go d j pc ls (.int x :: .int i :: .ref (n + i0) :: st) n0 (fw_st h o c n l) a b P := by
  obtain ⟨hd, rfl⟩ := hd
  subst hl
  exact fw_iast ht (fw_st_n ho hi0) (sv_inb_of hi) hd (by rw [fw_st_set ho (List.getElem?_eq_some_iff.mp hi0).1]; exact k)
theorem kc_aast {t N i0 n0 r ci : Nat} {q : vw_C} {vs : List Value} {f : Nat → Option Nat} {i : Int32} (hd : sv_D j pc (.aastore) 1 nx) (ht : tb_ty[t]? = some (.object q.1)) (ho : o < n) (hi0 : l[i0]? = some (.inl (t, N, .inr (.inr (.inr (.inr f)))))) (hr : fw_st h o c n l r = .inr (ci, vs)) (hc : tb_cl[ci]? = some q) (hi : sv_inb i N = true) (hl : l.set i0 (.inl (t, N, .inr (.inr (.inr (.inr (va_up f i.toNatClampNeg (some r))))))) = l') (k : fw_Go d j nx ls st n0 (fw_st h o c n l') a b P) : fw_Go d j pc ls (.ref r :: .int i :: .ref (n + i0) :: st) n0 (fw_st h o c n l) a b P := by
  obtain ⟨hd, rfl⟩ := hd
  subst hl
  exact fw_aast ht (fw_st_n ho hi0) hr hc (sv_inb_of hi) hd (by rw [fw_st_set ho (List.getElem?_eq_some_iff.mp hi0).1]; exact k)
/-- a constructor's end: the object's cell is c', the cells l1 are new -/
def kc_E (n : Nat) (h : fw_H) (o : Nat) (c' : fw_E) (l1 : List fw_E) : fw_P := fun r n' h' => r = none ∧ n' = n + l1.length ∧ h' = fw_st h o c' n l1
theorem kc_init {j' idx nA i0 a' b' : Nat} {as stk : List Value} {c1 : fw_E} {l1 : List fw_E} {m' : Nat} (hd : sv_D j pc (.invokespecial idx) 3 nx) (hw : sv_wI j idx j' nA) (hn : as.length = nA) (hst : st.length ≤ 8) (hm : l.length = m) (hstk : stk = as.reverse ++ .ref (n + i0) :: st) (ho : o < n) (hi0 : i0 < m) (hS : fw_Sp d j' (.ref (n + i0) :: as) (n + m) (fw_st h o c n l) a' b' (kc_E (n + m) (fw_st h o c n l) (n + i0) c1 l1)) (hl : l.set i0 c1 ++ l1 = l') (hm' : l'.length = m') (k : fw_Go (d + 1) j nx ls st (n + m') (fw_st h o c n l') a b P) : fw_Go (d + 1) j pc ls stk (n + m) (fw_st h o c n l) (a + a') (b + b') P := by
  obtain ⟨hd, rfl⟩ := hd
  subst hm
  refine hw.callI hn hst hstk hd hS (fun r n' h' hz => ?_)
  obtain ⟨rfl, rfl, rfl⟩ := hz
  rw [fw_st_st ho hi0, hl]
  have e : n + l.length + l1.length = n + m' := by
    rw [← hm', ← hl, List.length_append, List.length_set]
    omega
  rw [e]
  exact k
end KC
end KR
