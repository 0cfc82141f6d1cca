section FM
variable {d j pc : Nat} {ls : List (Option Value)} {st : List Value} {n : Nat} {h : fw_H} {a b : Nat} {P : fw_P}
theorem fw_sum1 (l : List Value) : (l.map (fun _ => 1)).sum = l.length := by
  induction l with
  | nil => rfl
  | cons x l ih => rw [List.map_cons, List.sum_cons, ih, List.length_cons]; omega
def fw_le : List (Option Value) → List (Option Value) → Prop
  | [], [] => True
  | none :: a, _ :: b => fw_le a b
  | some x :: a, y :: b => y = some x ∧ fw_le a b
  | _, _ => False
theorem fw_le_at : ∀ (l l' : List (Option Value)), fw_le l' l → l'.length = l.length ∧ ∀ (i : Nat) (x : Value), l'[i]? = some (some x) → l[i]? = some (some x)
  | [], [], _ => ⟨rfl, fun i x h => h⟩
  | y :: b, none :: a, hk => by
    obtain ⟨h1, h2⟩ := fw_le_at b a hk
    refine ⟨congrArg (· + 1) h1, fun i x hx => ?_⟩
    cases i with
    | zero => cases hx
    | succ i => exact h2 i x hx
  | y :: b, some x0 :: a, hk => by
    obtain ⟨h1, h2⟩ := fw_le_at b a hk.2
    refine ⟨congrArg (· + 1) h1, fun i x hx => ?_⟩
    cases i with
    | zero => rw [hk.1]; exact hx
    | succ i => exact h2 i x hx
  | [], none :: _, hk => hk.elim
  | [], some _ :: _, hk => hk.elim
  | _ :: _, [], hk => hk.elim
theorem fw_Go.kill {ls' : List (Option Value)} (hk : fw_le ls' ls) (k : fw_Go d j pc ls' st n h a b P) : fw_Go d j pc ls st n h a b P := by
  intro p l e R s m args below meth c H locs cells slots mc ms Qc free D tA ad A cs X yf yl yc ys y1 y2 I L S F Q
  obtain ⟨g1, g2⟩ := fw_le_at _ _ hk
  exact k p l e R s m args below meth c H locs cells slots mc ms Qc free D tA ad A cs X yf yl yc ys y1 y2 I ⟨L.1, L.2.1, g1.trans L.2.2.1, fun i x hx => L.2.2.2 i x (g2 i x hx)⟩ S F Q
theorem fw_zald {o t N : Nat} {f : Nat → Int32} {i : Int32} (ht : tb_ty[t]? = some .boolean) (ho : h o = .inl (t, N, .inl f)) (hi : vp_in i N) (hd : decode (tb_m j).2.1 pc = .ok (.baload, 1)) (k : fw_Go (d) j (pc + 1) (ls) (.int (f i.toNatClampNeg) :: st) (n) (h) (a) (b) P) : fw_Go (d) j (pc) (ls) (.int i :: .ref o :: st) (n) (h) (a) (b) P := by
  intro p l e R s m args below meth c H locs cells slots mc ms Qc free D tA ad A cs X yf yl yc ys y1 y2 I L S F Q
  exact va_zald X.1 X.2.1 I.2.1 I.2.2.1 o t (fw_arr_at I.1 ho) (fw_ty_at ht) hi hd (k p l e R s m args below meth c H locs cells slots mc ms Qc free D tA ad A cs X yf yl yc ys y1 y2 I L (fw_sc (fw_ok_int n _) (fw_s1 (fw_s1 S))) F Q)
theorem fw_zast {o t N : Nat} {f : Nat → Int32} {i x : Int32} (ht : tb_ty[t]? = some .boolean) (ho : h o = .inl (t, N, .inl f)) (hi : vp_in i N) (hd : decode (tb_m j).2.1 pc = .ok (.bastore, 1)) (k : fw_Go (d) j (pc + 1) (ls) (st) (n) (fw_up h o (.inl (t, N, .inl (upd f i.toNatClampNeg (vp_nar .boolean x))))) (a) (b) P) : fw_Go (d) j (pc) (ls) (.int x :: .int i :: .ref o :: st) (n) (h) (a) (b) P := by
  intro p l e R s m args below meth c H locs cells slots mc ms Qc free D tA ad A cs X yf yl yc ys y1 y2 I L S F Q
  refine va_zast X.1 X.2.1 I.2.1 I.2.2.1 I.2.2.2.1 I.2.2.2.2.1 o t (fw_arr_at I.1 ho) (fw_ty_at ht) hi hd (fun H1 locs1 g1 g2 g3 => ?_)
  exact (k p l e R s m args below meth c H1 locs1 cells slots mc ms Qc free D tA ad A cs X yf yl yc ys y1 y2 (I.put (c := .inl (t, N, .inl (upd f i.toNatClampNeg (vp_nar .boolean x)))) (I.1.arr ho) (fun f e => by cases e) rfl g1 g2 g3) L (fw_s1 (fw_s1 (fw_s1 S))) F Q)
theorem fw_copyi {o o1 t N N1 idx : Nat} {f g : Nat → Int32} {sp dp m0 : Int32} (ht : tb_ty[t]? = some .int) (hw1 : Cond.methodLink (tb_m j).1.cls idx arraycopyName ∈ tb_ws) (hw2 : Cond.native arraycopyName ∈ tb_ws) (hw3 : Cond.static arraycopyName ∈ tb_ws) (hw4 : Cond.initialized "java/lang/System" ∈ tb_ws) (hst : st.length ≤ 8)
    (ho : h o = .inl (t, N, .inl f)) (ho1 : h o1 = .inl (t, N1, .inl g)) (g1 : ¬ sp < 0) (g2 : ¬ dp < 0) (g3 : ¬ m0 < 0) (g4 : sp.toNatClampNeg + m0.toNatClampNeg ≤ N) (g5 : dp.toNatClampNeg + m0.toNatClampNeg ≤ N1) (hd : decode (tb_m j).2.1 pc = .ok (.invokestatic idx, 3))
    (k : fw_Go (d + 1) j (pc + 3) ls st n (fw_up h o1 (.inl (t, N1, .inl (va_cpy f g sp.toNatClampNeg dp.toNatClampNeg m0.toNatClampNeg)))) a b P) : fw_Go (d + 1) j pc ls (.int m0 :: .int dp :: .ref o1 :: .int sp :: .ref o :: st) n h a b P := by
  intro p l e R s m args below meth c H locs cells slots mc ms Qc free D tA ad A cs X yf yl yc ys y1 y2 I L S F Q
  have Sr : ∀ v ∈ st, fw_ok n v := fw_s1 (fw_s1 (fw_s1 (fw_s1 (fw_s1 S))))
  have er : ((st.map (fw_v ad)).map fun v => v.category).sum ≤ 8 := by
    rw [List.map_map]
    have e : (st.map ((fun v => v.category) ∘ fw_v ad)) = st.map (fun _ => 1) := List.map_congr_left fun v hv => by
      show (fw_v ad v).category = 1
      rw [fw_cat]; exact (Sr v hv).1
    rw [e, fw_sum1]
    exact hst
  have en : nativeFrameWords "java/lang/System" "arraycopy" 5 ≤ 13 := by decide
  refine va_copyi X.1 X.2.1 (X.2.2.1.trans L.1.symm) X.2.2.2.2.2.2.1 (X.2.2.2.2.2.1 _ (List.mem_cons_of_mem _ hw1)) (X.2.2.2.2.2.1 _ (List.mem_cons_of_mem _ hw2)) (X.2.2.2.2.2.1 _ (List.mem_cons_of_mem _ hw3)) (X.2.2.2.2.2.1 _ (List.mem_cons_of_mem _ hw4)) I.2.1 I.2.2.1 I.2.2.2.1 I.2.2.2.2.1 o o1 t t (fw_arr_at I.1 ho) (fw_arr_at I.1 ho1) (fw_ty_at ht) (fw_ty_at ht) rfl g1 g2 g3 g4 g5 (fun _ _ => rfl) (by omega) (by omega) hd (fun H1 locs1 k1 k2 k3 => ?_)
  exact (k p l e R s m args below meth c H1 locs1 cells slots mc ms Qc free D tA ad A cs X yf yl yc ys y1 y2 (I.put (c := .inl (t, N1, .inl (va_cpy f g sp.toNatClampNeg dp.toNatClampNeg m0.toNatClampNeg))) (I.1.arr ho1) (fun f e => by cases e) rfl k1 k2 k3) L Sr F Q)
theorem fw_mmin {idx : Nat} {x y : Int32} (hw1 : Cond.methodLink (tb_m j).1.cls idx Lib.Math.min.name ∈ tb_ws) (hw2 : Cond.static Lib.Math.min.name ∈ tb_ws) (hw3 : Cond.initialized "java/lang/Math" ∈ tb_ws) (hw4 : Cond.code Lib.Math.min.name Lib.Math.min.code 2 (some .int) ∈ tb_ws) (hst : st.length ≤ 8) (hd : decode (tb_m j).2.1 pc = .ok (.invokestatic idx, 3))
    (k : fw_Go (d + 1) j (pc + 3) ls (.int (if y < x then y else x) :: st) n h a b P) : fw_Go (d + 1) j pc ls (.int y :: .int x :: st) n h a b P := by
  intro p l e R s m args below meth c H locs cells slots mc ms Qc free D tA ad A cs X yf yl yc ys y1 y2 I L S F Q
  have Sr : ∀ v ∈ st, fw_ok n v := fw_s1 (fw_s1 S)
  have er : ((st.map (fw_v ad)).map fun v => v.category).sum ≤ 8 := by
    rw [List.map_map]
    have e : (st.map ((fun v => v.category) ∘ fw_v ad)) = st.map (fun _ => 1) := List.map_congr_left fun v hv => by
      show (fw_v ad v).category = 1
      rw [fw_cat]; exact (Sr v hv).1
    rw [e, fw_sum1]
    exact hst
  exact va_mmin X.1 X.2.1 (X.2.2.1.trans L.1.symm) X.2.2.2.2.2.2.1 (X.2.2.2.2.2.1 _ (List.mem_cons_of_mem _ hw1)) (X.2.2.2.2.2.1 _ (List.mem_cons_of_mem _ hw2)) (X.2.2.2.2.2.1 _ (List.mem_cons_of_mem _ hw3)) (X.2.2.2.2.2.1 _ (List.mem_cons_of_mem _ hw4)) (by omega) (by omega) (by omega) (by omega) hd (k p l e R s m args below meth c H locs cells slots mc ms Qc free D tA ad A cs X yf yl yc ys y1 y2 I L (fw_sc (fw_ok_int n _) Sr) F Q)
end FM
