section FC
variable {d j pc : Nat} {ls : List (Option Value)} {st : List Value} {n : Nat} {h : fw_H} {a b : Nat} {P : fw_P}
theorem fw_iret {x : Int32} (hr : (tb_m j).2.2.2 = some .int) (hd : decode (tb_m j).2.1 pc = .ok (.ireturn, 1)) (hP : P (some (.int x)) n h) : fw_Go (d) j (pc) (ls) ([.int x]) (n) (h) (a) (b) P := by
  intro p l e R s m args below meth c H locs cells slots mc ms Qc free D tA ad A cs X yf yl yc ys y1 y2 I L S F Q
  refine W.widen (k := mc) (n := ms) (by omega) (by omega) ?_
  exact W.iret X.1 X.2.1 (X.2.2.2.1.trans hr) (fun t ht hW => Q (some (.int x)) n h ad t hP (Nat.le_refl n) (fun _ _ => rfl) (fun v e => by cases e; exact fw_ok_int n x) I.1 (by rw [ht]; exact I.2.2.1) (va_K.moved hW.alike I.2.1) I.2.2.2.1 (I.2.2.2.2.1.F ht)) (fun q hq => F _ (I.2.2.2.2.1.2.2 q hq)) hd (hlocks := X.2.2.2.2.1)
theorem fw_zret {x : Int32} {ty : FieldType} (hr : (tb_m j).2.2.2 = some ty) (hn : narrow ty (.int x) = .int x) (hd : decode (tb_m j).2.1 pc = .ok (.ireturn, 1)) (hP : P (some (.int x)) n h) : fw_Go (d) j (pc) (ls) ([.int x]) (n) (h) (a) (b) P := by
  intro p l e R s m args below meth c H locs cells slots mc ms Qc free D tA ad A cs X yf yl yc ys y1 y2 I L S F Q
  refine W.widen (k := mc) (n := ms) (by omega) (by omega) ?_
  exact W.zret X.1 X.2.1 (X.2.2.2.1.trans hr) hn (fun t ht hW => Q (some (.int x)) n h ad t hP (Nat.le_refl n) (fun _ _ => rfl) (fun v e => by cases e; exact fw_ok_int n x) I.1 (by rw [ht]; exact I.2.2.1) (va_K.moved hW.alike I.2.1) I.2.2.2.1 (I.2.2.2.2.1.F ht)) (fun q hq => F _ (I.2.2.2.2.1.2.2 q hq)) hd (hlocks := X.2.2.2.2.1)
theorem fw_vret (hr : (tb_m j).2.2.2 = none) (hd : decode (tb_m j).2.1 pc = .ok (.return_, 1)) (hP : P (none) n h) : fw_Go (d) j (pc) (ls) ([]) (n) (h) (a) (b) P := by
  intro p l e R s m args below meth c H locs cells slots mc ms Qc free D tA ad A cs X yf yl yc ys y1 y2 I L S F Q
  refine W.widen (k := mc) (n := ms) (by omega) (by omega) ?_
  exact W.vret X.1 X.2.1 (X.2.2.2.1.trans hr) (fun t ht hW => Q (none) n h ad t hP (Nat.le_refl n) (fun _ _ => rfl) (fun v e => by cases e) I.1 (by rw [ht]; exact I.2.2.1) (va_K.moved hW.alike I.2.1) I.2.2.2.1 (I.2.2.2.2.1.F ht)) (fun q hq => F _ (I.2.2.2.2.1.2.2 q hq)) hd (hlocks := X.2.2.2.2.1)
theorem fw_aret {o : Nat} {rt : FieldType} (hr : (tb_m j).2.2.2 = some rt) (hrt : (∃ n, rt = .object n) ∨ ∃ t, rt = .array t) (hd : decode (tb_m j).2.1 pc = .ok (.areturn, 1)) (hP : P (some (.ref o)) n h) : fw_Go (d) j (pc) (ls) ([.ref o]) (n) (h) (a) (b) P := by
  intro p l e R s m args below meth c H locs cells slots mc ms Qc free D tA ad A cs X yf yl yc ys y1 y2 I L S F Q
  refine W.widen (k := mc) (n := ms) (by omega) (by omega) ?_
  exact W.aret X.1 X.2.1 (X.2.2.2.1.trans hr) hrt (Or.inr ⟨_, rfl⟩) (fun t ht hW => Q (some (.ref o)) n h ad t hP (Nat.le_refl n) (fun _ _ => rfl) (fun v e => by cases e; exact fw_s0 S) I.1 (by rw [ht]; exact I.2.2.1) (va_K.moved hW.alike I.2.1) I.2.2.2.1 (I.2.2.2.2.1.F ht)) (fun q hq => F _ (I.2.2.2.2.1.2.2 q hq)) hd (hlocks := X.2.2.2.2.1)
theorem fw_aretN {rt : FieldType} (hr : (tb_m j).2.2.2 = some rt) (hrt : (∃ n, rt = .object n) ∨ ∃ t, rt = .array t) (hd : decode (tb_m j).2.1 pc = .ok (.areturn, 1)) (hP : P (some .null) n h) : fw_Go (d) j (pc) (ls) ([.null]) (n) (h) (a) (b) P := by
  intro p l e R s m args below meth c H locs cells slots mc ms Qc free D tA ad A cs X yf yl yc ys y1 y2 I L S F Q
  refine W.widen (k := mc) (n := ms) (by omega) (by omega) ?_
  exact W.aret X.1 X.2.1 (X.2.2.2.1.trans hr) hrt (Or.inl rfl) (fun t ht hW => Q (some .null) n h ad t hP (Nat.le_refl n) (fun _ _ => rfl) (fun v e => by cases e; exact fw_ok_null n) I.1 (by rw [ht]; exact I.2.2.1) (va_K.moved hW.alike I.2.1) I.2.2.2.1 (I.2.2.2.2.1.F ht)) (fun q hq => F _ (I.2.2.2.2.1.2.2 q hq)) hd (hlocks := X.2.2.2.2.1)
theorem fw_sl {ad : Nat → Nat} (as : List Value) (hok : ∀ v ∈ as, fw_ok n v) : lg_sl (as.map (fw_v ad)) = as.map (fun v => Slot.val (fw_v ad v)) := by
  induction as with
  | nil => rfl
  | cons v vs ih =>
    have hv : (fw_v ad v).category = 1 := by rw [fw_cat]; exact (fw_s0 hok).1
    show (if (fw_v ad v).category = 2 then [Slot.val (fw_v ad v), Slot.second] else [Slot.val (fw_v ad v)]) ++ lg_sl (vs.map (fw_v ad)) = _
    rw [ih (fw_s1 hok), hv, if_neg (by decide)]
    rfl
theorem fw_entry {ad : Nat → Nat} {as : List Value} {nL : Nat} (hok : ∀ v ∈ as, fw_ok n v) (hlen : as.length ≤ nL) : fw_L ad n (as.map some ++ List.replicate (nL - as.length) none) ((lg_sl (as.map (fw_v ad)) ++ List.replicate (nL - (lg_sl (as.map (fw_v ad))).length) Slot.unset).toArray) nL := by
  have e1 := fw_sl (ad := ad) as hok
  have e2 : (lg_sl (as.map (fw_v ad))).length = as.length := by rw [e1, List.length_map]
  have hh := lv_entry (as.map (fw_v ad)) (n := nL) (by rw [e2]; exact hlen)
  refine ⟨hh.1, hh.2.1, by rw [List.length_append, List.length_map, List.length_replicate]; omega, fun i v hi => ?_⟩
  have hil : i < as.length := by
    by_cases z : i < as.length
    · exact z
    · rw [List.getElem?_append_right (by rw [List.length_map]; omega)] at hi
      have := List.eq_of_mem_replicate (List.mem_of_getElem? hi)
      cases this
  rw [List.getElem?_append_left (by rw [List.length_map]; exact hil), List.getElem?_map] at hi
  cases hx : as[i]? with
  | none => rw [hx] at hi; cases hi
  | some u =>
    rw [hx] at hi
    cases hi
    refine ⟨?_, hok _ (List.mem_of_getElem? hx)⟩
    rw [List.getElem?_toArray, List.getElem?_append_left (by rw [e2]; exact hil), e1, List.getElem?_map, hx]
    rfl
/-- a method's contract, out of the walk of its body -/
theorem fw_spec {as : List Value} (hpl : plainName (tb_m j).1.cls = true) (hlen : as.length ≤ (tb_m j).2.2.1) (hG : fw_Go d j 0 (as.map some ++ List.replicate ((tb_m j).2.2.1 - as.length) none) [] n h a b P) : fw_Sp d j as n h a b P := by
  intro l D tA ad sz
  refine Met.ofW (cc := (tb_m j).2.1) (maxL := (tb_m j).2.2.1) (ret := (tb_m j).2.2.2) hpl rfl ?_
  intro p e s m args below meth c s₁ B hml hv
  obtain ⟨rfl, hsz, hF, hok, hP, hK, hD0, hNW⟩ := hv
  subst hsz
  rw [lg_entry_eq]
  exact hG p l e _ s m _ below meth c s.heap [] 0 0 a b _ _ D tA ad (va_A (fw_w tA ad n h) s.heap.size) _ ⟨B.exec, B.bytes, hml, B.returns, B.notSynchronized, atoms_spec (ws := fw_ws j) B.pre, findClass_of_methodNamed B.named, (name_of_methodNamed B.named B.method).1, hNW⟩
    (Nat.le_refl _) (Nat.le_refl _) (Nat.le_refl _) (Nat.le_refl _) (by omega) (by omega) ⟨hF, hK, hP, hD0.self, va_S.rf, fun q h => Or.inr h⟩ (fw_entry hok hlen) (fun v hv => by cases hv) (fun q h => h)
    (fun r n' h' ad' t g1 g2 g3 g4 g5 g6 g7 g8 g9 => ⟨r, n', h', ad', rfl, g1, g2, g3, g4, g5, g6, g7, g8, g9⟩)
/-- what holds behind a call -/
theorem fw_after {p : Program} {l : Launch} {e : Env} {R : Room} {s : State} {m : MethodId} {args : Array Value} {below : List Frame} {meth : Method} {c : Code} {H : Heap} {locs : List Loc} {cells slots a' b' : Nat} {Q : State → Prop} {cs : Array Slot} {st0 rest : List Value} {D : va_G} {tA : Nat → ClassId} {ad : Nat → Nat} {A : Nat → Prop} {arr : Array Value} {P' : fw_P}
    (hr : va_Run p l e R s m args below meth c H locs cells slots a' b' (F0 m pc cs st0) rest (fw_R D tA ad n h H.size P' arr) (va_A (fw_w tA ad n h) H.size)) (I : fw_I D tA A s ad n h H locs)
    (kk : ∀ (r : Option Value) (n' : Nat) (h' : fw_H) (ad' : Nat → Nat) (H1 : Heap) (locs1 : List Loc), P' r n' h' → n ≤ n' → (∀ k, k < n → ad' k = ad k) → (∀ v, r = some v → fw_ok n' v) → fw_I D tA A s ad' n' h' H1 locs1 → W p l e R s m args below meth c H1 locs1 (cells + a') (slots + b') Q (F0 m (pc + 3) cs ((r.map (fw_v ad')).toList ++ rest))) :
    W p l e R s m args below meth c H locs cells slots Q (F0 m pc cs st0) := by
  intro T hT X
  obtain ⟨v, st₀, t, T', L, h0, X', hL, e1, e2, ⟨r, n', h', ad', hv, hp, hn, he, hok, hF, hP, hK, hD, hz, hk⟩, st⟩ := hr T hT X
  cases hv
  rw [h0] at hz hk
  have hfree : ∀ q, va_A (fw_w tA ad n h) H.size q → A q := by
    intro q hq
    rcases hq with ⟨k, e, hk⟩ | hq
    · exact I.2.2.2.1.2 k _ hk
    · exact I.2.2.2.2.2 q (Nat.le_trans I.2.2.2.2.1.1 hq)
  have hS := I.2.2.2.2.1
  obtain ⟨t2, a1, b1⟩ := kk r n' h' ad' T'.heap (locs ++ L) hp hn he hok ⟨hF, I.2.1, by rw [e1]; exact hP, ⟨hD.1, fun k q hq => hfree _ (hD.2 k q hq)⟩,
    ⟨Nat.le_trans hS.1 (by rw [e1]; exact hz), fun q g1 g2 => by rw [e1, hk q (Nat.lt_of_lt_of_le g1 hS.1) (fun z => g2 (hfree q z))]; exact hS.2.1 q g1 g2, fun q hq => by
      rcases List.mem_append.mp hq with g | g
      · exact hS.2.2 q g
      · exact hfree _ (hL q g)⟩, I.2.2.2.2.2⟩ T' rfl X'
  exact ⟨t2, st t2 a1, b1⟩
/-- what a callee must be -/
def fw_cal (j' nA : Nat) : Prop := (.code (tb_m j').1 (tb_m j').2.1 (tb_m j').2.2.1 (tb_m j').2.2.2 ∈ tb_ws) ∧ (Cond.initialized (tb_m j').1.cls ∈ tb_ws) ∧ ((tb_m j').1.cls ≠ "java/lang/invoke/MethodHandle" ∧ (tb_m j').1.cls ≠ "java/lang/invoke/VarHandle" ∧ (parseMethodDescriptor (tb_m j').1.desc).map (fun d => d.parameters.length) = some nA) ∧ (tb_m j').2.2.1 ≤ 13
theorem fw_good (j j' : Nat) (hcd : .code (tb_m j').1 (tb_m j').2.1 (tb_m j').2.2.1 (tb_m j').2.2.2 ∈ tb_ws) : GoodIn (fw_ws j) (fw_ws j') := fun w hw => by
  rcases List.mem_cons.mp hw with e | e
  · rw [e]; exact ⟨List.mem_cons_of_mem _ hcd, tb_good _ hcd⟩
  · exact ⟨List.mem_cons_of_mem _ e, tb_good _ e⟩
theorem fw_room {p : Program} {cs : Array Slot} {m : MethodId} {ad : Nat → Nat} {rest stk : List Value} (S : ∀ v ∈ rest, fw_ok n v) (hst : rest.length ≤ 8) : 2 * (F0 m pc cs stk).monitorRoom + ((rest.map (fw_v ad)).map fun v => v.category).sum ≤ 8 := by
  refine lv_room ?_
  rw [List.map_map]
  have e : (rest.map ((fun v => v.category) ∘ fw_v ad)) = rest.map (fun _ => 1) := List.map_congr_left fun v hv => by
    show (fw_v ad v).category = 1
    rw [fw_cat]; exact (S v hv).1
  rw [e, fw_sum1]
  exact hst
theorem fw_callV {j' idx nA a' b' : Nat} {o ci : Nat} {fs : List Value} {q : vw_C} {as stk : List Value} {P' : fw_P} (hcal : fw_cal j' nA) (hlk : Cond.methodLink (tb_m j).1.cls idx (tb_m j').1 ∈ tb_ws) (hin : Cond.instanceMethod (tb_m j').1 ∈ tb_ws) (hse : Cond.selects (tb_m j').1.cls (tb_m j').1 (tb_m j').1 ∈ tb_ws) (ho : h o = .inr (ci, fs)) (hc' : tb_cl[ci]? = some q) (hq : q.1 = (tb_m j').1.cls) (hn : as.length = nA) (hst : st.length ≤ 8) (hstk : stk = as.reverse ++ .ref o :: st) (hd : decode (tb_m j).2.1 pc = .ok (.invokevirtual idx, 3))
    (hS : fw_Sp d j' (.ref o :: as) n h a' b' P') (k : ∀ r n' h', P' r n' h' → fw_Go (d + 1) j (pc + 3) ls (r.toList ++ st) n' h' a b P) : fw_Go (d + 1) j pc ls stk n h (a + a') (b + b') P := by
  intro p l e R s m args below meth c H locs cells slots mc ms Qc free D tA ad A cs X yf yl yc ys y1 y2 I L S F Q
  subst hstk
  have Sr : ∀ v ∈ st, fw_ok n v := fun v hv => S v (by simp [hv])
  have Sa : ∀ v ∈ .ref o :: as, fw_ok n v := fun v hv => S v (by
    rcases List.mem_cons.mp hv with e | e
    · exact List.mem_append_right _ (by rw [e]; exact List.mem_cons_self)
    · exact List.mem_append_left _ (List.mem_reverse.mpr e))
  have hroom : (fw_rm d a' b').frames + 1 ≤ R.frames ∧ 8 + ((tb_m j').2.2.1 + 11) + (fw_rm d a' b').locals ≤ R.locals := ⟨yf, by
    have := hcal.2.2.2
    show 8 + ((tb_m j').2.2.1 + 11) + 32 * d ≤ R.locals
    omega⟩
  have hrun := va_runV (e := e) (below := below) (meth := meth) (locs := locs) (cells := cells) (slots := slots) (g := F0 m pc cs ((as.reverse ++ .ref o :: st).map (fw_v ad))) (As := as.map (fw_v ad)) (rest := st.map (fw_v ad)) ⟨X.1, X.2.1, X.2.2.1, X.2.2.2.2.2.2.1, X.2.2.2.2.2.1⟩ (hS l D tA ad H.size) ⟨callB_of nA X.2.2.2.2.2.1 (fw_good j j' hcal.1) rfl rfl rfl (X.2.2.2.2.2.1 _ (List.mem_cons_of_mem _ hcal.2.1)) (X.2.2.2.2.2.1 _ (List.mem_cons_of_mem _ hlk)) hcal.2.2.1 hroom, (X.2.2.2.2.2.1 _ (List.mem_cons_of_mem _ hin)), (X.2.2.2.2.2.1 _ (List.mem_cons_of_mem _ hse))⟩ ⟨(fun ar U g mk q => by obtain ⟨q0, q1, q2, q3, qP, qK, qD, qN⟩ := q; exact ⟨q0, q1, q2, q3, qP, va_K.moved (u := U) (U := U.calling g mk ar) (Vm.Alike.refl U.vm) qK, qD, fw_nw.same (u := U) (U := U.calling g mk ar) rfl qN⟩), by rw [← hq]; exact va_recv I.2.1 I.2.2.1 hc' (fw_obj_at I.1 ho hc'), (fun U hU hW => ⟨rfl, by rw [hU], I.1, Sa, by rw [hU]; exact I.2.2.1, va_K.moved hW.alike I.2.1, I.2.2.2.1.weaken (fun _ _ _ _ => trivial), fw_nw.warm hW X.2.2.2.2.2.2.2.2⟩)⟩ rfl (by rw [List.length_map]; exact hn) L.1 (by simp [List.map_reverse] <;> rfl) (fw_room (p := p) Sr hst) hd ⟨by omega, by omega⟩
  refine fw_after (P' := P') hrun I (fun r n' h' ad' H1 locs1 g1 g2 g3 g4 g5 => ?_)
  have hgo := k r n' h' g1 p l e R s m args below meth c H1 locs1 (cells + a') (slots + b') mc ms Qc free D tA ad' A cs X yf yl yc ys (by omega) (by omega) g5 (L.ext g2 g3) (fun v hv => by
    rcases List.mem_append.mp hv with z | z
    · exact g4 v (by cases r with
        | none => cases z
        | some u => rw [List.mem_singleton.mp z])
    · exact fw_ok_up g2 (Sr v z)) F (Q.ext g2 g3)
  rw [List.map_append, fw_vs_ext g3 Sr] at hgo
  have e9 : r.toList.map (fw_v ad') = (r.map (fw_v ad')).toList := by cases r <;> rfl
  rw [e9] at hgo
  exact hgo
theorem fw_callI {j' idx nA a' b' : Nat} {o : Nat} {as stk : List Value} {P' : fw_P} (hcal : fw_cal j' nA) (hlk : Cond.methodLink (tb_m j).1.cls idx (tb_m j').1 ∈ tb_ws) (hin : Cond.instanceMethod (tb_m j').1 ∈ tb_ws) (hy1 : (tb_m j').1.name = "<init>") (hret : (tb_m j').2.2.2 = none) (hn : as.length = nA) (hst : st.length ≤ 8) (hstk : stk = as.reverse ++ .ref o :: st) (hd : decode (tb_m j).2.1 pc = .ok (.invokespecial idx, 3))
    (hS : fw_Sp d j' (.ref o :: as) n h a' b' P') (k : ∀ r n' h', P' r n' h' → fw_Go (d + 1) j (pc + 3) ls (r.toList ++ st) n' h' a b P) : fw_Go (d + 1) j pc ls stk n h (a + a') (b + b') P := by
  intro p l e R s m args below meth c H locs cells slots mc ms Qc free D tA ad A cs X yf yl yc ys y1 y2 I L S F Q
  subst hstk
  have Sr : ∀ v ∈ st, fw_ok n v := fun v hv => S v (by simp [hv])
  have Sa : ∀ v ∈ .ref o :: as, fw_ok n v := fun v hv => S v (by
    rcases List.mem_cons.mp hv with e | e
    · exact List.mem_append_right _ (by rw [e]; exact List.mem_cons_self)
    · exact List.mem_append_left _ (List.mem_reverse.mpr e))
  have hroom : (fw_rm d a' b').frames + 1 ≤ R.frames ∧ 8 + ((tb_m j').2.2.1 + 11) + (fw_rm d a' b').locals ≤ R.locals := ⟨yf, by
    have := hcal.2.2.2
    show 8 + ((tb_m j').2.2.1 + 11) + 32 * d ≤ R.locals
    omega⟩
  have hrun := va_runI (e := e) (below := below) (meth := meth) (locs := locs) (cells := cells) (slots := slots) (g := F0 m pc cs ((as.reverse ++ .ref o :: st).map (fw_v ad))) (As := as.map (fw_v ad)) (rest := st.map (fw_v ad)) ⟨X.1, X.2.1, X.2.2.1, X.2.2.2.2.2.2.1, X.2.2.2.2.2.1⟩ (hS l D tA ad H.size) ⟨hret ▸ callB_of nA X.2.2.2.2.2.1 (fw_good j j' hcal.1) rfl rfl rfl (X.2.2.2.2.2.1 _ (List.mem_cons_of_mem _ hcal.2.1)) (X.2.2.2.2.2.1 _ (List.mem_cons_of_mem _ hlk)) hcal.2.2.1 hroom, hy1, (X.2.2.2.2.2.1 _ (List.mem_cons_of_mem _ hin))⟩ ⟨(fun ar U g mk q => by obtain ⟨q0, q1, q2, q3, qP, qK, qD, qN⟩ := q; exact ⟨q0, q1, q2, q3, qP, va_K.moved (u := U) (U := U.calling g mk ar) (Vm.Alike.refl U.vm) qK, qD, fw_nw.same (u := U) (U := U.calling g mk ar) rfl qN⟩), (fun U hU hW => ⟨rfl, by rw [hU], I.1, Sa, by rw [hU]; exact I.2.2.1, va_K.moved hW.alike I.2.1, I.2.2.2.1.weaken (fun _ _ _ _ => trivial), fw_nw.warm hW X.2.2.2.2.2.2.2.2⟩)⟩ rfl (by rw [List.length_map]; exact hn) L.1 (by simp [List.map_reverse] <;> rfl) (fw_room (p := p) Sr hst) hd ⟨by omega, by omega⟩
  refine fw_after (P' := P') hrun I (fun r n' h' ad' H1 locs1 g1 g2 g3 g4 g5 => ?_)
  have hgo := k r n' h' g1 p l e R s m args below meth c H1 locs1 (cells + a') (slots + b') mc ms Qc free D tA ad' A cs X yf yl yc ys (by omega) (by omega) g5 (L.ext g2 g3) (fun v hv => by
    rcases List.mem_append.mp hv with z | z
    · exact g4 v (by cases r with
        | none => cases z
        | some u => rw [List.mem_singleton.mp z])
    · exact fw_ok_up g2 (Sr v z)) F (Q.ext g2 g3)
  rw [List.map_append, fw_vs_ext g3 Sr] at hgo
  have e9 : r.toList.map (fw_v ad') = (r.map (fw_v ad')).toList := by cases r <;> rfl
  rw [e9] at hgo
  exact hgo
theorem fw_callS {j' idx nA a' b' : Nat} {as stk : List Value} {P' : fw_P} (hcal : fw_cal j' nA) (hlk : Cond.methodLink (tb_m j).1.cls idx (tb_m j').1 ∈ tb_ws) (hin : Cond.static (tb_m j').1 ∈ tb_ws) (hn : as.length = nA) (hst : st.length ≤ 8) (hstk : stk = as.reverse ++ st) (hd : decode (tb_m j).2.1 pc = .ok (.invokestatic idx, 3))
    (hS : fw_Sp d j' (as) n h a' b' P') (k : ∀ r n' h', P' r n' h' → fw_Go (d + 1) j (pc + 3) ls (r.toList ++ st) n' h' a b P) : fw_Go (d + 1) j pc ls stk n h (a + a') (b + b') P := by
  intro p l e R s m args below meth c H locs cells slots mc ms Qc free D tA ad A cs X yf yl yc ys y1 y2 I L S F Q
  subst hstk
  have Sr : ∀ v ∈ st, fw_ok n v := fun v hv => S v (by simp [hv])
  have Sa : ∀ v ∈ as, fw_ok n v := fun v hv => S v (List.mem_append_left _ (List.mem_reverse.mpr hv))
  have hroom : (fw_rm d a' b').frames + 1 ≤ R.frames ∧ 8 + ((tb_m j').2.2.1 + 11) + (fw_rm d a' b').locals ≤ R.locals := ⟨yf, by
    have := hcal.2.2.2
    show 8 + ((tb_m j').2.2.1 + 11) + 32 * d ≤ R.locals
    omega⟩
  have hrun := va_runS (e := e) (below := below) (meth := meth) (locs := locs) (cells := cells) (slots := slots) (g := F0 m pc cs ((as.reverse ++ st).map (fw_v ad))) (As := as.map (fw_v ad)) (rest := st.map (fw_v ad)) ⟨X.1, X.2.1, X.2.2.1, X.2.2.2.2.2.2.1, X.2.2.2.2.2.1⟩ (hS l D tA ad H.size) ⟨callB_of nA X.2.2.2.2.2.1 (fw_good j j' hcal.1) rfl rfl rfl (X.2.2.2.2.2.1 _ (List.mem_cons_of_mem _ hcal.2.1)) (X.2.2.2.2.2.1 _ (List.mem_cons_of_mem _ hlk)) hcal.2.2.1 hroom, (X.2.2.2.2.2.1 _ (List.mem_cons_of_mem _ hin))⟩ ⟨(fun ar U g mk q => by obtain ⟨q0, q1, q2, q3, qP, qK, qD, qN⟩ := q; exact ⟨q0, q1, q2, q3, qP, va_K.moved (u := U) (U := U.calling g mk ar) (Vm.Alike.refl U.vm) qK, qD, fw_nw.same (u := U) (U := U.calling g mk ar) rfl qN⟩), (fun U hU hW => ⟨rfl, by rw [hU], I.1, Sa, by rw [hU]; exact I.2.2.1, va_K.moved hW.alike I.2.1, I.2.2.2.1.weaken (fun _ _ _ _ => trivial), fw_nw.warm hW X.2.2.2.2.2.2.2.2⟩)⟩ rfl (by rw [List.length_map]; exact hn) L.1 (by simp [List.map_reverse] <;> rfl) (fw_room (p := p) Sr hst) hd ⟨by omega, by omega⟩
  refine fw_after (P' := P') hrun I (fun r n' h' ad' H1 locs1 g1 g2 g3 g4 g5 => ?_)
  have hgo := k r n' h' g1 p l e R s m args below meth c H1 locs1 (cells + a') (slots + b') mc ms Qc free D tA ad' A cs X yf yl yc ys (by omega) (by omega) g5 (L.ext g2 g3) (fun v hv => by
    rcases List.mem_append.mp hv with z | z
    · exact g4 v (by cases r with
        | none => cases z
        | some u => rw [List.mem_singleton.mp z])
    · exact fw_ok_up g2 (Sr v z)) F (Q.ext g2 g3)
  rw [List.map_append, fw_vs_ext g3 Sr] at hgo
  have e9 : r.toList.map (fw_v ad') = (r.map (fw_v ad')).toList := by cases r <;> rfl
  rw [e9] at hgo
  exact hgo
end FC
