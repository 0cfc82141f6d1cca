section FN
variable {d j pc : Nat} {ls : List (Option Value)} {st : List Value} {n : Nat} {h : fw_H} {a b : Nat} {P : fw_P}
theorem fw_RA {s : State} {c1 c2 : ClassId} {ty : FieldType} (h1 : va_RA s c1 ty) (h2 : va_RA s c2 ty) : c1 = c2 := by
  cases ty with
  | object C =>
    obtain ⟨_, _, _, _, _, e1⟩ := h1
    obtain ⟨_, _, _, _, _, e2⟩ := h2
    exact Option.some.inj (e1.symm.trans e2)
  | _ => exact Option.some.inj (Eq.trans (Eq.symm h1) h2)
theorem fw_Kc {D : va_G} {tA : Nat → ClassId} {s : State} {cA : ClassId} {ty : FieldType} {t : Nat} (ht : tb_ty[t]? = some ty) (h1 : va_K D tb_cl (fw_ty tA ++ [(cA, ty)]) s) : cA = tA t := by
  have e1 := (h1.2 (fw_ty tA).length (cA, ty) (by rw [List.getElem?_append_right (Nat.le_refl _), Nat.sub_self]; rfl)).2
  have hl : t < (fw_ty tA).length := by
    unfold fw_ty
    rw [List.length_map, List.length_range]
    exact (List.getElem?_eq_some_iff.mp ht).1
  have e2 := (h1.2 t (tA t, ty) (by rw [List.getElem?_append_left hl]; exact fw_ty_at ht)).2
  exact fw_RA e1 e2
theorem fw_newK {D : va_G} {tA : Nat → ClassId} {A : Nat → Prop} {s : State} {p : Program} {l : Launch} {e : Env} {R : Room} {m : MethodId} {args : Array Value} {below : List Frame} {meth : Method} {c : Code} {H1 : Heap} {locs : List Loc} {cells slots mc ms : Nat} {Qc : Array Value → State → Outcome → State → Prop} {free : Addr → Prop} {ad : Nat → Nat} {cs : Array Slot} {q N len : Nat} {x : fw_E}
    (X : fw_X j p s m args meth c) (yf : d ≤ R.frames) (yl : 32 * d ≤ R.locals) (yc : mc ≤ R.cells) (ys : ms ≤ R.slots) (y1 : cells + (a + 1) ≤ mc) (y2 : slots + (b + N) ≤ ms) (L : fw_L ad n ls cs (tb_m j).2.2.1) (S : ∀ v ∈ st, fw_ok n v) (F : ∀ q, A q → free q) (Q : fw_Q D tA A s args ad n P Qc) (I1 : fw_I D tA A s (va_up ad n q) (n + 1) (fw_up h n x) H1 locs)
    (k : fw_Go d j (pc + len) ls (.ref n :: st) (n + 1) (fw_up h n x) a b P) : W p l e R s m args below meth c H1 locs (cells + 1) (slots + N) (MQ below Qc args s mc ms free) (F0 m (pc + len) cs (Value.ref q :: st.map (fw_v ad))) := by
  have e1 : st.map (fw_v (va_up ad n q)) = st.map (fw_v ad) := fw_vs_ext fw_up_x S
  have hgo := k p l e R s m args below meth c H1 locs (cells + 1) (slots + N) mc ms Qc free D tA (va_up ad n q) A cs X yf yl yc ys (by omega) (by omega) I1 (L.ext (Nat.le_succ n) fw_up_x) (fw_sc (fw_ok_ref (Nat.lt_succ_self n)) (fw_S_ext S (Nat.le_succ n))) F (Q.ext (Nat.le_succ n) fw_up_x)
  have e2 : va_up ad n q n = q := if_pos rfl
  rw [List.map_cons, e1] at hgo
  rw [← e2]
  exact hgo
theorem fw_newa {t N : Nat} {i : Int32} {atype : ArrayType} {ty : FieldType} (hty : newarray.typeOf atype = ty) (ht : tb_ty[t]? = some ty) (hz : defaultValue ty = .int 0) (hw : Cond.arrayClass (newarray.typeOf atype) ∈ tb_ws) (hn : ¬ i < 0) (hN : i.toNatClampNeg = N) (hb : N * componentBytes ty ≤ 536870912) (hd : decode (tb_m j).2.1 pc = .ok (.newarray atype, 2)) (k : fw_Go d j (pc + 2) ls (.ref n :: st) (n + 1) (fw_up h n (.inl (t, N, .inl (fun _ => 0)))) a b P) : fw_Go d j pc ls (.int i :: st) n h (a + 1) (b + N) P := by
  intro p l e R s m args below meth c H locs cells slots mc ms Qc free D tA ad A cs X yf yl yc ys y1 y2 I L S F Q
  refine va_newa X.1 X.2.1 (X.2.2.2.2.2.1 _ (List.mem_cons_of_mem _ hw)) hty I.2.1 I.2.2.1 I.2.2.2.1 I.2.2.2.2.1 I.2.2.2.2.2 (a0 := (N, .inl (fun _ => 0))) (fun cA => by rw [hz]; rfl) hn hN hb (by omega) (by omega) hd (fun q cA H1 gK g1 g2 g3 => ?_)
  have ec := fw_Kc ht gK
  subst ec
  exact fw_newK (x := .inl (t, N, .inl (fun _ => 0))) X yf yl yc ys y1 y2 L (fw_s1 S) F Q (I.new (c := .inl (t, N, .inl (fun _ => 0))) (fun f e => by cases e) rfl g1 g2 g3) k
theorem fw_newq {t N idx : Nat} {i : Int32} {C : String} (ht : tb_ty[t]? = some (.object C)) (hw1 : Cond.classLink (tb_m j).1.cls idx C ∈ tb_ws) (hw2 : C = "WireHosts$Rows" ∨ C = "WireHosts$Host") (hn : ¬ i < 0) (hN : i.toNatClampNeg = N) (hb : N * 4 ≤ 536870912) (hd : decode (tb_m j).2.1 pc = .ok (.anewarray idx, 3)) (k : fw_Go d j (pc + 3) ls (.ref n :: st) (n + 1) (fw_up h n (.inl (t, N, .inr (.inr (.inr (.inr (fun _ => none))))))) a b P) : fw_Go d j pc ls (.int i :: st) n h (a + 1) (b + N) P := by
  intro p l e R s m args below meth c H locs cells slots mc ms Qc free D tA ad A cs X yf yl yc ys y1 y2 I L S F Q
  refine va_newq X.1 X.2.1 X.2.2.2.2.2.2.1 (X.2.2.2.2.2.1 _ (List.mem_cons_of_mem _ hw1)) (hw2.elim (fun e => e ▸ X.2.2.2.2.2.2.2.2.2.1) (fun e => e ▸ X.2.2.2.2.2.2.2.2.2.2)) I.2.1 I.2.2.1 I.2.2.2.1 I.2.2.2.2.1 I.2.2.2.2.2 hn hN hb (by omega) (by omega) hd (fun q cA H1 gK g1 g2 g3 => ?_)
  have ec := fw_Kc ht gK
  subst ec
  exact fw_newK (x := .inl (t, N, .inr (.inr (.inr (.inr (fun _ => none)))))) X yf yl yc ys y1 y2 L (fw_s1 S) F Q (I.new (c := .inl (t, N, .inr (.inr (.inr (.inr (fun _ => none)))))) (fun f e i k hk => by cases e; cases hk) rfl g1 g2 g3) k
theorem fw_obj {o idx : Nat} (hw1 : Cond.methodLink (tb_m j).1.cls idx objectInit ∈ tb_ws) (hw2 : Cond.instanceMethod objectInit ∈ tb_ws) (hw3 : Cond.code objectInit ⟨#[0xb1]⟩ 1 none ∈ tb_ws) (hst : st.length ≤ 8) (hd : decode (tb_m j).2.1 pc = .ok (.invokespecial idx, 3)) (k : fw_Go (d + 1) j (pc + 3) ls st n h a b P) : fw_Go (d + 1) j pc ls (.ref o :: st) n h a b P := by
  intro p l e R s m args below meth c H locs cells slots mc ms Qc free D tA ad A cs X yf yl yc ys y1 y2 I L S F Q
  have Sr : ∀ v ∈ st, fw_ok n v := fw_s1 S
  refine W.objInit X.1 X.2.1 X.2.2.2.2.2.2.1 (X.2.2.2.2.2.1 _ (List.mem_cons_of_mem _ hw1)) (X.2.2.2.2.2.1 _ (List.mem_cons_of_mem _ hw2)) (X.2.2.2.2.2.1 _ (List.mem_cons_of_mem _ hw3)) rfl (by rw [X.2.2.1]; exact L.1) rfl hd (by omega) (Nat.le_trans (Nat.add_le_add_right (fw_room (n := n) (pc := pc) (p := p) (cs := cs) (m := m) (ad := ad) (stk := (Value.ref o :: st).map (fw_v ad)) Sr hst) 12) (by omega)) ?_
  refine W.eq (g2 := F0 m (pc + 3) cs (st.map (fw_v ad))) rfl ?_
  exact k p l e R s m args below meth c H locs cells slots mc ms Qc free D tA ad A cs X yf yl yc ys y1 y2 I L Sr F Q
end FN
