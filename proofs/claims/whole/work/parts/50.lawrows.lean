def lw_ts (args : Array Value) (s : State) : Prop := ∀ w ∈ tb_ws, w.before args s = true
/-- the law's frame: what stands fixed -/
def lw_C (p : Program) (s : State) (m : MethodId) (args : Array Value) (meth : Method) (c : Code) : Prop :=
  p.tables.exec = Jvm.exec ∧ c.code = code ∧ c.maxLocals = 4 ∧ s.vm.findClass "WireHostsLaw" = some m.cls ∧ lw_ts args s ∧ fw_nw s
section LW
variable {p : Program} {l : Launch} {e : Env} {s : State} {m : MethodId} {args : Array Value} {below : List Frame} {meth : Method} {c : Code} {H : Heap} {locs : List Loc} {cells slots : Nat} {Q : State → Prop} {D : va_G} {tA : Nat → ClassId} {A : Nat → Prop} {ad : Nat → Nat} {n pc : Nat} {h : fw_H} {cs : Array Slot}
theorem lw_good (j' : Nat) (hcd : .code (tb_m j').1 (tb_m j').2.1 (tb_m j').2.2.1 (tb_m j').2.2.2 ∈ tb_ws) : GoodIn tb_ws (fw_ws j') := fun w hw => by
  rcases List.mem_cons.mp hw with e | e
  · rw [e]; exact ⟨hcd, tb_good _ hcd⟩
  · exact ⟨e, tb_good _ e⟩
theorem lw_callV {d j' idx nA a' b' o ci : Nat} {fs : List Value} {q : vw_C} {as st stk : List Value} {P' : fw_P} (C : lw_C p s m args meth c) (I : fw_I D tA A s ad n h H locs) (hcs : cs.size = 4) (hcal : fw_cal j' nA) (hlk : Cond.methodLink "WireHostsLaw" idx (tb_m j').1 ∈ tb_ws) (hin : Cond.instanceMethod (tb_m j').1 ∈ tb_ws) (hse : Cond.selects (tb_m j').1.cls (tb_m j').1 (tb_m j').1 ∈ tb_ws) (ho : h o = .inr (ci, fs)) (hc' : tb_cl[ci]? = some q) (hq : q.1 = (tb_m j').1.cls) (hn : as.length = nA) (hst : st.length ≤ 8) (hstk : stk = as.reverse ++ .ref o :: st) (S : ∀ v ∈ stk, fw_ok n v) (hd : decode code pc = .ok (.invokevirtual idx, 3))
    (hdp : d ≤ 15) (hdl : 8 + ((tb_m j').2.2.1 + 11) + 32 * d ≤ 664) (hca : cells + a' ≤ 600000) (hsl : slots + b' ≤ 7302250) (hS : fw_Sp d j' (.ref o :: as) n h a' b' P')
    (kk : ∀ (r : Option Value) (n' : Nat) (h' : fw_H) (ad' : Nat → Nat) (H1 : Heap) (locs1 : List Loc), P' r n' h' → n ≤ n' → (∀ k, k < n → ad' k = ad k) → (∀ v, r = some v → fw_ok n' v) → fw_I D tA A s ad' n' h' H1 locs1 → W p l e room_1 s m args below meth c H1 locs1 (cells + a') (slots + b') Q (F0 m (pc + 3) cs ((r.map (fw_v ad')).toList ++ st.map (fw_v ad)))) :
    W p l e room_1 s m args below meth c H locs cells slots Q (F0 m pc cs (stk.map (fw_v ad))) := by
  subst hstk
  have Sr : ∀ v ∈ st, fw_ok n v := fun v hv => S v (by simp [hv])
  have Sa : ∀ v ∈ .ref o :: as, fw_ok n v := fun v hv => S v (by
    rcases List.mem_cons.mp hv with e | e
    · exact List.mem_append_right _ (by rw [e]; exact List.mem_cons_self)
    · exact List.mem_append_left _ (List.mem_reverse.mpr e))
  have hroom : (fw_rm d a' b').frames + 1 ≤ room_1.frames ∧ 8 + ((tb_m j').2.2.1 + 11) + (fw_rm d a' b').locals ≤ room_1.locals := ⟨by show d + 1 ≤ 16; omega, hdl⟩
  have hrun := va_runV (e := e) (below := below) (meth := meth) (locs := locs) (cells := cells) (slots := slots) (g := F0 m pc cs ((as.reverse ++ .ref o :: st).map (fw_v ad))) (As := as.map (fw_v ad)) (rest := st.map (fw_v ad)) ⟨C.1, C.2.1, C.2.2.1, C.2.2.2.1, C.2.2.2.2.1⟩ (hS l D tA ad H.size) ⟨callB_of nA C.2.2.2.2.1 (lw_good j' hcal.1) rfl rfl rfl (C.2.2.2.2.1 _ hcal.2.1) (C.2.2.2.2.1 _ hlk) hcal.2.2.1 hroom, C.2.2.2.2.1 _ hin, C.2.2.2.2.1 _ hse⟩ ⟨(fun ar U g mk q => by obtain ⟨q0, q1, q2, q3, qP, qK, qD, qN⟩ := q; exact ⟨q0, q1, q2, q3, qP, va_K.moved (u := U) (U := U.calling g mk ar) (Vm.Alike.refl U.vm) qK, qD, fw_nw.same (u := U) (U := U.calling g mk ar) rfl qN⟩), by rw [← hq]; exact va_recv I.2.1 I.2.2.1 hc' (fw_obj_at I.1 ho hc'), (fun U hU hW => ⟨rfl, by rw [hU], I.1, Sa, by rw [hU]; exact I.2.2.1, va_K.moved hW.alike I.2.1, I.2.2.2.1.weaken (fun _ _ _ _ => trivial), fw_nw.warm hW C.2.2.2.2.2⟩)⟩ rfl (by rw [List.length_map]; exact hn) hcs (by simp [List.map_reverse] <;> rfl) (fw_room (p := p) Sr hst) hd ⟨hca, hsl⟩
  exact fw_after (P' := P') hrun I kk
theorem lw_callI {d j' idx nA a' b' o : Nat} {as st stk : List Value} {P' : fw_P} (C : lw_C p s m args meth c) (I : fw_I D tA A s ad n h H locs) (hcs : cs.size = 4) (hcal : fw_cal j' nA) (hlk : Cond.methodLink "WireHostsLaw" idx (tb_m j').1 ∈ tb_ws) (hin : Cond.instanceMethod (tb_m j').1 ∈ tb_ws) (hy1 : (tb_m j').1.name = "<init>") (hret : (tb_m j').2.2.2 = none) (hn : as.length = nA) (hst : st.length ≤ 8) (hstk : stk = as.reverse ++ .ref o :: st) (S : ∀ v ∈ stk, fw_ok n v) (hd : decode code pc = .ok (.invokespecial idx, 3))
    (hdp : d ≤ 15) (hdl : 8 + ((tb_m j').2.2.1 + 11) + 32 * d ≤ 664) (hca : cells + a' ≤ 600000) (hsl : slots + b' ≤ 7302250) (hS : fw_Sp d j' (.ref o :: as) n h a' b' P')
    (kk : ∀ (r : Option Value) (n' : Nat) (h' : fw_H) (ad' : Nat → Nat) (H1 : Heap) (locs1 : List Loc), P' r n' h' → n ≤ n' → (∀ k, k < n → ad' k = ad k) → (∀ v, r = some v → fw_ok n' v) → fw_I D tA A s ad' n' h' H1 locs1 → W p l e room_1 s m args below meth c H1 locs1 (cells + a') (slots + b') Q (F0 m (pc + 3) cs ((r.map (fw_v ad')).toList ++ st.map (fw_v ad)))) :
    W p l e room_1 s m args below meth c H locs cells slots Q (F0 m pc cs (stk.map (fw_v ad))) := by
  subst hstk
  have Sr : ∀ v ∈ st, fw_ok n v := fun v hv => S v (by simp [hv])
  have Sa : ∀ v ∈ .ref o :: as, fw_ok n v := fun v hv => S v (by
    rcases List.mem_cons.mp hv with e | e
    · exact List.mem_append_right _ (by rw [e]; exact List.mem_cons_self)
    · exact List.mem_append_left _ (List.mem_reverse.mpr e))
  have hroom : (fw_rm d a' b').frames + 1 ≤ room_1.frames ∧ 8 + ((tb_m j').2.2.1 + 11) + (fw_rm d a' b').locals ≤ room_1.locals := ⟨by show d + 1 ≤ 16; omega, hdl⟩
  have hrun := va_runI (e := e) (below := below) (meth := meth) (locs := locs) (cells := cells) (slots := slots) (g := F0 m pc cs ((as.reverse ++ .ref o :: st).map (fw_v ad))) (As := as.map (fw_v ad)) (rest := st.map (fw_v ad)) ⟨C.1, C.2.1, C.2.2.1, C.2.2.2.1, C.2.2.2.2.1⟩ (hS l D tA ad H.size) ⟨hret ▸ callB_of nA C.2.2.2.2.1 (lw_good j' hcal.1) rfl rfl rfl (C.2.2.2.2.1 _ hcal.2.1) (C.2.2.2.2.1 _ hlk) hcal.2.2.1 hroom, hy1, C.2.2.2.2.1 _ hin⟩ ⟨(fun ar U g mk q => by obtain ⟨q0, q1, q2, q3, qP, qK, qD, qN⟩ := q; exact ⟨q0, q1, q2, q3, qP, va_K.moved (u := U) (U := U.calling g mk ar) (Vm.Alike.refl U.vm) qK, qD, fw_nw.same (u := U) (U := U.calling g mk ar) rfl qN⟩), (fun U hU hW => ⟨rfl, by rw [hU], I.1, Sa, by rw [hU]; exact I.2.2.1, va_K.moved hW.alike I.2.1, I.2.2.2.1.weaken (fun _ _ _ _ => trivial), fw_nw.warm hW C.2.2.2.2.2⟩)⟩ rfl (by rw [List.length_map]; exact hn) hcs (by simp [List.map_reverse] <;> rfl) (fw_room (p := p) Sr hst) hd ⟨hca, hsl⟩
  exact fw_after (P' := P') hrun I kk
theorem fw_w_ext {ad' : Nat → Nat} (F : fw_F n h) (he : ∀ k, k < n → ad' k = ad k) : fw_w tA ad' n h = fw_w tA ad n h := by
  unfold fw_w
  refine List.map_congr_left fun k hk => ?_
  rw [he k (List.mem_range.mp hk), fw_c_ext he (F.2 k)]
theorem fw_I.ext {ad' : Nat → Nat} (I : fw_I D tA A s ad' n h H locs) (he : ∀ k, k < n → ad' k = ad k) : fw_I D tA A s ad n h H locs := by
  obtain ⟨i1, i2, i3, i4, i5, i6⟩ := I
  rw [fw_w_ext i1 he] at i3 i4
  exact ⟨i1, i2, i3, i4, i5, i6⟩
end LW
