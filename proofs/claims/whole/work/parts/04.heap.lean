section FH
variable {d j pc : Nat} {ls : List (Option Value)} {st : List Value} {n : Nat} {h : fw_H} {a b : Nat} {P : fw_P}
theorem fw_obj_at {tA : Nat → ClassId} {ad : Nat → Nat} {o ci : Nat} {fs : List Value} {q : vw_C} (F : fw_F n h) (ho : h o = .inr (ci, fs)) (hc : tb_cl[ci]? = some q) : (fw_w tA ad n h)[o]? = some (ad o, .inr (ci, fs.map (fw_v ad))) := by
  rw [fw_w_at (F.obj ho hc), ho]
  rfl
theorem fw_arr_at {tA : Nat → ClassId} {ad : Nat → Nat} {o t N : Nat} {f : Nat → Int32} (F : fw_F n h) (ho : h o = .inl (t, N, .inl f)) : (fw_w tA ad n h)[o]? = some (ad o, .inl (tA t, N, .inl f)) := by
  rw [fw_w_at (F.arr ho), ho]
  rfl
theorem fw_arq_at {tA : Nat → ClassId} {ad : Nat → Nat} {o t N : Nat} {f : Nat → Option Nat} (F : fw_F n h) (ho : h o = .inl (t, N, .inr (.inr (.inr (.inr f))))) : (fw_w tA ad n h)[o]? = some (ad o, .inl (tA t, N, .inr (.inr (.inr (.inr (fun i => (f i).map ad)))))) := by
  rw [fw_w_at (F.arr ho), ho]
  rfl
theorem fw_fld_ok {o ci fk : Nat} {fs : List Value} {v : Value} (F : fw_F n h) (ho : h o = .inr (ci, fs)) (hv : fs[fk]? = some v) : fw_ok n v := by
  have h1 := F.2 o
  rw [ho] at h1
  exact h1 v (List.mem_of_getElem? hv)
theorem fw_I.put {D : va_G} {tA : Nat → ClassId} {A : Nat → Prop} {s : State} {ad : Nat → Nat} {H H1 : Heap} {locs locs1 : List Loc} (I : fw_I D tA A s ad n h H locs) {o : Nat} {c : fw_E} {ws : va_W} (ho : o < n) (hce : fw_ce n c) (hw : ws = (fw_w tA ad n h).set o (ad o, fw_c tA ad c))
    (hP : va_P D tb_cl ws H1) (hD : va_D A ws) (hS : va_S A s.heap H1 locs1) : fw_I D tA A s ad n (fw_up h o c) H1 locs1 := by
  rw [hw, fw_w_set ho] at hP hD
  exact ⟨I.1.up ho hce, I.2.1, hP, hD, hS, I.2.2.2.2.2⟩
theorem fw_I.new {D : va_G} {tA : Nat → ClassId} {A : Nat → Prop} {s : State} {ad : Nat → Nat} {H H1 : Heap} {locs locs1 : List Loc} (I : fw_I D tA A s ad n h H locs) {q : Nat} {c : fw_E} {ws : va_W} (hce : fw_ce (n + 1) c) (hw : ws = fw_w tA ad n h ++ [(q, fw_c tA (va_up ad n q) c)])
    (hP : va_P D tb_cl ws H1) (hD : va_D A ws) (hS : va_S A s.heap H1 locs1) : fw_I D tA A s (va_up ad n q) (n + 1) (fw_up h n c) H1 locs1 := by
  rw [hw, fw_w_push I.1] at hP hD
  exact ⟨I.1.push hce, I.2.1, hP, hD, hS, I.2.2.2.2.2⟩
theorem fw_up_x {ad : Nat → Nat} {q : Nat} : ∀ k, k < n → va_up ad n q k = ad k := fun _ hk => if_neg (Nat.ne_of_lt hk)
theorem fw_Q.ext {D : va_G} {tA : Nat → ClassId} {A : Nat → Prop} {s : State} {args : Array Value} {ad ad' : Nat → Nat} {n' : Nat} {Qc : Array Value → State → Outcome → State → Prop} (Q : fw_Q D tA A s args ad n P Qc) (hn : n ≤ n') (he : ∀ k, k < n → ad' k = ad k) : fw_Q D tA A s args ad' n' P Qc :=
  fun r n2 h2 ad2 t hP h1 h3 => Q r n2 h2 ad2 t hP (Nat.le_trans hn h1) (fun k hk => (h3 k (Nat.lt_of_lt_of_le hk hn)).trans (he k hk))
theorem fw_get {o ci idx fk N : Nat} {fs : List Value} {C ref : String} {T : u_T} {v : Value} (hc : tb_cl[ci]? = some (C, T, N)) (hin : ∀ w ∈ u_ws C T N, w ∈ tb_ws) (hk : fk < N) (hw : Cond.fieldLink (tb_m j).1.cls idx ref (T fk).2.1 (T fk).2.2.1 ∈ tb_ws) (hsame : (T fk).1 = ref) (ho : h o = .inr (ci, fs)) (hv : fs[fk]? = some v) (hd : decode (tb_m j).2.1 pc = .ok (.getfield idx, 3)) (k : fw_Go (d) j (pc + 3) (ls) (v :: st) (n) (h) (a) (b) P) : fw_Go (d) j (pc) (ls) (.ref o :: st) (n) (h) (a) (b) P := by
  intro p l e R s m args below meth c H locs cells slots mc ms Qc free D tA ad A cs X yf yl yc ys y1 y2 I L S F Q
  exact va_get X.1 X.2.1 X.2.2.2.2.2.1 (fun w hw => List.mem_cons_of_mem _ (hin w hw)) X.2.2.2.2.2.2.1 I.2.1 I.2.2.1 o (fw_obj_at I.1 ho hc) hc fk hk (X.2.2.2.2.2.1 _ (List.mem_cons_of_mem _ hw)) (fun x hx => by rw [← hsame]; exact hx) (v := fw_v ad v) (by rw [List.getElem?_map, hv]; rfl) hd (k p l e R s m args below meth c H locs cells slots mc ms Qc free D tA ad A cs X yf yl yc ys y1 y2 I L (fw_sc (fw_fld_ok I.1 ho hv) (fw_s1 S)) F Q)
theorem fw_put {o ci idx fk N : Nat} {fs : List Value} {C ref : String} {T : u_T} {v : Value} {ty : FieldType} {ty0 : Nat → FieldType} (hc : tb_cl[ci]? = some (C, T, N)) (hin : ∀ w ∈ u_ws C T N, w ∈ tb_ws) (hk : fk < N) (hw : Cond.fieldLink (tb_m j).1.cls idx ref (T fk).2.1 (T fk).2.2.1 ∈ tb_ws) (hsame : (T fk).1 = ref) (hty : ∀ k, k < N → parseFieldDescriptor (T k).2.2.1 = some (ty0 k)) (hnm : ∀ a, a < N → ∀ b, b < N → a ≠ b → (T a).2.1 ≠ (T b).2.1) (hfin : (T fk).2.2.2 = false) (hpd : parseFieldDescriptor (T fk).2.2.1 = some ty) (hnar : ∀ ad, narrow ty (fw_v ad v) = fw_v ad v) (hfit : ∀ ad, fits ty (fw_v ad v) = true)
    (ho : h o = .inr (ci, fs)) (hfk : fk < fs.length) (hd : decode (tb_m j).2.1 pc = .ok (.putfield idx, 3)) (k : fw_Go (d) j (pc + 3) (ls) (st) (n) (fw_up h o (.inr (ci, fs.set fk v))) (a) (b) P) : fw_Go (d) j (pc) (ls) (v :: .ref o :: st) (n) (h) (a) (b) P := by
  intro p l e R s m args below meth c H locs cells slots mc ms Qc free D tA ad A cs X yf yl yc ys y1 y2 I L S F Q
  refine va_put X.1 X.2.1 X.2.2.2.2.2.1 (fun w hw => List.mem_cons_of_mem _ (hin w hw)) ty0 hty hnm X.2.2.2.2.2.2.1 I.2.1 I.2.2.1 I.2.2.2.1 I.2.2.2.2.1 o (fw_obj_at I.1 ho hc) hc fk hk (X.2.2.2.2.2.1 _ (List.mem_cons_of_mem _ hw)) (fun x hx => by rw [← hsame]; exact hx) hfin (ty := ty) (v := fw_v ad v) hpd (hnar ad) (hfit ad) (by rw [List.length_map]; exact hfk) hd (fun H1 locs1 g1 g2 g3 => ?_)
  have hce : fw_ce n (.inr (ci, fs.set fk v)) := fun u hu => by
    rcases List.mem_or_eq_of_mem_set hu with e | e
    · have h9 := I.1.2 o
      rw [ho] at h9
      exact h9 u e
    · rw [e]; exact fw_s0 S
  exact (k p l e R s m args below meth c H1 locs1 cells slots mc ms Qc free D tA ad A cs X yf yl yc ys y1 y2 (I.put (I.1.obj ho hc) hce (by show _ = List.set _ o (ad o, Sum.inr (ci, (fs.set fk v).map (fw_v ad))); rw [List.map_set]) g1 g2 g3) L (fw_s1 (fw_s1 S)) F Q)
theorem fw_putF {o ci idx fk N : Nat} {fs : List Value} {C ref : String} {T : u_T} {v : Value} {ty : FieldType} {ty0 : Nat → FieldType} (hc : tb_cl[ci]? = some (C, T, N)) (hin : ∀ w ∈ u_ws C T N, w ∈ tb_ws) (hk : fk < N) (hw : Cond.fieldLink (tb_m j).1.cls idx ref (T fk).2.1 (T fk).2.2.1 ∈ tb_ws) (hsame : (T fk).1 = ref) (hty : ∀ k, k < N → parseFieldDescriptor (T k).2.2.1 = some (ty0 k)) (hnm : ∀ a, a < N → ∀ b, b < N → a ≠ b → (T a).2.1 ≠ (T b).2.1) (hfin : (T fk).2.2.2 = true) (hini : (tb_m j).1.name = "<init>") (hdecl : (T fk).1 = (tb_m j).1.cls) (hpd : parseFieldDescriptor (T fk).2.2.1 = some ty) (hnar : ∀ ad, narrow ty (fw_v ad v) = fw_v ad v) (hfit : ∀ ad, fits ty (fw_v ad v) = true)
    (ho : h o = .inr (ci, fs)) (hfk : fk < fs.length) (hd : decode (tb_m j).2.1 pc = .ok (.putfield idx, 3)) (k : fw_Go (d) j (pc + 3) (ls) (st) (n) (fw_up h o (.inr (ci, fs.set fk v))) (a) (b) P) : fw_Go (d) j (pc) (ls) (v :: .ref o :: st) (n) (h) (a) (b) P := by
  intro p l e R s m args below meth c H locs cells slots mc ms Qc free D tA ad A cs X yf yl yc ys y1 y2 I L S F Q
  refine va_putF X.1 X.2.1 X.2.2.2.2.2.1 (fun w hw => List.mem_cons_of_mem _ (hin w hw)) ty0 hty hnm X.2.2.2.2.2.2.1 I.2.1 I.2.2.1 I.2.2.2.1 I.2.2.2.2.1 o (fw_obj_at I.1 ho hc) hc fk hk (X.2.2.2.2.2.1 _ (List.mem_cons_of_mem _ hw)) (fun x hx => by rw [← hsame]; exact hx) hfin (X.2.2.2.2.2.2.2.1.trans hini) hdecl (ty := ty) (v := fw_v ad v) hpd (hnar ad) (hfit ad) (by rw [List.length_map]; exact hfk) hd (fun H1 locs1 g1 g2 g3 => ?_)
  have hce : fw_ce n (.inr (ci, fs.set fk v)) := fun u hu => by
    rcases List.mem_or_eq_of_mem_set hu with e | e
    · have h9 := I.1.2 o
      rw [ho] at h9
      exact h9 u e
    · rw [e]; exact fw_s0 S
  exact (k p l e R s m args below meth c H1 locs1 cells slots mc ms Qc free D tA ad A cs X yf yl yc ys y1 y2 (I.put (I.1.obj ho hc) hce (by show _ = List.set _ o (ad o, Sum.inr (ci, (fs.set fk v).map (fw_v ad))); rw [List.map_set]) g1 g2 g3) L (fw_s1 (fw_s1 S)) F Q)
theorem fw_getN {o ci idx fk N : Nat} {fs : List Value} {C ref : String} {T : u_T} {host : String} {v : Value} (hc : tb_cl[ci]? = some (C, T, N)) (hin : ∀ w ∈ u_ws C T N, w ∈ tb_ws) (hk : fk < N) (hw : Cond.fieldLinkNest (tb_m j).1.cls idx ref (T fk).2.1 (T fk).2.2.1 host ∈ tb_nl) (hsame : (T fk).1 = ref) (ho : h o = .inr (ci, fs)) (hv : fs[fk]? = some v) (hd : decode (tb_m j).2.1 pc = .ok (.getfield idx, 3)) (k : fw_Go (d) j (pc + 3) (ls) (v :: st) (n) (h) (a) (b) P) : fw_Go (d) j (pc) (ls) (.ref o :: st) (n) (h) (a) (b) P := by
  intro p l e R s m args below meth c H locs cells slots mc ms Qc free D tA ad A cs X yf yl yc ys y1 y2 I L S F Q
  exact va_getN X.1 X.2.1 X.2.2.2.2.2.1 (fun w hw => List.mem_cons_of_mem _ (hin w hw)) X.2.2.2.2.2.2.1 I.2.1 I.2.2.1 o (fw_obj_at I.1 ho hc) hc fk hk (va_Nw.use rfl (X.2.2.2.2.2.2.2.2.1 _ hw)) (fun x hx => by rw [← hsame]; exact hx) (v := fw_v ad v) (by rw [List.getElem?_map, hv]; rfl) hd (k p l e R s m args below meth c H locs cells slots mc ms Qc free D tA ad A cs X yf yl yc ys y1 y2 I L (fw_sc (fw_fld_ok I.1 ho hv) (fw_s1 S)) F Q)
theorem fw_putN {o ci idx fk N : Nat} {fs : List Value} {C ref : String} {T : u_T} {host : String} {v : Value} {ty : FieldType} {ty0 : Nat → FieldType} (hc : tb_cl[ci]? = some (C, T, N)) (hin : ∀ w ∈ u_ws C T N, w ∈ tb_ws) (hk : fk < N) (hw : Cond.fieldLinkNest (tb_m j).1.cls idx ref (T fk).2.1 (T fk).2.2.1 host ∈ tb_nl) (hsame : (T fk).1 = ref) (hty : ∀ k, k < N → parseFieldDescriptor (T k).2.2.1 = some (ty0 k)) (hnm : ∀ a, a < N → ∀ b, b < N → a ≠ b → (T a).2.1 ≠ (T b).2.1) (hfin : (T fk).2.2.2 = false) (hpd : parseFieldDescriptor (T fk).2.2.1 = some ty) (hnar : ∀ ad, narrow ty (fw_v ad v) = fw_v ad v) (hfit : ∀ ad, fits ty (fw_v ad v) = true)
    (ho : h o = .inr (ci, fs)) (hfk : fk < fs.length) (hd : decode (tb_m j).2.1 pc = .ok (.putfield idx, 3)) (k : fw_Go (d) j (pc + 3) (ls) (st) (n) (fw_up h o (.inr (ci, fs.set fk v))) (a) (b) P) : fw_Go (d) j (pc) (ls) (v :: .ref o :: st) (n) (h) (a) (b) P := by
  intro p l e R s m args below meth c H locs cells slots mc ms Qc free D tA ad A cs X yf yl yc ys y1 y2 I L S F Q
  refine va_putN X.1 X.2.1 X.2.2.2.2.2.1 (fun w hw => List.mem_cons_of_mem _ (hin w hw)) ty0 hty hnm X.2.2.2.2.2.2.1 I.2.1 I.2.2.1 I.2.2.2.1 I.2.2.2.2.1 o (fw_obj_at I.1 ho hc) hc fk hk (va_Nw.use rfl (X.2.2.2.2.2.2.2.2.1 _ hw)) (fun x hx => by rw [← hsame]; exact hx) hfin (ty := ty) (v := fw_v ad v) hpd (hnar ad) (hfit ad) (by rw [List.length_map]; exact hfk) hd (fun H1 locs1 g1 g2 g3 => ?_)
  have hce : fw_ce n (.inr (ci, fs.set fk v)) := fun u hu => by
    rcases List.mem_or_eq_of_mem_set hu with e | e
    · have h9 := I.1.2 o
      rw [ho] at h9
      exact h9 u e
    · rw [e]; exact fw_s0 S
  exact (k p l e R s m args below meth c H1 locs1 cells slots mc ms Qc free D tA ad A cs X yf yl yc ys y1 y2 (I.put (I.1.obj ho hc) hce (by show _ = List.set _ o (ad o, Sum.inr (ci, (fs.set fk v).map (fw_v ad))); rw [List.map_set]) g1 g2 g3) L (fw_s1 (fw_s1 S)) F Q)
theorem fw_iald {o t N : Nat} {f : Nat → Int32} {i : Int32} (ht : tb_ty[t]? = some .int) (ho : h o = .inl (t, N, .inl f)) (hi : vp_in i N) (hd : decode (tb_m j).2.1 pc = .ok (.iaload, 1)) (k : fw_Go (d) j (pc + 1) (ls) (.int (f i.toNatClampNeg) :: st) (n) (h) (a) (b) P) : fw_Go (d) j (pc) (ls) (.int i :: .ref o :: st) (n) (h) (a) (b) P := by
  intro p l e R s m args below meth c H locs cells slots mc ms Qc free D tA ad A cs X yf yl yc ys y1 y2 I L S F Q
  exact va_iald X.1 X.2.1 I.2.1 I.2.2.1 o t (fw_arr_at I.1 ho) (fw_ty_at ht) hi hd (k p l e R s m args below meth c H locs cells slots mc ms Qc free D tA ad A cs X yf yl yc ys y1 y2 I L (fw_sc (fw_ok_int n _) (fw_s1 (fw_s1 S))) F Q)
theorem fw_iast {o t N : Nat} {f : Nat → Int32} {i x : Int32} (ht : tb_ty[t]? = some .int) (ho : h o = .inl (t, N, .inl f)) (hi : vp_in i N) (hd : decode (tb_m j).2.1 pc = .ok (.iastore, 1)) (k : fw_Go (d) j (pc + 1) (ls) (st) (n) (fw_up h o (.inl (t, N, .inl (upd f i.toNatClampNeg x)))) (a) (b) P) : fw_Go (d) j (pc) (ls) (.int x :: .int i :: .ref o :: st) (n) (h) (a) (b) P := by
  intro p l e R s m args below meth c H locs cells slots mc ms Qc free D tA ad A cs X yf yl yc ys y1 y2 I L S F Q
  refine va_iast X.1 X.2.1 I.2.1 I.2.2.1 I.2.2.2.1 I.2.2.2.2.1 o t (fw_arr_at I.1 ho) (fw_ty_at ht) hi hd (fun H1 locs1 g1 g2 g3 => ?_)
  exact (k p l e R s m args below meth c H1 locs1 cells slots mc ms Qc free D tA ad A cs X yf yl yc ys y1 y2 (I.put (c := .inl (t, N, .inl (upd f i.toNatClampNeg x))) (I.1.arr ho) (fun f e => by cases e) rfl g1 g2 g3) L (fw_s1 (fw_s1 (fw_s1 S))) F Q)
theorem fw_alen {o t : Nat} {x : vp_A} {v : Int32} (ht : t < tb_ty.length) (ho : h o = .inl (t, x)) (hv : Int32.ofNat x.1 = v) (hd : decode (tb_m j).2.1 pc = .ok (.arraylength, 1)) (k : fw_Go (d) j (pc + 1) (ls) (.int v :: st) (n) (h) (a) (b) P) : fw_Go (d) j (pc) (ls) (.ref o :: st) (n) (h) (a) (b) P := by
  intro p l e R s m args below meth c H locs cells slots mc ms Qc free D tA ad A cs X yf yl yc ys y1 y2 I L S F Q
  have he : (fw_w tA ad n h)[o]? = some (ad o, .inl (tA t, fw_a ad x)) := by
    rw [fw_w_at (I.1.arr ho), ho]
    rfl
  exact va_alen X.1 X.2.1 I.2.1 I.2.2.1 o t he (fw_ty_at (List.getElem?_eq_getElem ht)) (v := v) hv hd (k p l e R s m args below meth c H locs cells slots mc ms Qc free D tA ad A cs X yf yl yc ys y1 y2 I L (fw_sc (fw_ok_int n _) (fw_s1 S)) F Q)
theorem fw_rf (ad : Nat → Nat) (r : Option Nat) : va_rf (r.map ad) = fw_v ad (va_rf r) := by cases r <;> rfl
theorem fw_aald {o t N : Nat} {C : String} {f : Nat → Option Nat} {i : Int32} (ht : tb_ty[t]? = some (.object C)) (ho : h o = .inl (t, N, .inr (.inr (.inr (.inr f))))) (hi : vp_in i N) (hd : decode (tb_m j).2.1 pc = .ok (.aaload, 1)) (k : fw_Go (d) j (pc + 1) (ls) (va_rf (f i.toNatClampNeg) :: st) (n) (h) (a) (b) P) : fw_Go (d) j (pc) (ls) (.int i :: .ref o :: st) (n) (h) (a) (b) P := by
  intro p l e R s m args below meth c H locs cells slots mc ms Qc free D tA ad A cs X yf yl yc ys y1 y2 I L S F Q
  have hok : fw_ok n (va_rf (f i.toNatClampNeg)) := by
    cases hx : f i.toNatClampNeg with
    | none => exact fw_ok_null n
    | some q =>
      have h9 := I.1.2 o
      rw [ho] at h9
      exact fw_ok_ref (h9 f rfl _ _ hx)
  refine va_aldq X.1 X.2.1 I.2.1 I.2.2.1 o t (fw_arq_at I.1 ho) (fw_ty_at ht) hi hd ?_
  rw [fw_rf]
  exact (k p l e R s m args below meth c H locs cells slots mc ms Qc free D tA ad A cs X yf yl yc ys y1 y2 I L (fw_sc hok (fw_s1 (fw_s1 S))) F Q)
theorem fw_aast {o t N v ci : Nat} {r : vw_C} {vs : List Value} {f : Nat → Option Nat} {i : Int32} (ht : tb_ty[t]? = some (.object r.1)) (ho : h o = .inl (t, N, .inr (.inr (.inr (.inr f))))) (hv : h v = .inr (ci, vs)) (hc : tb_cl[ci]? = some r) (hi : vp_in i N) (hd : decode (tb_m j).2.1 pc = .ok (.aastore, 1)) (k : fw_Go (d) j (pc + 1) (ls) (st) (n) (fw_up h o (.inl (t, N, .inr (.inr (.inr (.inr (va_up f i.toNatClampNeg (some v)))))))) (a) (b) P) : fw_Go (d) j (pc) (ls) (.ref v :: .int i :: .ref o :: st) (n) (h) (a) (b) P := by
  intro p l e R s m args below meth c H locs cells slots mc ms Qc free D tA ad A cs X yf yl yc ys y1 y2 I L S F Q
  refine va_astq X.1 X.2.1 I.2.1 I.2.2.1 I.2.2.2.1 I.2.2.2.2.1 o t v ci (fw_arq_at I.1 ho) (fw_ty_at ht) (fw_obj_at I.1 hv hc) hc hi hd (fun H1 locs1 g1 g2 g3 => ?_)
  have hvn := I.1.obj hv hc
  have hce : fw_ce n (.inl (t, N, .inr (.inr (.inr (.inr (va_up f i.toNatClampNeg (some v))))))) := by
    intro g e i2 k2 hk
    cases e
    unfold va_up at hk
    by_cases z : i2 = i.toNatClampNeg
    · rw [if_pos z] at hk
      cases hk
      exact hvn
    · rw [if_neg z] at hk
      have h9 := I.1.2 o
      rw [ho] at h9
      exact h9 f rfl _ _ hk
  have hw : (fun i2 => (va_up f i.toNatClampNeg (some v) i2).map ad) = va_up (fun i2 => (f i2).map ad) i.toNatClampNeg (some (ad v)) := by
    funext i2
    unfold va_up
    by_cases z : i2 = i.toNatClampNeg
    · rw [if_pos z, if_pos z]; rfl
    · rw [if_neg z, if_neg z]
  exact (k p l e R s m args below meth c H1 locs1 cells slots mc ms Qc free D tA ad A cs X yf yl yc ys y1 y2 (I.put (I.1.arr ho) hce (by show _ = List.set _ o (ad o, Sum.inl (tA t, N, Sum.inr (Sum.inr (Sum.inr (Sum.inr (fun i2 => (va_up f i.toNatClampNeg (some v) i2).map ad)))))); rw [hw]) g1 g2 g3) L (fw_s1 (fw_s1 (fw_s1 S))) F Q)
theorem fw_new {ci idx N : Nat} {fs : List Value} {C : String} {T : u_T} {ty : Nat → FieldType} (hc' : tb_cl[ci]? = some (C, T, N)) (hin : ∀ w ∈ u_ws C T N, w ∈ tb_ws) (hty : ∀ k, k < N → parseFieldDescriptor (T k).2.2.1 = some (ty k)) (hw1 : Cond.classLink (tb_m j).1.cls idx C ∈ tb_ws) (hw2 : Cond.instantiable C N ∈ tb_ws) (hw3 : Cond.initialized C ∈ tb_ws) (hfs : ∀ i, i < N → defaultValue (ty i) = vp_V fs i) (hf0 : ∀ v ∈ fs, fw_ok 0 v)
    (hd : decode (tb_m j).2.1 pc = .ok (.new idx, 3)) (k : fw_Go (d) j (pc + 3) (ls) (.ref n :: st) (n + 1) (fw_up h n (.inr (ci, fs))) (a) (b) P) : fw_Go (d) j (pc) (ls) (st) (n) (h) (a + 1) (b + N) P := by
  intro p l e R s m args below meth c H locs cells slots mc ms Qc free D tA ad A cs X yf yl yc ys y1 y2 I L S F Q
  have S0 := S
  refine va_new X.1 X.2.1 X.2.2.2.2.2.1 (fun w hw => List.mem_cons_of_mem _ (hin w hw)) ty hty X.2.2.2.2.2.2.1 (X.2.2.2.2.2.1 _ (List.mem_cons_of_mem _ hw1)) (X.2.2.2.2.2.1 _ (List.mem_cons_of_mem _ hw2)) (X.2.2.2.2.2.1 _ (List.mem_cons_of_mem _ hw3)) I.2.1 I.2.2.1 I.2.2.2.1 I.2.2.2.2.1 I.2.2.2.2.2 hc' (fs := fs) hfs (by omega) (by omega) hd (fun q H1 g1 g2 g3 => ?_)
  have e0 : ∀ ad', fs.map (fw_v ad') = fs := fun ad' => by
    rw [List.map_congr_left (g := id) (fun v hv => ?_), List.map_id]
    have h9 := hf0 v hv
    cases v with
    | ref k0 => exact absurd (h9.2 k0 rfl) (Nat.not_lt_zero _)
    | _ => rfl
  have e1 : st.map (fw_v (va_up ad n q)) = st.map (fw_v ad) := fw_vs_ext fw_up_x S
  have hgo := (k p l e R s m args below meth c H1 locs (cells + 1) (slots + N) mc ms Qc free D tA (va_up ad n q) A cs X yf yl yc ys (by omega) (by omega) (I.new (fun v hv => fw_ok_up (Nat.zero_le _) (hf0 v hv)) (by show _ = _ ++ [(q, Sum.inr (ci, fs.map (fw_v (va_up ad n q))))]; rw [e0]) g1 g2 g3) (L.ext (Nat.le_succ n) fw_up_x) (fw_sc (fw_ok_ref (Nat.lt_succ_self n)) (fw_S_ext S0 (Nat.le_succ n))) F (Q.ext (Nat.le_succ n) fw_up_x))
  have e2 : va_up ad n q n = q := if_pos rfl
  rw [List.map_cons, e1] at hgo
  show W p l e R s m args below meth c H1 locs (cells + 1) (slots + N) _ (F0 m (pc + 3) cs (Value.ref q :: st.map (fw_v ad)))
  rw [← e2]
  exact hgo
end FH
