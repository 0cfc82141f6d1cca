-- DRAFT (never compiled yet): a walk whose heap is a function from PLACES (0, 1, 2 ..) to cells; addresses, tables and room stand hidden in fw_Go
-- expected from part 01 (made by program): tb_m : Nat → MethodName × ByteArray × Nat × Option FieldType; tb_cl : List vw_C; tb_ty : List FieldType; tb_ws : List Cond; tb_good; tb_clN
abbrev fw_E : Type := (Nat × vp_A) ⊕ (Nat × List Value)
abbrev fw_H : Type := Nat → fw_E
abbrev fw_P : Type := Option Value → Nat → fw_H → Prop
def fw_no : fw_E := .inr (1000000, [])
def fw_up (h : fw_H) (o : Nat) (c : fw_E) : fw_H := fun k => if k = o then c else h k
theorem fw_up_s (h : fw_H) (o : Nat) (c : fw_E) : fw_up h o c o = c := if_pos rfl
theorem fw_up_n (h : fw_H) {o k : Nat} (c : fw_E) (hk : k ≠ o) : fw_up h o c k = h k := if_neg hk
theorem fw_up_up (h : fw_H) (o : Nat) (c c' : fw_E) : fw_up (fw_up h o c) o c' = fw_up h o c' := by
  funext k
  unfold fw_up
  by_cases e : k = o
  · rw [if_pos e, if_pos e]
  · rw [if_neg e, if_neg e, if_neg e]
theorem fw_up_id (h : fw_H) (o : Nat) : fw_up h o (h o) = h := by
  funext k
  unfold fw_up
  by_cases e : k = o
  · rw [if_pos e, e]
  · rw [if_neg e]
theorem fw_up_c (h : fw_H) {o o' : Nat} (c c' : fw_E) (hn : o ≠ o') : fw_up (fw_up h o c) o' c' = fw_up (fw_up h o' c') o c := by
  funext k
  unfold fw_up
  by_cases e : k = o
  · rw [if_pos e, if_neg (fun z => hn (e.symm.trans z)), if_pos e]
  · rw [if_neg e]
    by_cases e' : k = o'
    · rw [if_pos e', if_neg e]
    · rw [if_neg e', if_neg e]
def fw_v (ad : Nat → Nat) (v : Value) : Value := match v with
  | .ref k => .ref (ad k)
  | .int x => .int x
  | .null => .null
  | w => w
def fw_a (ad : Nat → Nat) (a : vp_A) : vp_A := (a.1, match a.2 with
  | .inl f => .inl f
  | .inr (.inr (.inr (.inr f))) => .inr (.inr (.inr (.inr (fun j => (f j).map ad))))
  | w => w)
def fw_c (tA : Nat → ClassId) (ad : Nat → Nat) (c : fw_E) : va_E := match c with
  | .inl x => .inl (tA x.1, fw_a ad x.2)
  | .inr x => .inr (x.1, x.2.map (fw_v ad))
def fw_w (tA : Nat → ClassId) (ad : Nat → Nat) (n : Nat) (h : fw_H) : va_W := (List.range n).map (fun k => (ad k, fw_c tA ad (h k)))
-- a value that stands for a place stands for one that is there; no long and no double
def fw_ok (n : Nat) (v : Value) : Prop := v.category = 1 ∧ ∀ k : Nat, v = .ref k → k < n
theorem fw_ok_int (n : Nat) (x : Int32) : fw_ok n (.int x) := ⟨rfl, fun k h => by cases h⟩
theorem fw_ok_null (n : Nat) : fw_ok n .null := ⟨rfl, fun k h => by cases h⟩
theorem fw_ok_ref {n o : Nat} (h : o < n) : fw_ok n (.ref o) := ⟨rfl, fun k e => by cases e; exact h⟩
theorem fw_ok_up {n n' : Nat} {v : Value} (hn : n ≤ n') (h : fw_ok n v) : fw_ok n' v := ⟨h.1, fun k e => Nat.lt_of_lt_of_le (h.2 k e) hn⟩
def fw_ce (n : Nat) (c : fw_E) : Prop := match c with
  | .inl x => ∀ f : Nat → Option Nat, x.2.2 = .inr (.inr (.inr (.inr f))) → ∀ i k : Nat, f i = some k → k < n
  | .inr x => ∀ v ∈ x.2, fw_ok n v
def fw_F (n : Nat) (h : fw_H) : Prop := (∀ k : Nat, n ≤ k → h k = fw_no) ∧ ∀ k : Nat, fw_ce n (h k)
theorem fw_F.lt {n : Nat} {h : fw_H} (F : fw_F n h) {o : Nat} (hne : h o ≠ fw_no) : o < n := by
  by_cases hk : o < n
  · exact hk
  · exact absurd (F.1 o (by omega)) hne
theorem fw_F.obj {n : Nat} {h : fw_H} (F : fw_F n h) {o ci : Nat} {fs : List Value} {q : vw_C} (ho : h o = .inr (ci, fs)) (hc : tb_cl[ci]? = some q) : o < n := by
  refine F.lt fun e => ?_
  rw [ho] at e
  have e1 : ci = 1000000 := congrArg Prod.fst (Sum.inr.inj e)
  rw [e1] at hc
  have := (List.getElem?_eq_some_iff.mp hc).1
  have := tb_clN
  omega
theorem fw_F.arr {n : Nat} {h : fw_H} (F : fw_F n h) {o : Nat} {x : Nat × vp_A} (ho : h o = .inl x) : o < n := by
  refine F.lt fun e => ?_
  rw [ho] at e
  cases e
theorem fw_F.up {n : Nat} {h : fw_H} (F : fw_F n h) {o : Nat} {c : fw_E} (ho : o < n) (hc : fw_ce n c) : fw_F n (fw_up h o c) := by
  refine ⟨fun k hk => ?_, fun k => ?_⟩
  · rw [fw_up_n h c (by omega)]
    exact F.1 k hk
  · unfold fw_up
    by_cases e : k = o
    · rw [if_pos e]; exact hc
    · rw [if_neg e]; exact F.2 k
theorem fw_ce_up {n n' : Nat} {c : fw_E} (hn : n ≤ n') (h : fw_ce n c) : fw_ce n' c := by
  cases c with
  | inl x => exact fun f e i k hk => Nat.lt_of_lt_of_le (h f e i k hk) hn
  | inr x => exact fun v hv => fw_ok_up hn (h v hv)
theorem fw_F.push {n : Nat} {h : fw_H} (F : fw_F n h) {c : fw_E} (hc : fw_ce (n + 1) c) : fw_F (n + 1) (fw_up h n c) := by
  refine ⟨fun k hk => ?_, fun k => ?_⟩
  · rw [fw_up_n h c (by omega)]
    exact F.1 k (by omega)
  · unfold fw_up
    by_cases e : k = n
    · rw [if_pos e]; exact hc
    · rw [if_neg e]; exact fw_ce_up (Nat.le_succ n) (F.2 k)
theorem fw_v_ext {n : Nat} {ad ad' : Nat → Nat} (he : ∀ k, k < n → ad' k = ad k) {v : Value} (hv : fw_ok n v) : fw_v ad' v = fw_v ad v := by
  cases v with
  | ref k => show Value.ref (ad' k) = Value.ref (ad k); rw [he k (hv.2 k rfl)]
  | _ => rfl
theorem fw_vs_ext {n : Nat} {ad ad' : Nat → Nat} (he : ∀ k, k < n → ad' k = ad k) {vs : List Value} (hv : ∀ v ∈ vs, fw_ok n v) : vs.map (fw_v ad') = vs.map (fw_v ad) :=
  List.map_congr_left fun v h => fw_v_ext he (hv v h)
theorem fw_c_ext {n : Nat} {tA : Nat → ClassId} {ad ad' : Nat → Nat} (he : ∀ k, k < n → ad' k = ad k) {c : fw_E} (hc : fw_ce n c) : fw_c tA ad' c = fw_c tA ad c := by
  cases c with
  | inr x => show Sum.inr (x.1, x.2.map (fw_v ad')) = Sum.inr (x.1, x.2.map (fw_v ad)); rw [fw_vs_ext he hc]
  | inl x =>
    obtain ⟨t, N, z⟩ := x
    show Sum.inl (tA t, fw_a ad' (N, z)) = Sum.inl (tA t, fw_a ad (N, z))
    congr 2
    unfold fw_a
    rcases z with f | f | f | f | f
    · rfl
    · rfl
    · rfl
    · rfl
    · have e : (fun j => (f j).map ad') = (fun j => (f j).map ad) := by
        funext j
        cases hj : f j with
        | none => rfl
        | some k => show some (ad' k) = some (ad k); rw [he k (hc f rfl j k hj)]
      show (N, _) = (N, _)
      simp only [e]
theorem fw_w_at {tA : Nat → ClassId} {ad : Nat → Nat} {n : Nat} {h : fw_H} {k : Nat} (hk : k < n) : (fw_w tA ad n h)[k]? = some (ad k, fw_c tA ad (h k)) := by
  unfold fw_w
  rw [List.getElem?_map, List.getElem?_range hk]
  rfl
theorem fw_w_len {tA : Nat → ClassId} {ad : Nat → Nat} {n : Nat} {h : fw_H} : (fw_w tA ad n h).length = n := by
  unfold fw_w
  rw [List.length_map, List.length_range]
theorem fw_w_set {tA : Nat → ClassId} {ad : Nat → Nat} {n : Nat} {h : fw_H} {o : Nat} {c : fw_E} (ho : o < n) : (fw_w tA ad n h).set o (ad o, fw_c tA ad c) = fw_w tA ad n (fw_up h o c) := by
  apply List.ext_getElem?
  intro k
  by_cases hk : k < n
  · by_cases e : k = o
    · subst e
      rw [List.getElem?_set_self (by rw [fw_w_len]; exact hk), fw_w_at hk, fw_up_s]
    · rw [List.getElem?_set_ne (Ne.symm e), fw_w_at hk, fw_w_at hk, fw_up_n h c e]
  · rw [List.getElem?_eq_none (by rw [List.length_set, fw_w_len]; omega), List.getElem?_eq_none (by rw [fw_w_len]; omega)]
theorem fw_w_push {tA : Nat → ClassId} {ad : Nat → Nat} {n q : Nat} {h : fw_H} {c : fw_E} (F : fw_F n h) : fw_w tA ad n h ++ [(q, fw_c tA (va_up ad n q) c)] = fw_w tA (va_up ad n q) (n + 1) (fw_up h n c) := by
  have hx : ∀ k, k < n → va_up ad n q k = ad k := fun k hk => if_neg (Nat.ne_of_lt hk)
  have hn : va_up ad n q n = q := if_pos rfl
  apply List.ext_getElem?
  intro k
  by_cases hk : k < n
  · rw [List.getElem?_append_left (by rw [fw_w_len]; exact hk), fw_w_at hk, fw_w_at (by omega), hx k hk, fw_up_n h c (by omega), fw_c_ext hx (F.2 k)]
  · by_cases e : k = n
    · subst e
      rw [List.getElem?_append_right (by rw [fw_w_len]; omega), fw_w_len, Nat.sub_self, fw_w_at (by omega), hn, fw_up_s]
      rfl
    · rw [List.getElem?_eq_none (by rw [List.length_append, fw_w_len]; show n + 1 ≤ k; omega), List.getElem?_eq_none (by rw [fw_w_len]; omega)]
-- the array classes
def fw_ty (tA : Nat → ClassId) : List (ClassId × FieldType) := (List.range tb_ty.length).map (fun t => (tA t, tb_ty.getD t .int))
theorem fw_ty_at {tA : Nat → ClassId} {t : Nat} {ty : FieldType} (ht : tb_ty[t]? = some ty) : (fw_ty tA)[t]? = some (tA t, ty) := by
  unfold fw_ty
  have hl := (List.getElem?_eq_some_iff.mp ht).1
  rw [List.getElem?_map, List.getElem?_range hl]
  show some (tA t, tb_ty.getD t .int) = _
  rw [List.getD_eq_getElem?_getD, ht]
  rfl
-- what stands fixed through a method's run
def fw_nw (U : State) : Prop := (∀ w ∈ tb_nl, va_Nw w U) ∧ va_AO "WireHosts$Rows" U ∧ va_AO "WireHosts$Host" U
theorem fw_nw_on {w : Cond} (hw : w ∈ tb_nl) : ∃ a i b n d h, w = .fieldLinkNest a i b n d h := by
  have h1 := List.all_eq_true.mp tb_nlN w hw
  unfold tb_isN at h1
  split at h1
  · exact ⟨_, _, _, _, _, _, rfl⟩
  · cases h1
theorem fw_nw.warm {s U : State} (hW : s.WarmedH U.vm) (h : fw_nw s) : fw_nw U := by
  refine ⟨fun w hw => ?_, h.2.1.moved hW.alike, h.2.2.moved hW.alike⟩
  have h1 := h.1 w hw
  obtain ⟨a, i, b, n, d, e, rfl⟩ := fw_nw_on hw
  exact va_Nw.warmF hW h1
theorem fw_nw.same {u U : State} (hv : u.vm = U.vm) (h : fw_nw u) : fw_nw U := by
  refine ⟨fun w hw => ?_, h.2.1.moved (hv ▸ Vm.Alike.refl u.vm), h.2.2.moved (hv ▸ Vm.Alike.refl u.vm)⟩
  have h1 := h.1 w hw
  obtain ⟨a, i, b, n, d, e, rfl⟩ := fw_nw_on hw
  exact va_Nw.same rfl hv h1
def fw_ws (j : Nat) : List Cond := .code (tb_m j).1 (tb_m j).2.1 (tb_m j).2.2.1 (tb_m j).2.2.2 :: tb_ws
def fw_rm (d a b : Nat) : Room := { frames := d, cells := a, slots := b, locals := 32 * d }
def fw_X (j : Nat) (p : Program) (s : State) (m : MethodId) (args : Array Value) (meth : Method) (c : Code) : Prop :=
  p.tables.exec = Jvm.exec ∧ c.code = (tb_m j).2.1 ∧ c.maxLocals = (tb_m j).2.2.1 ∧ meth.sig.returnType = (tb_m j).2.2.2 ∧ meth.locks = false ∧ (∀ w ∈ fw_ws j, w.before args s = true) ∧ s.vm.findClass (tb_m j).1.cls = some m.cls ∧ meth.name = (tb_m j).1.name ∧ fw_nw s
def fw_I (D : va_G) (tA : Nat → ClassId) (A : Nat → Prop) (s : State) (ad : Nat → Nat) (n : Nat) (h : fw_H) (H : Heap) (locs : List Loc) : Prop :=
  fw_F n h ∧ va_K D tb_cl (fw_ty tA) s ∧ va_P D tb_cl (fw_w tA ad n h) H ∧ va_D A (fw_w tA ad n h) ∧ va_S A s.heap H locs ∧ ∀ q : Nat, s.heap.size ≤ q → A q
def fw_L (ad : Nat → Nat) (n : Nat) (ls : List (Option Value)) (cs : Array Slot) (nL : Nat) : Prop :=
  cs.size = nL ∧ lv_wf cs ∧ ls.length = nL ∧ ∀ (i : Nat) (v : Value), ls[i]? = some (some v) → cs[i]? = some (.val (fw_v ad v)) ∧ fw_ok n v
def fw_Q (D : va_G) (tA : Nat → ClassId) (A : Nat → Prop) (s : State) (args : Array Value) (ad : Nat → Nat) (n : Nat) (P : fw_P) (Qc : Array Value → State → Outcome → State → Prop) : Prop :=
  ∀ (r : Option Value) (n' : Nat) (h' : fw_H) (ad' : Nat → Nat) (t : State), P r n' h' → n ≤ n' → (∀ k, k < n → ad' k = ad k) → (∀ v, r = some v → fw_ok n' v) → fw_F n' h' →
    va_P D tb_cl (fw_w tA ad' n' h') t.heap → va_K D tb_cl (fw_ty tA) t → va_D A (fw_w tA ad' n' h') → va_F A s t → Qc args s (.returned (r.map (fw_v ad'))) t
def fw_Go (d j pc : Nat) (ls : List (Option Value)) (st : List Value) (n : Nat) (h : fw_H) (a b : Nat) (P : fw_P) : Prop :=
  ∀ (p : Program) (l : Launch) (e : Env) (R : Room) (s : State) (m : MethodId) (args : Array Value) (below : List Frame) (meth : Method) (c : Code) (H : Heap) (locs : List Loc) (cells slots mc ms : Nat) (Qc : Array Value → State → Outcome → State → Prop) (free : Addr → Prop) (D : va_G) (tA : Nat → ClassId) (ad : Nat → Nat) (A : Nat → Prop) (cs : Array Slot),
    fw_X j p s m args meth c → d ≤ R.frames → 32 * d ≤ R.locals → mc ≤ R.cells → ms ≤ R.slots → cells + a ≤ mc → slots + b ≤ ms → fw_I D tA A s ad n h H locs → fw_L ad n ls cs (tb_m j).2.2.1 → (∀ v ∈ st, fw_ok n v) → (∀ q, A q → free q) → fw_Q D tA A s args ad n P Qc →
    W p l e R s m args below meth c H locs cells slots (MQ below Qc args s mc ms free) (F0 m pc cs (st.map (fw_v ad)))
-- a method's contract: from any heap that holds the world n, h, with these arguments, it returns, and P holds of answer and world
def fw_R (D : va_G) (tA : Nat → ClassId) (ad : Nat → Nat) (n : Nat) (h : fw_H) (sz : Nat) (P : fw_P) : Array Value → State → Outcome → State → Prop := fun _ st oc t =>
  ∃ (r : Option Value) (n' : Nat) (h' : fw_H) (ad' : Nat → Nat), oc = .returned (r.map (fw_v ad')) ∧ P r n' h' ∧ n ≤ n' ∧ (∀ k, k < n → ad' k = ad k) ∧ (∀ v, r = some v → fw_ok n' v) ∧ fw_F n' h' ∧
    va_P D tb_cl (fw_w tA ad' n' h') t.heap ∧ va_K D tb_cl (fw_ty tA) t ∧ va_D (va_A (fw_w tA ad n h) sz) (fw_w tA ad' n' h') ∧ va_F (va_A (fw_w tA ad n h) sz) st t
def fw_B (D : va_G) (tA : Nat → ClassId) (ad : Nat → Nat) (as : List Value) (n : Nat) (h : fw_H) (sz : Nat) (U : State) : Prop :=
  U.heap.size = sz ∧ fw_F n h ∧ (∀ v ∈ as, fw_ok n v) ∧ va_P D tb_cl (fw_w tA ad n h) U.heap ∧ va_K D tb_cl (fw_ty tA) U ∧ va_D (fun _ => True) (fw_w tA ad n h) ∧ fw_nw U
def fw_Sp (d j : Nat) (as : List Value) (n : Nat) (h : fw_H) (a b : Nat) (P : fw_P) : Prop :=
  ∀ (l : Launch) (D : va_G) (tA : Nat → ClassId) (ad : Nat → Nat) (sz : Nat), Met l (tb_m j).1 (fw_ws j) (fw_rm d a b) (va_Pc (as.map (fw_v ad)) (fw_B D tA ad as n h sz)) (fw_R D tA ad n h sz P) a b (va_A (fw_w tA ad n h) sz)
