-- the static picture: every object and array of a run by its place; what changes is the store v : place → slot → int
abbrev sv_S : Type := (Nat × List (Option Value)) ⊕ ((Nat × Nat) ⊕ (Nat × List Nat))
abbrev sv_T : Type := Nat → Nat → Int32
def sv_rf (k : Nat) : Option Value := some (.ref k)
def sv_in (x : Int32) : Option Value := some (.int x)
def sg_l : List sv_S := [
  .inl (0, [sv_rf 7, sv_rf 8, none]),
  .inl (1, [sv_in 16, sv_in 37, sv_rf 2, sv_rf 3, none]),
  .inr (.inl (0, 629)),
  .inr (.inl (0, 17)),
  .inl (1, [sv_in 16, sv_in 37, sv_rf 5, sv_rf 6, none]),
  .inr (.inl (0, 629)),
  .inr (.inl (0, 17)),
  .inr (.inr (2, [1, 4])),
  .inr (.inr (3, [9, 42])),
  .inl (2, [sv_in 0, sv_rf 14, sv_rf 19, sv_rf 24, sv_rf 25, sv_rf 32, sv_rf 11, sv_rf 10, sv_rf 39, sv_rf 40, sv_rf 41, none, none, none]),
  .inr (.inl (0, 48)),
  .inl (1, [sv_in 8, sv_in 49, sv_rf 12, sv_rf 13, none]),
  .inr (.inl (0, 441)),
  .inr (.inl (0, 9)),
  .inl (3, [sv_in 0, sv_rf 4, sv_rf 15, sv_rf 18, none, none, none]),
  .inl (1, [sv_in 4, sv_in 34, sv_rf 16, sv_rf 17, none]),
  .inr (.inl (0, 170)),
  .inr (.inl (0, 5)),
  .inr (.inl (0, 37)),
  .inl (4, [sv_rf 20, sv_rf 22, sv_rf 10, none, none]),
  .inl (5, [sv_rf 21, none, none, none, none, none]),
  .inr (.inl (0, 48)),
  .inl (5, [sv_rf 23, none, none, none, none, none]),
  .inr (.inl (0, 48)),
  .inl (6, [sv_rf 10, none, none, none, none, none, none]),
  .inl (7, [sv_in 0, sv_in 1, sv_rf 11, sv_rf 26, sv_rf 27, sv_rf 29, none, none, none, none]),
  .inr (.inl (0, 49)),
  .inl (8, [sv_rf 28, none, none, none, none, none, none]),
  .inr (.inl (0, 64)),
  .inl (9, [sv_rf 30, sv_rf 31, none, none, none]),
  .inr (.inl (0, 24)),
  .inr (.inl (0, 32)),
  .inl (7, [sv_in 0, sv_in 2, sv_rf 11, sv_rf 33, sv_rf 34, sv_rf 36, none, none, none, none]),
  .inr (.inl (0, 49)),
  .inl (8, [sv_rf 35, none, none, none, none, none, none]),
  .inr (.inl (0, 64)),
  .inl (9, [sv_rf 37, sv_rf 38, none, none, none]),
  .inr (.inl (0, 24)),
  .inr (.inl (0, 32)),
  .inr (.inl (0, 37)),
  .inr (.inl (0, 34)),
  .inr (.inl (0, 49)),
  .inl (2, [sv_in 1, sv_rf 47, sv_rf 52, sv_rf 57, sv_rf 58, sv_rf 65, sv_rf 44, sv_rf 43, sv_rf 72, sv_rf 73, sv_rf 74, none, none, none]),
  .inr (.inl (0, 48)),
  .inl (1, [sv_in 8, sv_in 49, sv_rf 45, sv_rf 46, none]),
  .inr (.inl (0, 441)),
  .inr (.inl (0, 9)),
  .inl (3, [sv_in 1, sv_rf 1, sv_rf 48, sv_rf 51, none, none, none]),
  .inl (1, [sv_in 4, sv_in 34, sv_rf 49, sv_rf 50, none]),
  .inr (.inl (0, 170)),
  .inr (.inl (0, 5)),
  .inr (.inl (0, 37)),
  .inl (4, [sv_rf 53, sv_rf 55, sv_rf 43, none, none]),
  .inl (5, [sv_rf 54, none, none, none, none, none]),
  .inr (.inl (0, 48)),
  .inl (5, [sv_rf 56, none, none, none, none, none]),
  .inr (.inl (0, 48)),
  .inl (6, [sv_rf 43, none, none, none, none, none, none]),
  .inl (7, [sv_in 1, sv_in 1, sv_rf 44, sv_rf 59, sv_rf 60, sv_rf 62, none, none, none, none]),
  .inr (.inl (0, 49)),
  .inl (8, [sv_rf 61, none, none, none, none, none, none]),
  .inr (.inl (0, 64)),
  .inl (9, [sv_rf 63, sv_rf 64, none, none, none]),
  .inr (.inl (0, 24)),
  .inr (.inl (0, 32)),
  .inl (7, [sv_in 1, sv_in 2, sv_rf 44, sv_rf 66, sv_rf 67, sv_rf 69, none, none, none, none]),
  .inr (.inl (0, 49)),
  .inl (8, [sv_rf 68, none, none, none, none, none, none]),
  .inr (.inl (0, 64)),
  .inl (9, [sv_rf 70, sv_rf 71, none, none, none]),
  .inr (.inl (0, 24)),
  .inr (.inl (0, 32)),
  .inr (.inl (0, 37)),
  .inr (.inl (0, 34)),
  .inr (.inl (0, 49)),
  .inl (10, [none, sv_rf 76, sv_rf 77, sv_rf 78, sv_rf 79, sv_rf 80, sv_rf 81, sv_rf 82, sv_rf 83, sv_rf 84, sv_rf 85, sv_rf 86, sv_rf 87, sv_rf 88, sv_rf 89, sv_rf 90, sv_rf 91, sv_rf 92, sv_rf 93, sv_rf 94, sv_rf 95, sv_rf 96, sv_rf 97, sv_rf 98, sv_rf 99, sv_rf 100, sv_rf 101, sv_rf 102, sv_rf 103, sv_rf 104, sv_rf 105, sv_rf 106, sv_rf 107, sv_rf 108, sv_rf 109, sv_rf 110, sv_rf 111, sv_rf 112, sv_rf 113, none, sv_rf 114, none, sv_rf 115, none, sv_rf 116, none, none, none, none, none]),
  .inr (.inl (0, 2)),
  .inr (.inl (0, 32)),
  .inr (.inl (0, 1280)),
  .inr (.inl (0, 2)),
  .inr (.inl (0, 8)),
  .inr (.inl (0, 320)),
  .inr (.inl (0, 2)),
  .inr (.inl (0, 2)),
  .inr (.inl (0, 2)),
  .inr (.inl (0, 2)),
  .inr (.inl (0, 2)),
  .inr (.inl (0, 2)),
  .inr (.inl (1, 4)),
  .inr (.inl (0, 4)),
  .inr (.inl (0, 4)),
  .inr (.inl (0, 4)),
  .inr (.inl (0, 4)),
  .inr (.inl (0, 192)),
  .inr (.inl (1, 192)),
  .inr (.inl (0, 4)),
  .inr (.inl (0, 4)),
  .inr (.inl (0, 4)),
  .inr (.inl (0, 4)),
  .inr (.inl (0, 4)),
  .inr (.inl (0, 4)),
  .inr (.inl (0, 4)),
  .inr (.inl (0, 256)),
  .inr (.inl (1, 4)),
  .inr (.inl (1, 4)),
  .inr (.inl (0, 4)),
  .inr (.inl (0, 128)),
  .inr (.inl (1, 128)),
  .inr (.inl (0, 128)),
  .inr (.inl (0, 4)),
  .inr (.inl (0, 4)),
  .inr (.inl (0, 4)),
  .inr (.inl (0, 4)),
  .inr (.inl (0, 40)),
  .inr (.inl (0, 64)),
  .inr (.inl (0, 64)),
  .inr (.inl (0, 40))]
def sv_n : Nat := sg_l.length
def sg (k : Nat) : sv_S := sg_l.getD k (.inl (1000000, []))
def sv_c (v : Nat → Int32) (s : sv_S) : fw_E := match s with
  | .inl x => .inr (x.1, x.2.mapIdx (fun i f => f.getD (.int (v i))))
  | .inr (.inl x) => .inl (x.1, x.2, .inl v)
  | .inr (.inr x) => .inl (x.1, x.2.length, .inr (.inr (.inr (.inr (fun i => x.2[i]?)))))
def sv_h (v : sv_T) : fw_H := fun k => sv_c (v k) (sg k)
def sv_up (v : sv_T) (q i : Nat) (x : Int32) : sv_T := fun q' i' => if q' = q ∧ i' = i then x else v q' i'
def sv_cp (v : sv_T) (q sp q1 dp n : Nat) : sv_T := fun q' i' => if q' = q1 ∧ dp ≤ i' ∧ i' < dp + n then v q (sp + (i' - dp)) else v q' i'
def sv_isO (s : sv_S) (ci : Nat) : Bool := match s with
  | .inl x => x.1 == ci
  | _ => false
def sv_isA (s : sv_S) (t N : Nat) : Bool := match s with
  | .inr (.inl x) => x.1 == t && x.2 == N
  | _ => false
def sv_isR (s : sv_S) (k o : Nat) : Bool := match s with
  | .inl x => match x.2[k]? with
    | some (some (.ref r)) => r == o
    | _ => false
  | _ => false
def sv_isI (s : sv_S) (k : Nat) : Bool := match s with
  | .inl x => match x.2[k]? with
    | some (some (.int _)) => true
    | _ => false
  | _ => false
def sv_dyn (s : sv_S) (k : Nat) : Bool := match s with
  | .inl x => match x.2[k]? with
    | some none => true
    | _ => false
  | _ => false
def sv_ref (s : sv_S) (k : Nat) : Nat := match s with
  | .inl x => match x.2[k]? with
    | some (some (.ref r)) => r
    | _ => 0
  | _ => 0
def sv_int (s : sv_S) (k : Nat) : Int32 := match s with
  | .inl x => match x.2[k]? with
    | some (some (.int y)) => y
    | _ => 0
  | _ => 0
def sv_len (s : sv_S) : Nat := match s with
  | .inr (.inl x) => x.2
  | .inr (.inr x) => x.2.length
  | _ => 0
def sv_inb (i : Int32) (N : Nat) : Bool := decide (0 ≤ i.toInt) && decide (i.toInt < N)
def sv_ck {α : Type} (i : Int32) (N : Nat) (X : Option α) : Option α := if 0 ≤ i.toInt ∧ i.toInt < N then X else none
def sv_cc {α : Type} (sp dp n : Int32) (N N1 : Nat) (X : Option α) : Option α := if 0 ≤ sp.toInt ∧ 0 ≤ dp.toInt ∧ 0 ≤ n.toInt ∧ sp.toInt + n.toInt ≤ N ∧ dp.toInt + n.toInt ≤ N1 then X else none
def sv_bl {α : Type} (x : Int32) (X : Option α) : Option α := if x = 0 ∨ x = 1 then X else none
def sv_ls {α : Type} (w : sv_T) (K : sv_T → α) : α := K w
def sv_le {α : Type} (x : Int32) (K : Int32 → α) : α := K x
def sv_lr {α : Type} (x : Nat) (K : Nat → α) : α := K x
def sv_to {α : Type} (r ci : Nat) (X : Option α) : Option α := if sv_isO (sg r) ci = true then X else none
def sv_bi {α : Type} (X : Option (Int32 × sv_T)) (K : Int32 → sv_T → Option α) : Option α := X.bind (fun a => K a.1 a.2)
def sv_bv {α : Type} (X : Option sv_T) (K : sv_T → Option α) : Option α := X.bind K
def sv_bo {α : Type} (X : Option (Option Nat × sv_T)) (K0 : sv_T → Option α) (K : Nat → sv_T → Option α) : Option α := X.bind (fun a => match a.1 with
  | none => K0 a.2
  | some r => K r a.2)
def sv_loop {σ α : Type} (f : σ → Option (σ ⊕ α)) : Nat → σ → Option α
  | 0, _ => none
  | n + 1, s => (f s).bind (fun o => match o with
    | .inl s' => sv_loop f n s'
    | .inr b => some b)
def sv_min (x y : Int32) : Int32 := if y < x then y else x
def sv_rem (x y : Int32) : Int32 := x - x / y * y
def sv_D (j pc : Nat) (i : Instr) (len nx : Nat) : Prop := decode (tb_m j).2.1 pc = .ok (i, len) ∧ pc + len = nx
def sv_P (P : Option Value → sv_T → Prop) : fw_P := fun r n' h' => ∃ w : sv_T, n' = sv_n ∧ h' = sv_h w ∧ P r w
def sv_Go (d j pc : Nat) (ls : List (Option Value)) (st : List Value) (v : sv_T) (P : Option Value → sv_T → Prop) : Prop := fw_Go d j pc ls st sv_n (sv_h v) 0 0 (sv_P P)
/-- the function's answer X is the code's: whatever it answers (and Z makes of it) holds -/
def sv_Ref {α : Type} (d j pc : Nat) (ls : List (Option Value)) (st : List Value) (v : sv_T) (X : Option α) (Z : α → (Option Value → sv_T → Prop) → Prop) : Prop := ∀ (P : Option Value → sv_T → Prop) (a : α), X = some a → Z a P → sv_Go d j pc ls st v P
def sv_Zi (a : Int32 × sv_T) (P : Option Value → sv_T → Prop) : Prop := P (some (.int a.1)) a.2
def sv_Zv (a : sv_T) (P : Option Value → sv_T → Prop) : Prop := P none a
def sv_Zr (a : Option Nat × sv_T) (P : Option Value → sv_T → Prop) : Prop := P (some (va_rf a.1)) a.2
theorem sv_isO_of {s : sv_S} {ci : Nat} (h : sv_isO s ci = true) : ∃ fs, s = .inl (ci, fs) := by
  unfold sv_isO at h
  split at h
  · rename_i x
    refine ⟨x.2, ?_⟩
    rw [← eq_of_beq h]
  · cases h
theorem sv_isA_of {s : sv_S} {t N : Nat} (h : sv_isA s t N = true) : s = .inr (.inl (t, N)) := by
  unfold sv_isA at h
  split at h
  · rename_i x
    obtain ⟨h1, h2⟩ := Bool.and_eq_true_iff.mp h
    rw [← eq_of_beq h1, ← eq_of_beq h2]
  · cases h
theorem sv_h_obj {v : sv_T} {q ci : Nat} {fs : List (Option Value)} (h : sg q = .inl (ci, fs)) : sv_h v q = .inr (ci, fs.mapIdx (fun i f => f.getD (.int (v q i)))) := by
  unfold sv_h
  rw [h]
  rfl
theorem sv_h_arr {v : sv_T} {q t N : Nat} (h : sg q = .inr (.inl (t, N))) : sv_h v q = .inl (t, N, .inl (v q)) := by
  unfold sv_h
  rw [h]
  rfl
theorem sv_h_arq {v : sv_T} {q t : Nat} {l : List Nat} (h : sg q = .inr (.inr (t, l))) : sv_h v q = .inl (t, l.length, .inr (.inr (.inr (.inr (fun i => l[i]?))))) := by
  unfold sv_h
  rw [h]
  rfl
theorem sv_dyn_at {ci fk : Nat} {fs : List (Option Value)} (h : sv_dyn (.inl (ci, fs)) fk = true) : fs[fk]? = some none := by
  unfold sv_dyn at h
  dsimp only at h
  split at h
  · assumption
  · cases h
theorem sv_dyn_lt {ci fk : Nat} {fs : List (Option Value)} {g : Nat → Option Value → Value} (h : sv_dyn (.inl (ci, fs)) fk = true) : fk < (fs.mapIdx g).length := by
  rw [List.length_mapIdx]
  exact (List.getElem?_eq_some_iff.mp (sv_dyn_at h)).1
theorem sv_dyn_get {ci fk : Nat} {fs : List (Option Value)} {v : Nat → Int32} (h : sv_dyn (.inl (ci, fs)) fk = true) : (fs.mapIdx (fun i f => f.getD (.int (v i))))[fk]? = some (.int (v fk)) := by
  rw [List.getElem?_mapIdx, sv_dyn_at h]
  rfl
theorem sv_isR_get {ci fk o : Nat} {fs : List (Option Value)} {v : Nat → Int32} (h : sv_isR (.inl (ci, fs)) fk o = true) : (fs.mapIdx (fun i f => f.getD (.int (v i))))[fk]? = some (.ref o) := by
  unfold sv_isR at h
  dsimp only at h
  split at h
  · rename_i r hr
    rw [List.getElem?_mapIdx, hr, ← eq_of_beq h]
    rfl
  · cases h
theorem sv_isI_get {ci fk : Nat} {fs : List (Option Value)} {v : Nat → Int32} (h : sv_isI (.inl (ci, fs)) fk = true) : (fs.mapIdx (fun i f => f.getD (.int (v i))))[fk]? = some (.int (sv_int (.inl (ci, fs)) fk)) := by
  unfold sv_isI at h
  dsimp only at h
  split at h
  · rename_i y hy
    rw [List.getElem?_mapIdx, hy]
    unfold sv_int
    dsimp only
    rw [hy]
    rfl
  · cases h
theorem sv_up_at (v : sv_T) (q i : Nat) (x : Int32) : sv_up v q i x q = upd (v q) i x := by
  funext k
  unfold sv_up upd
  by_cases e : k = i
  · rw [if_pos ⟨rfl, e⟩, if_pos e]
  · rw [if_neg (fun z => e z.2), if_neg e]
theorem sv_up_off (v : sv_T) {q q' : Nat} (i : Nat) (x : Int32) (h : q' ≠ q) : sv_up v q i x q' = v q' := by
  funext k
  unfold sv_up
  rw [if_neg (fun z => h z.1)]
theorem sv_h_set {v : sv_T} {q i : Nat} {x : Int32} {c : fw_E} (h : sv_c (upd (v q) i x) (sg q) = c) : fw_up (sv_h v) q c = sv_h (sv_up v q i x) := by
  funext k
  by_cases e : k = q
  · subst e
    rw [fw_up_s]
    unfold sv_h
    rw [sv_up_at]
    exact h.symm
  · rw [fw_up_n _ _ e]
    unfold sv_h
    rw [sv_up_off v i x e]
theorem sv_h_put {v : sv_T} {q ci fk : Nat} {x : Int32} {fs : List (Option Value)} (h : sg q = .inl (ci, fs)) (hk : sv_dyn (.inl (ci, fs)) fk = true) : fw_up (sv_h v) q (.inr (ci, (fs.mapIdx (fun i f => f.getD (.int (v q i)))).set fk (.int x))) = sv_h (sv_up v q fk x) := by
  refine sv_h_set ?_
  rw [h]
  show Sum.inr (ci, _) = Sum.inr (ci, _)
  congr 2
  have hf := sv_dyn_at hk
  apply List.ext_getElem?
  intro i
  rw [List.getElem?_mapIdx]
  by_cases e : i = fk
  · subst e
    rw [List.getElem?_set_self (by rw [List.length_mapIdx]; exact (List.getElem?_eq_some_iff.mp hf).1), hf]
    show some (Value.int (upd (v q) i x i)) = _
    unfold upd
    rw [if_pos rfl]
  · rw [List.getElem?_set_ne (Ne.symm e), List.getElem?_mapIdx]
    have e2 : upd (v q) fk x i = v q i := if_neg e
    rw [e2]
theorem sv_h_ast {v : sv_T} {q t N i : Nat} {x : Int32} (h : sg q = .inr (.inl (t, N))) : fw_up (sv_h v) q (.inl (t, N, .inl (upd (v q) i x))) = sv_h (sv_up v q i x) := by
  refine sv_h_set ?_
  rw [h]
  rfl
theorem sv_h_cp {v : sv_T} {q q1 t N sp dp n : Nat} (h : sg q1 = .inr (.inl (t, N))) : fw_up (sv_h v) q1 (.inl (t, N, .inl (va_cpy (v q) (v q1) sp dp n))) = sv_h (sv_cp v q sp q1 dp n) := by
  funext k
  by_cases e : k = q1
  · subst e
    rw [fw_up_s, sv_h_arr h]
    have e2 : sv_cp v q sp k dp n k = va_cpy (v q) (v k) sp dp n := by
      funext i
      unfold sv_cp va_cpy
      by_cases z : dp ≤ i ∧ i < dp + n
      · rw [if_pos ⟨rfl, z⟩, if_pos z]
      · rw [if_neg (fun y => z y.2), if_neg z]
    rw [e2]
  · rw [fw_up_n _ _ e]
    unfold sv_h
    have e2 : sv_cp v q sp q1 dp n k = v k := by
      funext i
      unfold sv_cp
      rw [if_neg (fun y => e y.1)]
    rw [e2]
theorem sv_nn {z : Int32} (hz : 0 ≤ z.toInt) : ¬ z < 0 ∧ z.toInt = (z.toNatClampNeg : Int) := by
  refine ⟨fun h => ?_, ?_⟩
  · have := Int32.lt_iff_toInt_lt.mp h
    have e : (0 : Int32).toInt = 0 := rfl
    omega
  · show z.toInt = ((z.toInt.toNat : Nat) : Int)
    omega
theorem sv_in_of {i : Int32} {N : Nat} (h : 0 ≤ i.toInt ∧ i.toInt < N) : vp_in i N := by
  obtain ⟨h1, h2⟩ := sv_nn h.1
  intro z
  rcases z with z | z
  · exact h1 z
  · omega
theorem sv_inb_of {i : Int32} {N : Nat} (h : sv_inb i N = true) : vp_in i N := by
  obtain ⟨h1, h2⟩ := Bool.and_eq_true_iff.mp h
  exact sv_in_of ⟨of_decide_eq_true h1, of_decide_eq_true h2⟩
theorem sv_ck_of {α : Type} {i : Int32} {N : Nat} {X : Option α} {a : α} (h : sv_ck i N X = some a) : vp_in i N ∧ X = some a := by
  unfold sv_ck at h
  split at h
  · rename_i g
    exact ⟨sv_in_of g, h⟩
  · cases h
theorem sv_bl_of {α : Type} {x : Int32} {X : Option α} {a : α} (h : sv_bl x X = some a) : (x = 0 ∨ x = 1) ∧ X = some a := by
  unfold sv_bl at h
  split at h
  · rename_i g
    exact ⟨g, h⟩
  · cases h
theorem sv_cc_of {α : Type} {sp dp n : Int32} {N N1 : Nat} {X : Option α} {a : α} (h : sv_cc sp dp n N N1 X = some a) : ¬ sp < 0 ∧ ¬ dp < 0 ∧ ¬ n < 0 ∧ sp.toNatClampNeg + n.toNatClampNeg ≤ N ∧ dp.toNatClampNeg + n.toNatClampNeg ≤ N1 ∧ X = some a := by
  unfold sv_cc at h
  split at h
  · rename_i g
    obtain ⟨g1, g2, g3, g4, g5⟩ := g
    obtain ⟨a1, a2⟩ := sv_nn g1
    obtain ⟨b1, b2⟩ := sv_nn g2
    obtain ⟨c1, c2⟩ := sv_nn g3
    exact ⟨a1, b1, c1, by omega, by omega, h⟩
  · cases h
-- links
def sv_lk (j idx fk : Nat) (T : u_T) : Prop := Cond.fieldLink (tb_m j).1.cls idx (T fk).1 (T fk).2.1 (T fk).2.2.1 ∈ tb_ws ∨ ∃ host, Cond.fieldLinkNest (tb_m j).1.cls idx (T fk).1 (T fk).2.1 (T fk).2.2.1 host ∈ tb_nl
def sv_gf (j idx ci fk : Nat) : Prop := ∃ (C : String) (T : u_T) (N : Nat), tb_cl[ci]? = some (C, T, N) ∧ (∀ w ∈ u_ws C T N, w ∈ tb_ws) ∧ fk < N ∧ sv_lk j idx fk T
def sv_pf (j idx ci fk : Nat) (ty : FieldType) : Prop := ∃ (C : String) (T : u_T) (N : Nat) (ty0 : Nat → FieldType), tb_cl[ci]? = some (C, T, N) ∧ (∀ w ∈ u_ws C T N, w ∈ tb_ws) ∧ fk < N ∧ sv_lk j idx fk T ∧ (∀ k, k < N → parseFieldDescriptor (T k).2.2.1 = some (ty0 k)) ∧ (∀ a, a < N → ∀ b, b < N → a ≠ b → (T a).2.1 ≠ (T b).2.1) ∧ (T fk).2.2.2 = false ∧ parseFieldDescriptor (T fk).2.2.1 = some ty
section SW
variable {d j pc : Nat} {ls : List (Option Value)} {st : List Value} {n : Nat} {h : fw_H} {a b : Nat} {P : fw_P} {v : sv_T}
theorem sv_gf.get {idx ci fk o : Nat} {fs : List Value} {u : Value} (hg : sv_gf j idx ci fk) (ho : h o = .inr (ci, fs)) (hv : fs[fk]? = some u) (hd : decode (tb_m j).2.1 pc = .ok (.getfield idx, 3)) (k : fw_Go d j (pc + 3) ls (u :: st) n h a b P) : fw_Go d j pc ls (.ref o :: st) n h a b P := by
  obtain ⟨C, T, N, h1, h2, h3, h4 | ⟨host, h4⟩⟩ := hg
  · exact fw_get h1 h2 h3 h4 rfl ho hv hd k
  · exact fw_getN h1 h2 h3 h4 rfl ho hv hd k
theorem sv_pf.put {idx ci fk o : Nat} {fs : List Value} {u : Value} {ty : FieldType} (hg : sv_pf j idx ci fk ty) (ho : h o = .inr (ci, fs)) (hf : fk < fs.length) (hn : ∀ ad, narrow ty (fw_v ad u) = fw_v ad u) (hfit : ∀ ad, fits ty (fw_v ad u) = true) (hd : decode (tb_m j).2.1 pc = .ok (.putfield idx, 3)) (k : fw_Go d j (pc + 3) ls st n (fw_up h o (.inr (ci, fs.set fk u))) a b P) : fw_Go d j pc ls (u :: .ref o :: st) n h a b P := by
  obtain ⟨C, T, N, ty0, h1, h2, h3, h4 | ⟨host, h4⟩, h5, h6, h7, h8⟩ := hg
  · exact fw_put h1 h2 h3 h4 rfl h5 h6 h7 h8 hn hfit ho hf hd k
  · exact fw_putN h1 h2 h3 h4 rfl h5 h6 h7 h8 hn hfit ho hf hd k
def sv_cn (ci : Nat) (C : String) : Prop := ∃ q : vw_C, tb_cl[ci]? = some q ∧ q.1 = C
def sv_mk (j idx j' : Nat) : Prop := Cond.methodLink (tb_m j).1.cls idx (tb_m j').1 ∈ tb_ws
def sv_wV (j idx j' nA : Nat) : Prop := fw_cal j' nA ∧ sv_mk j idx j' ∧ Cond.instanceMethod (tb_m j').1 ∈ tb_ws ∧ Cond.selects (tb_m j').1.cls (tb_m j').1 (tb_m j').1 ∈ tb_ws
def sv_wI (j idx j' nA : Nat) : Prop := fw_cal j' nA ∧ sv_mk j idx j' ∧ Cond.instanceMethod (tb_m j').1 ∈ tb_ws ∧ (tb_m j').1.name = "<init>" ∧ (tb_m j').2.2.2 = none
def sv_wS (j idx j' nA : Nat) : Prop := fw_cal j' nA ∧ sv_mk j idx j' ∧ Cond.static (tb_m j').1 ∈ tb_ws
theorem sv_wV.callV {idx j' nA o ci : Nat} {as stk : List Value} {P' : fw_P} (hw : sv_wV j idx j' nA) (hq : sv_isO (sg o) ci = true) (hci : sv_cn ci (tb_m j').1.cls) (hn : as.length = nA) (hst : st.length ≤ 8) (hstk : stk = as.reverse ++ .ref o :: st) (hd : decode (tb_m j).2.1 pc = .ok (.invokevirtual idx, 3))
    (hS : fw_Sp d j' (.ref o :: as) sv_n (sv_h v) 0 0 P') (k : ∀ r n' h', P' r n' h' → fw_Go (d + 1) j (pc + 3) ls (r.toList ++ st) n' h' 0 0 P) : fw_Go (d + 1) j pc ls stk sv_n (sv_h v) 0 0 P := by
  obtain ⟨fs, hs⟩ := sv_isO_of hq
  obtain ⟨q, hc, he⟩ := hci
  obtain ⟨h1, h2, h3, h4⟩ := hw
  exact fw_callV h1 h2 h3 h4 (sv_h_obj hs) hc he hn hst hstk hd hS k
theorem sv_wI.callI {idx j' nA o a' b' : Nat} {as stk : List Value} {P' : fw_P} (hw : sv_wI j idx j' nA) (hn : as.length = nA) (hst : st.length ≤ 8) (hstk : stk = as.reverse ++ .ref o :: st) (hd : decode (tb_m j).2.1 pc = .ok (.invokespecial idx, 3))
    (hS : fw_Sp d j' (.ref o :: as) n h a' b' P') (k : ∀ r n' h', P' r n' h' → fw_Go (d + 1) j (pc + 3) ls (r.toList ++ st) n' h' a b P) : fw_Go (d + 1) j pc ls stk n h (a + a') (b + b') P := by
  obtain ⟨h1, h2, h3, h4, h5⟩ := hw
  exact fw_callI h1 h2 h3 h4 h5 hn hst hstk hd hS k
theorem sv_wS.callS {idx j' nA a' b' : Nat} {as stk : List Value} {P' : fw_P} (hw : sv_wS j idx j' nA) (hn : as.length = nA) (hst : st.length ≤ 8) (hstk : stk = as.reverse ++ st) (hd : decode (tb_m j).2.1 pc = .ok (.invokestatic idx, 3))
    (hS : fw_Sp d j' as n h a' b' P') (k : ∀ r n' h', P' r n' h' → fw_Go (d + 1) j (pc + 3) ls (r.toList ++ st) n' h' a b P) : fw_Go (d + 1) j pc ls stk n h (a + a') (b + b') P := by
  obtain ⟨h1, h2, h3⟩ := hw
  exact fw_callS h1 h2 h3 hn hst hstk hd hS k
def sv_wcp (j idx : Nat) : Prop := Cond.methodLink (tb_m j).1.cls idx arraycopyName ∈ tb_ws ∧ Cond.native arraycopyName ∈ tb_ws ∧ Cond.static arraycopyName ∈ tb_ws ∧ Cond.initialized "java/lang/System" ∈ tb_ws
def sv_wmn (j idx : Nat) : Prop := Cond.methodLink (tb_m j).1.cls idx Lib.Math.min.name ∈ tb_ws ∧ Cond.static Lib.Math.min.name ∈ tb_ws ∧ Cond.initialized "java/lang/Math" ∈ tb_ws ∧ Cond.code Lib.Math.min.name Lib.Math.min.code 2 (some .int) ∈ tb_ws
end SW
