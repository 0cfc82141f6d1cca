section SV
variable {α : Type} {d j pc nx : Nat} {ls : List (Option Value)} {st : List Value} {v : sv_T} {X Y : Option α} {Z : α → (Option Value → sv_T → Prop) → Prop}
theorem sv_none : sv_Ref d j pc ls st v (none : Option α) Z := fun P a h => by cases h
theorem sv_lsR {w : sv_T} {K : sv_T → Option α} (k : ∀ w, sv_Ref d j pc ls st w (K w) Z) : sv_Ref d j pc ls st w (sv_ls w K) Z := k w
theorem sv_leR {x : Int32} {K : Int32 → Option α} (k : ∀ x, sv_Ref d j pc ls (.int x :: st) v (K x) Z) : sv_Ref d j pc ls (.int x :: st) v (sv_le x K) Z := k x
theorem sv_kill {ls' : List (Option Value)} (hk : fw_le ls' ls) (k : sv_Ref d j pc ls' st v X Z) : sv_Ref d j pc ls st v X Z := fun P a g1 g2 => fw_Go.kill hk (k P a g1 g2)
theorem sv_if {c : Prop} {I : Decidable c} (k1 : c → sv_Ref d j pc ls st v X Z) (k2 : ¬ c → sv_Ref d j pc ls st v Y Z) : sv_Ref d j pc ls st v (@ite _ c I X Y) Z := by
  by_cases h : c
  · rw [if_pos h]; exact k1 h
  · rw [if_neg h]; exact k2 h
theorem sv_toR {r ci : Nat} (k : sv_isO (sg r) ci = true → sv_Ref d j pc ls st v X Z) : sv_Ref d j pc ls st v (sv_to r ci X) Z := by
  unfold sv_to
  exact sv_if k (fun _ => sv_none)
theorem sv_iconst {i : Int} {x : Int32} (hd : sv_D j pc (.iconst i) 1 nx) (hv : Int32.ofInt i = x) (k : sv_Ref (d) j (nx) (ls) (.int x :: st) (v) (X) Z) : sv_Ref (d) j (pc) (ls) (st) (v) (X) Z := by
  obtain ⟨hd, rfl⟩ := hd
  exact fun P a g1 g2 => fw_iconst hd hv (k P a g1 g2)
theorem sv_bipush {i : Int} {x : Int32} (hd : sv_D j pc (.bipush i) 2 nx) (hv : (Int8.ofInt i).toInt32 = x) (k : sv_Ref (d) j (nx) (ls) (.int x :: st) (v) (X) Z) : sv_Ref (d) j (pc) (ls) (st) (v) (X) Z := by
  obtain ⟨hd, rfl⟩ := hd
  exact fun P a g1 g2 => fw_bipush hd hv (k P a g1 g2)
theorem sv_sipush {i : Int} {x : Int32} (hd : sv_D j pc (.sipush i) 3 nx) (hv : (Int16.ofInt i).toInt32 = x) (k : sv_Ref (d) j (nx) (ls) (.int x :: st) (v) (X) Z) : sv_Ref (d) j (pc) (ls) (st) (v) (X) Z := by
  obtain ⟨hd, rfl⟩ := hd
  exact fun P a g1 g2 => fw_sipush hd hv (k P a g1 g2)
theorem sv_null  (hd : sv_D j pc (.aconst_null) 1 nx)  (k : sv_Ref (d) j (nx) (ls) (.null :: st) (v) (X) Z) : sv_Ref (d) j (pc) (ls) (st) (v) (X) Z := by
  obtain ⟨hd, rfl⟩ := hd
  exact fun P a g1 g2 => fw_null hd (k P a g1 g2)
theorem sv_ldc {i : Nat} {x : Int32} (hd : sv_D j pc (.ldc i) 2 nx) (hw : Cond.constant (tb_m j).1.cls i x ∈ tb_ws) (k : sv_Ref (d) j (nx) (ls) (.int x :: st) (v) (X) Z) : sv_Ref (d) j (pc) (ls) (st) (v) (X) Z := by
  obtain ⟨hd, rfl⟩ := hd
  exact fun P a g1 g2 => fw_ldc hw hd (k P a g1 g2)
theorem sv_ldcw {i : Nat} {x : Int32} (hd : sv_D j pc (.ldc_w i) 3 nx) (hw : Cond.constant (tb_m j).1.cls i x ∈ tb_ws) (k : sv_Ref (d) j (nx) (ls) (.int x :: st) (v) (X) Z) : sv_Ref (d) j (pc) (ls) (st) (v) (X) Z := by
  obtain ⟨hd, rfl⟩ := hd
  exact fun P a g1 g2 => fw_ldcw hw hd (k P a g1 g2)
theorem sv_iload_n {i : Fin 4} {x : Int32} (hd : sv_D j pc (.iload_n i) 1 nx) (hx : ls[(i : Nat)]? = some (some (.int x))) (k : sv_Ref (d) j (nx) (ls) (.int x :: st) (v) (X) Z) : sv_Ref (d) j (pc) (ls) (st) (v) (X) Z := by
  obtain ⟨hd, rfl⟩ := hd
  exact fun P a g1 g2 => fw_iload_n hd hx (k P a g1 g2)
theorem sv_iload {i : Nat} {x : Int32} (hd : sv_D j pc (.iload i) 2 nx) (hx : ls[(i : Nat)]? = some (some (.int x))) (k : sv_Ref (d) j (nx) (ls) (.int x :: st) (v) (X) Z) : sv_Ref (d) j (pc) (ls) (st) (v) (X) Z := by
  obtain ⟨hd, rfl⟩ := hd
  exact fun P a g1 g2 => fw_iload hd hx (k P a g1 g2)
theorem sv_aload_n {i : Fin 4} {o : Nat} (hd : sv_D j pc (.aload_n i) 1 nx) (hx : ls[(i : Nat)]? = some (some (.ref o))) (k : sv_Ref (d) j (nx) (ls) (.ref o :: st) (v) (X) Z) : sv_Ref (d) j (pc) (ls) (st) (v) (X) Z := by
  obtain ⟨hd, rfl⟩ := hd
  exact fun P a g1 g2 => fw_aload_n hd hx (k P a g1 g2)
theorem sv_aload_nN {i : Fin 4} (hd : sv_D j pc (.aload_n i) 1 nx) (hx : ls[(i : Nat)]? = some (some .null)) (k : sv_Ref (d) j (nx) (ls) (.null :: st) (v) (X) Z) : sv_Ref (d) j (pc) (ls) (st) (v) (X) Z := by
  obtain ⟨hd, rfl⟩ := hd
  exact fun P a g1 g2 => fw_aload_nN hd hx (k P a g1 g2)
theorem sv_aload {i : Nat} {o : Nat} (hd : sv_D j pc (.aload i) 2 nx) (hx : ls[(i : Nat)]? = some (some (.ref o))) (k : sv_Ref (d) j (nx) (ls) (.ref o :: st) (v) (X) Z) : sv_Ref (d) j (pc) (ls) (st) (v) (X) Z := by
  obtain ⟨hd, rfl⟩ := hd
  exact fun P a g1 g2 => fw_aload hd hx (k P a g1 g2)
theorem sv_aloadN {i : Nat} (hd : sv_D j pc (.aload i) 2 nx) (hx : ls[(i : Nat)]? = some (some .null)) (k : sv_Ref (d) j (nx) (ls) (.null :: st) (v) (X) Z) : sv_Ref (d) j (pc) (ls) (st) (v) (X) Z := by
  obtain ⟨hd, rfl⟩ := hd
  exact fun P a g1 g2 => fw_aloadN hd hx (k P a g1 g2)
theorem sv_istore_n {i : Fin 4} {x : Int32} {ls' : List (Option Value)} (hd : sv_D j pc (.istore_n i) 1 nx) (hi : (i : Nat) < (tb_m j).2.2.1) (hl : ls.set (i : Nat) (some (.int x)) = ls') (k : sv_Ref (d) j (nx) (ls') (st) (v) (X) Z) : sv_Ref (d) j (pc) (ls) (.int x :: st) (v) (X) Z := by
  obtain ⟨hd, rfl⟩ := hd
  subst hl
  exact fun P a g1 g2 => fw_istore_n hd hi (k P a g1 g2)
theorem sv_istore {i : Nat} {x : Int32} {ls' : List (Option Value)} (hd : sv_D j pc (.istore i) 2 nx) (hi : (i : Nat) < (tb_m j).2.2.1) (hl : ls.set (i : Nat) (some (.int x)) = ls') (k : sv_Ref (d) j (nx) (ls') (st) (v) (X) Z) : sv_Ref (d) j (pc) (ls) (.int x :: st) (v) (X) Z := by
  obtain ⟨hd, rfl⟩ := hd
  subst hl
  exact fun P a g1 g2 => fw_istore hd hi (k P a g1 g2)
theorem sv_astore_n {i : Fin 4} {x : Nat} {ls' : List (Option Value)} (hd : sv_D j pc (.astore_n i) 1 nx) (hi : (i : Nat) < (tb_m j).2.2.1) (hl : ls.set (i : Nat) (some (.ref x)) = ls') (k : sv_Ref (d) j (nx) (ls') (st) (v) (X) Z) : sv_Ref (d) j (pc) (ls) (.ref x :: st) (v) (X) Z := by
  obtain ⟨hd, rfl⟩ := hd
  subst hl
  exact fun P a g1 g2 => fw_astore_n hd hi (k P a g1 g2)
theorem sv_astore {i : Nat} {x : Nat} {ls' : List (Option Value)} (hd : sv_D j pc (.astore i) 2 nx) (hi : (i : Nat) < (tb_m j).2.2.1) (hl : ls.set (i : Nat) (some (.ref x)) = ls') (k : sv_Ref (d) j (nx) (ls') (st) (v) (X) Z) : sv_Ref (d) j (pc) (ls) (.ref x :: st) (v) (X) Z := by
  obtain ⟨hd, rfl⟩ := hd
  subst hl
  exact fun P a g1 g2 => fw_astore hd hi (k P a g1 g2)
theorem sv_astore_nN {i : Fin 4} {ls' : List (Option Value)} (hd : sv_D j pc (.astore_n i) 1 nx) (hi : (i : Nat) < (tb_m j).2.2.1) (hl : ls.set (i : Nat) (some .null) = ls') (k : sv_Ref (d) j (nx) (ls') (st) (v) (X) Z) : sv_Ref (d) j (pc) (ls) (.null :: st) (v) (X) Z := by
  obtain ⟨hd, rfl⟩ := hd
  subst hl
  exact fun P a g1 g2 => fw_astore_nN hd hi (k P a g1 g2)
theorem sv_astoreN {i : Nat} {ls' : List (Option Value)} (hd : sv_D j pc (.astore i) 2 nx) (hi : (i : Nat) < (tb_m j).2.2.1) (hl : ls.set (i : Nat) (some .null) = ls') (k : sv_Ref (d) j (nx) (ls') (st) (v) (X) Z) : sv_Ref (d) j (pc) (ls) (.null :: st) (v) (X) Z := by
  obtain ⟨hd, rfl⟩ := hd
  subst hl
  exact fun P a g1 g2 => fw_astoreN hd hi (k P a g1 g2)
theorem sv_iinc {i : Nat} {z : Int} {x y : Int32} {K : Int32 → Option α} {ls' : Int32 → List (Option Value)} (hd : sv_D j pc (.iinc i z) 3 nx) (hx : ls[i]? = some (some (.int x))) (hz : Int32.ofInt z = y) (hl : ∀ u, ls.set i (some (.int u)) = ls' u) (k : ∀ u : Int32, sv_Ref (d) j (nx) (ls' u) (st) (v) (K u) Z) : sv_Ref (d) j (pc) (ls) (st) (v) (sv_le (x + y) K) Z := by
  obtain ⟨hd, rfl⟩ := hd
  subst hz
  exact fun P a g1 g2 => fw_iinc hd hx rfl (by rw [hl]; exact k _ P a g1 g2)
theorem sv_iadd {x y : Int32} (hd : sv_D j pc (.iadd) 1 nx)  (k : sv_Ref (d) j (nx) (ls) (.int (x + y) :: st) (v) (X) Z) : sv_Ref (d) j (pc) (ls) (.int y :: .int x :: st) (v) (X) Z := by
  obtain ⟨hd, rfl⟩ := hd
  exact fun P a g1 g2 => fw_iadd hd (k P a g1 g2)
theorem sv_isub {x y : Int32} (hd : sv_D j pc (.isub) 1 nx)  (k : sv_Ref (d) j (nx) (ls) (.int (x - y) :: st) (v) (X) Z) : sv_Ref (d) j (pc) (ls) (.int y :: .int x :: st) (v) (X) Z := by
  obtain ⟨hd, rfl⟩ := hd
  exact fun P a g1 g2 => fw_isub hd (k P a g1 g2)
theorem sv_imul {x y : Int32} (hd : sv_D j pc (.imul) 1 nx)  (k : sv_Ref (d) j (nx) (ls) (.int (x * y) :: st) (v) (X) Z) : sv_Ref (d) j (pc) (ls) (.int y :: .int x :: st) (v) (X) Z := by
  obtain ⟨hd, rfl⟩ := hd
  exact fun P a g1 g2 => fw_imul hd (k P a g1 g2)
theorem sv_iand {x y : Int32} (hd : sv_D j pc (.iand) 1 nx)  (k : sv_Ref (d) j (nx) (ls) (.int (x &&& y) :: st) (v) (X) Z) : sv_Ref (d) j (pc) (ls) (.int y :: .int x :: st) (v) (X) Z := by
  obtain ⟨hd, rfl⟩ := hd
  exact fun P a g1 g2 => fw_iand hd (k P a g1 g2)
theorem sv_ior {x y : Int32} (hd : sv_D j pc (.ior) 1 nx)  (k : sv_Ref (d) j (nx) (ls) (.int (x ||| y) :: st) (v) (X) Z) : sv_Ref (d) j (pc) (ls) (.int y :: .int x :: st) (v) (X) Z := by
  obtain ⟨hd, rfl⟩ := hd
  exact fun P a g1 g2 => fw_ior hd (k P a g1 g2)
theorem sv_ixor {x y : Int32} (hd : sv_D j pc (.ixor) 1 nx)  (k : sv_Ref (d) j (nx) (ls) (.int (x ^^^ y) :: st) (v) (X) Z) : sv_Ref (d) j (pc) (ls) (.int y :: .int x :: st) (v) (X) Z := by
  obtain ⟨hd, rfl⟩ := hd
  exact fun P a g1 g2 => fw_ixor hd (k P a g1 g2)
theorem sv_ishl {x y z : Int32} (hd : sv_D j pc (.ishl) 1 nx) (hz : y &&& 31 = z) (k : sv_Ref (d) j (nx) (ls) (.int (x <<< z) :: st) (v) (X) Z) : sv_Ref (d) j (pc) (ls) (.int y :: .int x :: st) (v) (X) Z := by
  obtain ⟨hd, rfl⟩ := hd
  exact fun P a g1 g2 => by subst hz; exact fw_ishl hd (k P a g1 g2)
theorem sv_ishr {x y z : Int32} (hd : sv_D j pc (.ishr) 1 nx) (hz : y &&& 31 = z) (k : sv_Ref (d) j (nx) (ls) (.int (x >>> z) :: st) (v) (X) Z) : sv_Ref (d) j (pc) (ls) (.int y :: .int x :: st) (v) (X) Z := by
  obtain ⟨hd, rfl⟩ := hd
  exact fun P a g1 g2 => by subst hz; exact fw_ishr hd (k P a g1 g2)
theorem sv_idiv {x y : Int32} (hd : sv_D j pc (.idiv) 1 nx) (hne : ¬ y = 0) (k : sv_Ref (d) j (nx) (ls) (.int (x / y) :: st) (v) (X) Z) : sv_Ref (d) j (pc) (ls) (.int y :: .int x :: st) (v) (X) Z := by
  obtain ⟨hd, rfl⟩ := hd
  exact fun P a g1 g2 => fw_idiv hd hne (k P a g1 g2)
theorem sv_irem {x y : Int32} (hd : sv_D j pc (.irem) 1 nx) (hne : ¬ y = 0) (k : sv_Ref (d) j (nx) (ls) (.int (sv_rem x y) :: st) (v) (X) Z) : sv_Ref (d) j (pc) (ls) (.int y :: .int x :: st) (v) (X) Z := by
  obtain ⟨hd, rfl⟩ := hd
  exact fun P a g1 g2 => fw_irem hd hne (k P a g1 g2)
theorem sv_dup {u : Value} (hd : sv_D j pc (.dup) 1 nx)  (k : sv_Ref (d) j (nx) (ls) (u :: u :: st) (v) (X) Z) : sv_Ref (d) j (pc) (ls) (u :: st) (v) (X) Z := by
  obtain ⟨hd, rfl⟩ := hd
  exact fun P a g1 g2 => fw_dup hd (k P a g1 g2)
theorem sv_pop {u : Value} (hd : sv_D j pc (.pop) 1 nx)  (k : sv_Ref (d) j (nx) (ls) (st) (v) (X) Z) : sv_Ref (d) j (pc) (ls) (u :: st) (v) (X) Z := by
  obtain ⟨hd, rfl⟩ := hd
  exact fun P a g1 g2 => fw_pop hd (k P a g1 g2)
theorem sv_dup_x1 {u t : Value} (hd : sv_D j pc (.dup_x1) 1 nx)  (k : sv_Ref (d) j (nx) (ls) (u :: t :: u :: st) (v) (X) Z) : sv_Ref (d) j (pc) (ls) (u :: t :: st) (v) (X) Z := by
  obtain ⟨hd, rfl⟩ := hd
  exact fun P a g1 g2 => fw_dup_x1 hd (k P a g1 g2)
theorem sv_dup2 {u t : Value} (hd : sv_D j pc (.dup2) 1 nx)  (k : sv_Ref (d) j (nx) (ls) (u :: t :: u :: t :: st) (v) (X) Z) : sv_Ref (d) j (pc) (ls) (u :: t :: st) (v) (X) Z := by
  obtain ⟨hd, rfl⟩ := hd
  exact fun P a g1 g2 => fw_dup2 hd (k P a g1 g2)
theorem sv_if_eq {x : Int32} {off : Int} (tg : Nat) (hd : sv_D j pc (.ifCond .eq off) 3 nx) (ht : (pc : Int) + off = (tg : Int)) (kt : sv_Ref (d) j (tg) (ls) (st) (v) (X) Z) (kf : sv_Ref (d) j (nx) (ls) (st) (v) (Y) Z) : sv_Ref (d) j (pc) (ls) (.int x :: st) (v) (if x = 0 then X else Y) Z := by
  obtain ⟨hd, rfl⟩ := hd
  intro P a g1 g2
  by_cases hc : x = 0
  · rw [if_pos hc] at g1
    exact fw_if_eq tg hd ht (fun q => kt P a g1 g2) (fun q => absurd hc q)
  · rw [if_neg hc] at g1
    exact fw_if_eq tg hd ht (fun q => absurd q hc) (fun q => kf P a g1 g2)
theorem sv_icmp_eq {x y : Int32} {off : Int} (tg : Nat) (hd : sv_D j pc (.if_icmp .eq off) 3 nx) (ht : (pc : Int) + off = (tg : Int)) (kt : sv_Ref (d) j (tg) (ls) (st) (v) (X) Z) (kf : sv_Ref (d) j (nx) (ls) (st) (v) (Y) Z) : sv_Ref (d) j (pc) (ls) (.int y :: .int x :: st) (v) (if x = y then X else Y) Z := by
  obtain ⟨hd, rfl⟩ := hd
  intro P a g1 g2
  by_cases hc : x = y
  · rw [if_pos hc] at g1
    exact fw_icmp_eq tg hd ht (fun q => kt P a g1 g2) (fun q => absurd hc q)
  · rw [if_neg hc] at g1
    exact fw_icmp_eq tg hd ht (fun q => absurd q hc) (fun q => kf P a g1 g2)
theorem sv_if_ne {x : Int32} {off : Int} (tg : Nat) (hd : sv_D j pc (.ifCond .ne off) 3 nx) (ht : (pc : Int) + off = (tg : Int)) (kt : sv_Ref (d) j (tg) (ls) (st) (v) (X) Z) (kf : sv_Ref (d) j (nx) (ls) (st) (v) (Y) Z) : sv_Ref (d) j (pc) (ls) (.int x :: st) (v) (if x = 0 then Y else X) Z := by
  obtain ⟨hd, rfl⟩ := hd
  intro P a g1 g2
  by_cases hc : x = 0
  · rw [if_pos hc] at g1
    exact fw_if_ne tg hd ht (fun q => absurd hc (by first | exact q | exact Int32.not_lt.mpr q | exact Int32.not_le.mpr q)) (fun q => kf P a g1 g2)
  · rw [if_neg hc] at g1
    exact fw_if_ne tg hd ht (fun q => kt P a g1 g2) (fun q => absurd (by first | exact q | exact Int32.not_le.mp q | exact Int32.not_lt.mp q) hc)
theorem sv_icmp_ne {x y : Int32} {off : Int} (tg : Nat) (hd : sv_D j pc (.if_icmp .ne off) 3 nx) (ht : (pc : Int) + off = (tg : Int)) (kt : sv_Ref (d) j (tg) (ls) (st) (v) (X) Z) (kf : sv_Ref (d) j (nx) (ls) (st) (v) (Y) Z) : sv_Ref (d) j (pc) (ls) (.int y :: .int x :: st) (v) (if x = y then Y else X) Z := by
  obtain ⟨hd, rfl⟩ := hd
  intro P a g1 g2
  by_cases hc : x = y
  · rw [if_pos hc] at g1
    exact fw_icmp_ne tg hd ht (fun q => absurd hc (by first | exact q | exact Int32.not_lt.mpr q | exact Int32.not_le.mpr q)) (fun q => kf P a g1 g2)
  · rw [if_neg hc] at g1
    exact fw_icmp_ne tg hd ht (fun q => kt P a g1 g2) (fun q => absurd (by first | exact q | exact Int32.not_le.mp q | exact Int32.not_lt.mp q) hc)
theorem sv_if_lt {x : Int32} {off : Int} (tg : Nat) (hd : sv_D j pc (.ifCond .lt off) 3 nx) (ht : (pc : Int) + off = (tg : Int)) (kt : sv_Ref (d) j (tg) (ls) (st) (v) (X) Z) (kf : sv_Ref (d) j (nx) (ls) (st) (v) (Y) Z) : sv_Ref (d) j (pc) (ls) (.int x :: st) (v) (if x < 0 then X else Y) Z := by
  obtain ⟨hd, rfl⟩ := hd
  intro P a g1 g2
  by_cases hc : x < 0
  · rw [if_pos hc] at g1
    exact fw_if_lt tg hd ht (fun q => kt P a g1 g2) (fun q => absurd hc q)
  · rw [if_neg hc] at g1
    exact fw_if_lt tg hd ht (fun q => absurd q hc) (fun q => kf P a g1 g2)
theorem sv_icmp_lt {x y : Int32} {off : Int} (tg : Nat) (hd : sv_D j pc (.if_icmp .lt off) 3 nx) (ht : (pc : Int) + off = (tg : Int)) (kt : sv_Ref (d) j (tg) (ls) (st) (v) (X) Z) (kf : sv_Ref (d) j (nx) (ls) (st) (v) (Y) Z) : sv_Ref (d) j (pc) (ls) (.int y :: .int x :: st) (v) (if x < y then X else Y) Z := by
  obtain ⟨hd, rfl⟩ := hd
  intro P a g1 g2
  by_cases hc : x < y
  · rw [if_pos hc] at g1
    exact fw_icmp_lt tg hd ht (fun q => kt P a g1 g2) (fun q => absurd hc q)
  · rw [if_neg hc] at g1
    exact fw_icmp_lt tg hd ht (fun q => absurd q hc) (fun q => kf P a g1 g2)
theorem sv_if_ge {x : Int32} {off : Int} (tg : Nat) (hd : sv_D j pc (.ifCond .ge off) 3 nx) (ht : (pc : Int) + off = (tg : Int)) (kt : sv_Ref (d) j (tg) (ls) (st) (v) (X) Z) (kf : sv_Ref (d) j (nx) (ls) (st) (v) (Y) Z) : sv_Ref (d) j (pc) (ls) (.int x :: st) (v) (if x < 0 then Y else X) Z := by
  obtain ⟨hd, rfl⟩ := hd
  intro P a g1 g2
  by_cases hc : x < 0
  · rw [if_pos hc] at g1
    exact fw_if_ge tg hd ht (fun q => absurd hc (by first | exact q | exact Int32.not_lt.mpr q | exact Int32.not_le.mpr q)) (fun q => kf P a g1 g2)
  · rw [if_neg hc] at g1
    exact fw_if_ge tg hd ht (fun q => kt P a g1 g2) (fun q => absurd (by first | exact q | exact Int32.not_le.mp q | exact Int32.not_lt.mp q) hc)
theorem sv_icmp_ge {x y : Int32} {off : Int} (tg : Nat) (hd : sv_D j pc (.if_icmp .ge off) 3 nx) (ht : (pc : Int) + off = (tg : Int)) (kt : sv_Ref (d) j (tg) (ls) (st) (v) (X) Z) (kf : sv_Ref (d) j (nx) (ls) (st) (v) (Y) Z) : sv_Ref (d) j (pc) (ls) (.int y :: .int x :: st) (v) (if x < y then Y else X) Z := by
  obtain ⟨hd, rfl⟩ := hd
  intro P a g1 g2
  by_cases hc : x < y
  · rw [if_pos hc] at g1
    exact fw_icmp_ge tg hd ht (fun q => absurd hc (by first | exact q | exact Int32.not_lt.mpr q | exact Int32.not_le.mpr q)) (fun q => kf P a g1 g2)
  · rw [if_neg hc] at g1
    exact fw_icmp_ge tg hd ht (fun q => kt P a g1 g2) (fun q => absurd (by first | exact q | exact Int32.not_le.mp q | exact Int32.not_lt.mp q) hc)
theorem sv_if_gt {x : Int32} {off : Int} (tg : Nat) (hd : sv_D j pc (.ifCond .gt off) 3 nx) (ht : (pc : Int) + off = (tg : Int)) (kt : sv_Ref (d) j (tg) (ls) (st) (v) (X) Z) (kf : sv_Ref (d) j (nx) (ls) (st) (v) (Y) Z) : sv_Ref (d) j (pc) (ls) (.int x :: st) (v) (if x ≤ 0 then Y else X) Z := by
  obtain ⟨hd, rfl⟩ := hd
  intro P a g1 g2
  by_cases hc : x ≤ 0
  · rw [if_pos hc] at g1
    exact fw_if_gt tg hd ht (fun q => absurd hc (by first | exact q | exact Int32.not_lt.mpr q | exact Int32.not_le.mpr q)) (fun q => kf P a g1 g2)
  · rw [if_neg hc] at g1
    exact fw_if_gt tg hd ht (fun q => kt P a g1 g2) (fun q => absurd (by first | exact q | exact Int32.not_le.mp q | exact Int32.not_lt.mp q) hc)
theorem sv_icmp_gt {x y : Int32} {off : Int} (tg : Nat) (hd : sv_D j pc (.if_icmp .gt off) 3 nx) (ht : (pc : Int) + off = (tg : Int)) (kt : sv_Ref (d) j (tg) (ls) (st) (v) (X) Z) (kf : sv_Ref (d) j (nx) (ls) (st) (v) (Y) Z) : sv_Ref (d) j (pc) (ls) (.int y :: .int x :: st) (v) (if x ≤ y then Y else X) Z := by
  obtain ⟨hd, rfl⟩ := hd
  intro P a g1 g2
  by_cases hc : x ≤ y
  · rw [if_pos hc] at g1
    exact fw_icmp_gt tg hd ht (fun q => absurd hc (by first | exact q | exact Int32.not_lt.mpr q | exact Int32.not_le.mpr q)) (fun q => kf P a g1 g2)
  · rw [if_neg hc] at g1
    exact fw_icmp_gt tg hd ht (fun q => kt P a g1 g2) (fun q => absurd (by first | exact q | exact Int32.not_le.mp q | exact Int32.not_lt.mp q) hc)
theorem sv_if_le {x : Int32} {off : Int} (tg : Nat) (hd : sv_D j pc (.ifCond .le off) 3 nx) (ht : (pc : Int) + off = (tg : Int)) (kt : sv_Ref (d) j (tg) (ls) (st) (v) (X) Z) (kf : sv_Ref (d) j (nx) (ls) (st) (v) (Y) Z) : sv_Ref (d) j (pc) (ls) (.int x :: st) (v) (if 0 < x then Y else X) Z := by
  obtain ⟨hd, rfl⟩ := hd
  intro P a g1 g2
  by_cases hc : 0 < x
  · rw [if_pos hc] at g1
    exact fw_if_le tg hd ht (fun q => absurd hc (by first | exact q | exact Int32.not_lt.mpr q | exact Int32.not_le.mpr q)) (fun q => kf P a g1 g2)
  · rw [if_neg hc] at g1
    exact fw_if_le tg hd ht (fun q => kt P a g1 g2) (fun q => absurd (by first | exact q | exact Int32.not_le.mp q | exact Int32.not_lt.mp q) hc)
theorem sv_icmp_le {x y : Int32} {off : Int} (tg : Nat) (hd : sv_D j pc (.if_icmp .le off) 3 nx) (ht : (pc : Int) + off = (tg : Int)) (kt : sv_Ref (d) j (tg) (ls) (st) (v) (X) Z) (kf : sv_Ref (d) j (nx) (ls) (st) (v) (Y) Z) : sv_Ref (d) j (pc) (ls) (.int y :: .int x :: st) (v) (if y < x then Y else X) Z := by
  obtain ⟨hd, rfl⟩ := hd
  intro P a g1 g2
  by_cases hc : y < x
  · rw [if_pos hc] at g1
    exact fw_icmp_le tg hd ht (fun q => absurd hc (by first | exact q | exact Int32.not_lt.mpr q | exact Int32.not_le.mpr q)) (fun q => kf P a g1 g2)
  · rw [if_neg hc] at g1
    exact fw_icmp_le tg hd ht (fun q => kt P a g1 g2) (fun q => absurd (by first | exact q | exact Int32.not_le.mp q | exact Int32.not_lt.mp q) hc)
theorem sv_goto {off : Int} (tg : Nat) (hd : sv_D j pc (.goto off) 3 nx) (ht : (pc : Int) + off = (tg : Int)) (k : sv_Ref (d) j (tg) (ls) (st) (v) (X) Z) : sv_Ref (d) j (pc) (ls) (st) (v) (X) Z := by
  obtain ⟨hd, rfl⟩ := hd
  exact fun P a g1 g2 => fw_goto tg hd ht (k P a g1 g2)
theorem sv_ifnull {o : Nat} {off : Int} (hd : sv_D j pc (.ifnull off) 3 nx)  (k : sv_Ref (d) j (nx) (ls) (st) (v) (X) Z) : sv_Ref (d) j (pc) (ls) (.ref o :: st) (v) (X) Z := by
  obtain ⟨hd, rfl⟩ := hd
  exact fun P a g1 g2 => fw_ifnull hd (k P a g1 g2)
theorem sv_ifnonnullN {off : Int} (hd : sv_D j pc (.ifnonnull off) 3 nx)  (k : sv_Ref (d) j (nx) (ls) (st) (v) (X) Z) : sv_Ref (d) j (pc) (ls) (.null :: st) (v) (X) Z := by
  obtain ⟨hd, rfl⟩ := hd
  exact fun P a g1 g2 => fw_ifnonnullN hd (k P a g1 g2)
theorem sv_ifnullN {off : Int} (tg : Nat) (hd : sv_D j pc (.ifnull off) 3 nx) (ht : (pc : Int) + off = (tg : Int)) (k : sv_Ref (d) j (tg) (ls) (st) (v) (X) Z) : sv_Ref (d) j (pc) (ls) (.null :: st) (v) (X) Z := by
  obtain ⟨hd, rfl⟩ := hd
  exact fun P a g1 g2 => fw_ifnullN tg hd ht (k P a g1 g2)
theorem sv_ifnonnull {o : Nat} {off : Int} (tg : Nat) (hd : sv_D j pc (.ifnonnull off) 3 nx) (ht : (pc : Int) + off = (tg : Int)) (k : sv_Ref (d) j (tg) (ls) (st) (v) (X) Z) : sv_Ref (d) j (pc) (ls) (.ref o :: st) (v) (X) Z := by
  obtain ⟨hd, rfl⟩ := hd
  exact fun P a g1 g2 => fw_ifnonnull tg hd ht (k P a g1 g2)
theorem sv_tableIn {dflt lo hi : Int} {offs : Array Int} {len : Nat} {x : Int32} {off : Int} (tg : Nat) (hd : sv_D j pc (.tableswitch dflt lo hi offs) len nx) (y : Int32) (hx : x = y) (hy : ¬ y.toInt < lo ∧ ¬ hi < y.toInt) (ho : offs[(y.toInt - lo).toNat]? = some off) (ht : (pc : Int) + off = (tg : Int)) (k : sv_Ref (d) j (tg) (ls) (st) (v) (X) Z) : sv_Ref (d) j (pc) (ls) (.int x :: st) (v) (X) Z := by
  obtain ⟨hd, rfl⟩ := hd
  subst hx
  exact fun P a g1 g2 => fw_tableIn tg hd hy.1 hy.2 ho ht (k P a g1 g2)
theorem sv_tableOut {dflt lo hi : Int} {offs : Array Int} {len : Nat} {x : Int32} (tg : Nat) (hd : sv_D j pc (.tableswitch dflt lo hi offs) len nx) (hx : x.toInt < lo ∨ hi < x.toInt) (ht : (pc : Int) + dflt = (tg : Int)) (k : sv_Ref (d) j (tg) (ls) (st) (v) (X) Z) : sv_Ref (d) j (pc) (ls) (.int x :: st) (v) (X) Z := by
  obtain ⟨hd, rfl⟩ := hd
  exact fun P a g1 g2 => fw_tableOut tg hd hx ht (k P a g1 g2)
theorem sv_geti {q ci fk idx : Nat} (hd : sv_D j pc (.getfield idx) 3 nx) (hg : sv_gf j idx ci fk) (hq : sv_isO (sg q) ci = true) (hk : sv_dyn (sg q) fk = true) (k : sv_Ref (d) j (nx) (ls) (.int (v q fk) :: st) (v) (X) Z) : sv_Ref (d) j (pc) (ls) (.ref q :: st) (v) (X) Z := by
  obtain ⟨hd, rfl⟩ := hd
  obtain ⟨fs, h1⟩ := sv_isO_of hq
  exact fun P a g1 g2 => hg.get (sv_h_obj h1) (by rw [h1] at hk; exact sv_dyn_get hk) hd (k P a g1 g2)
theorem sv_getr {q ci fk idx o : Nat} (hd : sv_D j pc (.getfield idx) 3 nx) (hg : sv_gf j idx ci fk) (hq : sv_isO (sg q) ci = true) (hk : sv_isR (sg q) fk o = true) (k : sv_Ref (d) j (nx) (ls) (.ref o :: st) (v) (X) Z) : sv_Ref (d) j (pc) (ls) (.ref q :: st) (v) (X) Z := by
  obtain ⟨hd, rfl⟩ := hd
  obtain ⟨fs, h1⟩ := sv_isO_of hq
  exact fun P a g1 g2 => hg.get (sv_h_obj h1) (by rw [h1] at hk; exact sv_isR_get hk) hd (k P a g1 g2)
theorem sv_gets {q ci fk idx : Nat} (hd : sv_D j pc (.getfield idx) 3 nx) (hg : sv_gf j idx ci fk) (hq : sv_isO (sg q) ci = true) (hk : sv_isI (sg q) fk = true) (k : sv_Ref (d) j (nx) (ls) (.int (sv_int (sg q) fk) :: st) (v) (X) Z) : sv_Ref (d) j (pc) (ls) (.ref q :: st) (v) (X) Z := by
  obtain ⟨hd, rfl⟩ := hd
  obtain ⟨fs, h1⟩ := sv_isO_of hq
  exact fun P a g1 g2 => hg.get (sv_h_obj h1) (by rw [h1] at hk ⊢; exact sv_isI_get hk) hd (k P a g1 g2)
theorem sv_puti {q ci fk idx : Nat} {x : Int32} {K : sv_T → Option α} (hd : sv_D j pc (.putfield idx) 3 nx) (hg : sv_pf j idx ci fk .int) (hq : sv_isO (sg q) ci = true) (hk : sv_dyn (sg q) fk = true) (k : ∀ w, sv_Ref (d) j (nx) (ls) (st) (w) (K w) Z) : sv_Ref (d) j (pc) (ls) (.int x :: .ref q :: st) (v) (sv_ls (sv_up v q fk x) K) Z := by
  obtain ⟨hd, rfl⟩ := hd
  obtain ⟨fs, h1⟩ := sv_isO_of hq
  exact fun P a g1 g2 => hg.put (sv_h_obj h1) (by rw [h1] at hk; exact sv_dyn_lt hk) (fun _ => rfl) (fun _ => rfl) hd (by rw [sv_h_put h1 (by rw [h1] at hk; exact hk)]; exact k _ P a g1 g2)
theorem sv_putz {q ci fk idx : Nat} {x : Int32} {K : sv_T → Option α} (hd : sv_D j pc (.putfield idx) 3 nx) (hg : sv_pf j idx ci fk .boolean) (hq : sv_isO (sg q) ci = true) (hk : sv_dyn (sg q) fk = true) (hx : x = 0 ∨ x = 1) (k : ∀ w, sv_Ref (d) j (nx) (ls) (st) (w) (K w) Z) : sv_Ref (d) j (pc) (ls) (.int x :: .ref q :: st) (v) (sv_ls (sv_up v q fk x) K) Z := by
  obtain ⟨hd, rfl⟩ := hd
  obtain ⟨fs, h1⟩ := sv_isO_of hq
  exact fun P a g1 g2 => hg.put (sv_h_obj h1) (by rw [h1] at hk; exact sv_dyn_lt hk) (fun _ => by rcases hx with h | h <;> rw [h] <;> rfl) (fun _ => by rcases hx with h | h <;> rw [h] <;> rfl) hd (by rw [sv_h_put h1 (by rw [h1] at hk; exact hk)]; exact k _ P a g1 g2)
theorem sv_iald {o N : Nat} {i : Int32} (hd : sv_D j pc (.iaload) 1 nx) (ho : sv_isA (sg o) 0 N = true) (k : sv_Ref (d) j (nx) (ls) (.int (v o i.toNatClampNeg) :: st) (v) (X) Z) : sv_Ref (d) j (pc) (ls) (.int i :: .ref o :: st) (v) (sv_ck i N X) Z := by
  obtain ⟨hd, rfl⟩ := hd
  intro P a g1 g2
  obtain ⟨hi, g1⟩ := sv_ck_of g1
  exact fw_iald tb_ty0 (sv_h_arr (sv_isA_of ho)) hi hd (k P a g1 g2)
theorem sv_ialdc {o N m : Nat} {i : Int32} (hd : sv_D j pc (.iaload) 1 nx) (ho : sv_isA (sg o) 0 N = true) (hi : sv_inb i N = true) (hm : i.toNatClampNeg = m) (k : sv_Ref (d) j (nx) (ls) (.int (v o m) :: st) (v) (X) Z) : sv_Ref (d) j (pc) (ls) (.int i :: .ref o :: st) (v) (X) Z := by
  obtain ⟨hd, rfl⟩ := hd
  subst hm
  exact fun P a g1 g2 => fw_iald tb_ty0 (sv_h_arr (sv_isA_of ho)) (sv_inb_of hi) hd (k P a g1 g2)
theorem sv_zald {o N : Nat} {i : Int32} (hd : sv_D j pc (.baload) 1 nx) (ho : sv_isA (sg o) 1 N = true) (k : sv_Ref (d) j (nx) (ls) (.int (v o i.toNatClampNeg) :: st) (v) (X) Z) : sv_Ref (d) j (pc) (ls) (.int i :: .ref o :: st) (v) (sv_ck i N X) Z := by
  obtain ⟨hd, rfl⟩ := hd
  intro P a g1 g2
  obtain ⟨hi, g1⟩ := sv_ck_of g1
  exact fw_zald tb_ty1 (sv_h_arr (sv_isA_of ho)) hi hd (k P a g1 g2)
theorem sv_zaldc {o N m : Nat} {i : Int32} (hd : sv_D j pc (.baload) 1 nx) (ho : sv_isA (sg o) 1 N = true) (hi : sv_inb i N = true) (hm : i.toNatClampNeg = m) (k : sv_Ref (d) j (nx) (ls) (.int (v o m) :: st) (v) (X) Z) : sv_Ref (d) j (pc) (ls) (.int i :: .ref o :: st) (v) (X) Z := by
  obtain ⟨hd, rfl⟩ := hd
  subst hm
  exact fun P a g1 g2 => fw_zald tb_ty1 (sv_h_arr (sv_isA_of ho)) (sv_inb_of hi) hd (k P a g1 g2)
theorem sv_iast {o N : Nat} {i x : Int32} {K : sv_T → Option α} (hd : sv_D j pc (.iastore) 1 nx) (ho : sv_isA (sg o) 0 N = true) (k : ∀ w, sv_Ref (d) j (nx) (ls) (st) (w) (K w) Z) : sv_Ref (d) j (pc) (ls) (.int x :: .int i :: .ref o :: st) (v) (sv_ck i N (sv_ls (sv_up v o i.toNatClampNeg x) K)) Z := by
  obtain ⟨hd, rfl⟩ := hd
  intro P a g1 g2
  obtain ⟨hi, g1⟩ := sv_ck_of g1
  exact fw_iast tb_ty0 (sv_h_arr (sv_isA_of ho)) hi hd (by rw [sv_h_ast (sv_isA_of ho)]; exact k _ P a g1 g2)
theorem sv_iastc {o N m : Nat} {i x : Int32} {K : sv_T → Option α} (hd : sv_D j pc (.iastore) 1 nx) (ho : sv_isA (sg o) 0 N = true) (hi : sv_inb i N = true) (hm : i.toNatClampNeg = m) (k : ∀ w, sv_Ref (d) j (nx) (ls) (st) (w) (K w) Z) : sv_Ref (d) j (pc) (ls) (.int x :: .int i :: .ref o :: st) (v) (sv_ls (sv_up v o m x) K) Z := by
  obtain ⟨hd, rfl⟩ := hd
  subst hm
  exact fun P a g1 g2 => fw_iast tb_ty0 (sv_h_arr (sv_isA_of ho)) (sv_inb_of hi) hd (by rw [sv_h_ast (sv_isA_of ho)]; exact k _ P a g1 g2)
theorem sv_zast {o N : Nat} {i x y : Int32} {K : sv_T → Option α} (hd : sv_D j pc (.bastore) 1 nx) (ho : sv_isA (sg o) 1 N = true) (hy : vp_nar .boolean x = y) (k : ∀ w, sv_Ref (d) j (nx) (ls) (st) (w) (K w) Z) : sv_Ref (d) j (pc) (ls) (.int x :: .int i :: .ref o :: st) (v) (sv_ck i N (sv_ls (sv_up v o i.toNatClampNeg y) K)) Z := by
  obtain ⟨hd, rfl⟩ := hd
  subst hy
  intro P a g1 g2
  obtain ⟨hi, g1⟩ := sv_ck_of g1
  exact fw_zast tb_ty1 (sv_h_arr (sv_isA_of ho)) hi hd (by rw [sv_h_ast (sv_isA_of ho)]; exact k _ P a g1 g2)
theorem sv_alen {o t N : Nat} {x : Int32} (hd : sv_D j pc (.arraylength) 1 nx) (ho : sv_isA (sg o) t N = true) (ht : t < tb_ty.length) (hx : Int32.ofNat N = x) (k : sv_Ref (d) j (nx) (ls) (.int x :: st) (v) (X) Z) : sv_Ref (d) j (pc) (ls) (.ref o :: st) (v) (X) Z := by
  obtain ⟨hd, rfl⟩ := hd
  exact fun P a g1 g2 => fw_alen (x := (N, .inl (v o))) ht (sv_h_arr (sv_isA_of ho)) hx hd (k P a g1 g2)
theorem sv_alenq {o t : Nat} {l : List Nat} {x : Int32} (hd : sv_D j pc (.arraylength) 1 nx) (ho : sg o = .inr (.inr (t, l))) (ht : t < tb_ty.length) (hx : Int32.ofNat l.length = x) (k : sv_Ref (d) j (nx) (ls) (.int x :: st) (v) (X) Z) : sv_Ref (d) j (pc) (ls) (.ref o :: st) (v) (X) Z := by
  obtain ⟨hd, rfl⟩ := hd
  exact fun P a g1 g2 => fw_alen (x := (l.length, .inr (.inr (.inr (.inr (fun i => l[i]?)))))) ht (sv_h_arq ho) hx hd (k P a g1 g2)
theorem sv_aald {o t : Nat} {C : String} {l : List Nat} {i : Int32} {K : Nat → Option α} (hd : sv_D j pc (.aaload) 1 nx) (ht : tb_ty[t]? = some (.object C)) (ho : sg o = .inr (.inr (t, l))) (k : ∀ r, sv_Ref (d) j (nx) (ls) (.ref r :: st) (v) (K r) Z) : sv_Ref (d) j (pc) (ls) (.int i :: .ref o :: st) (v) (sv_ck i l.length (sv_lr (l.getD i.toNatClampNeg 0) K)) Z := by
  obtain ⟨hd, rfl⟩ := hd
  intro P a g1 g2
  obtain ⟨hi, g1⟩ := sv_ck_of g1
  refine fw_aald ht (sv_h_arq ho) hi hd ?_
  have hl : i.toNatClampNeg < l.length := Nat.not_le.mp fun q => hi (Or.inr q)
  have e : va_rf ((fun i => l[i]?) i.toNatClampNeg) = .ref (l.getD i.toNatClampNeg 0) := by
    show va_rf (l[i.toNatClampNeg]?) = _
    rw [List.getD_eq_getElem?_getD, List.getElem?_eq_getElem hl]
    rfl
  rw [e]
  exact k _ P a g1 g2
theorem sv_copy {o o1 N N1 idx : Nat} {sp dp n : Int32} {K : sv_T → Option α} (hd : sv_D j pc (.invokestatic idx) 3 nx) (hw : sv_wcp j idx) (hst : st.length ≤ 8) (ho : sv_isA (sg o) 0 N = true) (ho1 : sv_isA (sg o1) 0 N1 = true) (k : ∀ w, sv_Ref (d + 1) j (nx) (ls) (st) (w) (K w) Z) : sv_Ref (d + 1) j (pc) (ls) (.int n :: .int dp :: .ref o1 :: .int sp :: .ref o :: st) (v) (sv_cc sp dp n N N1 (sv_ls (sv_cp v o sp.toNatClampNeg o1 dp.toNatClampNeg n.toNatClampNeg) K)) Z := by
  obtain ⟨hd, rfl⟩ := hd
  intro P a g1 g2
  obtain ⟨h1, h2, h3, h4, h5, g1⟩ := sv_cc_of g1
  exact fw_copyi tb_ty0 hw.1 hw.2.1 hw.2.2.1 hw.2.2.2 hst (sv_h_arr (sv_isA_of ho)) (sv_h_arr (sv_isA_of ho1)) h1 h2 h3 h4 h5 hd (by rw [sv_h_cp (sv_isA_of ho1)]; exact k _ P a g1 g2)
theorem sv_mmin {idx : Nat} {x y : Int32} (hd : sv_D j pc (.invokestatic idx) 3 nx) (hw : sv_wmn j idx) (hst : st.length ≤ 8) (k : sv_Ref (d + 1) j (nx) (ls) (.int (sv_min x y) :: st) (v) (X) Z) : sv_Ref (d + 1) j (pc) (ls) (.int y :: .int x :: st) (v) (X) Z := by
  obtain ⟨hd, rfl⟩ := hd
  exact fun P a g1 g2 => fw_mmin hw.1 hw.2.1 hw.2.2.1 hw.2.2.2 hst hd (k P a g1 g2)
theorem sv_iret {x : Int32} (hr : (tb_m j).2.2.2 = some .int) (hd : sv_D j pc (.ireturn) 1 nx) : sv_Ref d j pc ls [.int x] v (some (x, v)) sv_Zi := by
  obtain ⟨hd, rfl⟩ := hd
  intro P a g1 g2
  cases g1
  exact fw_iret hr hd ⟨v, rfl, rfl, g2⟩
theorem sv_zret {x : Int32} (hr : (tb_m j).2.2.2 = some .boolean) (hd : sv_D j pc (.ireturn) 1 nx) : sv_Ref d j pc ls [.int x] v (sv_bl x (some (x, v))) sv_Zi := by
  obtain ⟨hd, rfl⟩ := hd
  intro P a g1 g2
  obtain ⟨hx, g1⟩ := sv_bl_of g1
  cases g1
  exact fw_zret hr (by rcases hx with h | h <;> rw [h] <;> rfl) hd ⟨v, rfl, rfl, g2⟩
theorem sv_zretc {x : Int32} (hr : (tb_m j).2.2.2 = some .boolean) (hx : x = 0 ∨ x = 1) (hd : sv_D j pc (.ireturn) 1 nx) : sv_Ref d j pc ls [.int x] v (some (x, v)) sv_Zi := by
  obtain ⟨hd, rfl⟩ := hd
  intro P a g1 g2
  cases g1
  exact fw_zret hr (by rcases hx with h | h <;> rw [h] <;> rfl) hd ⟨v, rfl, rfl, g2⟩
theorem sv_vret (hr : (tb_m j).2.2.2 = none) (hd : sv_D j pc (.return_) 1 nx) : sv_Ref d j pc ls [] v (some v) sv_Zv := by
  obtain ⟨hd, rfl⟩ := hd
  intro P a g1 g2
  cases g1
  exact fw_vret hr hd ⟨v, rfl, rfl, g2⟩
theorem sv_aret {o : Nat} {C : String} (hr : (tb_m j).2.2.2 = some (.object C)) (hd : sv_D j pc (.areturn) 1 nx) : sv_Ref d j pc ls [.ref o] v (some (some o, v)) sv_Zr := by
  obtain ⟨hd, rfl⟩ := hd
  intro P a g1 g2
  cases g1
  exact fw_aret hr (Or.inl ⟨C, rfl⟩) hd ⟨v, rfl, rfl, g2⟩
theorem sv_aretN {C : String} (hr : (tb_m j).2.2.2 = some (.object C)) (hd : sv_D j pc (.areturn) 1 nx) : sv_Ref d j pc ls [.null] v (some (none, v)) sv_Zr := by
  obtain ⟨hd, rfl⟩ := hd
  intro P a g1 g2
  cases g1
  exact fw_aretN hr (Or.inl ⟨C, rfl⟩) hd ⟨v, rfl, rfl, g2⟩
/-- a method's contract: what its function answers, it answers -/
def sv_Cl {β : Type} (d j : Nat) (as : List Value) (v : sv_T) (X : Option β) (Z : β → (Option Value → sv_T → Prop) → Prop) : Prop := ∀ (P : Option Value → sv_T → Prop) (a : β), X = some a → Z a P → fw_Sp d j as sv_n (sv_h v) 0 0 (sv_P P)
theorem sv_spec {as : List Value} {ls0 : List (Option Value)} (hpl : plainName (tb_m j).1.cls = true) (hlen : as.length ≤ (tb_m j).2.2.1) (hls : as.map some ++ List.replicate ((tb_m j).2.2.1 - as.length) none = ls0) (k : sv_Ref d j 0 ls0 [] v X Z) : sv_Cl d j as v X Z := fun P a g1 g2 => fw_spec hpl hlen (by rw [hls]; exact k P a g1 g2)
theorem sv_callVi {j' idx nA : Nat} {o ci : Nat} {as stk : List Value} {K : Int32 → sv_T → Option α} {X' : Option (Int32 × sv_T)} (hd : sv_D j pc (.invokevirtual idx) 3 nx) (hw : sv_wV j idx j' nA) (hq : sv_isO (sg o) ci = true) (hci : sv_cn ci (tb_m j').1.cls) (hn : as.length = nA) (hst : st.length ≤ 8) (hstk : stk = as.reverse ++ .ref o :: st) (hS : sv_Cl d j' (.ref o :: as) v X' sv_Zi) (k : ∀ x w, sv_Ref (d + 1) j nx ls (.int x :: st) w (K x w) Z) : sv_Ref (d + 1) j pc ls stk v (sv_bi X' K) Z := by
  obtain ⟨hd, rfl⟩ := hd
  intro P b g1 g2
  obtain ⟨a, ha, hb⟩ := Option.bind_eq_some_iff.mp g1
  refine hw.callV hq hci hn hst hstk hd (hS (fun r u => r = (some (.int a.1)) ∧ u = a.2) a ha ⟨rfl, rfl⟩) (fun r n' h' hz => ?_)
  obtain ⟨u, rfl, rfl, rfl, rfl⟩ := hz
  exact k a.1 a.2 P b hb g2
theorem sv_callVv {j' idx nA : Nat} {o ci : Nat} {as stk : List Value} {K : sv_T → Option α} {X' : Option (sv_T)} (hd : sv_D j pc (.invokevirtual idx) 3 nx) (hw : sv_wV j idx j' nA) (hq : sv_isO (sg o) ci = true) (hci : sv_cn ci (tb_m j').1.cls) (hn : as.length = nA) (hst : st.length ≤ 8) (hstk : stk = as.reverse ++ .ref o :: st) (hS : sv_Cl d j' (.ref o :: as) v X' sv_Zv) (k : ∀ w, sv_Ref (d + 1) j nx ls (st) w (K w) Z) : sv_Ref (d + 1) j pc ls stk v (sv_bv X' K) Z := by
  obtain ⟨hd, rfl⟩ := hd
  intro P b g1 g2
  obtain ⟨a, ha, hb⟩ := Option.bind_eq_some_iff.mp g1
  refine hw.callV hq hci hn hst hstk hd (hS (fun r u => r = none ∧ u = a) a ha ⟨rfl, rfl⟩) (fun r n' h' hz => ?_)
  obtain ⟨u, rfl, rfl, rfl, rfl⟩ := hz
  exact k _ P b hb g2
theorem sv_callVr {j' idx nA : Nat} {o ci : Nat} {as stk : List Value} {K0 : sv_T → Option α} {K : Nat → sv_T → Option α} {X' : Option (Option Nat × sv_T)} (hd : sv_D j pc (.invokevirtual idx) 3 nx) (hw : sv_wV j idx j' nA) (hq : sv_isO (sg o) ci = true) (hci : sv_cn ci (tb_m j').1.cls) (hn : as.length = nA) (hst : st.length ≤ 8) (hstk : stk = as.reverse ++ .ref o :: st) (hS : sv_Cl d j' (.ref o :: as) v X' sv_Zr) (k0 : ∀ w, sv_Ref (d + 1) j nx ls (.null :: st) w (K0 w) Z) (k : ∀ r w, sv_Ref (d + 1) j nx ls (.ref r :: st) w (K r w) Z) : sv_Ref (d + 1) j pc ls stk v (sv_bo X' K0 K) Z := by
  obtain ⟨hd, rfl⟩ := hd
  intro P b g1 g2
  obtain ⟨a, ha, hb⟩ := Option.bind_eq_some_iff.mp g1
  refine hw.callV hq hci hn hst hstk hd (hS (fun r u => r = some (va_rf a.1) ∧ u = a.2) a ha ⟨rfl, rfl⟩) (fun r n' h' hz => ?_)
  obtain ⟨u, rfl, rfl, rfl, rfl⟩ := hz
  obtain ⟨a1, a2⟩ := a
  cases a1 with
  | none => exact k0 a2 P b hb g2
  | some r => exact k r a2 P b hb g2
theorem sv_callIi {j' idx nA : Nat} {o : Nat} {as stk : List Value} {K : Int32 → sv_T → Option α} {X' : Option (Int32 × sv_T)} (hd : sv_D j pc (.invokespecial idx) 3 nx) (hw : sv_wI j idx j' nA)  (hn : as.length = nA) (hst : st.length ≤ 8) (hstk : stk = as.reverse ++ .ref o :: st) (hS : sv_Cl d j' (.ref o :: as) v X' sv_Zi) (k : ∀ x w, sv_Ref (d + 1) j nx ls (.int x :: st) w (K x w) Z) : sv_Ref (d + 1) j pc ls stk v (sv_bi X' K) Z := by
  obtain ⟨hd, rfl⟩ := hd
  intro P b g1 g2
  obtain ⟨a, ha, hb⟩ := Option.bind_eq_some_iff.mp g1
  refine hw.callI hn hst hstk hd (hS (fun r u => r = (some (.int a.1)) ∧ u = a.2) a ha ⟨rfl, rfl⟩) (fun r n' h' hz => ?_)
  obtain ⟨u, rfl, rfl, rfl, rfl⟩ := hz
  exact k a.1 a.2 P b hb g2
theorem sv_callIv {j' idx nA : Nat} {o : Nat} {as stk : List Value} {K : sv_T → Option α} {X' : Option (sv_T)} (hd : sv_D j pc (.invokespecial idx) 3 nx) (hw : sv_wI j idx j' nA)  (hn : as.length = nA) (hst : st.length ≤ 8) (hstk : stk = as.reverse ++ .ref o :: st) (hS : sv_Cl d j' (.ref o :: as) v X' sv_Zv) (k : ∀ w, sv_Ref (d + 1) j nx ls (st) w (K w) Z) : sv_Ref (d + 1) j pc ls stk v (sv_bv X' K) Z := by
  obtain ⟨hd, rfl⟩ := hd
  intro P b g1 g2
  obtain ⟨a, ha, hb⟩ := Option.bind_eq_some_iff.mp g1
  refine hw.callI hn hst hstk hd (hS (fun r u => r = none ∧ u = a) a ha ⟨rfl, rfl⟩) (fun r n' h' hz => ?_)
  obtain ⟨u, rfl, rfl, rfl, rfl⟩ := hz
  exact k _ P b hb g2
theorem sv_callIr {j' idx nA : Nat} {o : Nat} {as stk : List Value} {K0 : sv_T → Option α} {K : Nat → sv_T → Option α} {X' : Option (Option Nat × sv_T)} (hd : sv_D j pc (.invokespecial idx) 3 nx) (hw : sv_wI j idx j' nA)  (hn : as.length = nA) (hst : st.length ≤ 8) (hstk : stk = as.reverse ++ .ref o :: st) (hS : sv_Cl d j' (.ref o :: as) v X' sv_Zr) (k0 : ∀ w, sv_Ref (d + 1) j nx ls (.null :: st) w (K0 w) Z) (k : ∀ r w, sv_Ref (d + 1) j nx ls (.ref r :: st) w (K r w) Z) : sv_Ref (d + 1) j pc ls stk v (sv_bo X' K0 K) Z := by
  obtain ⟨hd, rfl⟩ := hd
  intro P b g1 g2
  obtain ⟨a, ha, hb⟩ := Option.bind_eq_some_iff.mp g1
  refine hw.callI hn hst hstk hd (hS (fun r u => r = some (va_rf a.1) ∧ u = a.2) a ha ⟨rfl, rfl⟩) (fun r n' h' hz => ?_)
  obtain ⟨u, rfl, rfl, rfl, rfl⟩ := hz
  obtain ⟨a1, a2⟩ := a
  cases a1 with
  | none => exact k0 a2 P b hb g2
  | some r => exact k r a2 P b hb g2
theorem sv_callSi {j' idx nA : Nat} {as stk : List Value} {K : Int32 → sv_T → Option α} {X' : Option (Int32 × sv_T)} (hd : sv_D j pc (.invokestatic idx) 3 nx) (hw : sv_wS j idx j' nA)  (hn : as.length = nA) (hst : st.length ≤ 8) (hstk : stk = as.reverse ++ st) (hS : sv_Cl d j' (as) v X' sv_Zi) (k : ∀ x w, sv_Ref (d + 1) j nx ls (.int x :: st) w (K x w) Z) : sv_Ref (d + 1) j pc ls stk v (sv_bi X' K) Z := by
  obtain ⟨hd, rfl⟩ := hd
  intro P b g1 g2
  obtain ⟨a, ha, hb⟩ := Option.bind_eq_some_iff.mp g1
  refine hw.callS hn hst hstk hd (hS (fun r u => r = (some (.int a.1)) ∧ u = a.2) a ha ⟨rfl, rfl⟩) (fun r n' h' hz => ?_)
  obtain ⟨u, rfl, rfl, rfl, rfl⟩ := hz
  exact k a.1 a.2 P b hb g2
theorem sv_callSv {j' idx nA : Nat} {as stk : List Value} {K : sv_T → Option α} {X' : Option (sv_T)} (hd : sv_D j pc (.invokestatic idx) 3 nx) (hw : sv_wS j idx j' nA)  (hn : as.length = nA) (hst : st.length ≤ 8) (hstk : stk = as.reverse ++ st) (hS : sv_Cl d j' (as) v X' sv_Zv) (k : ∀ w, sv_Ref (d + 1) j nx ls (st) w (K w) Z) : sv_Ref (d + 1) j pc ls stk v (sv_bv X' K) Z := by
  obtain ⟨hd, rfl⟩ := hd
  intro P b g1 g2
  obtain ⟨a, ha, hb⟩ := Option.bind_eq_some_iff.mp g1
  refine hw.callS hn hst hstk hd (hS (fun r u => r = none ∧ u = a) a ha ⟨rfl, rfl⟩) (fun r n' h' hz => ?_)
  obtain ⟨u, rfl, rfl, rfl, rfl⟩ := hz
  exact k _ P b hb g2
theorem sv_callSr {j' idx nA : Nat} {as stk : List Value} {K0 : sv_T → Option α} {K : Nat → sv_T → Option α} {X' : Option (Option Nat × sv_T)} (hd : sv_D j pc (.invokestatic idx) 3 nx) (hw : sv_wS j idx j' nA)  (hn : as.length = nA) (hst : st.length ≤ 8) (hstk : stk = as.reverse ++ st) (hS : sv_Cl d j' (as) v X' sv_Zr) (k0 : ∀ w, sv_Ref (d + 1) j nx ls (.null :: st) w (K0 w) Z) (k : ∀ r w, sv_Ref (d + 1) j nx ls (.ref r :: st) w (K r w) Z) : sv_Ref (d + 1) j pc ls stk v (sv_bo X' K0 K) Z := by
  obtain ⟨hd, rfl⟩ := hd
  intro P b g1 g2
  obtain ⟨a, ha, hb⟩ := Option.bind_eq_some_iff.mp g1
  refine hw.callS hn hst hstk hd (hS (fun r u => r = some (va_rf a.1) ∧ u = a.2) a ha ⟨rfl, rfl⟩) (fun r n' h' hz => ?_)
  obtain ⟨u, rfl, rfl, rfl, rfl⟩ := hz
  obtain ⟨a1, a2⟩ := a
  cases a1 with
  | none => exact k0 a2 P b hb g2
  | some r => exact k r a2 P b hb g2
def sv_Zl {σ : Type} (d j hd : Nat) (L : σ → List (Option Value)) (S : σ → sv_T) (Z : α → (Option Value → sv_T → Prop) → Prop) : σ ⊕ α → (Option Value → sv_T → Prop) → Prop := fun a P => match a with
  | .inl s => sv_Go d j hd (L s) [] (S s) P
  | .inr b => Z b P
def sv_Zt {σ : Type} (d j xt : Nat) (L : σ → List (Option Value)) (S : σ → sv_T) : σ → (Option Value → sv_T → Prop) → Prop := fun s P => sv_Go d j xt (L s) [] (S s) P
theorem sv_loopR {σ : Type} {L : σ → List (Option Value)} {S : σ → sv_T} {f : σ → Option (σ ⊕ α)} (k : ∀ s, sv_Ref d j pc (L s) [] (S s) (f s) (sv_Zl d j pc L S Z)) : ∀ (n : Nat) (s : σ), sv_Ref d j pc (L s) [] (S s) (sv_loop f n s) Z := by
  intro n
  induction n with
  | zero => exact fun s => sv_none
  | succ n ih =>
    intro s P a g1 g2
    obtain ⟨o, h1, h2⟩ := Option.bind_eq_some_iff.mp g1
    refine k s P o h1 ?_
    cases o with
    | inl s' => exact ih s' P a h2 g2
    | inr b => cases h2; exact g2
theorem sv_next {σ : Type} {L : σ → List (Option Value)} {S : σ → sv_T} (s : σ) (hL : fw_le (L s) ls) (hS : S s = v) : sv_Ref d j pc ls [] v (some (.inl s)) (sv_Zl d j pc L S Z) := by
  intro P a g1 g2
  cases g1
  subst hS
  exact fw_Go.kill hL g2
theorem sv_exit {σ : Type} {hd : Nat} {L : σ → List (Option Value)} {S : σ → sv_T} (k : sv_Ref d j pc ls st v X Z) : sv_Ref d j pc ls st v (X.map Sum.inr) (sv_Zl d j hd L S Z) := by
  intro P a g1 g2
  obtain ⟨b, h1, h2⟩ := Option.map_eq_some_iff.mp g1
  subst h2
  exact k P b h1 g2
theorem sv_leave {σ τ : Type} {hd xt : Nat} {L : σ → List (Option Value)} {S : σ → sv_T} {L' : τ → List (Option Value)} {S' : τ → sv_T} (t : τ) (hx : xt = pc) (hL : fw_le (L' t) ls) (hS : S' t = v) : sv_Ref d j pc ls [] v (some (.inr t)) (sv_Zl d j hd L S (sv_Zt d j xt L' S')) := by
  intro P a g1 g2
  cases g1
  subst hS
  subst hx
  exact fw_Go.kill hL g2
theorem sv_stop {σ : Type} {L : σ → List (Option Value)} {S : σ → sv_T} (s : σ) (hL : fw_le (L s) ls) (hS : S s = v) : sv_Ref d j pc ls [] v (some s) (sv_Zt d j pc L S) := by
  intro P a g1 g2
  cases g1
  subst hS
  exact fw_Go.kill hL g2
theorem sv_seq {σ : Type} {xt : Nat} {L : σ → List (Option Value)} {S : σ → sv_T} {X' : Option σ} {K : σ → Option α} (k1 : sv_Ref d j pc ls st v X' (sv_Zt d j xt L S)) (k2 : ∀ s, sv_Ref d j xt (L s) [] (S s) (K s) Z) : sv_Ref d j pc ls st v (X'.bind K) Z := by
  intro P a g1 g2
  obtain ⟨s, h1, h2⟩ := Option.bind_eq_some_iff.mp g1
  exact k1 P s h1 (k2 s P a h2 g2)
end SV
