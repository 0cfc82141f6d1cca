-- the store, loops and small numbers
theorem up_s {v : sv_T} {q i : Nat} {x : Int32} : sv_up v q i x q i = x := if_pos ⟨rfl, rfl⟩
theorem up_i {v : sv_T} {q i i' : Nat} {x : Int32} (h : i' ≠ i) : sv_up v q i x q i' = v q i' := if_neg fun z => h z.2
theorem up_q {v : sv_T} {q q' i i' : Nat} {x : Int32} (h : q' ≠ q) : sv_up v q i x q' i' = v q' i' := if_neg fun z => h z.1
theorem up_a {v : sv_T} {q q' i i' : Nat} {x : Int32} : sv_up v q i x q' i' = if q' = q ∧ i' = i then x else v q' i' := rfl
theorem cp_a {v : sv_T} {q sp q1 dp n q' i' : Nat} : sv_cp v q sp q1 dp n q' i' = if q' = q1 ∧ dp ≤ i' ∧ i' < dp + n then v q (sp + (i' - dp)) else v q' i' := rfl
theorem cp_in {v : sv_T} {q sp q1 dp n i : Nat} (h : i < n) : sv_cp v q sp q1 dp n q1 (dp + i) = v q (sp + i) := by
  rw [cp_a, if_pos ⟨rfl, by omega, by omega⟩, show dp + i - dp = i by omega]
theorem cp_out {v : sv_T} {q sp q1 dp n i : Nat} (h : i < dp ∨ dp + n ≤ i) : sv_cp v q sp q1 dp n q1 i = v q1 i := by
  rw [cp_a, if_neg (fun z => by omega)]
theorem cp_q {v : sv_T} {q sp q1 dp n q' i : Nat} (h : q' ≠ q1) : sv_cp v q sp q1 dp n q' i = v q' i := by
  rw [cp_a, if_neg (fun z => h z.1)]
theorem cp_off {v : sv_T} {q sp q1 dp n q' : Nat} (h : q' ≠ q1) : sv_cp v q sp q1 dp n q' = v q' := by
  funext i
  exact cp_q h
theorem up_cp {v w : sv_T} {q sp q1 dp n : Nat} {x : Int32} (hw : w = sv_cp v q sp q1 dp n) (hx : x = v q (sp + n)) : sv_up w q1 (dp + n) x = sv_cp v q sp q1 dp (n + 1) := by
  funext q' i'
  subst hw
  rw [up_a, cp_a, cp_a]
  by_cases h1 : q' = q1
  · by_cases h2 : i' = dp + n
    · rw [if_pos ⟨h1, h2⟩, if_pos ⟨h1, by omega, by omega⟩, hx, h2, show dp + n - dp = n by omega]
    · rw [if_neg (fun z => h2 z.2)]
      by_cases h3 : dp ≤ i' ∧ i' < dp + n
      · rw [if_pos ⟨h1, h3⟩, if_pos ⟨h1, by omega, by omega⟩]
      · rw [if_neg (fun z => h3 z.2), if_neg (fun z => h3 ⟨z.2.1, by omega⟩)]
  · rw [if_neg (fun z => h1 z.1), if_neg (fun z => h1 z.1), if_neg (fun z => h1 z.1)]
theorem cp_0 {v : sv_T} {q sp q1 dp : Nat} : sv_cp v q sp q1 dp 0 = v := by
  funext q' i'
  rw [cp_a, if_neg (fun z => by omega)]
/-- a loop that runs from state g 0 over g 1 .. to g N and ends there -/
theorem lp_to {σ α : Type} {f : σ → Option (σ ⊕ α)} (g : Nat → σ) (N : Nat) {a : α} (hs : ∀ k, k < N → f (g k) = some (.inl (g (k + 1)))) (he : f (g N) = some (.inr a)) {n : Nat} (hn : N < n) : sv_loop f n (g 0) = some a := by
  have aux : ∀ m k n, k + m = N → m < n → sv_loop f n (g k) = some a := by
    intro m
    induction m with
    | zero =>
      intro k n hk hn
      obtain ⟨n', rfl⟩ : ∃ n', n = n' + 1 := ⟨n - 1, by omega⟩
      have hk : k = N := by omega
      subst hk
      show (f (g k)).bind _ = _
      rw [he]
      rfl
    | succ m ih =>
      intro k n hk hn
      obtain ⟨n', rfl⟩ : ∃ n', n = n' + 1 := ⟨n - 1, by omega⟩
      show (f (g k)).bind _ = _
      rw [hs k (by omega)]
      exact ih (k + 1) n' (by omega) (by omega)
  exact aux N 0 n (by omega) hn
/-- a loop with an invariant and a measure that falls -/
theorem lp_inv {σ α : Type} {f : σ → Option (σ ⊕ α)} (P : Nat → σ → Prop) (Q : α → Prop) (hs : ∀ k s, P k s → (∃ k' s', f s = some (.inl s') ∧ k' < k ∧ P k' s') ∨ ∃ a, f s = some (.inr a) ∧ Q a) : ∀ (n k : Nat) (s : σ), P k s → k < n → ∃ a, sv_loop f n s = some a ∧ Q a := by
  intro n
  induction n with
  | zero => intro k s _ h; omega
  | succ n ih =>
    intro k s hP hk
    rcases hs k s hP with ⟨k', s', h1, h2, h3⟩ | ⟨a, h1, h2⟩
    · obtain ⟨a, h4, h5⟩ := ih k' s' h3 (by omega)
      refine ⟨a, ?_, h5⟩
      show (f s).bind _ = _
      rw [h1]
      exact h4
    · refine ⟨a, ?_, h2⟩
      show (f s).bind _ = _
      rw [h1]
      rfl
theorem ck_n {α : Type} {n N : Nat} {X : Option α} (h : n < N) (hN : N < 2 ^ 31) : sv_ck (nI n) N X = X := by
  unfold sv_ck
  rw [nI_toInt (by omega), if_pos ⟨by omega, by omega⟩]
theorem cc_n {α : Type} {a b n N N1 : Nat} {X : Option α} (h1 : a + n ≤ N) (h2 : b + n ≤ N1) (hN : N < 2 ^ 31) (hN1 : N1 < 2 ^ 31) : sv_cc (nI a) (nI b) (nI n) N N1 X = X := by
  unfold sv_cc
  rw [nI_toInt (by omega), nI_toInt (by omega), nI_toInt (by omega), if_pos ⟨by omega, by omega, by omega, by omega, by omega⟩]
theorem bl_0 {α : Type} {X : Option α} : sv_bl 0 X = X := if_pos (Or.inl rfl)
theorem bl_1 {α : Type} {X : Option α} : sv_bl 1 X = X := if_pos (Or.inr rfl)
theorem if_lt {α : Type} {a b : Nat} {X Y : α} (ha : a < 2 ^ 31) (hb : b < 2 ^ 31) : (if nI a < nI b then X else Y) = if a < b then X else Y := by
  by_cases h : a < b
  · rw [if_pos h, if_pos ((nI_ltI ha hb).mpr h)]
  · rw [if_neg h, if_neg (fun z => h ((nI_ltI ha hb).mp z))]
theorem if_le {α : Type} {a b : Nat} {X Y : α} (ha : a < 2 ^ 31) (hb : b < 2 ^ 31) : (if nI a ≤ nI b then X else Y) = if a ≤ b then X else Y := by
  by_cases h : a ≤ b
  · rw [if_pos h, if_pos ((nI_leI ha hb).mpr h)]
  · rw [if_neg h, if_neg (fun z => h ((nI_leI ha hb).mp z))]
theorem if_eq {α : Type} {a b : Nat} {X Y : α} (ha : a < 2 ^ 31) (hb : b < 2 ^ 31) : (if nI a = nI b then X else Y) = if a = b then X else Y := by
  by_cases h : a = b
  · rw [if_pos h, if_pos ((nI_eq ha hb).mpr h)]
  · rw [if_neg h, if_neg (fun z => h ((nI_eq ha hb).mp z))]
-- the check of a row
def ck_s (f : Nat → Nat) : Nat → Nat
  | 0 => 0
  | k + 1 => ck_s f k + if k % 2 = 0 then 256 * f k else f k
def ck_r (s : Nat) : Nat := if s ≤ 65535 then s else if s % 65536 + s / 65536 ≤ 65535 then s % 65536 + s / 65536 else (s % 65536 + s / 65536) % 65536 + (s % 65536 + s / 65536) / 65536
theorem ck_s_le {f : Nat → Nat} : ∀ {n : Nat}, (∀ i, i < n → f i < 256) → ck_s f n ≤ 65280 * n
  | 0, _ => Nat.le_refl _
  | n + 1, h => by
    have h1 := ck_s_le (f := f) (n := n) (fun i hi => h i (by omega))
    have h2 := h n (by omega)
    show ck_s f n + _ ≤ _
    split <;> omega
theorem ck_r_le {s : Nat} (h : s < 2 ^ 31) : ck_r s ≤ 65535 := by
  unfold ck_r
  split
  · assumption
  · split
    · assumption
    · omega
theorem ck_s_eq {f g : Nat → Nat} : ∀ {n : Nat}, (∀ i, i < n → f i = g i) → ck_s f n = ck_s g n
  | 0, _ => rfl
  | n + 1, h => by
    show ck_s f n + _ = ck_s g n + _
    rw [ck_s_eq (n := n) (fun i hi => h i (by omega)), h n (by omega)]
