theorem sv_isAl {s : sv_S} {t N : Nat} (h : sv_isA s t N = true) : sv_isA s t (sv_len s) = true := by
  rw [sv_isA_of h]
  unfold sv_isA sv_len
  simp
