/-! Checking, both together: let. -/
section ZV
variable {b : Nat → Nat} {n me : Nat} {τ0 : z_TT} {ce : Nat} {S0 : z_CS} {R0 : z_RS} {w : Nat} {u v1 v2 : z_Bd} {m s e g x y : Nat} {p : Int32}
/-- one cell more -/
def z_kp (κ : Nat → Nat) (N cc : Nat) (j : Nat) : Nat := if j = N then cc else κ j
theorem z_kp_ko {κ : Nat → Nat} {N cc : Nat} : ∀ j, j ≤ N → z_ko (z_kp κ N cc) j = z_ko κ j := by
  intro j hj
  cases j with
  | zero => rfl
  | succ j =>
    show nI (z_kp κ N cc j) = nI (κ j)
    unfold z_kp
    rw [if_neg (by omega)]
theorem z_kp_n {κ : Nat → Nat} {N cc : Nat} : z_kp κ N cc N = cc := if_pos rfl
theorem z_kp_o {κ : Nat → Nat} {N cc j : Nat} (h : j < N) : z_kp κ N cc j = κ j := if_neg (by omega)
/-- both bind a name: what both hold then -/
theorem z_Kj.bnd {τ : z_TT} {i i' H ρ mo cc P : Nat} {κ : Nat → Nat} {S S' : z_CS} {R : z_RS} {q nm wd ty ty' : Int32} (h : z_Kj b n τ0 S0 R0 i τ H ρ mo cc P κ S R) (hi : i ≤ i') (hx : z_ctx S0.1 i' = (nm :: (z_ctx S0.1 i).1, (z_ctx S0.1 i).2)) (hq : z_Nm b n q nm wd) (ht : z_Tqd 51 τ ty ty') {N mo' : Nat} (hN : N = (z_ctx S0.1 i).1.length) (h128 : N < 128) (hmo : mo' = max mo (N + 1)) : z_Kj b n τ0 S0 R0 i' τ H ρ mo' (cc + 1) P (z_kp κ N cc) (z_bnc N ρ nm ty mo' S) (z_bnd cc q wd ty' (z_ko κ N) R) := by
  obtain ⟨h1, h2, h3, h4, h5⟩ := h
  subst hN hmo
  refine ⟨?_, h2.bnd, h3, ?_, ?_⟩
  · unfold z_KC
    rw [hx]
    exact (z_KCx.bnc h1 h128).mv hi
  · rw [hx]
    intro j hj
    have hj : j < (z_ctx S0.1 i).1.length + 1 := hj
    rw [z_bnd_101, z_bnd_98, z_bnd_99, z_bnc_31]
    by_cases e : j = (z_ctx S0.1 i).1.length
    · subst e
      rw [z_kp_n, z_fcs, z_fcs, z_fcs, z_fcs, z_kp_ko _ (Nat.le_refl _)]
      exact ⟨Nat.lt_succ_self _, rfl, hq⟩
    · obtain ⟨c1, c2, c3⟩ := h4 j (by omega)
      rw [z_kp_o (by omega), z_fcn (by omega), z_fcn (by omega), z_fcn (by omega), z_fcn (by omega), z_kp_ko _ (by omega)]
      exact ⟨by omega, c2, c3⟩
  · rw [hx]
    intro j hj
    have hj : j < (z_ctx S0.1 i).1.length + 1 := hj
    rw [z_bnd_100, z_bnc_32]
    by_cases e : j = (z_ctx S0.1 i).1.length
    · subst e
      rw [z_kp_n, z_fcs, z_fcs]
      exact ht
    · obtain ⟨c1, c2, c3⟩ := h4 j (by omega)
      rw [z_kp_o (by omega), z_fcn (by omega), z_fcn (by omega)]
      exact h5 j (by omega)
/-- the name is forgotten again -/
theorem z_Ch.fgt {R : z_RS} {a : List (Nat × Int32)} {κ : Nat → Nat} {cc c N : Nat} (h : z_Ch b n R.1 a (z_kp κ N c) cc (N + 1)) : z_Ch b n R.1 a κ cc N := by
  intro j hj
  have q := h j (by omega)
  rw [z_kp_o hj, z_kp_ko _ (by omega)] at q
  exact q
end ZV
