/-! Checking, both together: what checking a node comes to; values. -/
theorem z_cf_le {a : List (Nat × Int32)} {s e : Nat} (h : s ≤ e) : z_cf a s ≤ z_cf a e := by
  induction h with
  | refl => exact Nat.le_refl _
  | step _ ih => exact Nat.le_trans ih z_cf_s.2
/-- what is checked -/
def z_K1 (b : Nat → Nat) (n me : Nat) (τ0 : z_TT) (ce : Nat) (S0 : z_CS) (R0 : z_RS) : Prop := z_K0 S0 ce ∧ z_Tr (R0.1 44) b n ∧ (z_Et τ0 me S0.1 R0.1 ∧ me ≤ 8) ∧ z_Tw τ0.1.1 τ0.1.2 ∧ z_Tw τ0.2.1 τ0.2.2
/-- both, ahead of instruction i -/
def z_Kj (b : Nat → Nat) (n : Nat) (τ0 : z_TT) (S0 : z_CS) (R0 : z_RS) (i : Nat) (τ : z_TT) (H ρ mo cc P : Nat) (κ : Nat → Nat) (S : z_CS) (R : z_RS) : Prop :=
  z_KC S0 i τ.1.1 τ.1.2 H ρ mo S ∧ z_KR R0 τ.2.1 τ.2.2 cc P R ∧ z_Te τ0 τ ∧ z_Ch b n R.1 (S.1 31) κ cc (z_ctx S0.1 i).1.length ∧ ∀ j, j < (z_ctx S0.1 i).1.length → z_Tqd 51 τ (z_fn 0 (S.1 32) j) (z_fn 0 (R.1 100) (κ j))
/-- there is room for a node's checking -/
def z_Bk (S0 : z_CS) (ce w : Nat) (u : z_Bd) (s : Nat) (τ : z_TT) (H ρ cc P : Nat) : Prop := (H + w % 1000 < 256 ∧ 2 * (z_ctx S0.1 s).1.length + w % 1000 ≤ 240 ∧ 4 * ρ + w % 1000 ≤ 240) ∧ P + (u.1.2 - u.1.1) ≤ 700 ∧ cc + 2 * (ce - s) ≤ 190000 ∧ (τ.1.2 + z_cf (S0.1 14) ce ≤ 1400 + z_cf (S0.1 14) s ∧ τ.2.2 + z_cf (S0.1 14) ce ≤ 1400 + z_cf (S0.1 14) s)
/-- a node has been checked -/
def z_Ke (b : Nat → Nat) (n : Nat) (τ0 : z_TT) (S0 : z_CS) (R0 : z_RS) (w : Nat) (u : z_Bd) (m s e : Nat) (p : Int32) (τ : z_TT) (H ρ mo cc P : Nat) (κ : Nat → Nat) (S : z_CS) (R : z_RS) (τ' : z_TT) (mo' cc' : Nat) (S' : z_CS) (R' : z_RS) : Prop :=
  z_Kj b n τ0 S0 R0 e τ' (H + 1) ρ mo' cc' P κ S' R' ∧ z_Te τ τ' ∧ z_Fk s e H ρ (z_ctx S0.1 s).1.length S S' ∧ z_Fl u cc P R R' ∧
  (mo ≤ mo' ∧ cc ≤ cc' ∧ cc' ≤ cc + 2 * (e - s) ∧ τ'.1.2 + z_cf (S0.1 14) s ≤ τ.1.2 + z_cf (S0.1 14) e ∧ τ'.2.2 + z_cf (S0.1 14) s ≤ τ.2.2 + z_cf (S0.1 14) e) ∧
  (z_fn 0 (S'.1 30) H = p ∧ z_Tqd 51 τ' (z_fn 0 (S'.1 28) H) (z_fn 0 (R'.1 106) m) ∧ z_fn 0 (S'.1 29) H = z_fn 0 (R'.1 107) m) ∧
  (∀ j, s ≤ j → j < e → z_ag S0.1 S'.1 j) ∧ (∀ j, s ≤ j → j ≤ e → (z_ctx S0.1 j).2.length = ρ + 1 → (z_ctx S0.1 j).1.length ≤ mo') ∧ z_ctx S0.1 e = z_ctx S0.1 s ∧ z_Cw b n 8 τ0 S0.1 R0.1 w u m s e (z_gl τ (S.1 32) (z_ctx S0.1 s).1.length) (z_shx τ' (z_fn 0 (S'.1 28) H))
/-- an end by a fault that both tell is good -/
def z_Fd (S0 : z_CS) (R0 : z_RS) (Φ : z_V → z_CS → z_RS → Prop) : Prop := ∀ x y S' R', z_Yd x y S0 S' → z_Td x y R'.2.2 → z_XU R0 R' → Φ (.inr 10) S' R'
/-- node m can be checked -/
def z_Kn (b : Nat → Nat) (n : Nat) (τ0 : z_TT) (ce : Nat) (S0 : z_CS) (R0 : z_RS) (w : Nat) (u : z_Bd) (m s e : Nat) (p : Int32) : Prop :=
  ∀ Φ, z_Fd S0 R0 Φ → ∀ τ H ρ mo cc P κ S R, z_Kj b n τ0 S0 R0 s τ H ρ mo cc (P + 1) κ S R → z_tpk P m 0 (z_ko κ (z_ctx S0.1 s).1.length) R → z_Bk S0 ce w u s τ H ρ cc P →
    (∀ τ' mo' cc' S' R', z_Ke b n τ0 S0 R0 w u m s e p τ H ρ mo cc P κ S R τ' mo' cc' S' R' → z_JG Φ e S' R') → z_JG Φ s S R
section ZO
variable {b : Nat → Nat} {n me : Nat} {τ0 : z_TT} {ce : Nat} {S0 : z_CS} {R0 : z_RS} {w : Nat} {u : z_Bd} {m s e : Nat} {p : Int32}
theorem z_tqlo {τ : z_TT} {t : Nat} (ht : t < 3) (h1 : z_Tw τ.1.1 τ.1.2) (h2 : z_Tw τ.2.1 τ.2.2) : z_Tqd 51 τ (nI t) (nI t) := ⟨t, t, rfl, rfl, Nat.lt_of_lt_of_le ht h1.1, Nat.lt_of_lt_of_le ht h2.1, by rw [z_dt_lo ht, z_dt_lo ht], by rw [z_ad_lo ht]; omega⟩
theorem z_ctx_id {A : Nat → List (Nat × Int32)} {i o : Nat} (h : z_fn 0 (A 14) i = nI o) (ho : o < 4 ∨ (5 < o ∧ o < 17) ∨ o = 27) : z_ctx A (i + 1) = z_ctx A i := by
  rw [z_ctx_s h]
  unfold z_cs
  have q : ∀ k, k < 100 → o ≠ k → ¬ nI o = nI k := fun k hk ne e => ne ((nI_eq (by omega) (by omega)).mp e)
  rw [if_neg (show ¬ nI o = 4 from q 4 (by decide) (by omega)), if_neg (show ¬ nI o = 5 from q 5 (by decide) (by omega)), if_neg (show ¬ nI o = 17 from q 17 (by decide) (by omega)), if_neg (show ¬ nI o = 18 from q 18 (by decide) (by omega)), if_neg (show ¬ nI o = 19 from q 19 (by decide) (by omega)), if_neg (show ¬ nI o = 20 from q 20 (by decide) (by omega)), if_neg (show ¬ nI o = 21 from q 21 (by decide) (by omega)), if_neg (show ¬ nI o = 22 from q 22 (by decide) (by omega)), if_neg (show ¬ nI o = 23 from q 23 (by decide) (by omega)), if_neg (show ¬ nI o = 24 from q 24 (by decide) (by omega)), if_neg (show ¬ nI o = 25 from q 25 (by decide) (by omega)), if_neg (show ¬ nI o = 26 from q 26 (by decide) (by omega))]
/-- a value: its type is t -/
theorem n_val {t : Nat} (ht : t < 3) (h1 : z_K1 b n me τ0 ce S0 R0) (hm : u.1.1 ≤ m ∧ m < u.1.2) (hm6 : m < 600) (hs : s < ce) (hk : z_fn 0 (R0.1 57) m = nI (12 + t)) (ho : z_fn 0 (S0.1 14) s = 0) (h16 : z_fn 0 (S0.1 16) s = nI t) (hv : (t < 2 → z_fn 0 (S0.1 15) s = z_fn 0 (R0.1 68) m) ∧ (t = 2 → z_fn 0 (S0.1 15) s = 0) ∧ (t = 1 → z_fn 0 (S0.1 15) s = 0 ∨ z_fn 0 (S0.1 15) s = 1)) (h19 : z_fn 0 (S0.1 19) s = p) : z_Kn b n τ0 ce S0 R0 w u m s (s + 1) p := by
  intro Φ hΦ τ H ρ mo cc P κ S R hj hp hb fin
  obtain ⟨hC, hR', hte, hch, hty⟩ := id hj
  have h0 := h1.1
  have cx : z_ctx S0.1 (s + 1) = z_ctx S0.1 s := z_ctx_id (o := 0) ho (Or.inl (by decide))
  have ci : (nI s).toNatClampNeg = s := nI_clamp (by have := h0.2.1; omega)
  -- the class
  have cl : ∀ Q, z_WC 64 82 31 [(0, .ref 134), (1, .int (nI (s + 1)))] [] (z_hold H (nI t) 0 p S) Q → z_WC 64 82 31 [(0, .ref 134), (1, .int (nI s))] [] S Q := by
    intro Q hQ
    refine k83 (o := 0) hC h0 hs ho (by decide) ?_
    refine t83_0 (A := S.1) (E := S.2.1) (N := S.2.2.1) (V := S.2.2.2.1) (W := S.2.2.2.2.1) (c := S.2.2.2.2.2) ?_
    unfold p83_0
    have eo : z_fn 0 (S.1 14) s = 0 := (hC.2.2.2.1 14 (by decide) s (Nat.le_refl _)).trans ho
    have e16 : S.1 16 = S0.1 16 := hC.2.2.1.1 16 (by decide) (by decide) (by decide)
    rw [ci, eo]
    refine ⟨hC.in h0 hs (by decide) (by decide), ?_⟩
    rw [if_pos rfl]
    unfold p83_92
    rw [ci, e16, h16]
    refine ⟨hC.in h0 hs (by decide) (by decide), hC.2.1.rm.1, ?_⟩
    refine k84 (G := fun S1 => p83_107 62 S1.1 S1.2.1 S1.2.2.1 S1.2.2.2.1 S1.2.2.2.2.1 S1.2.2.2.2.2 (nI s) (z_cx Q (fun x S1 => x = none ∧ z_WC 64 82 31 [(0, .ref 134), (1, .int (nI (s + 1)))] [] S1 Q))) hC h0 hs (by have := hb.1.1; omega) ?_
    rw [h19]
    exact ⟨rfl, hQ⟩
  -- the reference
  have h82 : ∀ p', (z_stg p' 0 R).2.2 41 82 = nI (P + 1) := fun _ => hR'.2.2.2.1
  have re : ∀ Q, z_WR 10 183 19 [(0, .ref 148)] [] (z_typ P m (nI t) 0 (z_stg P 0 R)) Q → z_WR 10 183 19 [(0, .ref 148)] [] R Q := by
    intro Q hQ
    refine r183 hR' (by have := hb.2.1; omega) hp hm6 hk ?_
    rcases (show t = 0 ∨ t = 1 ∨ t = 2 by omega) with rfl | rfl | rfl
    · exact r187 (l := 8) (G := fun R1 => p183_241 9 R1.1 R1.2.1 R1.2.2 (nI P) (nI m) (nI 0) (z_ko κ (z_ctx S0.1 s).1.length) Q) (h82 P) hm6 hQ
    · exact r187 (l := 8) (G := fun R1 => p183_251 9 R1.1 R1.2.1 R1.2.2 (nI P) (nI m) (nI 0) (z_ko κ (z_ctx S0.1 s).1.length) Q) (h82 P) hm6 hQ
    · exact r187 (l := 8) (G := fun R1 => p183_261 9 R1.1 R1.2.1 R1.2.2 (nI P) (nI m) (nI 0) (z_ko κ (z_ctx S0.1 s).1.length) Q) (h82 P) hm6 hQ
  refine z_JG.cl (z_JG.re (fin τ mo cc _ _ ?_) re) cl
  have hC1 := (hC.hold (nI t) 0 p).adv cx
  have hR1 := (hR'.stg (st := 0) (p := P)).typ (m := m) (ty := nI t) (ef := 0)
  refine ⟨⟨hC1, hR1, hte, ?_, ?_⟩, z_Te.rf, z_Fk.hold (Nat.le_refl _), (z_Fl.stg (Nat.le_refl _)).tr (z_Fl.typ hm), ⟨Nat.le_refl _, Nat.le_refl _, by omega, Nat.add_le_add_left (z_cf_le (Nat.le_succ _)) _, Nat.add_le_add_left (z_cf_le (Nat.le_succ _)) _⟩, ⟨?_, ?_, ?_⟩, ?_, ?_, cx, ?_⟩
  · rw [cx]
    intro j hj
    rw [z_hold_o (by decide), z_typ_o (by decide), z_typ_o (by decide), z_typ_o (by decide), z_stg_o (by decide), z_stg_o (by decide), z_stg_o (by decide)]
    exact hch j hj
  · rw [cx]
    intro j hj
    rw [z_hold_o (by decide), z_typ_o (by decide), z_stg_o (by decide)]
    exact hty j hj
  · rw [z_hold_30, z_fcs]
  · rw [z_hold_28, z_fcs, z_typ_106, z_fcs]
    exact z_tqlo ht hC.1.1 hR'.1.1
  · rw [z_hold_29, z_fcs, z_typ_107, z_fcs]
  · intro j j1 j2
    have ej : j = s := by omega
    rw [ej]
    refine z_ag.sm (by rw [ho]; decide) (fun k hk => ?_)
    rw [z_hold_o (by omega)]
    exact hC.2.2.2.1 k hk s (Nat.le_refl _)
  · intro j j1 j2 _
    have q := hC.2.2.2.2.2.2.2.2.1
    rcases (show j = s ∨ j = s + 1 by omega) with rfl | rfl
    · exact q
    · rw [cx]
      exact q
  · rw [z_hold_28, z_fcs, z_shx_lo ht]
    refine z_Cw.mk (Nat.lt_succ_self s) hm (fun f _ => ?_)
    rcases (show t = 0 ∨ t = 1 ∨ t = 2 by omega) with rfl | rfl | rfl
    · exact Or.inl ⟨hk, rfl, ho, hv.1 (by decide), rfl⟩
    · exact Or.inr (Or.inl ⟨hk, rfl, ho, hv.1 (by decide), hv.2.2 rfl, rfl⟩)
    · exact Or.inr (Or.inr (Or.inl ⟨hk, rfl, ho, hv.2.1 rfl, rfl⟩))
/-- the forms of the names' types, of another state -/
theorem z_Kj.gl {i H ρ mo cc P : Nat} {τ τ' : z_TT} {κ : Nat → Nat} {S S' : z_CS} {R : z_RS} {i' : Nat} (h : z_Kj b n τ0 S0 R0 i τ H ρ mo cc P κ S R) (he : z_Te τ τ') (fk : ∀ j, j < (z_ctx S0.1 i).1.length → z_fn 0 (S'.1 32) j = z_fn 0 (S.1 32) j) (hi : z_ctx S0.1 i' = z_ctx S0.1 i) : z_gl τ' (S'.1 32) (z_ctx S0.1 i').1.length = z_gl τ (S.1 32) (z_ctx S0.1 i).1.length := by
  rw [hi, z_gl_e _ fk]
  exact z_gl_t h.1.1.1 h.1.1.2.1.1 he _ h.2.2.2.2
end ZO
