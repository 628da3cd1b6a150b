/-! Checking, both together: what fits; an operation. -/
section ZRA
variable {S0 S : z_CS} {i ce : Nat} {T : Nat → Nat × Nat × Int32} {mT H ρ mo : Nat}
theorem z_KC.wr (h : z_KC S0 i T mT H ρ mo S) {k j : Nat} {x : Int32} (hk : k = 29 ∨ k = 36 ∨ k = 37) : z_KC S0 i T mT H ρ mo (z_row k j x S) := by
  obtain ⟨h1, h2, h3, h4, h5, h6, h7, h8⟩ := h
  have o : ∀ q, q ≠ k → (z_row k j x S).1 q = S.1 q := fun q hq => z_row_o hq
  refine ⟨h1.kp (fun q a b => o q (by omega)) rfl, h2, ⟨fun q a b c => (o q (by omega)).trans (h3.1 q a b c), h3.2⟩, fun q a r c => ?_, h5, ?_, ⟨h7.1, ?_, h7.2.2⟩, ?_, h8.2⟩
  · rw [o q (by omega)]
    exact h4 q a r c
  · rw [o 31 (by omega)]
    exact h6
  · rw [o 34 (by omega)]
    exact h7.2.1
  · rw [o 35 (by omega)]
    exact h8.1
/-- the class wants what fits -/
theorem k93 {l q a t : Nat} {Q : z_V → z_CS → Prop} {G : z_CS → Prop} (hl : 53 ≤ l) (hK : z_KC S0 i T mT H ρ mo S) (hq : q < 256) (ha : z_fn 0 (S.1 28) q = nI a) (a1 : a < mT) (t1 : t < mT) (hf : z_ftt T a t) (k : G S) : z_WC (l + 1) 93 0 [(0, .ref 134), (1, .int (nI q)), (2, .int (nI t))] [] S (z_cx Q (fun x S1 => x = none ∧ G S1)) := by
  have cq : (nI q).toNatClampNeg = q := nI_clamp (by omega)
  have hv := z_Tv.all hK.1.1 hK.1.2.1.2
  refine t93_0 (A := S.1) (E := S.2.1) (N := S.2.2.1) (V := S.2.2.2.1) (W := S.2.2.2.2.1) (c := S.2.2.2.2.2) ?_
  unfold p93_0
  rw [cq, ha]
  refine ⟨z_inI hq (by decide), hK.2.1.rm.1, (w94 hK.1 hK.2.1 51 a t 0 rfl a1 t1 (hv a a1) (hv t t1) _ ?_).up hl⟩
  intro v hv
  refine ⟨v, rfl, ?_⟩
  unfold p93_15
  rcases hv with ⟨rfl, -⟩ | ⟨-, q⟩
  · rw [if_neg (by decide)]
    exact ⟨rfl, k⟩
  · exact absurd hf q
theorem k93f {l q a t : Nat} {Q : z_V → z_CS → Prop} {K : Option Value → z_CS → Prop} (hl : 53 ≤ l) (hK : z_KC S0 i T mT H ρ mo S) (hq : q < 256) (ha : z_fn 0 (S.1 28) q = nI a) (a1 : a < mT) (t1 : t < mT) (hf : ¬ z_ftt T a t) (k : ∀ S', z_Yd 6 (z_fn 0 (S.1 30) q) S S' → Q (.inr 10) S') : z_WC (l + 1) 93 0 [(0, .ref 134), (1, .int (nI q)), (2, .int (nI t))] [] S (z_cx Q K) := by
  have cq : (nI q).toNatClampNeg = q := nI_clamp (by omega)
  have hv := z_Tv.all hK.1.1 hK.1.2.1.2
  refine t93_0 (A := S.1) (E := S.2.1) (N := S.2.2.1) (V := S.2.2.2.1) (W := S.2.2.2.2.1) (c := S.2.2.2.2.2) ?_
  unfold p93_0
  rw [cq, ha]
  refine ⟨z_inI hq (by decide), hK.2.1.rm.1, (w94 hK.1 hK.2.1 51 a t 0 rfl a1 t1 (hv a a1) (hv t t1) _ ?_).up hl⟩
  intro v hv
  refine ⟨v, rfl, ?_⟩
  unfold p93_15
  rcases hv with ⟨-, q⟩ | ⟨rfl, -⟩
  · exact absurd q hf
  · rw [if_pos rfl]
    unfold p93_18
    rw [cq]
    exact ⟨z_inI hq (by decide), hK.2.1.rm.1, k50q hK.2.1 (fun S' hy => ⟨rfl, k S' hy⟩)⟩
theorem z_Tqd.le {D D' : Nat} {τ : z_TT} {x y : Int32} (h : z_Tqd D τ x y) (hD : D ≤ D') : z_Tqd D' τ x y := by
  obtain ⟨i, i', h1, h2, h3, h4, h5, h6⟩ := h
  exact ⟨i, i', h1, h2, h3, h4, h5, Nat.le_trans h6 hD⟩
/-- what the reference's fits leaves -/
theorem z_XU_fit {R : z_RS} {B' : Nat → List (Nat × Int32)} {M' : Nat → List (Nat × Int64)} (h1 : ∀ k, k ≠ 49 → B' k = R.1 k) (h2 : ∀ k, k ≠ 50 → M' k = R.2.1 k) : z_XU R (B', M', R.2.2) := ⟨fun k a b => h1 k (by omega), h2, fun _ _ _ => rfl⟩
theorem z_Fl_fit {R : z_RS} {B' : Nat → List (Nat × Int32)} {M' : Nat → List (Nat × Int64)} {u : z_Bd} {cc P : Nat} (h1 : ∀ k, k ≠ 49 → B' k = R.1 k) : z_Fl u cc P R (B', M', R.2.2) := ⟨fun k a b j c => by show z_fn 0 (B' k) j = _; rw [h1 k (by omega)], fun k a b j c => by show z_fn 0 (B' k) j = _; rw [h1 k (by omega)], fun k a b j c => by show z_fn 0 (B' k) j = _; rw [h1 k (by omega)]⟩
theorem z_KR.fit {R0 R : z_RS} {T : Nat → Nat × Nat × Int32} {mT cc P : Nat} {B' : Nat → List (Nat × Int32)} {M' : Nat → List (Nat × Int64)} (h : z_KR R0 T mT cc P R) (h1 : ∀ k, k ≠ 49 → B' k = R.1 k) (h2 : ∀ k, k ≠ 50 → M' k = R.2.1 k) : z_KR R0 T mT cc P (B', M', R.2.2) := ⟨h.1.kp (fun k a b => h1 k (by omega)) rfl, h.2.1.tr (z_XU_fit h1 h2), h.2.2.1, h.2.2.2.1, h.2.2.2.2⟩
theorem w189x {l : Nat} {R : z_RS} {T : Nat → Nat × Nat × Int32} {m s t : Nat} (h : z_TyR R.1 R.2.2 T m) (hs : s < m) (ht : t < m) : ∃ (v : Int32) (B' : Nat → List (Nat × Int32)) (M' : Nat → List (Nat × Int64)), z_Rr (l + 1) 189 0 [(0, .ref 148), (1, .int (nI s)), (2, .int (nI t))] [] R (some (.int v)) (B', M', R.2.2) ∧ ((v = 1 ∧ z_ftt T s t) ∨ (v = 0 ∧ ¬ z_ftt T s t)) ∧ (∀ k, k ≠ 49 → B' k = R.1 k) ∧ (∀ k, k ≠ 50 → M' k = R.2.1 k) := by
  obtain ⟨x, R', h1, v, B', M', rfl, rfl, h4, h5, h6⟩ := w189 (l := l) (M := R.2.1) (Q := fun x R1 => ∃ (v : Int32) (B' : Nat → List (Nat × Int32)) (M' : Nat → List (Nat × Int64)), x = some (.int v) ∧ R1 = (B', M', R.2.2) ∧ ((v = 1 ∧ z_ftt T s t) ∨ (v = 0 ∧ ¬ z_ftt T s t)) ∧ (∀ k, k ≠ 49 → B' k = R.1 k) ∧ (∀ k, k ≠ 50 → M' k = R.2.1 k)) h hs ht (fun v B' M' a b c => ⟨v, B', M', rfl, rfl, a, b, c⟩)
  exact ⟨v, B', M', h1, h4, h5, h6⟩
end ZRA
section ZRB
variable {b : Nat → Nat} {n me : Nat} {τ0 : z_TT} {ce : Nat} {S0 : z_CS} {R0 : z_RS} {w : Nat} {u v1 : z_Bd} {m s e x : Nat} {p : Int32}
theorem n_perform {ef : Nat} (h1 : z_K1 b n me τ0 ce S0 R0) (hm : u.1.1 ≤ m ∧ m < u.1.2) (hu6 : u.1.2 ≤ 600) (he : e ≤ ce) (hse : s < e - 1) (hk : z_fn 0 (R0.1 57) m = 11) (w1 : z_S1 u m v1) (hxv : v1.1.1 ≤ x ∧ x < v1.1.2) (h58 : z_fn 0 (R0.1 58) m = nI x) (hef : ef < me) (ho : z_fn 0 (S0.1 14) (e - 1) = 16) (h15 : z_fn 0 (S0.1 15) (e - 1) = nI ef) (h68 : z_fn 0 (R0.1 68) m = nI ef) (h19 : z_fn 0 (S0.1 19) (e - 1) = p)
    (hw2 : z_wle 1000 w) (ihx : z_Kn b n τ0 ce S0 R0 (w - 1000) v1 x s (e - 1) (z_fn 0 (R0.1 61) m)) : z_Kn b n τ0 ce S0 R0 w u m s e p := by
  have hwm := hw2.mod
  have hwc := hw2.1
  intro Φ hΦ τ H ρ mo cc P κ S R hj hp hb fin
  obtain ⟨d, rfl⟩ : ∃ d, e = d + 1 := ⟨e - 1, by omega⟩
  simp only [Nat.add_sub_cancel] at hse ho h15 h19 ihx
  obtain ⟨N, hN⟩ : ∃ N, N = (z_ctx S0.1 s).1.length := ⟨_, rfl⟩
  have m6 : m < 600 := by omega
  have x6 : x < 600 := by have := w1.1.2; omega
  have ef8 : ef < 8 := by have := h1.2.2.1.2; omega
  have cm : (nI m).toNatClampNeg = m := nI_clamp (by omega)
  have cx' : (nI x).toNatClampNeg = x := nI_clamp (by omega)
  have cf : (nI ef).toNatClampNeg = ef := nI_clamp (by omega)
  have zm : z_in (nI m) 600 = true := z_inI m6 (by decide)
  have zx : z_in (nI x) 600 = true := z_inI x6 (by decide)
  have zf : z_in (nI ef) 8 = true := z_inI ef8 (by decide)
  have hP : P + 1 < 700 := by
    have := hb.2.1
    have := w1.1.1
    have := w1.1.2
    have := w1.2.2
    omega
  have re1 : ∀ Q, z_WR 10 183 19 [(0, .ref 148)] [] (z_pil (P + 1) x (z_ko κ N) (z_stg P 0 R)) Q → z_WR 10 183 19 [(0, .ref 148)] [] R Q := by
    intro Q hQ
    rw [← hN] at hp
    refine r183 hj.2.1 (by omega) hp m6 hk ?_
    show p183_223 9 (z_stg P 0 R).1 (z_stg P 0 R).2.1 (z_stg P 0 R).2.2 (nI P) (nI m) (nI 0) (z_ko κ N) Q
    have e58 : (z_stg P 0 R).1 58 = R0.1 58 := (hj.2.1.2.1.tr z_XU_stg).1 58 (by decide) (by decide)
    refine t196_0 (l := 8) (B := (z_stg P 0 R).1) (M := (z_stg P 0 R).2.1) (U := (z_stg P 0 R).2.2) ?_
    unfold p196_0
    rw [if_pos (show nI 0 = (0 : Int32) from rfl)]
    unfold p196_4
    rw [cm, e58, h58]
    exact ⟨zm, r184 (l := 7) (G := fun R1 => p196_15 8 R1.1 R1.2.1 R1.2.2 (nI m) (nI 0) (z_ko κ N) _) hj.2.1.2.2.2.1 hP ⟨rfl, hQ⟩⟩
  refine z_JG.re ?_ re1
  refine ihx Φ hΦ τ H ρ mo cc (P + 1) κ S _ hj.pil (by rw [← hN]; exact z_pil_tk) ⟨⟨by have := hb.1.1; omega, by have := hb.1.2.1; omega, by have := hb.1.2.2; omega⟩, ?_, hb.2.2.1, hb.2.2.2⟩ ?_
  · have := hb.2.1
    have := w1.1.1
    have := w1.1.2
    have := w1.2.2
    omega
  intro τ2 mo2 cc2 S2 R2 hke2
  obtain ⟨hj2, te2, fk2, fl2, ⟨mo12, cc12, cc2b, tb2, tb2'⟩, ⟨p2, ty2, ef2⟩, ag2, rm2, cx2, tj2⟩ := hke2
  rw [← hN] at fk2
  have hp2 := z_tpk.aft hp fl2
  rw [← hN] at hp2
  have hC := hj2.1
  have h0 := h1.1
  have hdc : d < ce := by omega
  have cd : (nI d).toNatClampNeg = d := nI_clamp (by have := h0.2.1; omega)
  have T2 := hC.1
  have TR2 := hj2.2.1.1
  have eo : z_fn 0 (S2.1 14) d = 16 := (hC.2.2.2.1 14 (by decide) d (Nat.le_refl _)).trans ho
  have e15 : z_fn 0 (S2.1 15) d = nI ef := (hC.2.2.2.1 15 (by decide) d (Nat.le_refl _)).trans h15
  have s22 : S2.1 22 = S0.1 22 := hC.2.2.1.1 22 (by decide) (by decide) (by decide)
  have s23 : S2.1 23 = S0.1 23 := hC.2.2.1.1 23 (by decide) (by decide) (by decide)
  have H256 : H + 1 ≤ 256 := by have := hb.1.1; omega
  -- types
  obtain ⟨a, a', ea, ea', la, la', da, -⟩ := id ty2
  obtain ⟨q1, q2⟩ := h1.2.2.1.1 ef hef
  have tA := z_Tqd.x h1.2.2.2.1 h1.2.2.2.2 hj2.2.2.1 q1.d
  have tG := (z_Tqd.x h1.2.2.2.1 h1.2.2.2.2 hj2.2.2.1 q2.d).le (show 50 ≤ 51 by decide)
  obtain ⟨t, t', et, et', lt, lt', dt, -⟩ := id tA
  have fx := z_ftt_x T2.1 TR2.1 _ a t (Nat.le_refl _) la lt a' t' la' lt' da dt
  have cl : ∀ Q, p96_0 61 S2.1 S2.2.1 S2.2.2.1 S2.2.2.2.1 S2.2.2.2.2.1 S2.2.2.2.2.2 (nI d) (z_cx (z_cx Q (fun x S1 => x = none ∧ z_WC 64 82 31 [(0, .ref 134), (1, .int (nI (d + 1)))] [] S1 Q)) (fun x S1 => x = none ∧ z_cx Q (fun x S1 => x = none ∧ z_WC 64 82 31 [(0, .ref 134), (1, .int (nI (d + 1)))] [] S1 Q) (.inl none) S1)) → z_WC 64 82 31 [(0, .ref 134), (1, .int (nI d))] [] S2 Q := by
    intro Q hQ
    refine k83 (o := 16) hC h0 hdc ho (by decide) ?_
    refine t83_0 (A := S2.1) (E := S2.2.1) (N := S2.2.2.1) (V := S2.2.2.2.1) (W := S2.2.2.2.2.1) (c := S2.2.2.2.2.2) ?_
    unfold p83_0
    rw [cd, eo]
    refine ⟨hC.in h0 hdc (by decide) (by decide), ?_⟩
    rw [if_neg (by decide), if_neg (by decide), if_neg (by decide), if_neg (by decide), if_neg (by decide), if_neg (by decide), if_neg (by decide), if_neg (by decide), if_neg (by decide), if_neg (by decide), if_neg (by decide), if_neg (by decide), if_neg (by decide), if_pos rfl]
    exact ⟨hC.2.1.rm.1, t96_0 (l := 61) hQ⟩
  have e7 : S2.2.2.2.1 27 7 - 1 = nI H := by rw [hC.2.2.2.2.1.1]; exact nI_pred H
  -- the reference
  have X := hj2.2.1.2.1.tr (z_XU_stg (R := R2) (P := P) (st := 1))
  have e58 : (z_stg P 1 R2).1 58 = R0.1 58 := X.1 58 (by decide) (by decide)
  have e68 : (z_stg P 1 R2).1 68 = R0.1 68 := X.1 68 (by decide) (by decide)
  have e53 : (z_stg P 1 R2).1 53 = R0.1 53 := X.1 53 (by decide) (by decide)
  have e106 : (z_stg P 1 R2).1 106 = R2.1 106 := z_stg_o (by decide)
  have tyS : z_TyR (z_stg P 1 R2).1 (z_stg P 1 R2).2.2 τ2.2.1 τ2.2.2 := (hj2.2.1.stg).1
  obtain ⟨v, B', M', hrr, hv, hB, hM⟩ := w189x (l := 7) (R := z_stg P 1 R2) tyS la' lt'
  have re : ∀ Q, p196_47 8 B' M' (z_stg P 1 R2).2.2 (nI m) (nI 1) (z_ko κ N) (nI ef) v (fun x R1 => x = none ∧ z_WR 10 183 19 [(0, .ref 148)] [] R1 Q) → z_WR 10 183 19 [(0, .ref 148)] [] R2 Q := by
    intro Q hQ
    refine r183 hj2.2.1 (by omega) hp2 m6 hk ?_
    show p183_223 9 (z_stg P 1 R2).1 (z_stg P 1 R2).2.1 (z_stg P 1 R2).2.2 (nI P) (nI m) (nI 1) (z_ko κ N) Q
    refine t196_0 (l := 8) (B := (z_stg P 1 R2).1) (M := (z_stg P 1 R2).2.1) (U := (z_stg P 1 R2).2.2) ?_
    unfold p196_0
    rw [if_neg (by decide)]
    unfold p196_16
    rw [cm, e58, e68, h58, h68, cx', cf, e53, e106, ea', et']
    exact ⟨zm, zm, zx, zf, _, _, hrr, v, rfl, hQ⟩
  have b61 : B' 61 = R0.1 61 := (hB 61 (by decide)).trans (X.1 61 (by decide) (by decide))
  have b58 : B' 58 = R0.1 58 := (hB 58 (by decide)).trans e58
  have b54 : B' 54 = R0.1 54 := (hB 54 (by decide)).trans (X.1 54 (by decide) (by decide))
  have b107 : B' 107 = R2.1 107 := (hB 107 (by decide)).trans (z_stg_o (by decide))
  have xx : z_XU R2 (B', M', (z_stg P 1 R2).2.2) := z_XU_stg.tr (z_XU_fit hB hM)
  have f0 : (z_stg P 1 R2).2.2 41 11 = 0 := hj2.2.1.2.2.2.2.1
  have r82 : (z_stg P 1 R2).2.2 41 82 = nI (P + 1) := hj2.2.1.2.2.2.1
  by_cases hf : z_ftt τ2.1.1 a t
  · have hv1 : v = 1 := by
      rcases hv with ⟨q, -⟩ | ⟨-, q⟩
      · exact q
      · exact absurd (fx.mp hf) q
    subst hv1
    obtain ⟨E, hE⟩ : ∃ E : Int32, E = z_fn 0 (R2.1 107) x ||| (1 <<< (nI ef &&& 31)) := ⟨_, rfl⟩
    have re3 : ∀ Q, z_WR 10 183 19 [(0, .ref 148)] [] (z_typ P m (z_fn 0 (R0.1 54) ef) E (B', M', (z_stg P 1 R2).2.2)) Q → z_WR 10 183 19 [(0, .ref 148)] [] R2 Q := by
      intro Q hQ
      refine re Q ?_
      unfold p196_47
      refine ⟨zm, r190 (l := 7) (R := (B', M', (z_stg P 1 R2).2.2)) ?_⟩
      show p196_58 8 B' M' (z_stg P 1 R2).2.2 (nI m) (nI 1) (z_ko κ N) (nI ef) (fun x R1 => x = none ∧ z_WR 10 183 19 [(0, .ref 148)] [] R1 Q)
      unfold p196_58
      rw [cm, b58, h58, cf, b54, cx', b107, ← hE]
      exact ⟨zf, zm, zx, r187 (l := 7) (R := (B', M', (z_stg P 1 R2).2.2)) (P := P) (G := fun R1 => p196_86 8 R1.1 R1.2.1 R1.2.2 (nI m) (nI 1) (z_ko κ N) (nI ef) (fun x R1 => x = none ∧ z_WR 10 183 19 [(0, .ref 148)] [] R1 Q)) r82 m6 ⟨rfl, hQ⟩⟩
    refine z_JG.re ?_ re3
    refine cl _ ?_
    unfold p96_0
    rw [cd, e15, cf, s22, et, e7]
    refine ⟨hC.in h0 hdc (by decide) (by decide), zf, hC.2.1.rm.1, k93 (l := 60) (G := fun S1 => p96_29 61 S1.1 S1.2.1 S1.2.2.1 S1.2.2.2.1 S1.2.2.2.2.1 S1.2.2.2.2.2 (nI d) (nI ef) _) (by decide) hC (by omega) ea la lt hf ?_⟩
    have cH : (nI H).toNatClampNeg = H := nI_clamp (by omega)
    have zH : z_in (nI H) 256 = true := z_inI (by omega) (by decide)
    unfold p96_29
    rw [e7, cH, cf, s23, ef2, ← hE]
    refine ⟨zH, zH, zf, hC.2.1.rm.1, ?_⟩
    have hC' := hC.wr (k := 29) (j := H) (x := E) (Or.inl rfl)
    refine k88 (l := 59) (p := 1) (G := fun S1 => p96_61 61 S1.1 S1.2.1 S1.2.2.1 S1.2.2.2.1 S1.2.2.2.2.1 S1.2.2.2.2.2 (nI d) (nI ef) _) hC' h0 hdc H256 (Nat.le_refl _) (by omega) ?_
    intro S3 s1 s2 s3 hC3
    rw [h19]
    have ez : z_orr ((z_row 29 H E S2).1 29) (H + 1) 1 = E := by
      show 0 ||| z_fn 0 ((z_row 29 H E S2).1 29) H = E
      rw [z_row_k, z_fcs, Int32.zero_or]
    rw [ez]
    have hC3 : z_KC S0 d τ2.1.1 τ2.1.2 H ρ mo2 S3 := hC3
    refine ⟨rfl, rfl, ?_⟩
    show z_WC 64 82 31 [(0, .ref 134), (1, .int (nI (d + 1)))] [] (z_hold H (z_fn 0 (S0.1 23) ef) E p S3) _
    have cxd : z_ctx S0.1 (d + 1) = z_ctx S0.1 d := z_ctx_id (o := 16) ho (Or.inr (Or.inl ⟨by decide, by decide⟩))
    have hC4 := (hC3.hold (z_fn 0 (S0.1 23) ef) E p).adv cxd
    have hR4 := ((hj2.2.1.stg (st := 1) (p := P)).fit hB hM).typ (m := m) (ty := z_fn 0 (R0.1 54) ef) (ef := E)
    have o4 : ∀ q, ¬ (28 ≤ q ∧ q ≤ 30) → (z_hold H (z_fn 0 (S0.1 23) ef) E p S3).1 q = S2.1 q := fun q a => by rw [z_hold_o a, s1, z_row_o (by omega)]
    have fk3 : z_Fk s (d + 1) H ρ N S2 (z_hold H (z_fn 0 (S0.1 23) ef) E p S3) := by
      refine ⟨fun k a b j c => ?_, fun k a b j c => by rw [o4 k (by omega)], fun k a j c => by rw [o4 k (by omega)], fun j c => by rw [o4 35 (by decide)], fun k a j c => by rw [o4 k (by omega)]⟩
      rw [(z_Fk.hold (s := s) (e := d + 1) (ρ := ρ) (N := N) (Nat.le_refl H)).1 k a b j c, s1]
      by_cases q : k = 29
      · rw [q, z_row_k, z_fcn (by omega)]
      · rw [z_row_o q]
    have f2 := fk2.wk (s := s) (e := d + 1) (Nat.le_refl H) (Nat.le_refl ρ) (Nat.le_refl N) (Nat.le_refl s) (by omega)
    have flb := z_Fl.pils (u := u) w1.1 (Nat.le_refl cc) fl2
    have oR : ∀ q, ¬ (46 ≤ q ∧ q ≤ 49) → q ≠ 103 → ¬ (106 ≤ q ∧ q ≤ 107) → (z_typ P m (z_fn 0 (R0.1 54) ef) E (B', M', (z_stg P 1 R2).2.2)).1 q = R2.1 q := fun q a b c => by
      rw [z_typ_o c]
      exact (hB q (by omega)).trans (z_stg_o b)
    have ct : z_Cw b n 8 τ0 S0.1 R0.1 w u m s (d + 1) (z_gl τ (S.1 32) (z_ctx S0.1 s).1.length) (z_shx τ2 (z_fn 0 (S0.1 23) ef)) := by
      have lm : τ0.1.2 ≤ 1500 := Nat.le_trans hj2.2.2.1.1.1 T2.2.1.1
      have s1 : z_shx τ2 (z_fn 0 (S2.1 28) H) = z_shx τ0 (z_fn 0 (S0.1 22) ef) := by
        rw [← z_shx_e h1.2.2.2.1 lm hj2.2.2.1 q1.d, ea, et, z_shx_n (by have := T2.2.1.1; omega), z_shx_n (by have := T2.2.1.1; omega)]
        exact z_sh_ftt T2.1 _ a t (Nat.le_refl _) la lt hf
      rw [s1] at tj2
      rw [z_shx_e h1.2.2.2.1 lm hj2.2.2.1 q2.d]
      exact z_Cw.mk (by omega) hm (fun f hf => Or.inr (Or.inr (Or.inr (Or.inr (Or.inr (Or.inr (Or.inr (Or.inr (Or.inr (Or.inr (Or.inr ⟨hk, x, ef, v1, ⟨x6, w1⟩, ef8, h58, hse, ⟨hw2, tj2 f (by show d ≤ _; omega)⟩, ho, h15, h68, rfl⟩)))))))))))
    refine fin τ2 mo2 cc2 _ _ ⟨⟨hC4, hR4, hj2.2.2.1, ?_, ?_⟩, te2, by rw [← hN]; exact f2.tr fk3, flb.tr (((z_Fl.stg (Nat.le_refl _)).tr (z_Fl_fit (R := z_stg P 1 R2) hB)).tr (z_Fl.typ hm)), ⟨mo12, cc12, by omega, ?_, ?_⟩, ⟨?_, ?_, ?_⟩, ?_, ?_, cxd.trans cx2, by rw [z_hold_28, z_fcs]; exact ct⟩
    · rw [cxd]
      intro j hj
      rw [o4 31 (by decide), oR 101 (by decide) (by decide) (by decide), oR 98 (by decide) (by decide) (by decide), oR 99 (by decide) (by decide) (by decide)]
      exact hj2.2.2.2.1 j hj
    · rw [cxd]
      intro j hj
      rw [o4 32 (by decide), oR 100 (by decide) (by decide) (by decide)]
      exact hj2.2.2.2.2 j hj
    · have := z_cf_le (a := S0.1 14) (show d ≤ d + 1 from Nat.le_succ d)
      omega
    · have := z_cf_le (a := S0.1 14) (show d ≤ d + 1 from Nat.le_succ d)
      omega
    · rw [z_hold_30, z_fcs]
    · rw [z_hold_28, z_fcs, z_typ_106, z_fcs]
      exact tG
    · rw [z_hold_29, z_fcs, z_typ_107, z_fcs]
    · intro j j1 j2
      by_cases q2 : j < d
      · exact (ag2 j j1 q2).e (fun q hq => by rw [o4 q (by omega)])
      · have ej : j = d := by omega
        rw [ej]
        refine z_ag.sm (by rw [ho]; decide) (fun q hq => ?_)
        rw [o4 q (by omega)]
        exact hC.2.2.2.1 q hq d (Nat.le_refl _)
    · intro j j1 j2 jl
      by_cases q2 : j ≤ d
      · exact rm2 j j1 q2 jl
      · have ej : j = d + 1 := by omega
        rw [ej, cxd]
        exact hC.2.2.2.2.2.2.2.2.1
  · have hf' : ¬ z_ftt τ2.2.1 a' t' := fun q => hf (fx.mpr q)
    refine z_JG.dead (x := 6) (y := z_fn 0 (R0.1 61) m) hΦ hC.2.2.1 hj2.2.1.2.1 (fun Q hQ => cl Q ?_) (fun Q hQ => re Q ?_)
    · unfold p96_0
      rw [cd, e15, cf, s22, et, e7]
      refine ⟨hC.in h0 hdc (by decide) (by decide), zf, hC.2.1.rm.1, k93f (l := 60) (by decide) hC (by omega) ea la lt hf (fun S' hy => ⟨rfl, rfl, hQ S' (by rw [← p2]; exact hy)⟩)⟩
    · rcases hv with ⟨-, q⟩ | ⟨rfl, -⟩
      · exact absurd q hf'
      · unfold p196_47
        rw [cm, b61]
        refine ⟨zm, r190f (l := 7) (R := (B', M', (z_stg P 1 R2).2.2)) f0 ?_⟩
        show p196_58 8 B' M' (z_UF (z_stg P 1 R2).2.2 6 (z_fn 0 (R0.1 61) m)) (nI m) (nI 1) (z_ko κ N) (nI ef) (fun x R1 => x = none ∧ z_WR 10 183 19 [(0, .ref 148)] [] R1 Q)
        unfold p196_58
        rw [cm, b58, h58]
        refine ⟨zf, zm, zx, r187 (l := 7) (R := (B', M', z_UF (z_stg P 1 R2).2.2 6 (z_fn 0 (R0.1 61) m))) (P := P) (G := fun R1 => p196_86 8 R1.1 R1.2.1 R1.2.2 (nI m) (nI 1) (z_ko κ N) (nI ef) (fun x R1 => x = none ∧ z_WR 10 183 19 [(0, .ref 148)] [] R1 Q)) r82 m6 ?_⟩
        have td : z_Td 6 (z_fn 0 (R0.1 61) m) (z_UF (z_stg P 1 R2).2.2 6 (z_fn 0 (R0.1 61) m)) := z_Td_F (by decide)
        have td2 : ∀ ty ee, z_Td 6 (z_fn 0 (R0.1 61) m) (z_typ P m ty ee (B', M', z_UF (z_stg P 1 R2).2.2 6 (z_fn 0 (R0.1 61) m))).2.2 := fun _ _ => ⟨td.1, td.2.1, td.2.2⟩
        exact ⟨rfl, r183d (l := 9) (td2 _ _) (hQ _ (td2 _ _) ((xx.tr (z_XU_F (R := (B', M', (z_stg P 1 R2).2.2)))).tr z_XU_typ))⟩
end ZRB
