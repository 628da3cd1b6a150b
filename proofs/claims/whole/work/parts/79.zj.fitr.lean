/-! The reference's fits: a pile of pairs, and which pairs were asked already. -/
def z_vb (w : Int64) (r : Nat) : Prop := lg_cmp ((w >>> (lN r &&& 63)) &&& 1) 1 = 0
theorem z_vb_sh : ∀ r : Fin 64, ∀ q : Fin 64, r ≠ q → (((1 : Int64) <<< (lN q.val &&& 63)) >>> (lN r.val &&& 63)) &&& 1 = 0 := by decide +kernel
theorem z_vb_0 : ∀ r : Fin 64, ¬ z_vb 0 r.val := by
  unfold z_vb
  decide +kernel
theorem z_and1 {x y : Int64} : (x ||| y) &&& 1 = (x &&& 1) ||| (y &&& 1) := by
  apply Int64.toBitVec_inj.1
  show (x.toBitVec ||| y.toBitVec) &&& 1#64 = (x.toBitVec &&& 1#64) ||| (y.toBitVec &&& 1#64)
  apply BitVec.eq_of_getLsbD_eq
  intro i hi
  rw [BitVec.getLsbD_and, BitVec.getLsbD_or, BitVec.getLsbD_or, BitVec.getLsbD_and, BitVec.getLsbD_and]
  cases x.toBitVec.getLsbD i <;> cases y.toBitVec.getLsbD i <;> cases (1#64).getLsbD i <;> rfl
theorem z_vb_or {w : Int64} {r q : Nat} (hr : r < 64) (hq : q < 64) (ne : r ≠ q) (h : z_vb (w ||| (1 <<< (lN q &&& 63))) r) : z_vb w r := by
  unfold z_vb at h ⊢
  rw [Int64.shiftRight_or, z_and1, z_vb_sh ⟨r, hr⟩ ⟨q, hq⟩ (fun e => ne (congrArg Fin.val e)), Int64.or_zero] at h
  exact h
/-- the pair was asked -/
def z_vis (M : Nat → List (Nat × Int64)) (a b : Nat) : Prop := z_vb (z_fn 0 (M 50) ((1500 * a + b) / 64)) ((1500 * a + b) % 64)
theorem z_nI2 {i k : Nat} : nI i + nI k = nI (i + k) := (Int32.ofNat_add i k).symm
theorem z_nIm {i : Nat} : nI (i + 2) + Int32.ofInt (-2) = nI i := by
  rw [← z_nI2, Int32.add_assoc, show nI 2 + Int32.ofInt (-2) = 0 by decide, Int32.add_zero]
/-- the reference's fits -/
theorem w189 {l : Nat} {B : Nat → List (Nat × Int32)} {M : Nat → List (Nat × Int64)} {U : Nat → Nat → Int32} {T : Nat → Nat × Nat × Int32} {m s t : Nat} {Q : Option Value → z_RS → Prop} (h : z_TyR B U T m) (hs : s < m) (ht : t < m) (hQ : ∀ (v : Int32) B' M', ((v = 1 ∧ z_ftt T s t) ∨ (v = 0 ∧ ¬ z_ftt T s t)) → (∀ k, k ≠ 49 → B' k = B k) → (∀ k, k ≠ 50 → M' k = M k) → Q (some (.int v)) (B', M', U)) : z_WR (l + 1) 189 0 [(0, .ref 148), (1, .int (nI s)), (2, .int (nI t))] [] (B, M, U) Q := by
  obtain ⟨hT, hm, -, hA⟩ := id h
  have pr : ∀ n a b i B' M', a + b ≤ n → a < m → b < m → i + a + b ≤ 7990 → (∀ k, k ≠ 49 → B' k = B k) → (∀ k, k ≠ 50 → M' k = M k) → z_fn 0 (B' 49) i = nI a → z_fn 0 (B' 49) (i + 1) = nI b → (∀ x y, x < m → y < m → z_vis M' x y → z_ftt T x y ∨ a + b < x + y) → (∀ B'' M'', (∀ k, k ≠ 49 → B'' k = B k) → (∀ k, k ≠ 50 → M'' k = M k) → z_ftt T a b → (∀ j, j < i → z_fn 0 (B'' 49) j = z_fn 0 (B' 49) j) → (∀ x y, x < m → y < m → z_vis M'' x y → z_vis M' x y ∨ z_ftt T x y) → z_WR (l + 1) 189 44 [(0, .ref 148), (1, .int (nI s)), (2, .int (nI t)), (3, .int (nI i))] [] (B'', M'', U) Q) → (¬ z_ftt T a b → ∀ B'' M'', (∀ k, k ≠ 49 → B'' k = B k) → (∀ k, k ≠ 50 → M'' k = M k) → Q (some (.int 0)) (B'', M'', U)) → z_WR (l + 1) 189 44 [(0, .ref 148), (1, .int (nI s)), (2, .int (nI t)), (3, .int (nI (i + 2)))] [] (B', M', U) Q := by
    intro n
    induction n using Nat.strongRecOn with
    | ind n ih =>
      intro a b i B' M' hn ha hb hi fB fM ea eb vis kY kN
      refine t189_44 ?_
      unfold p189_44
      rw [if_neg (show ¬ nI (i + 2) ≤ 0 from nI_ge (a := 0) (b := i + 2) (by omega) (by omega))]
      unfold p189_48
      have ci : (nI i).toNatClampNeg = i := nI_clamp (by omega)
      have ci1 : (nI (i + 1)).toNatClampNeg = i + 1 := nI_clamp (by omega)
      rw [z_nIm, nI_1, ci, ci1, ea, eb]
      refine ⟨z_inI (by omega) (by decide), z_inI (by omega) (by decide), ?_⟩
      by_cases e : a = b
      · subst e
        rw [if_pos rfl]
        exact kY B' M' fB fM z_ftt.rf (fun _ _ => rfl) (fun _ _ _ _ q => Or.inl q)
      · rw [if_neg (fun q => e ((nI_eq (by omega) (by omega)).mp q))]
        have key : (1500 : Int32) * nI a + nI b = nI (1500 * a + b) := by
          rw [← z_nI2, ← pk_mul]
          rfl
        rw [key]
        obtain ⟨q, hq⟩ : ∃ q, q = 1500 * a + b := ⟨_, rfl⟩
        have q1 : q < 2250000 := by omega
        rw [← hq]
        have kd : nI q / 64 = nI (q / 64) := pk_div (d := 64) (by omega) (by decide) (by decide)
        have kr : nI q - nI (q / 64) * 64 = nI (q % 64) := by
          rw [← kd]
          exact pk_rem (d := 64) (by omega) (by decide) (by decide)
        have kl : (nI (q % 64)).toInt64 = lN (q % 64) := nI_l (by omega)
        have cq : (nI (q / 64)).toNatClampNeg = q / 64 := nI_clamp (by omega)
        unfold p189_87
        rw [kd, kr, kl, cq]
        refine ⟨z_inI (by omega) (by decide), ?_⟩
        by_cases hv : lg_cmp (((z_fn 0 (M' 50) (q / 64)) >>> (lN (q % 64) &&& 63)) &&& 1) 1 = 0
        · rw [if_pos hv]
          have hv' : z_vis M' a b := by
            unfold z_vis
            rw [← hq]
            exact hv
          have hf : z_ftt T a b := by
            rcases vis a b ha hb hv' with q | q
            · exact q
            · omega
          exact kY B' M' fB fM hf (fun _ _ => rfl) (fun _ _ _ _ q => Or.inl q)
        · rw [if_neg hv]
          unfold p189_113
          by_cases a3 : a < 3
          · rw [if_pos (show nI a < 3 from nI_lt a3 (by decide))]
            exact kN (z_ftt_lo (Or.inl a3) e) B' M' fB fM
          · rw [if_neg (show ¬ nI a < 3 from nI_nlt (b := 3) (by omega) (by omega))]
            unfold p189_119
            by_cases b3 : b < 3
            · rw [if_pos (show nI b < 3 from nI_lt b3 (by decide))]
              exact kN (z_ftt_lo (Or.inr b3) e) B' M' fB fM
            · rw [if_neg (show ¬ nI b < 3 from nI_nlt (b := 3) (by omega) (by omega))]
              obtain ⟨x6, x7, x8⟩ := hA a (by omega) ha
              obtain ⟨y6, y7, y8⟩ := hA b (by omega) hb
              obtain ⟨a1, a2, -⟩ := hT.2 a (by omega) ha
              obtain ⟨b1, b2, -⟩ := hT.2 b (by omega) hb
              have ca : (nI a).toNatClampNeg = a := nI_clamp (by omega)
              have cb : (nI b).toNatClampNeg = b := nI_clamp (by omega)
              have fs := z_ftt_s hT (show 3 ≤ a by omega) (show 3 ≤ b by omega) ha hb e
              unfold p189_125
              rw [ca, cb, fB 48 (by decide), x8, y8]
              refine ⟨z_inI (by omega) (by decide), z_inI (by omega) (by decide), ?_⟩
              by_cases hrow : ((T a).2.2 &&& ((T b).2.2 ^^^ (-1))) = 0
              · rw [if_pos hrow]
                unfold p189_147
                rw [kd, kr, kl, cq, ca, cb, fB 46 (by decide), fB 47 (by decide), x6, y6, x7, y7, show nI i + 1 = nI (i + 1) from nI_1 i, show nI i + 2 = nI (i + 2) from z_nI2, show nI i + 3 = nI (i + 3) from z_nI2, show nI i + 4 = nI (i + 4) from z_nI2, ci, ci1, show (nI (i + 2)).toNatClampNeg = i + 2 from nI_clamp (by omega), show (nI (i + 3)).toNatClampNeg = i + 3 from nI_clamp (by omega)]
                refine ⟨z_inI (by omega) (by decide), z_inI (by omega) (by decide), z_inI (by omega) (by decide), z_inI (by omega) (by decide), z_inI (by omega) (by decide), z_inI (by omega) (by decide), z_inI (by omega) (by decide), z_inI (by omega) (by decide), z_inI (by omega) (by decide), z_inI (by omega) (by decide), ?_⟩
                obtain ⟨B1, hB1⟩ : ∃ X, X = (z_u B' 49 ((i + 3, nI (T b).2.1) :: (i + 2, nI (T a).2.1) :: (i + 1, nI (T a).1) :: (i, nI (T b).1) :: B' 49)) := ⟨_, rfl⟩
                obtain ⟨M1, hM1⟩ : ∃ X, X = (z_u M' 50 ((q / 64, (z_fn 0 (M' 50) (q / 64)) ||| (1 <<< (lN (q % 64) &&& 63))) :: M' 50)) := ⟨_, rfl⟩
                rw [← hB1, ← hM1]
                have fB1 : ∀ k, k ≠ 49 → B1 k = B k := fun k hk => by rw [hB1, z_un hk]; exact fB k hk
                have fM1 : ∀ k, k ≠ 50 → M1 k = M k := fun k hk => by rw [hM1, z_un hk]; exact fM k hk
                have g3 : z_fn 0 (B1 49) (i + 3) = nI (T b).2.1 := by rw [hB1, z_uk, z_fcs]
                have g2 : z_fn 0 (B1 49) (i + 2) = nI (T a).2.1 := by rw [hB1, z_uk, z_fcn (by omega), z_fcs]
                have g1 : z_fn 0 (B1 49) (i + 1) = nI (T a).1 := by rw [hB1, z_uk, z_fcn (by omega), z_fcn (by omega), z_fcs]
                have g0 : z_fn 0 (B1 49) i = nI (T b).1 := by rw [hB1, z_uk, z_fcn (by omega), z_fcn (by omega), z_fcn (by omega), z_fcs]
                have gl : ∀ j, j < i → z_fn 0 (B1 49) j = z_fn 0 (B' 49) j := fun j hj => by rw [hB1, z_uk, z_fcn (by omega), z_fcn (by omega), z_fcn (by omega), z_fcn (by omega)]
                have v1 : ∀ x y, x < m → y < m → z_vis M1 x y → z_vis M' x y ∨ (x = a ∧ y = b) := by
                  intro x y hx hy hv
                  by_cases ek : 1500 * x + y = q
                  · exact Or.inr (by omega)
                  · refine Or.inl ?_
                    unfold z_vis at hv ⊢
                    rw [hM1, z_uk] at hv
                    by_cases ed : (1500 * x + y) / 64 = q / 64
                    · rw [ed, z_fcs] at hv
                      rw [ed]
                      exact z_vb_or (by omega) (by omega) (by omega) hv
                    · rw [z_fcn ed] at hv
                      exact hv
                have vis1 : ∀ z, z < a + b → ∀ x y, x < m → y < m → z_vis M1 x y → z_ftt T x y ∨ z < x + y := by
                  intro z hz x y hx hy hv
                  rcases v1 x y hx hy hv with q | ⟨rfl, rfl⟩
                  · rcases vis x y hx hy q with q | q
                    · exact Or.inl q
                    · exact Or.inr (by omega)
                  · exact Or.inr hz
                refine ih (n - 1) (by omega) (T a).2.1 (T b).2.1 (i + 2) B1 M1 (by omega) (by omega) (by omega) (by omega) fB1 fM1 g2 g3 (vis1 _ (by omega)) ?_ ?_
                · intro B2 M2 fB2 fM2 f2 k2 v2
                  refine ih (n - 1) (by omega) (T b).1 (T a).1 i B2 M2 (by omega) (by omega) (by omega) (by omega) fB2 fM2 ((k2 i (by omega)).trans g0) ((k2 (i + 1) (by omega)).trans g1) ?_ ?_ ?_
                  · intro x y hx hy hv
                    rcases v2 x y hx hy hv with q | q
                    · exact vis1 _ (by omega) x y hx hy q
                    · exact Or.inl q
                  · intro B3 M3 fB3 fM3 f3 k3 v3
                    have hf := fs.mpr ⟨hrow, f3, f2⟩
                    refine kY B3 M3 fB3 fM3 hf (fun j hj => (k3 j hj).trans ((k2 j (by omega)).trans (gl j hj))) ?_
                    intro x y hx hy hv
                    rcases v3 x y hx hy hv with q | q
                    · rcases v2 x y hx hy q with q | q
                      · rcases v1 x y hx hy q with q | ⟨rfl, rfl⟩
                        · exact Or.inl q
                        · exact Or.inr hf
                      · exact Or.inr q
                    · exact Or.inr q
                  · intro nf
                    exact kN (fun q => nf (fs.mp q).2.1)
                · intro nf
                  exact kN (fun q => nf (fs.mp q).2.2)
              · rw [if_neg hrow]
                exact kN (fun q => hrow (fs.mp q).1) B' M' fB fM
  refine t189_0 ?_
  unfold p189_0
  by_cases e : s = t
  · subst e
    rw [if_pos rfl]
    exact hQ 1 B M (Or.inl ⟨rfl, z_ftt.rf⟩) (fun _ _ => rfl) (fun _ _ => rfl)
  · rw [if_neg (fun q => e ((nI_eq (by omega) (by omega)).mp q))]
    have cl : ∀ k i M', i + k = 35200 → (∀ k, k ≠ 50 → M' k = M k) → (∀ j, j < i → z_fn 0 (M' 50) j = 0) → z_WR (l + 1) 189 9 [(0, .ref 148), (1, .int (nI s)), (2, .int (nI t)), (3, .int (nI i))] [] (B, M', U) Q := by
      intro k
      induction k with
      | zero =>
        intro i M' hi fM hz
        refine t189_9 ?_
        unfold p189_9
        rw [if_pos (show (35200 : Int32) ≤ nI i from nI_le (a := 35200) (by omega) (by omega))]
        unfold p189_28
        obtain ⟨B1, hB1⟩ : ∃ X, X = (z_u B 49 ((1, nI t) :: (0, nI s) :: B 49)) := ⟨_, rfl⟩
        rw [← hB1]
        refine pr (s + t) s t 0 B1 M' (Nat.le_refl _) hs ht (by omega) (fun k hk => by rw [hB1, z_un hk]) fM (by rw [hB1, z_uk, z_fcn (by decide), z_fcs]) (by rw [hB1, z_uk, z_fcs]) ?_ ?_ ?_
        · intro x y hx hy hv
          unfold z_vis at hv
          rw [hz _ (by omega)] at hv
          exact absurd hv (z_vb_0 ⟨(1500 * x + y) % 64, by omega⟩)
        · intro B'' M'' fB fM hf _ _
          refine t189_44 ?_
          unfold p189_44
          rw [if_pos (show nI 0 ≤ 0 by decide)]
          exact hQ 1 B'' M'' (Or.inl ⟨rfl, hf⟩) fB fM
        · intro nf B'' M'' fB fM
          exact hQ 0 B'' M'' (Or.inr ⟨rfl, nf⟩) fB fM
      | succ k ihk =>
        intro i M' hi fM hz
        refine t189_9 ?_
        unfold p189_9
        rw [if_neg (show ¬ (35200 : Int32) ≤ nI i from nI_ge (b := 35200) (a := i) (by omega) (by decide))]
        unfold p189_15
        rw [show (nI i).toNatClampNeg = i from nI_clamp (by omega), nI_1]
        refine ⟨z_inI (by omega) (by decide), ihk (i + 1) _ (by omega) (fun k hk => by rw [z_un hk]; exact fM k hk) ?_⟩
        intro j hj
        rw [z_uk]
        by_cases ej : j = i
        · rw [ej, z_fcs]
        · rw [z_fcn ej]
          exact hz j (by omega)
    exact cl 35200 0 M rfl (fun _ _ => rfl) (fun j hj => by omega)
