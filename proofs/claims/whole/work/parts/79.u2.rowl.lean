/-! Reading: rows, both together. -/
theorem z_De_w {b : Nat → Nat} {n m : Nat} {ep : Nat → Nat} {A B : Nat → List (Nat × Int32)} {V U V' U' : Nat → Nat → Int32} (h : z_De b n m ep A B V U) (hv : z_Vw V V') (hu : z_Uw U U') : z_De b n m ep A B V' U' := ⟨h.1, (hv 20 3 (by omega)).trans h.2.1, (hu.1 41 19 (by omega)).trans h.2.2.1, h.2.2.2⟩
theorem j57l {b : Nat → Nat} {n m : Nat} {ep : Nat → Nat} {A B : Nat → List (Nat × Int32)} {E : List (Nat × Option Nat)} : ∀ (q j : Nat) (t : Nat × Nat × Int32) (V : Nat → Nat → Int32) (W : Nat) (U : Nat → Nat → Int32) (i : Nat) (r : Int32), (z_ts b n).length - j ≤ q → i + 1 ≤ j → z_Jt b n E A B U → z_Wj b n j t V W U → ¬ t.2.1 = 1 → z_De b n m ep A B V U → U 41 11 = 0 → (∃ (v : Int32) (j' : Nat) (t' : Nat × Nat × Int32) (V' U' : Nat → Nat → Int32), ¬ t'.2.1 = 1 ∧ z_Wj b n j' t' V' t'.2.1 U' ∧ j < j' ∧ z_Vw V V' ∧ z_Uw U U' ∧ U' 41 11 = 0 ∧ (∀ (L : Nat) (xs : Nat → Int32) (fv : Value) (f w : Nat) (c : Nat × Nat) (N : Nat → Nat) (g : List z_E), c.1 + 1 ≤ 601024 → c.2 + 6 ≤ 7293034 → 9 ≤ f → 600 ≤ w → z_Ln L xs fv f w 57 45 [(0, .ref 131), (1, .int r), (2, .int 1), (3, .int (nI i))] [] (hC A E N V W ++ g, c) (.inl (some (.int (v)))) (hC A E N V' t'.2.1 ++ g, c)) ∧ (∀ (L : Nat) (xs : Nat → Int32) (fv : Value) (f w : Nat) (c : Nat × Nat) (A : Nat → List (Nat × Int32)) (E : List (Nat × Option Nat)) (N : Nat → Nat) (V : Nat → Nat → Int32) (W : Nat) (g : List z_E) (M : Nat → List (Nat × Int64)), z_Rm ([], c) → 9 ≤ f → 600 ≤ w → z_Ln L xs fv f w 156 39 [(0, .ref 148), (1, .int r), (2, .int 1)] [] (hC A E N V W ++ (hR B M U ++ g), c) (.inl (some (.int (v)))) (hC A E N V W ++ (hR B M U' ++ g), c))) ∨ (∃ (V' : Nat → Nat → Int32) (W' : Nat) (U' : Nat → Nat → Int32) (x y v : Int32), (z_Vw V V' ∧ W' < 107) ∧ z_Uw U U' ∧ z_Qd x y U' ∧ (∀ (L : Nat) (xs : Nat → Int32) (fv : Value) (f w : Nat) (c : Nat × Nat) (N : Nat → Nat) (g : List z_E), c.1 + 1 ≤ 601024 → c.2 + 6 ≤ 7293034 → 9 ≤ f → 600 ≤ w → z_Ln L xs fv f w 57 45 [(0, .ref 131), (1, .int r), (2, .int 1), (3, .int (nI i))] [] (hC A E N V W ++ g, c) (.inr 10) (hC A E N (z_Vf V' x y) W' ++ g, c.1 + 1, c.2 + 6)) ∧ (∀ (L : Nat) (xs : Nat → Int32) (fv : Value) (f w : Nat) (c : Nat × Nat) (A : Nat → List (Nat × Int32)) (E : List (Nat × Option Nat)) (N : Nat → Nat) (V : Nat → Nat → Int32) (W : Nat) (g : List z_E) (M : Nat → List (Nat × Int64)), z_Rm ([], c) → 9 ≤ f → 600 ≤ w → z_Ln L xs fv f w 156 39 [(0, .ref 148), (1, .int r), (2, .int 1)] [] (hC A E N V W ++ (hR B M U ++ g), c) (.inl (some (.int (v)))) (hC A E N V W ++ (hR B M U' ++ g), c))) := by
  have m49 : z_pg.2.1 49 ≤ 60 := by decide +kernel
  have m58 : z_pg.2.1 58 ≤ 60 := by decide +kernel
  have m141 : z_pg.2.1 141 ≤ 40 := by decide +kernel
  have m157 : z_pg.2.1 157 ≤ 40 := by decide +kernel
  have rm : ∀ c : Nat × Nat, c.1 + 1 ≤ 601024 → c.2 + 6 ≤ 7293034 → c.1 ≤ 601024 ∧ c.2 ≤ 7293034 := fun c a b => ⟨by omega, by omega⟩
  intro q
  induction q with
  | zero =>
    intro j t V W U i r hq hi hJ hW h1 hD h0
    have := (List.getElem?_eq_some_iff.mp hW.1).1
    omega
  | succ q ih =>
    intro j t V W U i r hq hi hJ hW h1 hD h0
    have hn := hJ.2.1
    have hlen := z_ts_len (b := b) (n := n)
    have hj0 := (List.getElem?_eq_some_iff.mp hW.1).1
    have i15 : ¬ (1500 : Int32) ≤ nI i := nI_ge (b := 1500) (by omega) (by decide)
    rcases j58 hJ hW h1 hD h0 with ⟨e, t1, U1, -, -, c58, W1, u1, f1, c49, c49x, r157⟩ | ⟨U1, x, y, u1, qd, c58x, r157⟩
    · have hJ1 := z_Jt_U hJ u1
      have t37 : t1.2.1 < 37 := (hJ.2.2.1 (j + 1) t1 W1.1).2.1
      obtain ⟨-, -, -, -, -, -, r7, r8, -, -⟩ := id W1
      obtain ⟨r', hr'⟩ : ∃ r', r' = r ||| (1 <<< (nI e &&& 31)) := ⟨_, rfl⟩
      by_cases bad1 : t1.2.1 = 1
      · have qd : z_Qd 2 (nI t1.1) U1 := Or.inr ⟨rfl, f1, by rw [r8, bad1]; rfl, r7⟩
        obtain ⟨U2, v, a1, a2, a3⟩ := q156m (B := B) qd r 1 (nI e)
        refine Or.inr ⟨z_Vn V (j + 1) t1, t1.2.1, U2, 2, nI t1.1, v, ⟨z_Vw_n, by rw [bad1]; decide⟩, z_Uw_tr u1 a2, a1, ?_, ?_⟩
        · intro L xs fv f w c N g h1c h2c hf hw
          exact b57_45f i15 (b57_52f (by decide) (b57_56 (rm c h1c h2c) (by omega) (by omega) (c58 L xs fv _ _ c N g h1c h2c (by omega) (by omega)) (b57_62x (rm c h1c h2c) (by omega) (by omega) (c49x bad1 L xs fv _ _ c N g h1c h2c (by omega) (by omega)))))
        · intro L xs fv f w c A E N V W g M hRm hf hw
          exact b156_39f (by decide) (b156_43f (fun q => q h0) (b156_50 hRm (by omega) (by omega) (r157 L xs fv _ _ c A E N V W g M hRm (by omega) (by omega)) (a3 L xs fv f w c A E N V W g M hRm hf hw)))
      · have preC : ∀ (L : Nat) (xs : Nat → Int32) (fv : Value) (f w : Nat) (c : Nat × Nat) (N : Nat → Nat) (g : List z_E) (o : z_V) (T' : z_Y), c.1 + 1 ≤ 601024 → c.2 + 6 ≤ 7293034 → 9 ≤ f → 600 ≤ w → z_Ln L xs fv f w 57 72 [(0, .ref 131), (1, .int r'), (2, .int 1), (3, .int (nI i))] [] (hC A E N (z_Vn V (j + 1) t1) t1.2.1 ++ g, c) o T' → z_Ln L xs fv f w 57 45 [(0, .ref 131), (1, .int r), (2, .int 1), (3, .int (nI i))] [] (hC A E N V W ++ g, c) o T' := by
          intro L xs fv f w c N g o T' h1c h2c hf hw kk
          rw [hr'] at kk
          exact b57_45f i15 (b57_52f (by decide) (b57_56 (rm c h1c h2c) (by omega) (by omega) (c58 L xs fv _ _ c N g h1c h2c (by omega) (by omega)) (b57_62 (rm c h1c h2c) (by omega) (by omega) (c49 bad1 L xs fv _ _ c N g h1c h2c (by omega) (by omega)) kk)))
        have preR : ∀ (L : Nat) (xs : Nat → Int32) (fv : Value) (f w : Nat) (c : Nat × Nat) (A : Nat → List (Nat × Int32)) (E : List (Nat × Option Nat)) (N : Nat → Nat) (V : Nat → Nat → Int32) (W : Nat) (g : List z_E) (M : Nat → List (Nat × Int64)) (o : z_V) (T' : z_Y), z_Rm ([], c) → 9 ≤ f → 600 ≤ w → z_Ln L xs fv f w 156 79 [(0, .ref 148), (1, .int r'), (2, .int 1), (3, .int (nI e))] [] (hC A E N V W ++ (hR B M U1 ++ g), c) o T' → z_Ln L xs fv f w 156 39 [(0, .ref 148), (1, .int r), (2, .int 1)] [] (hC A E N V W ++ (hR B M U ++ g), c) o T' := by
          intro L xs fv f w c A E N V W g M o T' hRm hf hw kk
          rw [hr'] at kk
          exact b156_39f (by decide) (b156_43f (fun q => q h0) (b156_50 hRm (by omega) (by omega) (r157 L xs fv _ _ c A E N V W g M hRm (by omega) (by omega)) (b156_54t (by rw [f1]; decide) (b156_66 (b156_71f (fun q => q f1) kk)))))
        by_cases comma : t1.2.1 = 11
        · have hx : U1 41 7 = 44 := by
            rw [r8, comma]
            rfl
          obtain ⟨t2, U2, b1, W2, u2, f2, r141, cx, ck⟩ := j49 hJ1 W1 bad1 (by omega)
          rcases cx with nb | ⟨bad2, cthr⟩
          · rcases ih (j + 1 + 1) t2 (z_Vn (z_Vn V (j + 1) t1) (j + 1 + 1) t2) t2.2.1 U2 (i + 1) r' (by omega) (by omega) (z_Jt_U hJ1 u2) W2 nb (z_De_w hD (z_Vw_tr z_Vw_n z_Vw_n) (z_Uw_tr u1 u2)) (f2.trans f1) with ⟨v, j', t', V', U', g1, g2, g3, g4, g5, g6, g7, g8⟩ | ⟨V', W', U', x, y, v, g1, g2, g3, g4, g5⟩
            · refine Or.inl ⟨v, j', t', V', U', g1, g2, by omega, z_Vw_tr (z_Vw_tr z_Vw_n z_Vw_n) g4, z_Uw_tr (z_Uw_tr u1 u2) g5, g6, ?_, ?_⟩
              · intro L xs fv f w c N g h1c h2c hf hw
                refine preC L xs fv f w c N g _ _ h1c h2c hf hw (b57_72f t37 (by rw [comma]) (b57_85 (b57_90f (by decide) (b57_95 (rm c h1c h2c) (by omega) (by omega) (ck nb L xs fv _ _ c N g h1c h2c (by omega) (by omega)) (b57_102 ?_)))))
                rw [nI_1]
                exact g7 L xs fv f w c N g h1c h2c hf hw
              · intro L xs fv f w c A E N V W g M hRm hf hw
                exact preR L xs fv f w c A E N V W g M _ _ hRm hf hw (b156_79f (fun q => q hx) (b156_88 (b156_93f (by decide) (b156_98 hRm (by omega) (by omega) (r141 L xs fv _ _ c A E N V W g M hRm (by omega) (by omega)) (b156_102 (g8 L xs fv f w c A E N V W g M hRm hf hw))))))
            · refine Or.inr ⟨V', W', U', x, y, v, ⟨z_Vw_tr (z_Vw_tr z_Vw_n z_Vw_n) g1.1, g1.2⟩, z_Uw_tr (z_Uw_tr u1 u2) g2, g3, ?_, ?_⟩
              · intro L xs fv f w c N g h1c h2c hf hw
                refine preC L xs fv f w c N g _ _ h1c h2c hf hw (b57_72f t37 (by rw [comma]) (b57_85 (b57_90f (by decide) (b57_95 (rm c h1c h2c) (by omega) (by omega) (ck nb L xs fv _ _ c N g h1c h2c (by omega) (by omega)) (b57_102 ?_)))))
                rw [nI_1]
                exact g4 L xs fv f w c N g h1c h2c hf hw
              · intro L xs fv f w c A E N V W g M hRm hf hw
                exact preR L xs fv f w c A E N V W g M _ _ hRm hf hw (b156_79f (fun q => q hx) (b156_88 (b156_93f (by decide) (b156_98 hRm (by omega) (by omega) (r141 L xs fv _ _ c A E N V W g M hRm (by omega) (by omega)) (b156_102 (g5 L xs fv f w c A E N V W g M hRm hf hw))))))
          · obtain ⟨-, -, -, -, -, -, p7, p8, -, -⟩ := id W2
            have qd : z_Qd 2 (nI t2.1) U2 := Or.inr ⟨rfl, f2.trans f1, by rw [p8, bad2]; rfl, p7⟩
            obtain ⟨U3, v, a1, a2, a3⟩ := q156l (B := B) qd r' 1
            refine Or.inr ⟨z_Vn (z_Vn V (j + 1) t1) (j + 1 + 1) t2, t2.2.1, U3, 2, nI t2.1, v, ⟨z_Vw_tr z_Vw_n z_Vw_n, by rw [bad2]; decide⟩, z_Uw_tr (z_Uw_tr u1 u2) a2, a1, ?_, ?_⟩
            · intro L xs fv f w c N g h1c h2c hf hw
              exact preC L xs fv f w c N g _ _ h1c h2c hf hw (b57_72f t37 (by rw [comma]) (b57_85 (b57_90f (by decide) (b57_95x (rm c h1c h2c) (by omega) (by omega) (cthr L xs fv _ _ c N g h1c h2c (by omega) (by omega))))))
            · intro L xs fv f w c A E N V W g M hRm hf hw
              exact preR L xs fv f w c A E N V W g M _ _ hRm hf hw (b156_79f (fun q => q hx) (b156_88 (b156_93f (by decide) (b156_98 hRm (by omega) (by omega) (r141 L xs fv _ _ c A E N V W g M hRm (by omega) (by omega)) (b156_102 (a3 L xs fv f w c A E N V W g M hRm hf hw))))))
        · have hx : ¬ U1 41 7 = 44 := by
            rw [r8]
            exact fun q => comma (z_wco_inj _ t37 11 (by decide) q)
          have toC : ∀ (L : Nat) (xs : Nat → Int32) (fv : Value) (f w : Nat) (c : Nat × Nat) (N : Nat → Nat) (g : List z_E) (o : z_V) (T' : z_Y), z_Ln L xs fv f w 57 108 [(0, .ref 131), (1, .int r'), (2, .int 0), (3, .int (nI (i + 1)))] [] (hC A E N (z_Vn V (j + 1) t1) t1.2.1 ++ g, c) o T' → z_Ln L xs fv f w 57 72 [(0, .ref 131), (1, .int r'), (2, .int 1), (3, .int (nI i))] [] (hC A E N (z_Vn V (j + 1) t1) t1.2.1 ++ g, c) o T' := by
            intro L xs fv f w c N g o T' kk
            refine b57_72t t37 (fun q => comma (Option.some.inj q)) (b57_89 (b57_90t rfl (b57_102 ?_)))
            rw [nI_1]
            by_cases h15 : (1500 : Int32) ≤ nI (i + 1)
            · exact b57_45t h15 kk
            · exact b57_45f h15 (b57_52t rfl kk)
          rcases j57t hJ1 W1 bad1 f1 r' 0 (nI (i + 1)) 0 with ⟨t', U', g1, g2, g3, g4, g5, g6⟩ | ⟨V', W', U', x, y, g1, g2, g3, g4, g5⟩
          · refine Or.inl ⟨r', j + 1 + 1, t', _, U', g1, g2, by omega, z_Vw_tr z_Vw_n z_Vw_n, z_Uw_tr u1 g3, g4, ?_, ?_⟩
            · intro L xs fv f w c N g h1c h2c hf hw
              exact preC L xs fv f w c N g _ _ h1c h2c hf hw (toC L xs fv f w c N g _ _ (g5 L xs fv f w c N g h1c h2c hf hw))
            · intro L xs fv f w c A E N V W g M hRm hf hw
              exact preR L xs fv f w c A E N V W g M _ _ hRm hf hw (b156_79t hx (b156_92 (b156_93t rfl (b156_102 (b156_39t rfl (g6 L xs fv f w c A E N V W g M hRm hf hw))))))
          · refine Or.inr ⟨V', W', U', x, y, r', ⟨z_Vw_tr z_Vw_n g1.1, g1.2⟩, z_Uw_tr u1 g2, g3, ?_, ?_⟩
            · intro L xs fv f w c N g h1c h2c hf hw
              exact preC L xs fv f w c N g _ _ h1c h2c hf hw (toC L xs fv f w c N g _ _ (g4 L xs fv f w c N g h1c h2c hf hw))
            · intro L xs fv f w c A E N V W g M hRm hf hw
              exact preR L xs fv f w c A E N V W g M _ _ hRm hf hw (b156_79t hx (b156_92 (b156_93t rfl (b156_102 (b156_39t rfl (g5 L xs fv f w c A E N V W g M hRm hf hw))))))
    · obtain ⟨U2, v, a1, a2, a3⟩ := q156m (B := B) qd r 1 (-1)
      refine Or.inr ⟨V, W, U2, x, y, v, ⟨z_Vw_rfl, by rw [hW.2.2.2.1]; exact Nat.lt_of_lt_of_le (hJ.2.2.1 j t hW.1).2.1 (by decide)⟩, z_Uw_tr u1 a2, a1, ?_, ?_⟩
      · intro L xs fv f w c N g h1c h2c hf hw
        exact b57_45f i15 (b57_52f (by decide) (b57_56x (rm c h1c h2c) (by omega) (by omega) (c58x L xs fv _ _ c N g h1c h2c (by omega) (by omega))))
      · intro L xs fv f w c A E N V W g M hRm hf hw
        exact b156_39f (by decide) (b156_43f (fun q => q h0) (b156_50 hRm (by omega) (by omega) (r157 L xs fv _ _ c A E N V W g M hRm (by omega) (by omega)) (a3 L xs fv f w c A E N V W g M hRm hf hw)))
