/-! x.f = atLeast(x.f, n), as one step over cells that keep their numbers. -/
section ZG2
variable {L : Nat} {xs : Nat → Int32} {fv : Value} {f w mi pc : Nat} {lv : List (Nat × Value)} {T T' : z_Y} {o : z_V}
/-- the cell at a is named by one field alone -/
def z_one (H : List z_E) (a b k : Nat) : Prop := ∀ (j ci : Nat) (fs : List Value), H[j]? = some (.inr (ci, fs)) → ∀ q, fs[q]? = some (.ref a) → j = b ∧ q = k
def z_nov (a : Nat) (vs : List Value) : Prop := ∀ v ∈ vs, v ≠ .ref a
theorem z_fitA {x : Nat} : z_fit (.array .int) (.ref x) = true := by
  simp [z_fit, narrow, fits]
theorem z_mv {p : Nat → Nat} {a c : Nat} (ha : 107 ≤ a) {v : Value} (h : v ≠ .ref a) : z_tr (z_rr 107 (fun j => if j = a - 107 then c else p j)) v = z_tr (z_rr 107 p) v := by
  refine z_tr_cg (fun x hx h1 => if_neg (fun e => h ?_))
  have h2 : x = a := by
    have e1 : x - 107 + 107 = a - 107 + 107 := congrArg (· + 107) e
    rw [Nat.sub_add_cancel h1, Nat.sub_add_cancel ha] at e1
    exact e1
  rw [hx, h2]
theorem z_mvs {p : Nat → Nat} {a c : Nat} (ha : 107 ≤ a) {vs : List Value} (h : z_nov a vs) : vs.map (z_tr (z_rr 107 (fun j => if j = a - 107 then c else p j))) = vs.map (z_tr (z_rr 107 p)) := List.map_congr_left (fun v hv => z_mv ha (h v hv))
theorem z_mvL {p : Nat → Nat} {a c : Nat} (ha : 107 ≤ a) {lv : List (Nat × Value)} (h : z_nov a (lv.map (·.2))) : z_trL (z_rr 107 (fun j => if j = a - 107 then c else p j)) lv = z_trL (z_rr 107 p) lv := by
  unfold z_trL
  refine List.map_congr_left (fun q hq => ?_)
  rw [z_mv ha (h q.2 (List.mem_map.mpr ⟨q, hq, rfl⟩))]
/-- numbers of a row that grows: from m to n', which are below 2 ^ 27 -/
def z_gn (m : Nat) (n nl : Int32) : Prop := Int32.ofNat m < n ∧ (if n < 2 * Int32.ofNat m then 2 * Int32.ofNat m else n) = nl ∧ ¬ nl < 0 ∧ nl.toNatClampNeg * 4 ≤ 536870912 ∧ ¬ nl = Int32.ofNat m ∧ ¬ nl < Int32.ofNat m ∧ (Int32.ofNat m).toNatClampNeg = m ∧ m < nl.toNatClampNeg ∧ ¬ Int32.ofNat m < 0
set_option maxHeartbeats 2000000 in
theorem z_Ln.grow {idx idx2 pl pl2 a b k ci m : Nat} {g : List (Nat × Int32)} {fs rr : List Value} {n nl : Int32} (hrow : z_pg.1 mi pc = some (.invokestatic idx, 3, [0, 60, 2, pl])) (hrow2 : z_pg.1 mi (pc + 3) = some (.putfield idx2, 3, [ci, k, pl2])) (hty : z_fty ci k = .array .int)
    (ha : 107 ≤ a) (hb : 107 ≤ b) (hca : T.1[a - 107]? = some (.inl (0, m, .inl g))) (hcb : T.1[b - 107]? = some (.inr (ci, fs))) (hk : fs[k]? = some (.ref a)) (hone : z_one T.1 a (b - 107) k) (hlv : z_nov a (lv.map (·.2))) (hrr : z_nov a rr) (hn : z_gn m n nl)
    (hr : T.2.1 + 1 ≤ 601024 ∧ T.2.2 + nl.toNatClampNeg ≤ 7293034) (hf : 3 ≤ f) (hw : 130 ≤ w) (hwt : z_wt rr ≤ 7)
    (kk : z_Ln L xs fv f w mi (pc + 6) lv rr (T.1.set (a - 107) (.inl (0, nl.toNatClampNeg, .inl (z_cpl g [] 0 0 m))), T.2.1 + 1, T.2.2 + nl.toNatClampNeg) o T') : z_Ln L xs fv f w mi pc lv (.int n :: .ref a :: .ref b :: rr) T o T' := by
  intro hfv
  obtain ⟨k1, k2, k3⟩ := kk hfv
  obtain ⟨n1, n2, n3, n4, n5, n6, n7, n8, n9⟩ := hn
  refine ⟨by have : T.2.1 + 1 ≤ T'.2.1 := k1; omega, by have : T.2.2 + nl.toNatClampNeg ≤ T'.2.2 := k2; omega, fun p S hS hcc hsl => ?_⟩
  have hal := (List.getElem?_eq_some_iff.mp hca).1
  have hbl := (List.getElem?_eq_some_iff.mp hcb).1
  have hlt : ∀ j, j < T.1.length → p j < S.1.length := by
    intro j hj
    exact (List.getElem?_eq_some_iff.mp (hS.1 _ _ (List.getElem?_eq_getElem hj))).1
  have hne : a - 107 ≠ b - 107 := by
    intro e
    rw [e, hcb] at hca
    cases hca
  have pa := hS.1 _ _ hca
  have pb := hS.1 _ _ hcb
  have hpa : S.1[z_rr 107 p a - 107]? = some (.inl (0, m, .inl g)) := by rw [z_rr_sub (p := p) ha]; exact pa
  have hpb : S.1[p (b - 107)]? = some (.inr (ci, fs.map (z_tr (z_rr 107 p)))) := pb
  generalize hE : (Sum.inl (0, nl.toNatClampNeg, Sum.inl (z_cpl g [] 0 0 m)) : z_E) = E at k3 kk
  let S1 : z_S := (S.1 ++ [E], S.2 + nl.toNatClampNeg)
  let E2 : z_E := .inr (ci, (fs.map (z_tr (z_rr 107 p))).set k (.ref (107 + S.1.length)))
  let S2 : z_S := (S1.1.set (p (b - 107)) E2, S1.2)
  let p' : Nat → Nat := fun j => if j = a - 107 then S.1.length else p j
  have hE0 : ∀ r, z_mE r E = E := by
    intro r
    rw [← hE]
    rfl
  have hS1 : ∀ j, j < S.1.length → S1.1[j]? = S.1[j]? := fun j hj => List.getElem?_append_left hj
  have hpbl := hlt _ hbl
  have hS2b : S2.1[p (b - 107)]? = some E2 := by
    show (S1.1.set (p (b - 107)) E2)[p (b - 107)]? = _
    rw [List.getElem?_set, if_pos rfl, if_pos (by show _ < (S.1 ++ [E]).length; rw [List.length_append]; omega)]
  have hS2o : ∀ j, j ≠ p (b - 107) → S2.1[j]? = S1.1[j]? := by
    intro j hj
    show (S1.1.set (p (b - 107)) E2)[j]? = _
    rw [List.getElem?_set, if_neg (fun e => hj e.symm)]
  have hS2n : S2.1[S.1.length]? = some E := by
    rw [hS2o _ (by omega)]
    show (S.1 ++ [E])[S.1.length]? = _
    rw [List.getElem?_append_right (Nat.le_refl _), Nat.sub_self]
    rfl
  have hSim : z_Sim 107 p' (T.1.set (a - 107) E) S2 := by
    refine ⟨fun j e hj => ?_, fun i j hi hj hij => ?_⟩
    · rw [List.getElem?_set] at hj
      by_cases hja : a - 107 = j
      · rw [if_pos hja, if_pos hal] at hj
        cases hj
        have : p' j = S.1.length := if_pos hja.symm
        rw [this, hS2n, hE0]
      · rw [if_neg hja] at hj
        have hp' : p' j = p j := if_neg (fun e => hja e.symm)
        have hjl := (List.getElem?_eq_some_iff.mp hj).1
        rw [hp']
        by_cases hjb : j = b - 107
        · subst hjb
          rw [hcb] at hj
          cases hj
          rw [hS2b]
          show some (Sum.inr (ci, (fs.map (z_tr (z_rr 107 p))).set k (.ref (107 + S.1.length)))) = some (Sum.inr (ci, fs.map (z_tr (z_rr 107 p'))))
          congr 3
          apply List.ext_getElem?
          intro q
          rw [List.getElem?_set, List.getElem?_map, List.length_map]
          by_cases hq : k = q
          · subst hq
            rw [if_pos rfl, if_pos (List.getElem?_eq_some_iff.mp hk).1, List.getElem?_map, hk]
            show some (Value.ref (107 + S.1.length)) = some (Value.ref (z_rr 107 p' a))
            rw [z_rr_hi ha]
            have : p' (a - 107) = S.1.length := if_pos rfl
            rw [this]
          · rw [if_neg hq, List.getElem?_map]
            cases hv : fs[q]? with
            | none => rfl
            | some v =>
              show some _ = some _
              congr 1
              refine (z_mv ha ?_).symm
              intro e
              rw [e] at hv
              exact hq (hone _ _ _ hcb q hv).2.symm
        · have hpj : p j ≠ p (b - 107) := fun e => hjb (hS.2 _ _ hjl hbl e)
          rw [hS2o _ hpj, hS1 _ (hlt _ hjl), hS.1 _ _ hj]
          congr 1
          refine z_mE_cg (fun c2 fs2 he v hv => (z_mv ha ?_).symm)
          intro e
          subst he
          obtain ⟨q, hq⟩ := List.getElem?_of_mem hv
          rw [e] at hq
          exact hjb (hone _ _ _ hj q hq).1
    · rw [List.length_set] at hi hj
      have hij : (if i = a - 107 then S.1.length else p i) = (if j = a - 107 then S.1.length else p j) := hij
      have li := hlt i hi
      have lj := hlt j hj
      by_cases h1 : i = a - 107
      · by_cases h2 : j = a - 107
        · rw [h1, h2]
        · rw [if_pos h1, if_neg h2] at hij
          omega
      · by_cases h2 : j = a - 107
        · rw [if_neg h1, if_pos h2] at hij
          omega
        · rw [if_neg h1, if_neg h2] at hij
          exact hS.2 i j hi hj hij
  have hl2 : S2.1.length = T.2.1 + 1 := by
    show (S1.1.set (p (b - 107)) E2).length = _
    rw [List.length_set]
    show (S.1 ++ [E]).length = _
    rw [List.length_append, hcc]
    rfl
  obtain ⟨q', S', o', q1, q2, q3, q4⟩ := k3 p' S2 hSim hl2 (by show S.2 + nl.toNatClampNeg = T.2.2 + nl.toNatClampNeg; rw [hsl])
  refine ⟨q', S', o', q1, ?_, q3, ?_⟩
  · refine z_Kp.tr (H1 := T.1.set (a - 107) E) (p1 := p') ⟨Nat.le_of_eq (List.length_set ..).symm, fun j hj => ?_⟩ q2
    rw [List.getElem?_set]
    by_cases hja : a - 107 = j
    · rw [if_pos hja, if_pos hal, ← hja, hca, ← hE]
      refine ⟨?_, fun e => ?_⟩
      · show m ≤ nl.toNatClampNeg
        omega
      · have e : m = nl.toNatClampNeg := e
        omega
    · rw [if_neg hja]
      exact ⟨Nat.le_refl _, fun _ => if_neg (fun e => hja e.symm)⟩
  · have hml : z_pg.2.1 60 ≤ 10 := by decide +kernel
    have hcall : z_Rn L xs fv (f - 1) (w - (19 + z_pg.2.1 60)) 60 0 (lv_args 0 [.ref (z_rr 107 p a), .int n]) [] S (.inl (some (.ref (107 + S.1.length))), S1) := by
      have := z_alr (L := L) (xs := xs) (fv := fv) (f := f - 1) (w := w - (19 + z_pg.2.1 60)) (S := S) n1 n2 (z_rr_ge (p := p) ha) hpa n3 n4 n5 n6 n7 (Nat.le_of_lt n8) n9 (by rw [hcc]; exact hr.1) (by rw [hsl]; exact hr.2) (by omega) (by omega)
      rw [hE] at this
      exact this
    refine z_Rn.call (mj := 60) (as := [.ref (z_rr 107 p a), .int n]) (rr := .ref (z_rr 107 p b) :: rr.map (z_tr (z_rr 107 p))) (v := some (.ref (107 + S.1.length))) (S1 := S1) hrow rfl rfl ⟨⟨⟨by omega, by omega⟩, ?_, (by decide +kernel : (2 : Nat) ≤ z_pg.2.1 60)⟩, ⟨by rw [hcc]; omega, by rw [hsl]; omega⟩, by show S.1.length ≤ (S.1 ++ [E]).length; rw [List.length_append]; omega, Nat.le_add_right _ _⟩ hcall ?_
    · have := z_wt_tr' (z_rr 107 p) rr
      show 1 + z_wt (rr.map (z_tr (z_rr 107 p))) ≤ 8
      omega
    · refine z_Rn.step (pc' := pc + 3 + 3) (lv' := z_trL (z_rr 107 p) lv) (st' := rr.map (z_tr (z_rr 107 p))) (S' := S2) hrow2 rfl (z_b0_nb rfl) ?_ ?_
      · show z_pf 107 ci k (z_fty ci k) 3 (pc + 3) _ (.ref (107 + S.1.length) :: .ref (z_rr 107 p b) :: rr.map (z_tr (z_rr 107 p))) S1 = _
        unfold z_pf
        dsimp only
        have hb1 : S1.1[z_rr 107 p b - 107]? = some (.inr (ci, fs.map (z_tr (z_rr 107 p)))) := by
          rw [z_rr_sub (p := p) hb, hS1 _ hpbl]
          exact hpb
        rw [hb1]
        dsimp only
        rw [if_pos ⟨⟨rfl, z_rr_ge hb, rfl⟩, by rw [List.length_map]; exact (List.getElem?_eq_some_iff.mp hk).1, by rw [hty]; exact z_fitA⟩, z_rr_sub (p := p) hb]
      · have e1 := z_mvL (p := p) (c := S.1.length) ha hlv
        have e2 := z_mvs (p := p) (c := S.1.length) ha hrr
        rw [← e1, ← e2]
        exact q4
/-- atLeast, where the row is long enough -/
theorem z_Ln.keep {idx idx2 pl pl2 a b k ci m : Nat} {g : List (Nat × Int32)} {fs rr : List Value} {n : Int32} (hrow : z_pg.1 mi pc = some (.invokestatic idx, 3, [0, 60, 2, pl])) (hrow2 : z_pg.1 mi (pc + 3) = some (.putfield idx2, 3, [ci, k, pl2])) (hty : z_fty ci k = .array .int)
    (ha : 107 ≤ a) (hb : 107 ≤ b) (hca : T.1[a - 107]? = some (.inl (0, m, .inl g))) (hcb : T.1[b - 107]? = some (.inr (ci, fs))) (hk : fs[k]? = some (.ref a)) (hn : ¬ Int32.ofNat m < n)
    (hr : T.2.1 ≤ 601024 ∧ T.2.2 ≤ 7293034) (hf : 3 ≤ f) (hw : 130 ≤ w) (hwt : z_wt rr ≤ 7)
    (kk : z_Ln L xs fv f w mi (pc + 6) lv rr T o T') : z_Ln L xs fv f w mi pc lv (.int n :: .ref a :: .ref b :: rr) T o T' := by
  intro hfv
  obtain ⟨k1, k2, k3⟩ := kk hfv
  refine ⟨k1, k2, fun p S hS hcc hsl => ?_⟩
  have pa := hS.1 _ _ hca
  have pb := hS.1 _ _ hcb
  have hpa : S.1[z_rr 107 p a - 107]? = some (.inl (0, m, .inl g)) := by rw [z_rr_sub (p := p) ha]; exact pa
  have hpb : S.1[z_rr 107 p b - 107]? = some (.inr (ci, fs.map (z_tr (z_rr 107 p)))) := by rw [z_rr_sub (p := p) hb]; exact pb
  obtain ⟨q', S', o', q1, q2, q3, q4⟩ := k3 p S hS hcc hsl
  refine ⟨q', S', o', q1, q2, q3, ?_⟩
  have hml : z_pg.2.1 60 ≤ 10 := by decide +kernel
  generalize hA : z_rr 107 p a = A at hpa
  generalize hBB : z_rr 107 p b = BB at hpb
  have hA7 : 107 ≤ A := by rw [← hA]; exact z_rr_ge ha
  have hB7 : 107 ≤ BB := by rw [← hBB]; exact z_rr_ge hb
  have hcall : z_Rn L xs fv (f - 1) (w - (19 + z_pg.2.1 60)) 60 0 (lv_args 0 [.ref A, .int n]) [] S (.inl (some (.ref A)), S) := by
    refine z_Rn.step (pc' := 1) (lv' := [(0, .ref A), (1, .int n)]) (st' := [.int n]) (S' := S) rfl rfl (z_b0_nb rfl) rfl ?_
    refine z_Rn.step (pc' := 2) (lv' := [(0, .ref A), (1, .int n)]) (st' := [.ref A, .int n]) (S' := S) rfl rfl (z_b0_nb rfl) rfl ?_
    refine z_Rn.aln rfl hA7 hpa (by show (0 : Nat) < 5; decide) ?_
    refine z_Rn.step (pc' := 6) (lv' := [(0, .ref A), (1, .int n)]) (st' := []) (S' := S) rfl rfl (z_b0_nb rfl) ?_ ?_
    · show some ((if decide (Int32.ofNat m < n) = true then 10 else 6), _, _, _) = _
      rw [decide_eq_false hn]
      rfl
    refine z_Rn.step (pc' := 7) (lv' := [(0, .ref A), (1, .int n)]) (st' := [.ref A]) (S' := S) rfl rfl (z_b0_nb rfl) rfl ?_
    refine z_Rn.step (pc' := 22) (lv' := [(0, .ref A), (1, .int n)]) (st' := [.ref A]) (S' := S) rfl rfl (z_b0_nb rfl) rfl ?_
    exact z_Rn.ret rfl rfl
  have e0 : (.int n :: .ref a :: .ref b :: rr : List Value).map (z_tr (z_rr 107 p)) = .int n :: .ref A :: .ref BB :: rr.map (z_tr (z_rr 107 p)) := by
    show Value.int n :: Value.ref (z_rr 107 p a) :: Value.ref (z_rr 107 p b) :: _ = _
    rw [hA, hBB]
  rw [e0]
  refine z_Rn.call (mj := 60) (as := [.ref A, .int n]) (rr := .ref BB :: rr.map (z_tr (z_rr 107 p))) (v := some (.ref A)) (S1 := S) hrow rfl rfl ⟨⟨⟨by omega, by omega⟩, ?_, (by decide +kernel : (2 : Nat) ≤ z_pg.2.1 60)⟩, ⟨by rw [hcc]; exact hr.1, by rw [hsl]; exact hr.2⟩, Nat.le_refl _, Nat.le_refl _⟩ hcall ?_
  · have := z_wt_tr' (z_rr 107 p) rr
    show 1 + z_wt (rr.map (z_tr (z_rr 107 p))) ≤ 8
    omega
  · refine z_Rn.step (pc' := pc + 3 + 3) (lv' := z_trL (z_rr 107 p) lv) (st' := rr.map (z_tr (z_rr 107 p))) (S' := S) hrow2 rfl (z_b0_nb rfl) ?_ q4
    show z_pf 107 ci k (z_fty ci k) 3 (pc + 3) _ (.ref A :: .ref BB :: rr.map (z_tr (z_rr 107 p))) S = _
    unfold z_pf
    dsimp only
    rw [hpb]
    dsimp only
    rw [if_pos ⟨⟨rfl, hB7, rfl⟩, by rw [List.length_map]; exact (List.getElem?_eq_some_iff.mp hk).1, by rw [hty]; exact z_fitA⟩]
    have e1 : (fs.map (z_tr (z_rr 107 p)))[k]? = some (.ref A) := by
      rw [List.getElem?_map, hk]
      show some (Value.ref (z_rr 107 p a)) = _
      rw [hA]
    have e2 : (fs.map (z_tr (z_rr 107 p))).set k (.ref A) = fs.map (z_tr (z_rr 107 p)) := by
      apply List.ext_getElem?
      intro q
      rw [List.getElem?_set]
      by_cases hq : k = q
      · subst hq
        rw [if_pos rfl, if_pos (List.getElem?_eq_some_iff.mp e1).1, e1]
      · rw [if_neg hq]
    have e3 : S.1.set (BB - 107) (.inr (ci, fs.map (z_tr (z_rr 107 p)))) = S.1 := by
      apply List.ext_getElem?
      intro q
      rw [List.getElem?_set]
      by_cases hq : BB - 107 = q
      · subst hq
        rw [if_pos rfl, if_pos (List.getElem?_eq_some_iff.mp hpb).1, hpb]
      · rw [if_neg hq]
    rw [e2, e3]
end ZG2
