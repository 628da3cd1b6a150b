/-! Reading, of the reference: what it does around reading and checking; types as rows of nodes. -/
def z_c44 (a43 a44 : List (Nat × Int32)) : Nat → List (Nat × Int32)
  | 0 => a44
  | q + 1 => (q, z_fn 0 a43 q) :: z_c44 a43 a44 q
theorem z_c44_at {a43 a44 : List (Nat × Int32)} : ∀ q p, p < q → z_fn 0 (z_c44 a43 a44 q) p = z_fn 0 a43 p := by
  intro q
  induction q with
  | zero => intro p h; omega
  | succ q ih =>
    intro p h
    show z_fn 0 ((q, z_fn 0 a43 q) :: z_c44 a43 a44 q) p = _
    by_cases e : p = q
    · rw [e, z_fcs]
    · rw [z_fcn e]
      exact ih p (by omega)
theorem z_uself {α : Type} {A : Nat → α} {k : Nat} : z_u A k (A k) = A := by
  funext j
  by_cases e : j = k
  · rw [e, z_uk]
  · rw [z_un e]
def z_U139 (U : Nat → Nat → Int32) : Nat → Nat → Int32 := z_v (z_v (z_v (z_v (z_v (z_v (z_v (z_v (z_v U 41 96 (0)) 41 97 (0)) 41 98 (0)) 41 99 (0)) 41 100 (0)) 41 101 ((-1))) 41 114 (0)) 41 104 (0)) 41 105 (0)
/-- the reference when it begins to read -/
def z_R138 (len : Nat) (R : z_RS) : z_RS := (z_u R.1 44 (z_c44 (R.1 43) (R.1 44) len), R.2.1, z_U139 (z_v (z_v (z_v (z_v R.2.2 41 6 (R.2.2 41 5)) 41 5 (0)) 41 91 (0)) 41 94 (0)))
section ZAI
variable {l len m root : Nat} {R : z_RS} {T : Nat → Nat × Nat × Int32} {x y v : Int32} {Q : Option Value → z_RS → Prop}
theorem r138 (h5 : R.2.2 41 5 = nI len) (hl : len ≤ 1500) (k : z_WR (l + 1) 140 0 [(0, .ref 148)] [] (z_R138 len R) (fun x R1 => x = none ∧ p138_59 (l + 1) R1.1 R1.2.1 R1.2.2 (nI len) Q)) : z_WR (l + 2) 138 0 [(0, .ref 148)] [] R Q := by
  obtain ⟨U0, hU0⟩ : ∃ X, X = z_v (z_v R.2.2 41 6 (R.2.2 41 5)) 41 5 (0) := ⟨_, rfl⟩
  have u6 : U0 41 6 = nI len := by
    rw [hU0, z_vn (by decide), z_vk, h5]
  have loop : ∀ r q, q + r = len → z_WR (l + 2) 138 15 [(0, .ref 148), (1, .int (nI q))] [] (z_u R.1 44 (z_c44 (R.1 43) (R.1 44) q), R.2.1, U0) Q := by
    intro r
    induction r with
    | zero =>
      intro q hq
      have hq : q = len := by omega
      subst hq
      refine t138_15 ?_
      unfold p138_15
      rw [u6, if_pos (nI_le (Nat.le_refl _) (by omega))]
      unfold p138_41
      refine ⟨rfl, t139_0 (l := l) ⟨rfl, rfl, ?_⟩⟩
      rw [hU0]
      exact k
    | succ r ih =>
      intro q hq
      have cq : (nI q).toNatClampNeg = q := nI_clamp (by omega)
      have zq : z_in (nI q) 1500 = true := z_inI (by omega) (by decide)
      refine t138_15 ?_
      unfold p138_15
      rw [u6, if_neg (nI_ge (by omega) (by omega))]
      unfold p138_23
      rw [cq, nI_1, z_uu, z_un (by decide), z_uk]
      exact ⟨zq, zq, ih (q + 1) (by omega)⟩
  refine t138_0 (B := R.1) (M := R.2.1) (U := R.2.2) ?_
  unfold p138_0
  have q := loop len 0 (by omega)
  have e : z_u R.1 44 (z_c44 (R.1 43) (R.1 44) 0) = R.1 := z_uself
  rw [e, hU0] at q
  exact q
/-- a fault was told: read tells so -/
theorem r138d2 (td : z_Td x y R.2.2) (k : Q (some (.int 0)) (R.1, R.2.1, z_v R.2.2 41 0 (1))) : p138_70 l R.1 R.2.1 R.2.2 v Q := by
  unfold p138_70
  rw [if_neg td.1]
  unfold p138_78 p138_83
  rw [if_neg td.1]
  exact k
theorem r138d (td : z_Td x y R.2.2) (k : Q (some (.int 0)) (R.1, R.2.1, z_v R.2.2 41 0 (1))) : p138_59 l R.1 R.2.1 R.2.2 v Q := by
  unfold p138_59
  rw [if_neg td.n0]
  exact r138d2 td k
theorem z_lNt {n : Nat} (h : n < 2 ^ 63) : (lN n).toInt = (n : Int) := Int64.toInt_ofNat_of_lt h
theorem z_lNle {a b : Nat} (ha : a < 2 ^ 63) (hb : b < 2 ^ 63) : lN a ≤ lN b ↔ a ≤ b := by
  rw [Int64.le_iff_toInt_le, z_lNt ha, z_lNt hb]
  omega
theorem z_min3 {a b : Nat} : min (1 + min a 4000000000 + min b 4000000000) 4000000000 = min (a + b + 1) 4000000000 := by omega
/-- none was told: what the program is -/
theorem r138f (h0 : R.2.2 41 11 = 0) (ht : z_TyR R.1 R.2.2 T m) (h28 : R.2.2 41 28 = nI root) (hr : root < 600) (k : ∀ M', (∀ q, q ≠ 110 → M' q = R.2.1 q) → (∀ j, j < m → z_fn 0 (M' 110) j = lN (min (z_dt T j).length 4000000000)) → Q (some (.int (R.2.2 41 26))) (R.1, M', z_v (z_v (z_v (z_v R.2.2 41 0 (0)) 41 91 (1)) 41 92 (z_fn 0 (R.1 106) root)) 41 93 (z_fn 0 (R.1 107) root))) : p138_70 l R.1 R.2.1 R.2.2 v Q := by
  have cr : (nI root).toNatClampNeg = root := nI_clamp (by omega)
  have zr : z_in (nI root) 600 = true := z_inI hr (by decide)
  have le0 : R.2.2 41 11 ≤ 0 := by rw [h0]; decide
  obtain ⟨hT, hm, hU, hA⟩ := id ht
  obtain ⟨U', hU'⟩ : ∃ X, X = z_v (z_v (z_v (z_v R.2.2 41 0 (0)) 41 91 (1)) 41 92 (z_fn 0 (R.1 106) root)) 41 93 (z_fn 0 (R.1 107) root) := ⟨_, rfl⟩
  have oU : ∀ j, j ≠ 0 → j ≠ 91 → j ≠ 92 → j ≠ 93 → U' 41 j = R.2.2 41 j := fun j a b c d => by
    rw [hU', z_vn (by omega), z_vn (by omega), z_vn (by omega), z_vn (by omega)]
  have loop : ∀ r q M', q + r = m → (∀ j, j ≠ 110 → M' j = R.2.1 j) → (∀ j, j < q → z_fn 0 (M' 110) j = lN (min (z_dt T j).length 4000000000)) → z_WR (l + 1) 138 128 [(0, .ref 148), (1, .int (nI q))] [] (R.1, M', U') Q := by
    intro r
    induction r with
    | zero =>
      intro q M' hq h1 h2
      have hq : q = m := by omega
      subst hq
      refine t138_128 ?_
      unfold p138_128
      rw [oU 13 (by decide) (by decide) (by decide) (by decide), hU, if_pos (nI_le (Nat.le_refl _) (by omega))]
      unfold p138_198
      rw [oU 26 (by decide) (by decide) (by decide) (by decide), hU']
      exact k M' h1 h2
    | succ r ih =>
      intro q M' hq h1 h2
      have cq : (nI q).toNatClampNeg = q := nI_clamp (by omega)
      have zq : z_in (nI q) 1500 = true := z_inI (by omega) (by decide)
      have next : ∀ n : Nat, n = min (z_dt T q).length 4000000000 → p138_191 l R.1 M' U' (nI q) (lN n) (lN n) (nI q) Q := by
        intro n hn
        unfold p138_191
        rw [cq, nI_1]
        refine ⟨zq, ih (q + 1) _ (by omega) (fun j hj => by rw [z_un hj]; exact h1 j hj) (fun j hj => ?_)⟩
        rw [z_uk]
        by_cases e : j = q
        · rw [e, z_fcs, hn]
        · rw [z_fcn e]
          exact h2 j (by omega)
      have cut : ∀ n : Nat, n < 2 ^ 40 → min n 4000000000 = min (z_dt T q).length 4000000000 → p138_170 l R.1 M' U' (nI q) (lN n) Q := by
        intro n hn he
        have e4 : (4000000000 : Int64) = lN 4000000000 := rfl
        unfold p138_170
        rw [e4]
        by_cases c : n ≤ 4000000000
        · rw [if_pos ((lg_cmp_le _ _).mpr ((z_lNle (a := n) (b := 4000000000) (by omega) (by decide)).mpr c))]
          unfold p138_190
          have := next n (by omega)
          exact this
        · rw [if_neg (fun e => c ((z_lNle (a := n) (b := 4000000000) (by omega) (by decide)).mp ((lg_cmp_le _ _).mp e)))]
          unfold p138_184
          have q2 := next 4000000000 (by omega)
          rw [e4]
          unfold p138_191 at q2 ⊢
          exact q2
      refine t138_128 ?_
      unfold p138_128
      rw [oU 13 (by decide) (by decide) (by decide) (by decide), hU, if_neg (nI_ge (by omega) (by omega))]
      unfold p138_136
      by_cases q3 : 3 ≤ q
      · rw [if_pos (show (3 : Int32) ≤ nI q from nI_le (a := 3) q3 (by omega))]
        obtain ⟨a1, a2, -⟩ := hA q q3 (by omega)
        obtain ⟨b1, b2, -⟩ := hT.2 q q3 (by omega)
        have c1 : (nI (T q).1).toNatClampNeg = (T q).1 := nI_clamp (by omega)
        have c2 : (nI (T q).2.1).toNatClampNeg = (T q).2.1 := nI_clamp (by omega)
        unfold p138_145
        rw [cq, a1, a2, c1, c2, h2 _ b1, h2 _ b2, show (1 : Int64) = lN 1 from rfl, lN_add, lN_add]
        refine ⟨zq, z_inI (by omega) (by decide), zq, z_inI (by omega) (by decide), cut _ (by omega) ?_⟩
        rw [z_min3, z_dt_s hT q3 (by omega), List.length_cons, List.length_append]
      · rw [if_neg (show ¬ (3 : Int32) ≤ nI q from nI_ge (b := 3) (by omega) (by decide))]
        unfold p138_141
        refine cut 1 (by decide) ?_
        rw [z_dt_lo (by omega)]
        rfl
  unfold p138_70
  rw [if_pos le0]
  unfold p138_82 p138_83
  rw [if_pos le0]
  unfold p138_95
  have e28 : z_v R.2.2 41 0 (0) 41 28 = nI root := by rw [z_vn (by decide)]; exact h28
  rw [e28, cr, ← hU']
  exact ⟨rfl, zr, zr, loop m 0 R.2.1 (by omega) (fun _ _ => rfl) (fun j hj => by omega)⟩
end ZAI
theorem z_i32n (x : Int32) : nI x.toUInt32.toNat = x := by
  have h : x.toUInt32.toNat = x.toBitVec.toNat := rfl
  rw [h]
  show Int32.ofNat x.toBitVec.toNat = x
  apply Int32.toBitVec_inj.mp
  show BitVec.ofNat 32 x.toBitVec.toNat = x.toBitVec
  exact BitVec.ofNat_toNat 32 x.toBitVec ▸ (by simp)
/-- the class's table, as rows of nodes -/
theorem z_TyC.tc {A : Nat → List (Nat × Int32)} {N : Nat → Nat} {V : Nat → Nat → Int32} {T : Nat → Nat × Nat × Int32} {m : Nat} (h : z_TyC A N V T m) : ∀ n t, t < n → t < m → z_TC (A 9) (A 10) (A 11) (A 12) m n t (z_dt T t) := by
  intro n
  induction n with
  | zero => intro t h1 _; omega
  | succ n ih =>
    intro t h1 h2
    obtain ⟨hT, -, -, -, hS, hA⟩ := h
    refine ⟨h2, hS t h2, ?_⟩
    by_cases t3 : t < 3
    · exact Or.inl ⟨t3, z_dt_lo t3⟩
    · obtain ⟨b1, b2, -⟩ := hT.2 t (by omega) h2
      obtain ⟨a1, a2, a3⟩ := hA t (by omega) h2
      exact Or.inr ⟨by omega, (T t).1, (T t).2.1, (T t).2.2.toUInt32.toNat, z_dt T (T t).1, z_dt T (T t).2.1, a1, a2, by rw [a3, z_i32n], z_dt_s hT (by omega) h2, ih _ (by omega) (by omega), ih _ (by omega) (by omega)⟩
/-- the reference's table, as rows of nodes -/
theorem z_TyR.tr {B : Nat → List (Nat × Int32)} {U : Nat → Nat → Int32} {T : Nat → Nat × Nat × Int32} {m : Nat} {M : List (Nat × Int64)} (h : z_TyR B U T m) (hM : ∀ j, j < m → z_fn 0 M j = lN (min (z_dt T j).length 4000000000)) : ∀ n t, t < n → t < m → (z_dt T t).length < 2 ^ 31 → z_TR (B 46) (B 47) (B 48) M m n t (z_dt T t) := by
  intro n
  induction n with
  | zero => intro t h1 _; omega
  | succ n ih =>
    intro t h1 h2 h3
    obtain ⟨hT, -, -, hA⟩ := h
    refine ⟨h2, ?_, ?_⟩
    · rw [hM t h2, Nat.min_eq_left (by omega)]
    by_cases t3 : t < 3
    · exact Or.inl ⟨t3, z_dt_lo t3⟩
    · obtain ⟨b1, b2, -⟩ := hT.2 t (by omega) h2
      obtain ⟨a1, a2, a3⟩ := hA t (by omega) h2
      have hd := z_dt_s hT (show 3 ≤ t by omega) h2
      have hl := h3
      rw [hd, List.length_cons, List.length_append] at hl
      exact Or.inr ⟨by omega, (T t).1, (T t).2.1, (T t).2.2.toUInt32.toNat, z_dt T (T t).1, z_dt T (T t).2.1, a1, a2, by rw [a3, z_i32n], hd, ih _ (by omega) (by omega) (by omega), ih _ (by omega) (by omega) (by omega)⟩
theorem z_rr_id (a : Nat) : z_rr 107 (fun k => k) a = a := by
  by_cases h : a < 107
  · rw [z_rr_lo h]
  · rw [z_rr_hi (p := fun k => k) (show 107 ≤ a by omega)]
    show 107 + (a - 107) = a
    omega
theorem z_tr_id {v : Value} : z_tr (z_rr 107 (fun k => k)) v = v := by
  cases v with
  | ref a => exact congrArg Value.ref (z_rr_id a)
  | _ => rfl
theorem z_mE_id {e : z_E} : z_mE (z_rr 107 (fun k => k)) e = e := by
  cases e with
  | inl x => rfl
  | inr o =>
    show Sum.inr (o.1, o.2.map (z_tr (z_rr 107 (fun k => k)))) = Sum.inr o
    have : o.2.map (z_tr (z_rr 107 (fun k => k))) = o.2 := by
      have q : ∀ l : List Value, l.map (z_tr (z_rr 107 (fun k => k))) = l := by
        intro l
        induction l with
        | nil => rfl
        | cons v l ih => rw [List.map_cons, ih, z_tr_id]
      exact q o.2
    rw [this]
/-- two runs from one state come to one answer -/
theorem z_Ln.det {L : Nat} {xs : Nat → Int32} {f w mi pc : Nat} {lv : List (Nat × Value)} {st : List Value} {T T1 T2 : z_Y} {a : Int32} {o : z_V} (h1 : z_Ln L xs .null f w mi pc lv st T (.inl (some (.int a))) T1) (h2 : z_Ln L xs .null f w mi pc lv st T o T2) (hl : T.1.length ≤ T.2.1) : o = .inl (some (.int a)) := by
  obtain ⟨-, -, r1⟩ := h1 (Or.inl rfl)
  obtain ⟨-, -, r2⟩ := h2 (Or.inl rfl)
  obtain ⟨S, hS⟩ : ∃ S : z_S, S = (T.1 ++ List.replicate (T.2.1 - T.1.length) (.inr (0, [])), T.2.2) := ⟨_, rfl⟩
  have sim : z_Sim 107 (fun k => k) T.1 S := by
    refine ⟨fun k e hk => ?_, fun i j _ _ h => h⟩
    rw [hS, z_mE_id]
    show (T.1 ++ _)[k]? = some e
    rw [List.getElem?_append_left (List.getElem?_eq_some_iff.mp hk).1]
    exact hk
  have sl : S.1.length = T.2.1 := by
    rw [hS]
    show (T.1 ++ List.replicate (T.2.1 - T.1.length) _).length = _
    rw [List.length_append, List.length_replicate]
    omega
  have ss : S.2 = T.2.2 := by rw [hS]
  obtain ⟨p1, S1, o1, -, -, q1, n1, e1⟩ := r1 _ S sim sl ss
  obtain ⟨p2, S2, o2, -, -, q2, n2, e2⟩ := r2 _ S sim sl ss
  have m1 := z_Rn.more e1 (Nat.le_max_left n1 n2) (Nat.le_refl f) (Nat.le_refl w)
  have m2 := z_Rn.more e2 (Nat.le_max_right n1 n2) (Nat.le_refl f) (Nat.le_refl w)
  have e3 := Option.some.inj (m1.symm.trans m2)
  have e4 : o1 = o2 := (Prod.mk.inj e3).1
  cases o1 with
  | inr x => exact q1.elim
  | inl x =>
    have q1 : x = some (.int a) := q1
    rw [← e4, q1] at q2
    cases o with
    | inr c => exact q2.elim
    | inl v =>
      have q2 : some (.int a) = v.map (z_tr (z_rr 107 p2)) := q2
      cases v with
      | none => cases q2
      | some v =>
        have q3 : Value.int a = z_tr (z_rr 107 p2) v := Option.some.inj q2
        cases v with
        | int b =>
          have q4 : a = b := Value.int.inj q3
          rw [q4]
        | ref b => cases q3
        | _ => cases q3
