/-! Lexing (class): the row of words. -/
/-- words: place, kind, value -/
def z_TkC (E : List (Nat × Option Nat)) (a6 a7 : List (Nat × Int32)) (toks : List (Nat × Nat × Int32)) : Prop := ∀ i t, toks[i]? = some t → z_fn none E i = some t.2.1 ∧ t.2.1 < 37 ∧ z_fn 0 a6 i = nI t.1 ∧ z_fn 0 a7 i = t.2.2
/-- a name's number: the place of the first word that is the same -/
def z_nm (b : Nat → Nat) (n p l : Nat) (toks : List (Nat × Nat × Int32)) : Nat := match toks with
  | [] => p
  | t :: r => if (t.2.1 = 2 ∨ t.2.1 = 3) ∧ z_sw b n t.1 p l = true then t.1 else z_nm b n p l r
/-- a word's value -/
def z_va (b : Nat → Nat) (n p l : Nat) (toks : List (Nat × Nat × Int32)) (kd : Nat) : Int32 := if z_Dg2 (b p) = true then z_nu b p l else if kd = 2 ∨ kd = 3 then nI (z_nm b n p l toks) else 0
theorem z_TkC_add {E E' : List (Nat × Option Nat)} {a6 a7 a6' a7' : List (Nat × Int32)} {toks : List (Nat × Nat × Int32)} {p kd : Nat} {v : Int32} (h : z_TkC E a6 a7 toks) (hk : kd < 37) (e1 : z_fn none E' toks.length = some kd) (e2 : z_fn 0 a6' toks.length = nI p) (e3 : z_fn 0 a7' toks.length = v)
    (f1 : ∀ i, i < toks.length → z_fn none E' i = z_fn none E i) (f2 : ∀ i, i < toks.length → z_fn 0 a6' i = z_fn 0 a6 i) (f3 : ∀ i, i < toks.length → z_fn 0 a7' i = z_fn 0 a7 i) : z_TkC E' a6' a7' (toks ++ [(p, kd, v)]) := by
  intro i t ht
  rw [List.getElem?_append] at ht
  split at ht
  · rename_i hi
    rw [f1 i hi, f2 i hi, f3 i hi]
    exact h i t ht
  · rename_i hi
    cases hd : i - toks.length with
    | zero =>
      rw [hd] at ht
      cases ht
      have : i = toks.length := by omega
      subst this
      exact ⟨e1, hk, e2, e3⟩
    | succ m =>
      rw [hd] at ht
      cases ht
section ZLX3
variable {L : Nat} {xs : Nat → Int32} {c : Nat × Nat} {A : Nat → List (Nat × Int32)} {E : List (Nat × Option Nat)} {N : Nat → Nat} {V : Nat → Nat → Int32} {W : Nat} {g : List z_E}
theorem s44a {fv : Value} {f w : Nat} {b : Nat → Nat} {n p l : Nat} {toks : List (Nat × Nat × Int32)} (hT : z_Tx (A 4) b n) (hV : V 3 2 = nI n) (hp : p + l ≤ n) (hl : 1 ≤ l) (hTk : z_TkC E (A 6) (A 7) toks) (hc6 : V 3 6 = nI toks.length) (hlen : toks.length ≤ 1500) (hpl : ∀ t ∈ toks, t.1 < p) (hRm : z_Rm (hC A E N V W ++ g, c)) (hf : 3 ≤ f) (hw : 120 ≤ w) : ∀ m k, k + m = toks.length → z_Ln L xs fv f w 44 2 [(0, .ref 110), (1, .int (nI p)), (2, .int (nI (p + l))), (3, .int (nI k))] [] (hC A E N V W ++ g, c) (.inl (some (.int (nI (z_nm b n p l (toks.drop k)))))) (hC A E N V W ++ g, c) := by
  have m45 : z_pg.2.1 45 = 6 := rfl
  intro m
  induction m with
  | zero =>
    intro k hk
    have hd : toks.drop k = [] := List.drop_eq_nil_of_le (by omega)
    rw [hd]
    exact b44_2t (by rw [hc6]; exact nI_le (by omega) (by omega)) b44_74
  | succ m ih =>
    intro k hk
    have hkl : k < toks.length := by omega
    have hd : toks.drop k = toks[k] :: toks.drop (k + 1) := List.drop_eq_getElem_cons hkl
    obtain ⟨t1, t2, t3, t4⟩ := hTk k toks[k] (List.getElem?_eq_getElem hkl)
    have hpk := hpl toks[k] (List.getElem_mem hkl)
    generalize toks[k] = t at hd t1 t2 t3 t4 hpk
    have ck : (nI k).toNatClampNeg = k := nI_clamp (by omega)
    have ik : z_in (nI k) 1501 = true := z_inI (by omega) (by decide)
    have hE : z_fn none E (nI k).toNatClampNeg = some t.2.1 := by rw [ck, t1]
    have h6 : z_fn 0 (A 6) (nI k).toNatClampNeg = nI t.1 := by rw [ck, t3]
    rw [hd]
    have ezn : z_nm b n p l (t :: toks.drop (k + 1)) = (if (t.2.1 = 2 ∨ t.2.1 = 3) ∧ z_sw b n t.1 p l = true then t.1 else z_nm b n p l (toks.drop (k + 1))) := rfl
    rw [ezn]
    have no : ∀ x4 : Int32, ¬ ((t.2.1 = 2 ∨ t.2.1 = 3) ∧ z_sw b n t.1 p l = true) → z_Ln L xs fv f w 44 68 [(0, .ref 110), (1, .int (nI p)), (2, .int (nI (p + l))), (3, .int (nI k)), (4, .int x4)] [] (hC A E N V W ++ g, c) (.inl (some (.int (nI (if (t.2.1 = 2 ∨ t.2.1 = 3) ∧ z_sw b n t.1 p l = true then t.1 else z_nm b n p l (toks.drop (k + 1))))))) (hC A E N V W ++ g, c) := by
      intro x4 hn
      rw [if_neg hn]
      refine b44_68 ?_
      rw [nI_1]
      exact ih (k + 1) (by omega)
    have yes : (t.2.1 = 2 ∨ t.2.1 = 3) → z_Ln L xs fv f w 44 34 [(0, .ref 110), (1, .int (nI p)), (2, .int (nI (p + l))), (3, .int (nI k))] [] (hC A E N V W ++ g, c) (.inl (some (.int (nI (if (t.2.1 = 2 ∨ t.2.1 = 3) ∧ z_sw b n t.1 p l = true then t.1 else z_nm b n p l (toks.drop (k + 1))))))) (hC A E N V W ++ g, c) := by
      intro h23
      refine b44_34 (b44_39f (by decide) (b44_46 (v := z_B1 (z_sw b n t.1 p l)) ik hRm (by omega) (by omega) (by rw [h6]; exact s45 hT hV hpk hp hl hRm (by omega) (by omega)) ?_))
      cases hs : z_sw b n t.1 p l with
      | true =>
        rw [if_pos ⟨h23, rfl⟩, ← h6]
        exact b44_58f (z_B1_t rfl) (b44_61 ik)
      | false =>
        have := no 1 (fun q => by rw [hs] at q; cases q.2)
        rw [hs] at this
        exact b44_58t (z_B1_f rfl) this
    refine b44_2f (by rw [hc6]; exact nI_ge hkl (by omega)) (b44_10 ik hE (by omega) ?_)
    by_cases h2 : t.2.1 = 2
    · exact b44_16t t2 (by rw [h2]) (yes (Or.inl h2))
    · refine b44_16f t2 (fun q => h2 (Option.some.inj q)) (b44_22 ik hE (by omega) ?_)
      by_cases h3 : t.2.1 = 3
      · exact b44_28f t2 (by rw [h3]) (yes (Or.inr h3))
      · exact b44_28t t2 (fun q => h3 (Option.some.inj q)) (b44_38 (b44_39t rfl (no 0 (fun q => q.1.elim h2 h3))))
theorem s44 {fv : Value} {f w : Nat} {b : Nat → Nat} {n p l : Nat} {toks : List (Nat × Nat × Int32)} (hT : z_Tx (A 4) b n) (hV : V 3 2 = nI n) (hp : p + l ≤ n) (hl : 1 ≤ l) (hTk : z_TkC E (A 6) (A 7) toks) (hc6 : V 3 6 = nI toks.length) (hlen : toks.length ≤ 1500) (hpl : ∀ t ∈ toks, t.1 < p) (hRm : z_Rm (hC A E N V W ++ g, c)) (hf : 3 ≤ f) (hw : 120 ≤ w) : z_Ln L xs fv f w 44 0 [(0, .ref 110), (1, .int (nI p)), (2, .int (nI (p + l)))] [] (hC A E N V W ++ g, c) (.inl (some (.int (nI (z_nm b n p l toks))))) (hC A E N V W ++ g, c) :=
  b44_0 (s44a hT hV hp hl hTk hc6 hlen hpl hRm hf hw toks.length 0 (by omega))
theorem z_fnc {α : Type} {d x : α} {k i : Nat} {r : List (Nat × α)} (h : ¬ i = k) : z_fn d ((k, x) :: r) i = z_fn d r i := if_neg h
theorem z_fn1 {α : Type} {d x : α} {k : Nat} {r : List (Nat × α)} : z_fn d ((k, x) :: r) k = x := if_pos rfl
set_option maxRecDepth 10000 in
theorem s33 {b : Nat → Nat} {n p l : Nat} {toks : List (Nat × Nat × Int32)} (hT : z_Tx (A 4) b n) (hV : V 3 2 = nI n) (hp : p + l ≤ n) (hl : 1 ≤ l) (hle : l = z_we b n p - p) (hTk : z_TkC E (A 6) (A 7) toks) (hc6 : V 3 6 = nI toks.length) (hlen : toks.length ≤ 1499) (hpl : ∀ t ∈ toks, t.1 < p) (hRm : z_Rm (hC A E N V W ++ g, c)) :
    ∃ (A' : Nat → List (Nat × Int32)) (E' : List (Nat × Option Nat)), (∀ k, k ≠ 6 → k ≠ 7 → A' k = A k) ∧ z_TkC E' (A' 6) (A' 7) (toks ++ [(p, z_kd b n p, z_va b n p l toks (z_kd b n p))]) ∧ ∀ (fv : Value) (f w : Nat), 6 ≤ f → 600 ≤ w → z_Ln L xs fv f w 33 0 [(0, .ref 110), (1, .int (nI p)), (2, .int (nI (p + l)))] [] (hC A E N V W ++ g, c) (.inl none) (hC A' E' N (z_v V 3 6 (nI (toks.length + 1))) W ++ g, c) := by
  have m32 : z_pg.2.1 32 = 1 := rfl
  have m34 : z_pg.2.1 34 = 5 := rfl
  have m35 : z_pg.2.1 35 = 7 := rfl
  have m44 : z_pg.2.1 44 = 5 := rfl
  obtain ⟨hn, ht⟩ := id hT
  obtain ⟨e1, e2⟩ := ht p (by omega)
  have cp : (nI p).toNatClampNeg = p := nI_clamp (by omega)
  have ip : z_in (nI p) 1500 = true := z_inI (by omega) (by decide)
  have ex : z_fn 0 (A 4) (nI p).toNatClampNeg = z_bc (b p) := by rw [cp, e2]
  have ic : z_in (V 3 6) 1501 = true := by rw [hc6]; exact z_inI (by omega) (by decide)
  have cc : (V 3 6).toNatClampNeg = toks.length := by rw [hc6]; exact nI_clamp (by omega)
  have es : nI (p + l) - nI p = nI l := by rw [pk_sub (by omega), show p + l - p = l by omega]
  have ev : V 3 6 + 1 = nI (toks.length + 1) := by rw [hc6, nI_1]
  have kd37 := z_kd_lt b n p
  generalize hA1 : z_u (z_u A 6 (((V 3 6).toNatClampNeg, nI p) :: A 6)) 7 (((V 3 6).toNatClampNeg, 0) :: A 7) = A1
  have a14 : A1 4 = A 4 := by rw [← hA1]; rfl
  have a16 : A1 6 = (toks.length, nI p) :: A 6 := by rw [← hA1, ← cc]; rfl
  have a17 : A1 7 = (toks.length, 0) :: A 7 := by rw [← hA1, ← cc]; rfl
  have a1o : ∀ k, k ≠ 6 → k ≠ 7 → A1 k = A k := by
    intro k k6 k7
    rw [← hA1]
    unfold z_u
    rw [if_neg k7, if_neg k6]
  have hT1 : z_Tx (A1 4) b n := by rw [a14]; exact hT
  have start : ∀ {fv : Value} {f w : Nat} {o : z_V} {T' : z_Y}, 6 ≤ f → 600 ≤ w → z_Ln L xs fv f w 33 29 [(0, .ref 110), (1, .int (nI p)), (2, .int (nI (p + l)))] [.int (z_B1 (z_Dg2 (b p)))] (hC A1 E N V W ++ g, c) o T' → z_Ln L xs fv f w 33 0 [(0, .ref 110), (1, .int (nI p)), (2, .int (nI (p + l)))] [] (hC A E N V W ++ g, c) o T' := by
    intro fv f w o T' hf hw kk
    refine b33_0 (v := z_B1 (z_Dg2 (b p))) (A1 := A1) (E1 := E) (N1 := N) (V1 := V) (W1 := W) (g1 := g) (c1 := c) ic ic ip hRm (by omega) (by omega) ?_ kk
    rw [hA1, ex]
    exact s32 e1
  have fin : ∀ {fv : Value} {f w : Nat} {A2 : Nat → List (Nat × Int32)} {E2 : List (Nat × Option Nat)}, z_Ln L xs fv f w 33 136 [(0, .ref 110), (1, .int (nI p)), (2, .int (nI (p + l)))] [] (hC A2 E2 N V W ++ g, c) (.inl none) (hC A2 E2 N (z_v V 3 6 (nI (toks.length + 1))) W ++ g, c) := by
    intro fv f w A2 E2
    rw [← ev]
    exact b33_136
  cases hdg : z_Dg2 (b p) with
  | true =>
    have hkd : z_kd b n p = (if l ≤ 9 then 4 else 1) := by
      unfold z_kd
      rw [if_pos hdg, ← hle]
    have hva : z_va b n p l toks (z_kd b n p) = z_nu b p l := by
      unfold z_va
      rw [if_pos hdg]
    refine ⟨z_u A1 7 ((toks.length, z_nu b p l) :: A1 7), (toks.length, some (z_kd b n p)) :: E, ?_, ?_, ?_⟩
    · intro k k6 k7
      rw [← a1o k k6 k7]
      exact if_neg k7
    · rw [hva]
      refine z_TkC_add hTk kd37 z_fn1 ?_ ?_ (fun i hi => z_fnc (by omega)) (fun i hi => ?_) (fun i hi => ?_)
      · show z_fn 0 (A1 6) _ = _
        rw [a16]
        exact z_fn1
      · exact z_fn1
      · show z_fn 0 (A1 6) _ = _
        rw [a16]
        exact z_fnc (by omega)
      · show z_fn 0 ((toks.length, z_nu b p l) :: A1 7) _ = _
        rw [a17, z_fnc (by omega), z_fnc (by omega)]
    · intro fv f w hf hw
      refine start hf hw ?_
      rw [hdg]
      refine b33_29f (z_B1_t rfl) ?_
      have back : ∀ kd : Nat, kd < 37 → kd = z_kd b n p → z_Ln L xs fv f w 33 57 [(0, .ref 110), (1, .int (nI p)), (2, .int (nI (p + l)))] [.ref kd, .int (V 3 6), .ref 112] (hC A1 E N V W ++ g, c) (.inl none) (hC (z_u A1 7 ((toks.length, z_nu b p l) :: A1 7)) ((toks.length, some (z_kd b n p)) :: E) N (z_v V 3 6 (nI (toks.length + 1))) W ++ g, c) := by
        intro kd hk hkk
        refine b33_57 (v := z_nu b p l) (A1 := A1) (E1 := (toks.length, some (z_kd b n p)) :: E) (N1 := N) (V1 := V) (W1 := W) (g1 := g) (c1 := c) ic hk hRm (by omega) (by omega) ?_ (b33_72 ic ?_)
        · rw [cc, hkk]
          exact s34 hT1 hp
        · rw [cc]
          exact fin
      by_cases h9 : l ≤ 9
      · rw [if_pos h9] at hkd
        exact b33_32f (by rw [es]; exact nI_nlt (b := l) (a := 9) h9 (by decide)) (b33_48 (back 4 (by decide) hkd.symm))
      · rw [if_neg h9] at hkd
        exact b33_32t (by rw [es]; exact nI_lt (a := 9) (by omega) (by omega)) (b33_54 (back 1 (by decide) hkd.symm))
  | false =>
    have hkd : z_kd b n p = z_k1 b p l := by
      unfold z_kd
      rw [if_neg (by rw [hdg]; decide), ← hle]
    have hva : z_va b n p l toks (z_kd b n p) = (if z_kd b n p = 2 ∨ z_kd b n p = 3 then nI (z_nm b n p l toks) else 0) := by
      unfold z_va
      rw [if_neg (by rw [hdg]; decide)]
    generalize hkg : z_kd b n p = kd at hkd hva kd37 ⊢
    have hTk1 : z_TkC ((toks.length, some kd) :: E) (A1 6) (A1 7) toks := by
      intro i t hi
      have hil := (List.getElem?_eq_some_iff.mp hi).1
      rw [a16, a17, z_fnc (by omega), z_fnc (by omega), z_fnc (by omega)]
      exact hTk i t hi
    have e90 : z_fn none (((V 3 6).toNatClampNeg, some kd) :: E) (V 3 6).toNatClampNeg = some kd := z_fn1
    have go : ∀ {fv : Value} {f w : Nat} {o : z_V} {T' : z_Y}, 6 ≤ f → 600 ≤ w → z_Ln L xs fv f w 33 100 [(0, .ref 110), (1, .int (nI p)), (2, .int (nI (p + l)))] [.ref kd] (hC A1 ((toks.length, some kd) :: E) N V W ++ g, c) o T' → z_Ln L xs fv f w 33 0 [(0, .ref 110), (1, .int (nI p)), (2, .int (nI (p + l)))] [] (hC A E N V W ++ g, c) o T' := by
      intro fv f w o T' hf hw kk
      refine start hf hw ?_
      rw [hdg]
      refine b33_29t (z_B1_f rfl) (b33_76 (v := kd) (A1 := A1) (E1 := E) (N1 := N) (V1 := V) (W1 := W) (g1 := g) (c1 := c) hRm (by omega) (by omega) ?_ (b33_90 ic kd37 ic e90 (by omega) ?_))
      · rw [hkd]
        exact s35 hT1 hl hp hRm (by omega) (by omega)
      · rw [cc]
        exact kk
    have e6 : z_fn none ((toks.length, some kd) :: E) (V 3 6).toNatClampNeg = some kd := by
      rw [cc]
      exact z_fn1
    by_cases h23 : kd = 2 ∨ kd = 3
    · rw [if_pos h23] at hva
      refine ⟨z_u A1 7 ((toks.length, nI (z_nm b n p l toks)) :: A1 7), (toks.length, some kd) :: E, ?_, ?_, ?_⟩
      · intro k k6 k7
        rw [← a1o k k6 k7]
        exact if_neg k7
      · rw [hva]
        refine z_TkC_add hTk kd37 z_fn1 ?_ ?_ (fun i hi => z_fnc (by omega)) (fun i hi => ?_) (fun i hi => ?_)
        · show z_fn 0 (A1 6) _ = _
          rw [a16]
          exact z_fn1
        · exact z_fn1
        · show z_fn 0 (A1 6) _ = _
          rw [a16]
          exact z_fnc (by omega)
        · show z_fn 0 ((toks.length, nI (z_nm b n p l toks)) :: A1 7) _ = _
          rw [a17, z_fnc (by omega), z_fnc (by omega)]
      · intro fv f w hf hw
        refine go hf hw ?_
        have nm : z_Ln L xs fv f w 33 121 [(0, .ref 110), (1, .int (nI p)), (2, .int (nI (p + l)))] [] (hC A1 ((toks.length, some kd) :: E) N V W ++ g, c) (.inl none) (hC (z_u A1 7 ((toks.length, nI (z_nm b n p l toks)) :: A1 7)) ((toks.length, some kd) :: E) N (z_v V 3 6 (nI (toks.length + 1))) W ++ g, c) := by
          refine b33_121 (v := nI (z_nm b n p l toks)) (A1 := A1) (E1 := (toks.length, some kd) :: E) (N1 := N) (V1 := V) (W1 := W) (g1 := g) (c1 := c) hRm (by omega) (by omega) (s44 hT1 hV hp hl hTk1 hc6 (by omega) hpl hRm (by omega) (by omega)) (b33_135 ic ?_)
          rw [cc]
          exact fin
        by_cases h2 : kd = 2
        · exact b33_100t kd37 (by rw [h2]) nm
        · exact b33_100f kd37 (fun q => h2 (Option.some.inj q)) (b33_106 ic e6 (by omega) (b33_115f kd37 (by rw [h23.resolve_left h2]) nm))
    · rw [if_neg h23] at hva
      refine ⟨A1, (toks.length, some kd) :: E, a1o, ?_, ?_⟩
      · rw [hva]
        refine z_TkC_add hTk kd37 z_fn1 ?_ ?_ (fun i hi => z_fnc (by omega)) (fun i hi => ?_) (fun i hi => ?_)
        · rw [a16]
          exact z_fn1
        · rw [a17]
          exact z_fn1
        · rw [a16]
          exact z_fnc (by omega)
        · rw [a17]
          exact z_fnc (by omega)
      · intro fv f w hf hw
        refine go hf hw ?_
        exact b33_100f kd37 (fun q => h23 (Or.inl (Option.some.inj q))) (b33_106 ic e6 (by omega) (b33_115t kd37 (fun q => h23 (Or.inr (Option.some.inj q))) fin))
end ZLX3
