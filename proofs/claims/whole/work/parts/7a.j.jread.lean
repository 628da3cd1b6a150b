/-! Reading, both together: read. -/
/-- of the class, what reading and checking leave -/
def z_Kt (S S' : z_CS) : Prop := S'.1 1 = S.1 1 ∧ (∀ j, S'.2.2.2.1 38 j = S.2.2.2.1 38 j) ∧ (∀ j, S'.2.2.2.1 2 j = S.2.2.2.1 2 j) ∧ z_Gw S.2.2.1 S'.2.2.1 S.2.2.2.2.2 S'.2.2.2.2.2
theorem z_Kt.tr {S S' S'' : z_CS} (h : z_Kt S S') (h' : z_Kt S' S'') : z_Kt S S'' := ⟨h'.1.trans h.1, fun j => (h'.2.1 j).trans (h.2.1 j), fun j => (h'.2.2.1 j).trans (h.2.2.1 j), h.2.2.2.tr h'.2.2.2⟩
theorem z_XC.kt {S S' : z_CS} (h : z_XC S S') : z_Kt S S' := ⟨h.1 1 rfl, fun j => h.2.2.2.1 38 j rfl, fun j => h.2.2.2.1 2 j rfl, h.2.2.2.2⟩
theorem z_XK.kt {S S' : z_CS} (h : z_XK S S') : z_Kt S S' := ⟨h.1 1 (by decide) (by decide) (by decide), fun j => h.2.2.2.1 38 j (by omega) (by decide), fun j => h.2.2.2.1 2 j (by omega) (by decide), h.2.2.2.2.2⟩
theorem z_XKm.kt {S S' : z_CS} (h : z_XKm S S') : z_Kt S S' := ⟨h.1 1 (by decide) (by decide) (by decide), fun j => h.2.2.2.1 38 j (by omega) (by decide) (by omega), fun j => h.2.2.2.1 2 j (by omega) (by decide) (by omega), h.2.2.2.2.2⟩
/-- of the reference -/
def z_Rt (R R' : z_RS) : Prop := (∀ k, k ≤ 45 → R'.1 k = R.1 k) ∧ (∀ k, k ≠ 50 → R'.2.1 k = R.2.1 k) ∧ ∀ j, j = 5 ∨ j = 6 ∨ 91 ≤ j → R'.2.2 41 j = R.2.2 41 j
theorem z_Rt.tr {R R' R'' : z_RS} (h : z_Rt R R') (h' : z_Rt R' R'') : z_Rt R R'' := ⟨fun k a => (h'.1 k a).trans (h.1 k a), fun k a => (h'.2.1 k a).trans (h.2.1 k a), fun k a => (h'.2.2 k a).trans (h.2.2 k a)⟩
theorem z_Xq.rt {R R' : z_RS} (h : z_Xq R R') : z_Rt R R' := ⟨h.1, fun k _ => by rw [h.2.1], fun j a => h.2.2 41 j (by omega)⟩
theorem z_XU.rt {R R' : z_RS} (h : z_XU R R') : z_Rt R R' := ⟨fun k a => h.1 k (by omega) (by omega), h.2.1, fun j a => h.2.2 41 j (by omega)⟩
/-- what read leaves, of both, in any case -/
def z_Rda (A : Nat → List (Nat × Int32)) (N : Nat → Nat) (c : Nat × Nat) (B : Nat → List (Nat × Int32)) (M : Nat → List (Nat × Int64)) (S' : z_CS) (R' : z_RS) : Prop :=
  (S'.1 1 = A 1 ∧ S'.2.2.2.1 3 2 = 0 ∧ S'.2.2.2.2.1 < 107) ∧ (S'.2.2.2.1 38 7 = 0 ∧ S'.2.2.2.1 38 8 = 0 ∧ S'.2.2.2.1 38 9 = -1 ∧ S'.2.2.2.1 38 10 = 0 ∧ S'.2.2.2.1 38 11 = 0 ∧ S'.2.2.2.1 38 12 = 0) ∧
  (z_Nb S'.2.2.1 ∧ 64 * S'.2.2.2.2.2.1 + z_Pt N ≤ 64 * c.1 + 128 + z_Pt S'.2.2.1 ∧ S'.2.2.2.2.2.2 + 2 * z_Pt N ≤ c.2 + 12 + 2 * z_Pt S'.2.2.1) ∧
  (R'.1 42 = B 42 ∧ R'.1 45 = B 45 ∧ ∀ k, k ≠ 50 → k ≠ 110 → R'.2.1 k = M k) ∧ (R'.2.2 41 5 = 0 ∧ R'.2.2 41 94 = 0 ∧ R'.2.2 41 98 = 0 ∧ R'.2.2 41 99 = 0 ∧ R'.2.2 41 100 = 0 ∧ R'.2.2 41 101 = -1) ∧
  (S'.2.2.2.1 2 0 = R'.2.2 41 11 ∧ S'.2.2.2.1 2 1 = R'.2.2 41 12)
/-- a program was read -/
def z_Rdg (S' : z_CS) (R' : z_RS) : Prop := (S'.2.2.2.1 0 8 = 1 ∧ R'.2.2 41 91 = 1 ∧ R'.2.2 41 0 = 0) ∧ ∃ (b : Nat → Nat) (n : Nat) (S1 : z_CS) (R1 : z_RS) (S2 : z_CS) (R2 : z_RS), z_Ok b n S1 R1 S2 R2 ∧
  (S'.1 = S2.1 ∧ S'.2.2.1 = S2.2.2.1 ∧ (∀ k j, 4 ≤ k → k ≤ 27 → S'.2.2.2.1 k j = S2.2.2.2.1 k j)) ∧ (R'.1 = R2.1 ∧ ∀ j, 1 ≤ j → j ≤ 90 → R'.2.2 41 j = R2.2.2 41 j) ∧
  ∃ root, root < 600 ∧ R2.2.2 41 28 = nI root ∧ R'.2.2 41 92 = z_fn 0 (R2.1 106) root ∧ R'.2.2 41 93 = z_fn 0 (R2.1 107) root ∧ ∃ (T : Nat → Nat × Nat × Int32) (m : Nat), z_TyR R2.1 R2.2.2 T m ∧ ∀ j, j < m → z_fn 0 (R'.2.1 110) j = lN (min (z_dt T j).length 4000000000)
/-- a fault was told -/
def z_Rdb (S' : z_CS) (R' : z_RS) : Prop := S'.2.2.2.1 0 8 = 0 ∧ R'.2.2 41 91 = 0 ∧ R'.2.2 41 0 = 1
section ZAJ
variable {L : Nat} {xs : Nat → Int32} {G : List z_E} {A : Nat → List (Nat × Int32)} {E : List (Nat × Option Nat)} {N : Nat → Nat} {V : Nat → Nat → Int32} {W : Nat} {c : Nat × Nat} {B : Nat → List (Nat × Int32)} {M : Nat → List (Nat × Int64)} {U : Nat → Nat → Int32} {len : Nat}
/-- the class's runs of read -/
def z_Cok (L : Nat) (xs : Nat → Int32) (G : List z_E) (A : Nat → List (Nat × Int32)) (E : List (Nat × Option Nat)) (N : Nat → Nat) (V : Nat → Nat → Int32) (W : Nat) (c : Nat × Nat) (k : Int32) (S' : z_CS) : Prop := ∀ (fv : Value) (f w : Nat), z_Lv 340 f w → z_Ln L xs fv f w 28 0 [(0, .ref 107)] [] (hC A E N V W ++ G, c) (.inl (some (.int k))) (z_Yc S' G)
def z_Cno (L : Nat) (xs : Nat → Int32) (G : List z_E) (A : Nat → List (Nat × Int32)) (E : List (Nat × Option Nat)) (N : Nat → Nat) (V : Nat → Nat → Int32) (W : Nat) (c : Nat × Nat) (S' : z_CS) : Prop := ∀ (fv : Value) (f w : Nat), z_Lv 340 f w → z_Ln L xs fv f w 28 0 [(0, .ref 107)] [] (hC A E N V W ++ G, c) (.inr 10) (z_Yc S' (G ++ [.inr (10, [])]))
theorem z_Gok.snoc {g : List z_E} (h : z_Gok g) : z_Gok (g ++ [.inr (10, [])]) := by
  intro j ci fs hj q a hq
  by_cases e : j < g.length
  · rw [List.getElem?_append_left e] at hj
    exact h j ci fs hj q a hq
  · rw [List.getElem?_append_right (Nat.le_of_not_lt e)] at hj
    cases hd : j - g.length with
    | zero =>
      rw [hd] at hj
      have e2 := (Prod.mk.inj (Sum.inr.inj (Option.some.inj hj))).2
      rw [← e2] at hq
      cases hq
    | succ k =>
      rw [hd] at hj
      cases hj
set_option maxHeartbeats 1000000 in
theorem jread (hG : z_Gok G) (hcd : ∀ A' E' N' V' W', W' < 107 → z_cd (hC A' E' N' V' W' ++ G)) (hlen : len ≤ 1500) (hV : V 3 2 = nI len) (hU : U 41 5 = nI len) (ht : ∀ j, j < len → z_bp (z_fn 0 (A 4) j) (z_fn 0 (B 43) j)) (hKy : z_Ky (B 45)) (hr : z_Rk N c) (hr2 : c.1 + 200 ≤ 10000 + z_Pt N / 64 ∧ c.2 + 2000 ≤ 3100000 + 2 * z_Pt N) (hW : W < 107) :
    (∃ (S' : z_CS) (R' : z_RS) (nn : Nat), nn ≤ 600 ∧ z_Cok L xs G A E N V W c (nI nn) S' ∧ z_Rr 23 138 0 [(0, .ref 148)] [] (B, M, U) (some (.int (nI nn))) R' ∧ z_Rda A N c B M S' R' ∧ z_Rdg S' R') ∨
    (∃ (S' : z_CS) (R' : z_RS), z_Cno L xs G A E N V W c S' ∧ z_Rr 23 138 0 [(0, .ref 148)] [] (B, M, U) (some (.int 0)) R' ∧ z_Rda A N c B M S' R' ∧ z_Rdb S' R') := by
  obtain ⟨b, hb⟩ : ∃ b : Nat → Nat, b = fun p => (z_fn 0 (B 43) p).toNatClampNeg := ⟨_, rfl⟩
  have hb1 : ∀ p, p < len → b p < 256 ∧ z_fn 0 (B 43) p = nI (b p) ∧ z_fn 0 (A 4) p = z_bc (b p) := by
    intro p hp
    obtain ⟨a1, k, a2, a3⟩ := ht p hp
    have e1 : z_fn 0 (B 43) p = nI k := a3
    have e2 : b p = k := by
      rw [hb]
      show (z_fn 0 (B 43) p).toNatClampNeg = k
      rw [e1]
      exact nI_clamp (by omega)
    rw [e2]
    refine ⟨by omega, e1, ?_⟩
    rw [a1, e1]
    rfl
  have hTx : z_Tx (A 4) b len := ⟨hlen, fun p hp => ⟨(hb1 p hp).1, (hb1 p hp).2.2⟩⟩
  obtain ⟨V1, hV1⟩ : ∃ X, X = z_V3 (z_V13 V) := ⟨_, rfl⟩
  have v1o : ∀ k j, ¬ k = 2 → ¬ k = 38 → V1 k j = V k j := fun k j q1 q2 => by
    rw [hV1]
    unfold z_V3 z_V13
    rw [z_vn (by omega), z_vn (by omega), z_vn (by omega), z_vn (by omega), z_vn (by omega), z_vn (by omega), z_vn (by omega), z_vn (by omega)]
  have hV2 : V1 3 2 = nI len := (v1o 3 2 (by decide) (by decide)).trans hV
  obtain ⟨A3, E3, a3, hTk, run29⟩ := s29 (L := L) (xs := xs) (c := c) (A := A) (E := E) (N := N) (V := V1) (W := W) (g := G) hTx hV2 hr.rm.1
  obtain ⟨V3, hV3⟩ : ∃ X, X = z_v V1 3 6 (nI (z_ts b len).length) := ⟨_, rfl⟩
  obtain ⟨S3, hS3⟩ : ∃ X : z_CS, X = (A3, E3, N, V3, W, c) := ⟨_, rfl⟩
  obtain ⟨R1, hR1⟩ : ∃ X : z_RS, X = z_R138 len (B, M, U) := ⟨_, rfl⟩
  have r1A : ∀ k, k ≠ 44 → R1.1 k = B k := fun k q => by
    rw [hR1]
    exact z_un q
  have r1M : R1.2.1 = M := by rw [hR1]; rfl
  have r1U : ∀ j, j < 91 → j ≠ 5 → j ≠ 6 → R1.2.2 41 j = U 41 j := fun j q1 q2 q3 => by
    rw [hR1]
    show z_U139 (z_v (z_v (z_v (z_v U 41 6 (U 41 5)) 41 5 (0)) 41 91 (0)) 41 94 (0)) 41 j = U 41 j
    unfold z_U139
    rw [z_vn (by omega), z_vn (by omega), z_vn (by omega), z_vn (by omega), z_vn (by omega), z_vn (by omega), z_vn (by omega), z_vn (by omega), z_vn (by omega), z_vn (by omega), z_vn (by omega), z_vn (by omega), z_vn (by omega)]
  have r1u : R1.2.2 41 5 = 0 ∧ R1.2.2 41 6 = nI len ∧ R1.2.2 41 91 = 0 ∧ R1.2.2 41 94 = 0 ∧ R1.2.2 41 98 = 0 ∧ R1.2.2 41 99 = 0 ∧ R1.2.2 41 100 = 0 ∧ R1.2.2 41 101 = -1 := by
    rw [hR1, ← hU]
    exact ⟨rfl, rfl, rfl, rfl, rfl, rfl, rfl, rfl⟩
  have hT : z_Jt b len S3.2.1 S3.1 R1.1 R1.2.2 := by
    rw [hS3]
    refine ⟨fun p hp => (hb1 p hp).1, hlen, hTk, ⟨hlen, fun p hp => ⟨(hb1 p hp).1, ?_⟩⟩, by rw [r1A 45 (by decide)]; exact hKy, r1u.2.1⟩
    rw [hR1]
    show z_fn 0 (z_u B 44 (z_c44 (B 43) (B 44) len) 44) p = _
    rw [z_uk, z_c44_at _ _ hp]
    exact (hb1 p hp).2.1
  have h36 : S3.2.2.2.1 3 6 = nI (z_ts b len).length := by
    rw [hS3, hV3]
    rfl
  have hr3 : z_Rk S3.2.2.1 S3.2.2.2.2.2 := by
    rw [hS3]
    exact hr
  have v38 : S3.2.2.2.1 38 7 = 0 ∧ S3.2.2.2.1 38 8 = 0 ∧ S3.2.2.2.1 38 9 = -1 ∧ S3.2.2.2.1 38 10 = 0 ∧ S3.2.2.2.1 38 11 = 0 ∧ S3.2.2.2.1 38 12 = 0 := by
    rw [hS3, hV3, hV1]
    exact ⟨rfl, rfl, rfl, rfl, rfl, rfl⟩
  have v2 : S3.2.2.2.1 2 0 = 0 ∧ S3.2.2.2.1 2 1 = -1 := by
    rw [hS3, hV3, hV1]
    exact ⟨rfl, rfl⟩
  have a31 : S3.1 1 = A 1 := by
    rw [hS3]
    exact a3 1 (by decide) (by decide)
  have gw0 : ∀ S' : z_CS, z_Kt S3 S' → z_Gw N S'.2.2.1 c S'.2.2.2.2.2 := fun S' h => by
    have q := h.2.2.2
    rw [hS3] at q
    exact q
  -- the class, around
  have run0 : ∀ (v : Int32) (S4 : z_CS) (G4 : List z_E), (v = 0 ∨ v = 1) → z_Gok G4 → z_Rm ([], S4.2.2.2.2.2) → (∀ (fv : Value) (f w : Nat), z_Lv 338 f w → z_Ln L xs fv f w 46 0 [(0, .ref 107)] [] (z_Yc S3 G) (.inl (some (.int v))) (z_Yc S4 G4)) → ∀ (fv : Value) (f w : Nat) (o : z_V) (T' : z_Y), z_Lv 340 f w → z_Ln L xs fv f w 28 36 [(0, .ref 107)] [] (hC S4.1 S4.2.1 S4.2.2.1 (z_v (z_v S4.2.2.2.1 0 8 v) 3 2 0) S4.2.2.2.2.1 ++ G4, S4.2.2.2.2.2) o T' → z_Ln L xs fv f w 28 0 [(0, .ref 107)] [] (hC A E N V W ++ G, c) o T' := by
    intro v S4 G4 hv hg4 hm4 h46 fv f w o T' hl kk
    have k29 := run29 fv (f - 1) (w - (19 + z_pg.2.1 29)) (by have := hl.1; omega) (by have := hl.2; have := z_mlb 29 (by decide); omega)
    have k46 := h46 fv (f - 1) (w - (19 + z_pg.2.1 46)) ((hl.le (show 339 ≤ 340 by decide)).dn 46 (by decide))
    rw [hV1] at k29
    rw [hS3, hV3, hV1] at k46
    exact e28_0 (hl.le (by decide)) hG hg4 hr.rm.1 hm4 hv k29 k46 kk
  obtain ⟨o, S4, c47, h47⟩ := j47 (S := S3) (R := R1) hT h36 hr3
  -- a fault was told
  have bad : ∀ (x y : Int32) (Sg Sf : z_CS) (Rf : z_RS), z_Kt S3 Sg → z_Rk Sg.2.2.1 Sg.2.2.2.2.2 → Sf.1 = Sg.1 → Sf.2.2.1 = Sg.2.2.1 → Sf.2.2.2.1 = z_Vf Sg.2.2.2.1 x y → Sf.2.2.2.2.2 = (Sg.2.2.2.2.2.1 + 1, Sg.2.2.2.2.2.2 + 6) → Sf.2.2.2.2.1 < 107 → z_Rt R1 Rf → z_Td x y Rf.2.2 → (∀ (fv : Value) (f w : Nat), z_Lv 338 f w → z_Ln L xs fv f w 46 0 [(0, .ref 107)] [] (z_Yc S3 G) (.inl (some (.int 0))) (z_Yc Sf (G ++ [.inr (10, [])]))) → (∀ Q : Option Value → z_RS → Prop, Q (some (.int 0)) (Rf.1, Rf.2.1, z_v Rf.2.2 41 0 (1)) → z_WR 23 138 0 [(0, .ref 148)] [] (B, M, U) Q) → ∃ (S' : z_CS) (R' : z_RS), z_Cno L xs G A E N V W c S' ∧ z_Rr 23 138 0 [(0, .ref 148)] [] (B, M, U) (some (.int 0)) R' ∧ z_Rda A N c B M S' R' ∧ z_Rdb S' R' := by
    intro x y Sg Sf Rf kt rg e1 e3 e4 e6 hW' rt td h46 hR138
    have gw := gw0 Sg kt
    have pb := z_Pt_b rg.1
    have rr2 := rg.2
    have rf : z_Rm ([], Sf.2.2.2.2.2) ∧ Sf.2.2.2.2.2.1 + 1 ≤ 601024 ∧ Sf.2.2.2.2.2.2 + 6 ≤ 7293034 := by
      rw [e6]
      have := gw.2.1
      have := gw.2.2
      exact ⟨⟨by show Sg.2.2.2.2.2.1 + 1 ≤ 601024; omega, by show Sg.2.2.2.2.2.2 + 6 ≤ 7293034; omega⟩, by show Sg.2.2.2.2.2.1 + 1 + 1 ≤ 601024; omega, by show Sg.2.2.2.2.2.2 + 6 + 6 ≤ 7293034; omega⟩
    refine ⟨(Sf.1, Sf.2.1, Sf.2.2.1, z_v (z_v Sf.2.2.2.1 0 8 0) 3 2 0, Sf.2.2.2.2.1, (Sf.2.2.2.2.2.1 + 1, Sf.2.2.2.2.2.2 + 6)), (Rf.1, Rf.2.1, z_v Rf.2.2 41 0 (1)), fun fv f w hl => ?_, z_WR.get (fun Q q => hR138 Q q), ?_, ?_⟩
    · exact run0 0 Sf _ (Or.inl rfl) hG.snoc rf.1 h46 fv f w _ _ hl (e28_no (hl.le (by decide)) rf.2 rfl)
    · have vf : ∀ k j, ¬ k = 2 → Sf.2.2.2.1 k j = Sg.2.2.2.1 k j := fun k j q => by
        rw [e4]
        show z_v (z_v Sg.2.2.2.1 2 0 x) 2 1 y k j = _
        rw [z_vn (by omega), z_vn (by omega)]
      have v8 : ∀ j, z_v (z_v Sf.2.2.2.1 0 8 0) 3 2 0 38 j = S3.2.2.2.1 38 j := fun j => by
        rw [z_vn (by omega), z_vn (by omega), vf 38 j (by decide)]
        exact kt.2.1 j
      refine ⟨⟨?_, rfl, hW'⟩, ⟨(v8 7).trans v38.1, (v8 8).trans v38.2.1, (v8 9).trans v38.2.2.1, (v8 10).trans v38.2.2.2.1, (v8 11).trans v38.2.2.2.2.1, (v8 12).trans v38.2.2.2.2.2⟩, ⟨?_, ?_, ?_⟩, ⟨(rt.1 42 (by decide)).trans (r1A 42 (by decide)), (rt.1 45 (by decide)).trans (r1A 45 (by decide)), fun k q _ => (rt.2.1 k q).trans (by rw [r1M])⟩, ⟨?_, ?_, ?_, ?_, ?_, ?_⟩, ?_, ?_⟩
      · show Sf.1 1 = A 1
        rw [e1, kt.1]
        exact a31
      · show z_Nb Sf.2.2.1
        rw [e3]
        exact rg.1
      · show 64 * (Sf.2.2.2.2.2.1 + 1) + z_Pt N ≤ 64 * c.1 + 128 + z_Pt Sf.2.2.1
        rw [e3, e6]
        have := gw.2.1
        show 64 * (Sg.2.2.2.2.2.1 + 1 + 1) + z_Pt N ≤ 64 * c.1 + 128 + z_Pt Sg.2.2.1
        omega
      · show Sf.2.2.2.2.2.2 + 6 + 2 * z_Pt N ≤ c.2 + 12 + 2 * z_Pt Sf.2.2.1
        rw [e3, e6]
        have := gw.2.2
        show Sg.2.2.2.2.2.2 + 6 + 6 + 2 * z_Pt N ≤ c.2 + 12 + 2 * z_Pt Sg.2.2.1
        omega
      · show z_v Rf.2.2 41 0 (1) 41 5 = 0
        rw [z_vn (by decide), rt.2.2 5 (by decide)]
        exact r1u.1
      · show z_v Rf.2.2 41 0 (1) 41 94 = 0
        rw [z_vn (by decide), rt.2.2 94 (by decide)]
        exact r1u.2.2.2.1
      · show z_v Rf.2.2 41 0 (1) 41 98 = 0
        rw [z_vn (by decide), rt.2.2 98 (by decide)]
        exact r1u.2.2.2.2.1
      · show z_v Rf.2.2 41 0 (1) 41 99 = 0
        rw [z_vn (by decide), rt.2.2 99 (by decide)]
        exact r1u.2.2.2.2.2.1
      · show z_v Rf.2.2 41 0 (1) 41 100 = 0
        rw [z_vn (by decide), rt.2.2 100 (by decide)]
        exact r1u.2.2.2.2.2.2.1
      · show z_v Rf.2.2 41 0 (1) 41 101 = -1
        rw [z_vn (by decide), rt.2.2 101 (by decide)]
        exact r1u.2.2.2.2.2.2.2
      · show z_v (z_v Sf.2.2.2.1 0 8 0) 3 2 0 2 0 = z_v Rf.2.2 41 0 (1) 41 11
        rw [z_vn (by decide), z_vn (by decide), z_vn (by decide), td.2.1, e4]
        rfl
      · show z_v (z_v Sf.2.2.2.1 0 8 0) 3 2 0 2 1 = z_v Rf.2.2 41 0 (1) 41 12
        rw [z_vn (by decide), z_vn (by decide), z_vn (by decide), td.2.2, e4]
        rfl
    · refine ⟨rfl, ?_, rfl⟩
      show z_v Rf.2.2 41 0 (1) 41 91 = 0
      rw [z_vn (by decide), rt.2.2 91 (by decide)]
      exact r1u.2.2.1
  rcases o with v | e
  · obtain ⟨rfl, R2, rr140, rp, xc, xq⟩ := h47
    obtain ⟨o2, S5, c82, R3, rr183, h82⟩ := n_check rp
    have hr4 : z_Rk S4.2.2.1 S4.2.2.2.2.2 := by
      obtain ⟨me, ep, j, t, τ, s, nn, kk, f, m, p, hP, -⟩ := rp
      exact hP.1.2.2.2.2
    have h0 : R2.2.2 41 11 = 0 := by
      obtain ⟨me, ep, j, t, τ, s, nn, kk, f, m, p, hP, -⟩ := rp
      exact hP.1.2.2.2.1
    have w4 : S4.2.2.2.2.1 < 107 := by
      obtain ⟨me, ep, j, t, τ, s, nn, kk, f, m, p, hP, -⟩ := rp
      exact hP.1.w
    have ref1 : ∀ Q : Option Value → z_RS → Prop, p138_70 22 R3.1 R3.2.1 R3.2.2 (nI len) Q → z_WR 23 138 0 [(0, .ref 148)] [] (B, M, U) Q := by
      intro Q q
      refine r138 (l := 21) (R := (B, M, U)) hU hlen ?_
      rw [← hR1]
      refine ⟨none, R2, fun L xs fv f w c A E N V W g hm hl => rr140 L xs fv f w c A E N V W g hm (hl.le (by decide)), rfl, ?_⟩
      unfold p138_59
      rw [if_pos h0]
      exact ⟨none, R3, fun L xs fv f w c A E N V W g hm hl => rr183 L xs fv f w c A E N V W g hm (hl.le (by decide)), rfl, q⟩
    have p46 : ∀ (fv : Value) (f w : Nat) (o : z_V) (T' : z_Y), z_Lv 338 f w → z_Ln L xs fv f w 46 7 [(0, .ref 107)] [] (z_Yc S4 G) o T' → z_Ln L xs fv f w 46 0 [(0, .ref 107)] [] (z_Yc S3 G) o T' := fun fv f w o T' hl kk => e46_0 hr3.rm.1 hl.f1 ((hl.le (show 337 + 1 ≤ 338 by decide)).w1 47 (by decide)) (c47 L xs fv _ _ G hG (((hl.le (show 337 + 1 ≤ 338 by decide)).dn 47 (by decide)).le (by decide))) kk
    rcases o2 with v | e
    · obtain ⟨rfl, ok⟩ := h82
      left
      obtain ⟨me, ep, j, t, τ, τ', s, nn, kk, f, m, p, mo, hP, hcp, h27, ⟨h28, hs46, hkk, -⟩, ⟨tc, tr, tte⟩, -, -, -, -, ⟨-, -, -, -⟩, rk5, xkm, xu, f0, f12, -⟩ := id ok
      have m6 : m < 600 := by
        have := (z_Cp.mem hcp).2
        have := hP.2.2.2.2.2.1.2.2
        have e : (((0, nn), (0, kk)) : z_Bd).1.2 = nn := rfl
        omega
      have n6 : nn ≤ 600 := hP.2.2.2.2.2.1.2.2
      have v137 : S5.2.2.2.1 13 7 = nI nn := (xkm.2.2.2.1 13 7 (by decide) (by decide) (by decide)).trans hP.2.2.2.2.2.1.1
      have u26 : R3.2.2 41 26 = nI nn := (xu.2.2 41 26 (by decide)).trans hP.2.2.2.2.2.1.2.1
      have u28 : R3.2.2 41 28 = nI m := (xu.2.2 41 28 (by decide)).trans h28
      have kt : z_Kt S3 S5 := xc.kt.tr xkm.kt
      have rt : z_Rt R1 R3 := xq.rt.tr xu.rt
      have gw := gw0 S5 kt
      have ref2 : z_WR 23 138 0 [(0, .ref 148)] [] (B, M, U) (fun v R' => v = some (.int (nI nn)) ∧ ∃ M', R' = (R3.1, M', z_v (z_v (z_v (z_v R3.2.2 41 0 (0)) 41 91 (1)) 41 92 (z_fn 0 (R3.1 106) m)) 41 93 (z_fn 0 (R3.1 107) m)) ∧ (∀ q, q ≠ 110 → M' q = R3.2.1 q) ∧ (∀ j, j < τ'.2.2 → z_fn 0 (M' 110) j = lN (min (z_dt τ'.2.1 j).length 4000000000))) := by
        refine ref1 _ (r138f (T := τ'.2.1) (m := τ'.2.2) f0 tr u28 m6 (fun M' q1 q2 => ⟨by rw [u26], M', rfl, q1, q2⟩))
      obtain ⟨v, R', rr, rfl, M', hR', q1, q2⟩ := ref2
      obtain ⟨Uf, hUf⟩ : ∃ X, X = z_v (z_v (z_v (z_v R3.2.2 41 0 (0)) 41 91 (1)) 41 92 (z_fn 0 (R3.1 106) m)) 41 93 (z_fn 0 (R3.1 107) m) := ⟨_, rfl⟩
      rw [← hUf] at hR'
      have uf : ∀ j, j ≠ 0 → j ≠ 91 → j ≠ 92 → j ≠ 93 → Uf 41 j = R3.2.2 41 j := fun j a b c d => by
        rw [hUf, z_vn (by omega), z_vn (by omega), z_vn (by omega), z_vn (by omega)]
      refine ⟨(S5.1, S5.2.1, S5.2.2.1, z_v (z_v S5.2.2.2.1 0 8 1) 3 2 0, S5.2.2.2.2.1, S5.2.2.2.2.2), R', nn, n6, fun fv f w hl => ?_, rr, ?_, ?_⟩
      · refine run0 1 S5 G (Or.inr rfl) hG rk5.rm.1 (fun fv f w hl => p46 fv f w _ _ hl (e46_7 hr4.rm.1 hl.f1 ((hl.le (show 337 + 1 ≤ 338 by decide)).w1 82 (by decide)) (c82 L xs fv _ _ G hG (((hl.le (show 337 + 1 ≤ 338 by decide)).dn 82 (by decide)).le (by decide))))) fv f w _ _ hl ?_
        have e13 : z_v (z_v S5.2.2.2.1 0 8 1) 3 2 0 13 7 = nI nn := by
          rw [z_vn (by decide), z_vn (by decide)]
          exact v137
        have q := e28_ok (L := L) (xs := xs) (fv := fv) (f := f) (w := w) (c := S5.2.2.2.2.2) (A := S5.1) (E := S5.2.1) (N := S5.2.2.1) (V := z_v (z_v S5.2.2.2.1 0 8 1) 3 2 0) (W := S5.2.2.2.2.1) (g := G) rfl
        rw [e13] at q
        exact q
      · have v8 : ∀ j, z_v (z_v S5.2.2.2.1 0 8 1) 3 2 0 38 j = S3.2.2.2.1 38 j := fun j => by
          rw [z_vn (by omega), z_vn (by omega)]
          exact kt.2.1 j
        rw [hR']
        refine ⟨⟨?_, rfl, ?_⟩, ⟨(v8 7).trans v38.1, (v8 8).trans v38.2.1, (v8 9).trans v38.2.2.1, (v8 10).trans v38.2.2.2.1, (v8 11).trans v38.2.2.2.2.1, (v8 12).trans v38.2.2.2.2.2⟩, ⟨rk5.1, ?_, ?_⟩, ⟨(rt.1 42 (by decide)).trans (r1A 42 (by decide)), (rt.1 45 (by decide)).trans (r1A 45 (by decide)), fun k a b => (q1 k b).trans ((rt.2.1 k a).trans (by rw [r1M]))⟩, ⟨?_, ?_, ?_, ?_, ?_, ?_⟩, ?_, ?_⟩
        · show S5.1 1 = A 1
          rw [kt.1]
          exact a31
        · show S5.2.2.2.2.1 < 107
          rw [xkm.2.2.2.2.1]
          exact w4
        · show 64 * S5.2.2.2.2.2.1 + z_Pt N ≤ 64 * c.1 + 128 + z_Pt S5.2.2.1
          have := gw.2.1
          omega
        · show S5.2.2.2.2.2.2 + 2 * z_Pt N ≤ c.2 + 12 + 2 * z_Pt S5.2.2.1
          have := gw.2.2
          omega
        · show Uf 41 5 = 0
          rw [uf 5 (by decide) (by decide) (by decide) (by decide), rt.2.2 5 (by decide)]
          exact r1u.1
        · show Uf 41 94 = 0
          rw [uf 94 (by decide) (by decide) (by decide) (by decide), rt.2.2 94 (by decide)]
          exact r1u.2.2.2.1
        · show Uf 41 98 = 0
          rw [uf 98 (by decide) (by decide) (by decide) (by decide), rt.2.2 98 (by decide)]
          exact r1u.2.2.2.2.1
        · show Uf 41 99 = 0
          rw [uf 99 (by decide) (by decide) (by decide) (by decide), rt.2.2 99 (by decide)]
          exact r1u.2.2.2.2.2.1
        · show Uf 41 100 = 0
          rw [uf 100 (by decide) (by decide) (by decide) (by decide), rt.2.2 100 (by decide)]
          exact r1u.2.2.2.2.2.2.1
        · show Uf 41 101 = -1
          rw [uf 101 (by decide) (by decide) (by decide) (by decide), rt.2.2 101 (by decide)]
          exact r1u.2.2.2.2.2.2.2
        · show z_v (z_v S5.2.2.2.1 0 8 1) 3 2 0 2 0 = Uf 41 11
          rw [z_vn (by decide), z_vn (by decide), uf 11 (by decide) (by decide) (by decide) (by decide), f0, kt.2.2.1 0]
          exact v2.1
        · show z_v (z_v S5.2.2.2.1 0 8 1) 3 2 0 2 1 = Uf 41 12
          rw [z_vn (by decide), z_vn (by decide), uf 12 (by decide) (by decide) (by decide) (by decide), f12, kt.2.2.1 1]
          exact v2.2
      · rw [hR']
        refine ⟨⟨rfl, by rw [hUf]; rfl, by rw [hUf]; rfl⟩, b, len, S4, R2, S5, R3, ok, ⟨rfl, rfl, fun k j a e => ?_⟩, ⟨rfl, fun j a e => uf j (by omega) (by omega) (by omega) (by omega)⟩, m, m6, u28, by rw [hUf]; rfl, by rw [hUf]; rfl, τ'.2.1, τ'.2.2, tr, q2⟩
        show z_v (z_v S5.2.2.2.1 0 8 1) 3 2 0 k j = _
        rw [z_vn (by omega), z_vn (by omega)]
    · obtain ⟨rfl, x, y, yd, td, xu⟩ := h82
      right
      obtain ⟨Sg, xk, rg, e1, e2, e3, e4, e6, eW⟩ := yd
      have wf : S5.2.2.2.2.1 < 107 := by
        rw [eW, xk.2.2.2.2.1]
        exact w4
      refine bad x y Sg S5 R3 (xc.kt.tr xk.kt) rg e1 e3 e4 e6 wf (xq.rt.tr xu.rt) td (fun fv f w hl => p46 fv f w _ _ hl (e46_7x hr4.rm.1 hl.f1 ((hl.le (show 337 + 1 ≤ 338 by decide)).w1 82 (by decide)) (hcd _ _ _ _ _ wf) (c82 L xs fv _ _ G hG (((hl.le (show 337 + 1 ≤ 338 by decide)).dn 82 (by decide)).le (by decide))))) (fun Q q => ref1 Q (r138d2 td q))
  · obtain ⟨rfl, x, y, R2, xd, rr140, td, xq⟩ := h47
    right
    obtain ⟨Sg, xc, rg, e1, e2, e3, e4, e6, wf⟩ := xd
    refine bad x y Sg S4 R2 xc.kt rg e1 e3 e4 e6 wf xq.rt td (fun fv f w hl => e46_0x hr3.rm.1 hl.f1 ((hl.le (show 337 + 1 ≤ 338 by decide)).w1 47 (by decide)) (hcd _ _ _ _ _ wf) (c47 L xs fv _ _ G hG (((hl.le (show 337 + 1 ≤ 338 by decide)).dn 47 (by decide)).le (by decide)))) (fun Q q => ?_)
    refine r138 (l := 21) (R := (B, M, U)) hU hlen ?_
    rw [← hR1]
    exact ⟨none, R2, fun L xs fv f w c A E N V W g hm hl => rr140 L xs fv f w c A E N V W g hm (hl.le (by decide)), rfl, r138d td q⟩
end ZAJ
