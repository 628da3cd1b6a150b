/-! Reading programs, both together: every expression; a program. -/
section ZZG
variable {b : Nat → Nat} {n me : Nat} {ep : Nat → Nat} {j : Nat} {t : Nat × Nat × Int32} {τ : z_TT} {s nn kk w d k : Nat} {S : z_CS} {R : z_RS}
theorem z_Eo.cx {S' : z_CS} {o : z_V} (h : z_Eo b n me ep d j t τ s nn kk w S R o S') : z_cx (fun o S' => z_Eo b n me ep d j t τ s nn kk w S R o S') (fun x S1 => x = none ∧ z_Eo b n me ep d j t τ s nn kk w S R (.inl none) S1) o S' := by
  rcases o with v | e
  · have h1 : v = none := h.1
    subst h1
    exact ⟨rfl, h⟩
  · exact ⟨h.1, h⟩
/-- every expression -/
theorem jIh : ∀ k, z_Ih b n me ep k := by
  intro k
  induction k with
  | zero =>
    intro d hd S R j t τ s nn kk w hp hq hb
    have e50 : d = 50 := by omega
    subst e50
    have hr := hp.1.2.2.2.2
    have h0 : R.2.2 41 11 = 0 := hp.1.2.2.2.1
    have e9 : S.2.2.2.1 3 9 = nI t.1 := hp.1.2.1.2.2.2.2.1
    have e8 : R.2.2 41 8 = nI t.1 := hp.1.2.1.2.2.2.2.2.2.1
    have n5 : ¬ R.2.2 41 7 = 5 := by
      rw [hp.1.2.1.2.2.2.2.2.2.2.1]
      exact fun q => hp.1.2.2.1 ((z_wco_5 _ hp.1.len.2).mp q)
    refine t62_0 (l := 79) (A := S.1) (E := S.2.1) (N := S.2.2.1) (V := S.2.2.2.1) (W := S.2.2.2.2.1) (c := S.2.2.2.2.2) (z_ifn (by decide) ?_)
    obtain ⟨S', a1, a2⟩ := c50 (S := S) (k := 4) (p := S.2.2.2.1 3 9) (l := 79) hr hp.1.w
    refine ⟨hr.rm.1, .inr 10, S', a1, rfl, rfl, 4, nI t.1, by rw [← e9]; exact a2, fun Q hQ => ?_⟩
    refine t140_79 (B := R.1) (M := R.2.1) (U := R.2.2) (z_ifp h0 (z_ifn (by rw [hq.2.1]; decide) ?_))
    unfold p140_94
    have td : z_Td 4 (nI t.1) (z_UF R.2.2 4 (R.2.2 41 8)) := by
      rw [e8]
      exact z_Td_F (by decide)
    refine z_ifp hq.2.1 (t160_0 (z_ifn n5 (z_ifp hq.1.1 ⟨none, _, f150 (R := R) h0, rfl, z_ifn td.1 ⟨rfl, eHt td (hQ _ td (z_Lw_F (by decide)).xR)⟩⟩)))
  | succ k ih =>
    intro d hd S R j t τ s nn kk w hp hq hb
    have hr := hp.1.2.2.2.2
    have hW : S.2.2.2.2.1 = t.2.1 := hp.1.2.1.2.2.2.1
    have t37 := hp.1.len.2
    refine t62_0 (l := 5 * k + 84) (A := S.1) (E := S.2.1) (N := S.2.2.1) (V := S.2.2.2.1) (W := S.2.2.2.2.1) (c := S.2.2.2.2.2) (z_ifp (nI_lt (b := 50) (by omega) (by decide)) ?_)
    refine ⟨hr.rm.1, by rw [hW]; exact t37, ?_⟩
    by_cases c1 : t.2.1 = 21
    · exact z_ifp (hW.trans c1) ⟨hr.rm.1, (jlet ih hd hp hq hb c1).im (fun o S' h => h.cx)⟩
    refine z_ifn (fun q => c1 (hW.symm.trans q)) ?_
    by_cases c2 : t.2.1 = 22
    · exact z_ifp (hW.trans c2) ⟨hr.rm.1, (jrec ih hd hp hq hb c2).im (fun o S' h => h.cx)⟩
    refine z_ifn (fun q => c2 (hW.symm.trans q)) ?_
    by_cases c3 : t.2.1 = 24
    · exact z_ifp (hW.trans c3) ⟨hr.rm.1, (jif ih hd hp hq hb c3).im (fun o S' h => h.cx)⟩
    refine z_ifn (fun q => c3 (hW.symm.trans q)) ?_
    by_cases c4 : t.2.1 = 27
    · exact z_ifp (hW.trans c4) ⟨hr.rm.1, (jfn ih hd hp hq hb c4).im (fun o S' h => h.cx)⟩
    refine z_ifn (fun q => c4 (hW.symm.trans q)) ?_
    by_cases c5 : t.2.1 = 28
    · exact z_ifp (hW.trans c5) ⟨hr.rm.1, (jhandle ih hd hp hq hb c5).im (fun o S' h => h.cx)⟩
    exact z_ifn (fun q => c5 (hW.symm.trans q)) ⟨hr.rm.1, (jop ih hd hp hq hb ⟨c1, c2, c3, c4, c5⟩).im (fun o S' h => h.cx)⟩
end ZZG
/-- the first word -/
theorem jfirst {b : Nat → Nat} {n : Nat} {S : z_CS} {R : z_RS} (hT : z_Jt b n S.2.1 S.1 R.1 R.2.2) (h36 : S.2.2.2.1 3 6 = nI (z_ts b n).length) (h8 : R.2.2 41 8 = 0) (h9 : R.2.2 41 9 = 0) (hf : R.2.2 41 11 = 0) (hr : z_Rk S.2.2.1 S.2.2.2.2.2) : ∃ t' R', z_Rr 14 141 0 [(0, .ref 148)] [] R none R' ∧ z_Lw R R' ∧ ((∃ S', z_Cr 14 48 0 [(0, .ref 110)] [] S (.inl none) S' ∧ z_Kw S S' ∧ z_J b n 0 t' S' R') ∨ (∃ S', z_Cr 14 48 0 [(0, .ref 110)] [] S (.inr 10) S' ∧ z_Xd 2 (nI t'.1) S S' ∧ z_Bw (nI t'.1) R'.2.2)) := by
  obtain ⟨A, E, N, V, W, c⟩ := S
  obtain ⟨B, M, U⟩ := R
  obtain ⟨hb, hn, hTk, hTr, hKy, hU6⟩ := id hT
  have hlen := z_ts_len (b := b) (n := n)
  have hpos : 0 < (z_ts b n).length := by
    obtain ⟨r, hrr⟩ := z_tks_last (b := b) (n := n) n 0 []
    have e : z_ts b n = z_tks b n n 0 [] := rfl
    rw [e, hrr, List.length_append]
    exact Nat.succ_pos _
  obtain ⟨t', ht'⟩ : ∃ t', (z_ts b n)[0]? = some t' := ⟨_, List.getElem?_eq_getElem hpos⟩
  obtain ⟨s1, s2, s3, s4⟩ := z_see hb ht' (fun i hi => by omega)
  have ex : z_ex b n (z_ts b n) 0 = z_nx b n 0 := rfl
  rw [ex] at s1
  have h36 : V 3 6 = nI (z_ts b n).length := h36
  have hlt : ¬ V 3 6 - 1 ≤ -1 := by
    rw [h36, show (1 : Int32) = nI 1 from rfl, pk_sub (by omega)]
    exact fun q => absurd (Int32.le_trans (show (0 : Int32) ≤ nI ((z_ts b n).length - 1) from Int32.not_lt.mp (nI_pos (by omega))) q) (by decide)
  obtain ⟨rm, r1, r2⟩ := hr.rm
  obtain ⟨U', hU'⟩ : ∃ X, X = z_U3 (z_v U 41 8 (nI (z_nx b n (0 + 0)))) (z_lw b n (z_nx b n (0 + 0))) (nI (z_ll b n (z_nx b n (0 + 0)))) (z_lv2 b n (z_nx b n (0 + 0)) (U 41 10)) := ⟨_, rfl⟩
  have uw : z_Uw U U' := by
    rw [hU']
    exact z_Uw_tr (z_Uw_v (by decide) (by decide)) z_Uw_3
  have lw : z_Lw (B, M, U) (B, M, U') := ⟨rfl, rfl, uw⟩
  have hWj : z_Wj b n 0 t' (z_Vn V 0 t') t'.2.1 U' := by
    rw [hU', Nat.add_zero, ← s1]
    exact ⟨ht', h36, rfl, rfl, rfl, rfl, rfl, s2, rfl, fun k4 => s4 k4 _⟩
  refine ⟨t', (B, M, U'), ?_, lw, ?_⟩
  · intro L xs fv f w c A E N V W g hm hl
    have q := s141 (L := L) (xs := xs) (fv := fv) (f := f) (w := w) (c := c) (A := A) (E := E) (N := N) (V := V) (W := W) (g := g) (M := M) hTr hKy hU6 (p := 0) (l := 0) h8 h9 (by decide) hm (by have := hl.1; omega) (by have := hl.2; omega)
    rw [← hU'] at q
    exact q
  · by_cases hb1 : t'.2.1 = 1
    · refine Or.inr ⟨(A, E, N, z_Vf (z_Vn V 0 t') 2 (nI t'.1), t'.2.1, (c.1 + 1, c.2 + 6)), fun L xs fv f w g hg hl => s48x hTk ht' (by omega) hlt hb1 rm r1 r2 (by have := hl.1; omega) (by have := hl.2; omega), ⟨(A, E, N, z_Vn V 0 t', t'.2.1, c), (z_XC.n (S := (A, E, N, V, W, c))).xc, hr, rfl, rfl, rfl, rfl, rfl, (by show t'.2.1 < 107; rw [hb1]; decide)⟩, ?_, ?_, hWj.2.2.2.2.2.2.1⟩
      · rw [hU']
        exact hf
      · show U' 41 7 = 5
        rw [hWj.2.2.2.2.2.2.2.1, hb1]
        rfl
    · refine Or.inl ⟨(A, E, N, z_Vn V 0 t', t'.2.1, c), fun L xs fv f w g hg hl => s48 hTk ht' (by omega) hlt hb1 rm (by have := hl.1; omega) (by have := hl.2; omega), z_XC.n (S := (A, E, N, V, W, c)), z_Jt_U hT uw, hWj, hb1, ?_, hr⟩
      show U' 41 11 = 0
      rw [hU']
      exact hf
