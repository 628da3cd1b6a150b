/-! Both run together: what is said of one step. -/
/-- slots of the frame at work may change that have no name yet -/
theorem y_sk.sl {b : Nat → Nat} {n : Nat} {τ : z_TT} {A1 B1 A2 : Nat → List (Nat × Int32)} {ce : Nat} {rr : Nat → Int32} {rd : Nat} {fg : List Nat} {B : Nat → List (Nat × Int32)} {vr : z_F → Int32 → Int32 → Prop} {mm mm' : Nat → Int32} {tt0 : z_F} {T N0 bs : Nat} {D : y_D} (hN : D.2.1 ≤ N0) (hm : ∀ x, 2 ≤ x → x < T → (x < bs + 4 + (N0 - D.2.1) ∨ bs + 4 + D.2.2.2.1 ≤ x) → mm' x = mm x) : ∀ (X : y_X) tp p t en tl cv ph, tp ≤ T → cv.length ≤ N0 → y_sk b n τ A1 B1 A2 ce rr rd fg B vr mm (y_Kr A1 A2 ce rr rd fg tt0 mm) X D tp bs p t en tl cv ph → y_Fr A1 A2 ce rr rd fg mm tp bs D ∧ y_sk b n τ A1 B1 A2 ce rr rd fg B vr mm' (y_Kr A1 A2 ce rr rd fg tt0 mm') X D tp bs p t en tl cv ph := by
  have fr : ∀ tp, tp ≤ T → y_Fr A1 A2 ce rr rd fg mm tp bs D → y_Fr A1 A2 ce rr rd fg mm' tp bs D := by
    intro tp hT h
    obtain ⟨h1, h2, h3⟩ := h
    exact ⟨h1, by rw [hm (bs + 2) (by omega) (by omega) (by omega)]; exact h2, h3⟩
  intro X
  induction X with
  | nil =>
    intro tp p t en tl cv ph hT _ h
    obtain ⟨h1, h2, h3, h4, h5, h6, h7, h8⟩ := h
    exact ⟨h8, h1, h2, h3, h4, h5, h6, h7, fr tp hT h8⟩
  | cons x X ih =>
    intro tp p t en tl cv ph hT hcv h
    obtain ⟨m, x1, x2, x3, h | ⟨e1, e2, e3, hf, h⟩⟩ := h
    · obtain ⟨f, wt, u, s, e, Γ, tt, tp0, en0, tl0, cv0, q1, ⟨⟨s1, s2, s3, s4⟩, s5, s6, ⟨l, s7⟩, k, p', s8, s9⟩, q3, q4⟩ := h
      have tpl := q4.tp
      obtain ⟨l1, l2, l3⟩ := y_en.len _ _ _ _ s5
      have lc : cv0.length ≤ N0 := by
        have := congrArg List.length s7
        rw [List.length_append] at this
        rw [x3] at hcv
        omega
      obtain ⟨f1, f2⟩ := ih tp0 p' tt en0 tl0 cv0 ph (by omega) lc s9
      have hb := f1.1
      have va : ∀ k, k < (z_ctx A1 s).1.length → y_va rr mm' bs D k = y_va rr mm bs D k := by
        intro k hk
        rw [x3] at hcv
        unfold y_va
        by_cases e : D.2.1 ≤ k
        · have hn := f1.nm s1 s2 (by omega)
          rw [if_pos e, if_pos e, hm _ (by omega) (by omega) (Or.inl (by omega))]
        · rw [if_neg e, if_neg e]
      have nf : y_Nf b n τ A1 B1 vr mm' x.1.1 x.1.2.2.1 m f wt u s e Γ tt tp0 tp p t tl0 tl := by
        have mt : tp0 < tp → mm' tp0 = mm tp0 := fun q => hm tp0 (by omega) (by omega) (Or.inr hb.1)
        rcases q4 with h | ⟨h1, h2', h3, h4, h5⟩ | h | h | h | ⟨h1, h2', h3, x', y, g, t1, v1, v2, h4, h5, h6⟩ | h
        · exact Or.inl h
        · exact Or.inr (Or.inl ⟨h1, h2', h3, by rw [mt (by omega)]; exact h4, h5⟩)
        · exact Or.inr (Or.inr (Or.inl h))
        · exact Or.inr (Or.inr (Or.inr (Or.inl h)))
        · exact Or.inr (Or.inr (Or.inr (Or.inr (Or.inl h))))
        · exact Or.inr (Or.inr (Or.inr (Or.inr (Or.inr (Or.inl ⟨h1, h2', h3, x', y, g, t1, v1, v2, h4, by rw [mt (by omega)]; exact h5, h6⟩)))))
        · exact Or.inr (Or.inr (Or.inr (Or.inr (Or.inr (Or.inr h)))))
      exact ⟨f1.up tpl.1, m, x1, x2, x3, Or.inl ⟨f, wt, u, s, e, Γ, tt, tp0, en0, tl0, cv0, q1, ⟨⟨s1, s2, s3, s4⟩, y_en.mo (fun _ _ _ q => q) _ _ _ _ va (fun c _ => y_sB.rf) s5, s6, ⟨l, s7⟩, k, p', s8, f2⟩, q3, nf⟩⟩
    · have hb := hf.1
      have be : ∀ {t' : z_F}, y_Be A1 ce mm (y_sk b n τ A1 B1 A2 ce rr rd fg B vr mm (y_Kr A1 A2 ce rr rd fg tt0 mm) X) bs t' ph → y_Be A1 ce mm' (y_sk b n τ A1 B1 A2 ce rr rd fg B vr mm' (y_Kr A1 A2 ce rr rd fg tt0 mm') X) bs t' ph := by
        intro t' hb'
        obtain ⟨bk, bl, D', k, p', en', tl', cv', ph', ⟨b1, b2, b3, b4, b5, b6⟩, b7, b8⟩ := hb'
        have hm' : ∀ x, 2 ≤ x → x < bs → mm' x = mm x := fun x a c => hm x a (by omega) (Or.inl (by omega))
        obtain ⟨-, f2⟩ := y_sk.mo (o := 0) (d := 0) (T := bs) (B := B) (B' := B) (vr := vr) (vr' := vr) hm' (fun x _ q => ⟨rfl, q⟩) (Nat.le_refl _) (fun _ _ _ q => q) (y_Kr.mo hm' (fun x _ q => ⟨rfl, q⟩) (Nat.le_refl _)) X D' bs (bs - bl) p' t' en' tl' cv' ph' (Nat.le_refl _) (fun e _ c _ => y_sB.rf) b8
        exact ⟨bk, bl, D', k, p', en', tl', cv', ph', ⟨by rw [hm bs (by omega) (by omega) (Or.inl (by omega))]; exact b1, by rw [hm (bs + 1) (by omega) (by omega) (Or.inl (by omega))]; exact b2, b3, b4, b5, b6⟩, b7, f2⟩
      have m3 : mm' (bs + 3) = mm (bs + 3) := hm _ (by omega) (by omega) (Or.inl (by omega))
      refine ⟨hf, m, x1, x2, x3, Or.inr ⟨e1, e2, e3, fr tp hT hf, ?_⟩⟩
      rcases h with ⟨w1, ⟨w2, w3, w4, w5⟩, w6, w7⟩ | ⟨w1, s, e, f, wt, u, Γ, tt, y1, y2, g, h, r, v1, v2, ⟨n1, ⟨n2, n3⟩, n4, n5, n6⟩, w3, w4⟩
      · exact Or.inl ⟨w1, ⟨w2, w3, by rw [m3]; exact w4, w5⟩, w6, be w7⟩
      · refine Or.inr ⟨w1, s, e, f, wt, u, Γ, tt, y1, y2, g, h, r, v1, v2, ⟨n1, ⟨by rw [m3]; exact n2, n3⟩, n4, y_en.mo (fun _ _ _ q => q) _ _ _ _ (fun k hk => ?_) (fun c _ => y_sB.rf) n5, n6⟩, w3, be w4⟩
        unfold y_va
        rw [if_neg (by rw [n4.1]; omega), if_neg (by rw [n4.1]; omega)]
section YJ
variable (b : Nat → Nat) (n : Nat) (τ : z_TT) (A1 B1 A2 : Nat → List (Nat × Int32)) (S0 : z_CS) (R0 : z_RS) (ce : Nat) (tt0 : z_F) (most : Nat) (f0 : Int32)
/-- the program that is run -/
def y_Pg : Prop := y_Cd A1 A2 ce ∧ (z_Cn ce S0 ∧ ∀ k, 14 ≤ k → k ≤ 19 → S0.1 k = A2 k) ∧ (∀ k, 57 ≤ k → k ≤ 79 → R0.1 k = B1 k) ∧ (z_Tr (R0.1 44) b n ∧ n ≤ 1500) ∧ most ≤ 2000 ∧ ((S0.2.2.2.1 13 8 = 0 ∨ S0.2.2.2.1 13 8 = 1) ↔ ¬ 2 ≤ R0.2.2 41 92) ∧ (S0.2.2.2.1 13 8 = 0 ∨ S0.2.2.2.1 13 8 = 1 → ∃ k, k < 2 ∧ tt0 = z_bz k)
/-- what waits in the class -/
def y_SK (rd : Nat) (φ : Nat → Nat) (ψ : Nat → z_F) (F : Nat) (fg : List Nat) (X : y_X) (S : z_CS) (R : z_RS) : y_K := y_sk b n τ A1 B1 A2 ce (z_rq S) rd fg R.1 (y_vr φ ψ F) (z_mm S) (y_Kr A1 A2 ce (z_rq S) rd fg tt0 (z_mm S)) X
/-- what holds in all states of the run -/
def y_Cr (tp bs rd pc : Nat) (fu : Int32) (th dp : Nat) (X : y_X) (cs0 : List Nat) (al : Nat → Prop) (φ : Nat → Nat) (ψ : Nat → z_F) (F : Nat) (fg : List Nat) (fc : Nat → List Nat) (Y : Nat → y_X) (pd cp : Nat → Nat) (aw ph fl Ψ : Nat) (S : z_CS) (R : z_RS) : Prop := z_Mc S0 tp bs rd pc fu th dp S ∧ y_Gr b n τ A1 B1 A2 ce R0 (z_rq S) rd fu th dp X cs0 al φ ψ F fg fc Y pd cp aw R ∧ y_dp X = dp ∧ (fu - f0 = nI (most - fl) ∧ fl ≤ most) ∧ 4601 - pc + ph + y_sm cp F + 4601 * fl + 4601 * (1000 - th) ≤ Ψ
/-- a node is begun -/
def y_W (f Ψ : Nat) (S : z_CS) (R : z_RS) : Prop := ∃ (tp bs rd pc : Nat) (fu : Int32) (th dp : Nat) (X : y_X) (cs0 : List Nat) (al : Nat → Prop) (φ : Nat → Nat) (ψ : Nat → z_F) (F : Nat) (fg : List Nat) (fc : Nat → List Nat) (Y : Nat → y_X) (pd cp : Nat → Nat) (aw ph fl m e : Nat) (Γ : List z_F) (tt : z_F) (wt : Nat) (u : z_Bd) (nm : Int32) (D : y_D) (en tl : Nat) (cv : List Nat), y_Cr b n τ A1 B1 A2 S0 R0 ce most f0 tp bs rd pc fu th dp X cs0 al φ ψ F fg fc Y pd cp aw ph fl Ψ S R ∧ y_Wk m nm R ∧ (z_Ct b n 8 τ A1 B1 f wt u m pc e Γ tt ∧ e < ce) ∧ y_Bs b n A1 ce (z_rq S) R.1 (y_vr φ ψ F) (z_mm S) (y_SK b n τ A1 B1 A2 ce tt0 rd φ ψ F fg X S R) D tp bs pc e Γ tt wt u cs0 nm en tl cv ph
/-- a value has come -/
def y_V (Ψ : Nat) (S : z_CS) (R : z_RS) : Prop := ∃ (tp bs rd pc : Nat) (fu : Int32) (th dp : Nat) (X : y_X) (cs0 : List Nat) (al : Nat → Prop) (φ : Nat → Nat) (ψ : Nat → z_F) (F : Nat) (fg : List Nat) (fc : Nat → List Nat) (Y : Nat → y_X) (pd cp : Nat → Nat) (aw ph fl k p : Nat) (t : z_F) (v : Int32) (D : y_D) (en tl : Nat) (cv : List Nat), y_Cr b n τ A1 B1 A2 S0 R0 ce most f0 (tp + 1) bs rd pc fu th dp X cs0 al φ ψ F fg fc Y pd cp aw ph fl Ψ S R ∧ (R.2.2 41 105 = 1 ∧ R.2.2 41 104 = v ∧ pc < ce) ∧ y_Ad A1 ce k pc p ∧ y_SK b n τ A1 B1 A2 ce tt0 rd φ ψ F fg X S R D tp bs p t en tl cv ph ∧ y_vr φ ψ F t (z_mm S tp) v
/-- both have ended -/
def y_En (S : z_CS) (R : z_RS) : Prop := ∃ (st va un fu : Int32) (th dp : Nat), z_Mz S0 st va un fu th dp S ∧ y_Rf R0 R ∧ ¬ st = 1 ∧ (R.2.2 41 94 = st ∧ R.2.2 41 98 = fu ∧ R.2.2 41 99 = nI th ∧ R.2.2 41 100 = nI dp) ∧ va = (if st = 2 ∧ ¬ 2 ≤ R0.2.2 41 92 then R.2.2 41 104 else 0) ∧ un = (if st = 4 then R.2.2 41 101 else -1)
/-- what a run comes to -/
def y_Φ (o : z_V) (S : z_CS) (v : Option Value) (R : z_RS) : Prop := ∃ r : Int32, o = .inl (some (.int r)) ∧ v = some (.int r) ∧ (y_En S0 R0 S R ∨ ∃ Ψ, y_V b n τ A1 B1 A2 S0 R0 ce tt0 most f0 Ψ S R)
/-- both go on from here, and come to Φ -/
def y_J (Φ : z_V → z_CS → Option Value → z_RS → Prop) (i : Nat) (S : z_CS) (R : z_RS) : Prop := z_CL most f0 (fun o S' => y_RL (nI most) f0 1 R (fun v R' => Φ o S' v R')) i S
end YJ
theorem y_J.re {most : Nat} {f0 : Int32} {Φ : z_V → z_CS → Option Value → z_RS → Prop} {i : Nat} {S : z_CS} {R R' : z_RS} (h : y_J most f0 Φ i S R') (k : ∀ Q, y_RL (nI most) f0 1 R' Q → y_RL (nI most) f0 1 R Q) : y_J most f0 Φ i S R := z_WC.im h (fun o S1 q => k _ q)
section YJM
variable {b : Nat → Nat} {n : Nat} {τ : z_TT} {A1 B1 A2 : Nat → List (Nat × Int32)} {S0 : z_CS} {R0 : z_RS} {ce : Nat} {tt0 : z_F}
variable {rd rd' : Nat} {φ φ' : Nat → Nat} {ψ ψ' : Nat → z_F} {F F' : Nat} {fg fg' : List Nat} {X : y_X} {S S' : z_CS} {R R' : z_RS} {T : Nat}
theorem y_SK.mo (hm : ∀ x, 2 ≤ x → x < T → z_mm S' x = z_mm S x) (hr : ∀ x, x < rd → ¬ x ∈ fg → z_rq S' x = z_rq S x ∧ ¬ x ∈ fg') (hrd : rd ≤ rd') (hv : ∀ t x y, y_vr φ ψ F t x y → y_vr φ' ψ' F' t x y) (hc : ∀ e, e ∈ X → ∀ c, c ∈ e.2 → y_sB R.1 R'.1 c) {D : y_D} {tp bs p : Nat} {t : z_F} {en tl : Nat} {cv : List Nat} {ph : Nat} (hT : tp ≤ T) (h : y_SK b n τ A1 B1 A2 ce tt0 rd φ ψ F fg X S R D tp bs p t en tl cv ph) : y_Fr A1 A2 ce (z_rq S) rd fg (z_mm S) tp bs D ∧ y_SK b n τ A1 B1 A2 ce tt0 rd' φ' ψ' F' fg' X S' R' D tp bs p t en tl cv ph := y_sk.mo (o := 0) (d := 0) hm hr hrd hv (y_Kr.mo hm hr hrd) X D tp bs p t en tl cv ph hT hc h
theorem y_Kr.bd {mm rr : Nat → Int32} : ∀ D tp bs p t en tl cv ph, y_Kr A1 A2 ce rr rd fg tt0 mm D tp bs p t en tl cv ph → bs = 0 ∧ en = 0 ∧ tp = bs + 4 + D.2.2.2.1 ∧ D.2.2.2.1 ≤ 128 ∧ cv.length ≤ 100 ∧ y_Kr A1 A2 ce rr rd fg tt0 mm D tp bs p t en tl cv 0 := by
  intro D tp bs p t en tl cv ph h
  have h' := h
  obtain ⟨h1, h2, h3, h4, h5, h6, h7, h8⟩ := h
  exact ⟨h1, h4, h7, h8.1.2, by rw [h6]; exact Nat.zero_le _, h'⟩
theorem y_SK.bd {D : y_D} {tp bs p : Nat} {t : z_F} {en tl : Nat} {cv : List Nat} {ph : Nat} (h : y_SK b n τ A1 B1 A2 ce tt0 rd φ ψ F fg X S R D tp bs p t en tl cv ph) : X.length ≤ 326 * y_dp X + en ∧ en ≤ 325 ∧ bs ≤ 333 * y_dp X ∧ tp ≤ bs + 333 ∧ (bs + 4 + D.2.2.2.1 ≤ tp ∧ D.2.2.2.1 ≤ 128) ∧ cv.length ≤ 100 ∧ (∃ ph0, ph0 ≤ ph ∧ ph0 ≤ 4601 * y_dp X ∧ y_SK b n τ A1 B1 A2 ce tt0 rd φ ψ F fg X S R D tp bs p t en tl cv ph0) ∧ ∃ L : List Nat, L.length ≤ 100 * y_dp X ∧ ∀ e, e ∈ X → ∀ c, c ∈ e.2 → c ∈ cv ∨ c ∈ L := y_sk.bd y_Kr.bd X D tp bs p t en tl cv ph h
theorem y_SK.fr {D : y_D} {tp bs p : Nat} {t : z_F} {en tl : Nat} {cv : List Nat} {ph : Nat} (h : y_SK b n τ A1 B1 A2 ce tt0 rd φ ψ F fg X S R D tp bs p t en tl cv ph) : y_Fr A1 A2 ce (z_rq S) rd fg (z_mm S) tp bs D := (y_SK.mo (S' := S) (R' := R) (T := tp) (fun _ _ _ => rfl) (fun x _ q => ⟨rfl, q⟩) (Nat.le_refl _) (fun _ _ _ q => q) (fun _ _ _ _ => y_sB.rf) (Nat.le_refl _) h).1
end YJM
