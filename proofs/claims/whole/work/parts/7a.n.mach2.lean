/-! The class's machine: functions made, frames opened and closed. -/
theorem z_cpI {n0 n1 sp dp n : Nat} {f : List (Nat × Int32)} (h1 : sp + n ≤ n0) (h2 : dp + n ≤ n1) (b0 : n0 < 2 ^ 31) (b1 : n1 < 2 ^ 31) : z_cpk .int 0 n0 n1 f (nI sp) (nI dp) (nI n) [] := by
  refine ⟨⟨rfl, rfl, by decide⟩, ⟨nI_pos (by omega), nI_pos (by omega), nI_pos (by omega)⟩, ?_, ?_⟩
  · rw [nI_clamp (show sp < 2 ^ 31 by omega), nI_clamp (show dp < 2 ^ 31 by omega), nI_clamp (show n < 2 ^ 31 by omega)]
    exact ⟨h1, h2⟩
  · rw [List.all_eq_true]
    intro i _
    rfl
/-- the code's rows are long enough -/
def z_Cn (ce : Nat) (S0 : z_CS) : Prop := ce ≤ 4700 ∧ ∀ k, 14 ≤ k → k ≤ 19 → ce ≤ S0.2.2.1 k
/-- a record with the values of all names -/
def z_Rc (mm rr rr' : Nat → Int32) (rd pc ar out cnt bs : Nat) : Prop := rr' rd = nI pc ∧ (∀ k, k < out → rr' (rd + 1 + k) = rr (ar + 1 + k)) ∧ ∀ k, k < cnt - out → rr' (rd + 1 + out + k) = mm (bs + 4 + k)
/-- the run has ended, for now or for good -/
def z_Mz (S0 : z_CS) (st va un fu : Int32) (th dp : Nat) (S : z_CS) : Prop := z_Mf0 S0 S ∧ (S.2.2.2.1 38 7 = st ∧ S.2.2.2.1 38 8 = va ∧ S.2.2.2.1 38 9 = un) ∧ S.2.2.2.1 38 10 = fu ∧ S.2.2.2.1 38 11 = nI th ∧ S.2.2.2.1 38 12 = nI dp
section ZAN
variable {l ce : Nat} {S0 S : z_CS} {tp bs rd pc th dp : Nat} {fu v : Int32} {Q : z_V → z_CS → Prop}
theorem z_Mc.rw (h : z_Mc S0 tp bs rd pc fu th dp S) {k : Nat} (h1 : k ≠ 39) (h2 : k ≠ 40) : S.1 k = S0.1 k := h.1.1 k h1 h2
theorem z_Mc.nb (h : z_Mc S0 tp bs rd pc fu th dp S) {k : Nat} (hk : z_gk k = true) : S.2.2.1 k < 2 ^ 31 := by
  have := (h.1.2.2.2.2.2.1.1 k hk).2
  have := z_mxl_b k
  omega
theorem z_Mc.ic (h : z_Mc S0 tp bs rd pc fu th dp S) (hc : z_Cn ce S0) {x k : Nat} (hx : x < ce) (h1 : 14 ≤ k) (h2 : k ≤ 19) : z_in (nI x) (S.2.2.1 k) = true := by
  have hk : z_gk k = true := by
    rcases (show k = 14 ∨ k = 15 ∨ k = 16 ∨ k = 17 ∨ k = 18 ∨ k = 19 by omega) with rfl | rfl | rfl | rfl | rfl | rfl <;> rfl
  refine z_inR h.1.2.2.2.2.2.1 hk ?_
  rw [h.1.2.2.1 k (by omega) (by omega)]
  have := hc.2 k h1 h2
  omega
theorem z_Mc.mz (h : z_Mc S0 tp bs rd pc fu th dp S) {st va un fu' : Int32} {th' dp' : Nat} {V' : Nat → Nat → Int32} (ho : ∀ k j, k ≠ 38 → V' k j = S.2.2.2.1 k j) (hv : (V' 38 7 = st ∧ V' 38 8 = va ∧ V' 38 9 = un) ∧ V' 38 10 = fu' ∧ V' 38 11 = nI th' ∧ V' 38 12 = nI dp') : z_Mz S0 st va un fu' th' dp' (S.1, S.2.1, S.2.2.1, V', S.2.2.2.2.1, S.2.2.2.2.2) := by
  obtain ⟨A, E, N, V, W, c⟩ := S
  exact ⟨h.1.up (fun _ _ _ => rfl) (fun _ _ _ => rfl) ho h.1.2.2.2.2.2.1 z_Gw.rf, hv⟩
/-- what closeOver may be asked -/
def z_Co (ce : Nat) (S0 S : z_CS) (tp bs rd pc cnt ar mk out : Nat) : Prop := pc < ce ∧ z_fn 0 (S0.1 15) pc = nI cnt ∧ z_mm S (bs + 2) = nI ar ∧ ar < rd ∧ z_rq S ar = nI mk ∧ mk < ce ∧ z_fn 0 (S0.1 15) mk = nI out ∧ out ≤ cnt ∧ ar + 1 + out ≤ rd ∧ bs + 4 + (cnt - out) ≤ tp ∧ bs + 2 < tp ∧ rd + (1 + cnt) ≤ 524288
theorem m130 {cnt ar mk out : Nat} (h : z_Mc S0 tp bs rd pc fu th dp S) (hc : z_Cn ce S0) (ho : z_Co ce S0 S tp bs rd pc cnt ar mk out) (k : ∀ S', z_Mc S0 tp bs (rd + (1 + cnt)) pc fu th dp S' → z_ke rd (z_rq S) (z_rq S') → z_Rc (z_mm S) (z_rq S) (z_rq S') rd pc ar out cnt bs → S'.1 39 = S.1 39 → Q (.inl (some (.int (nI rd)))) S') : z_WC (l + 2) 130 0 [(0, .ref 145)] [] S Q := by
  obtain ⟨o1, o2, o3, o4, o5, o6, o7, o8, o9, o10, o11, o12⟩ := ho
  have c47 := hc.1
  have ic := h.ic hc o1 (by decide) (by decide) (k := 15)
  have a15 : S.1 15 = S0.1 15 := h.rw (by decide) (by decide)
  have hrm := h.rm
  have n31 := h.n31
  refine t130_0 (A := S.1) (E := S.2.1) (N := S.2.2.1) (V := S.2.2.2.1) (W := S.2.2.2.2.1) (c := S.2.2.2.2.2) ?_
  unfold p130_0
  have v6 : S.2.2.2.1 38 6 = nI pc := h.2.2.1.2.2.2
  have cp : (nI pc).toNatClampNeg = pc := nI_clamp (by omega)
  rw [v6, cp, a15, o2, show (1 : Int32) + nI cnt = nI (1 + cnt) from z_nI2 (i := 1) (k := cnt)]
  refine ⟨ic, hrm, m110 h (by omega) o12 (fun S1 h1 ke1 mk1 m39 n39 => ⟨nI rd, rfl, ?_⟩)⟩
  have e39 : ∀ x, z_fn 0 (S1.1 39) x = z_mm S x := fun x => by rw [m39]; rfl
  have v3 : S1.2.2.2.1 38 3 = nI bs := h1.2.2.1.2.1
  have e2 : nI bs + 2 = nI (bs + 2) := z_nI2 (i := bs) (k := 2)
  have e4 : nI bs + 4 = nI (bs + 4) := z_nI2 (i := bs) (k := 4)
  have c2 : (nI (bs + 2)).toNatClampNeg = bs + 2 := nI_clamp (by omega)
  have c4 : (nI (bs + 4)).toNatClampNeg = bs + 4 := nI_clamp (by omega)
  have ca : (nI ar).toNatClampNeg = ar := nI_clamp (by omega)
  have ca1 : (nI (ar + 1)).toNatClampNeg = ar + 1 := nI_clamp (by omega)
  have cm : (nI mk).toNatClampNeg = mk := nI_clamp (by omega)
  have co : (nI out).toNatClampNeg = out := nI_clamp (by omega)
  have cs : (nI (cnt - out)).toNatClampNeg = cnt - out := nI_clamp (by omega)
  have cr1 : (nI (rd + 1)).toNatClampNeg = rd + 1 := nI_clamp (by omega)
  have cr2 : (nI (rd + 1 + out)).toNatClampNeg = rd + 1 + out := nI_clamp (by omega)
  have ea : nI ar + 1 = nI (ar + 1) := z_nI2 (i := ar) (k := 1)
  have er : nI rd + 1 = nI (rd + 1) := z_nI2 (i := rd) (k := 1)
  have es : nI cnt - nI out = nI (cnt - out) := pk_sub o8
  have r40 : z_fn 0 (S1.1 40) ar = nI mk := (ke1 ar o4).trans o5
  unfold p130_24
  rw [v3, e2, e4, c2, c4, e39, o3, ca, r40, cm, h1.rw (k := 15) (by decide) (by decide), o7, ea, ca1, er, cr1, co, z_nI2, cr2, es, cs]
  refine ⟨h1.in39 o11, h1.in40 (by omega), h1.ic hc o6 (by decide) (by decide), z_cpI ?_ ?_ (h1.nb rfl) (h1.nb rfl), z_cpI ?_ ?_ (h1.nb rfl) (h1.nb rfl), h1.rm, ?_⟩
  · have := h1.2.1.2
    omega
  · have := h1.2.1.2
    omega
  · have := h1.2.1.1
    omega
  · have := h1.2.1.2
    omega
  obtain ⟨L, hL⟩ : ∃ X, X = z_cpl (S1.1 39) (z_cpl (S1.1 40) (S1.1 40) (ar + 1) (rd + 1) out) (bs + 4) (rd + 1 + out) (cnt - out) := ⟨_, rfl⟩
  rw [← hL]
  have lo : ∀ x, x < rd + 1 → z_fn 0 L x = z_fn 0 (S1.1 40) x := fun x hx => by
    rw [hL, z_cpl_out _ (by omega), z_cpl_out _ (by omega)]
  refine k _ ?_ (fun x hx => ?_) ⟨?_, fun q hq => ?_, fun q hq => ?_⟩ ?_
  · obtain ⟨A1, E1, N1, V1, W1, c1⟩ := S1
    exact ⟨h1.1.up (fun q x y => z_un y) (fun _ _ _ => rfl) (fun _ _ _ => rfl) h1.1.2.2.2.2.2.1 z_Gw.rf, h1.2.1, h1.2.2⟩
  · show z_fn 0 (z_u S1.1 40 L 40) x = _
    rw [z_uk, lo x (by omega)]
    exact ke1 x hx
  · show z_fn 0 (z_u S1.1 40 L 40) rd = _
    rw [z_uk, lo rd (by omega)]
    exact mk1
  · show z_fn 0 (z_u S1.1 40 L 40) (rd + 1 + q) = _
    rw [z_uk, hL, z_cpl_out _ (by omega), z_cpl_in _ q hq]
    exact ke1 _ (by omega)
  · show z_fn 0 (z_u S1.1 40 L 40) (rd + 1 + out + q) = _
    rw [z_uk, hL, z_cpl_in _ q hq]
    exact e39 _
  · show z_u S1.1 40 L 39 = _
    rw [z_un (by decide)]
    exact m39
/-- a function is made -/
theorem m129 {cnt ar mk out g : Nat} (h : z_Mc S0 tp bs rd pc fu th dp S) (hc : z_Cn ce S0) (hth : th < 1000) (ho : z_Co ce S0 S tp bs rd pc cnt ar mk out) (hg : z_fn 0 (S0.1 17) pc = nI g) (ht : tp < 262144) (k : ∀ S', z_Mc S0 (tp + 1) bs (rd + (1 + cnt)) (g + 1) fu (th + 1) dp S' → z_ke tp (z_mm S) (z_mm S') → z_mm S' tp = nI rd → z_ke rd (z_rq S) (z_rq S') → z_Rc (z_mm S) (z_rq S) (z_rq S') rd pc ar out cnt bs → Q (.inl none) S') : z_WC (l + 3) 129 0 [(0, .ref 145)] [] S Q := by
  have c47 := hc.1
  have o1 := ho.1
  refine t129_0 (A := S.1) (E := S.2.1) (N := S.2.2.1) (V := S.2.2.2.1) (W := S.2.2.2.2.1) (c := S.2.2.2.2.2) ?_
  unfold p129_0
  have v11 : S.2.2.2.1 38 11 = nI th := h.2.2.2.2.2.1
  rw [v11, if_neg (show ¬ nI th = 1000 from fun q => absurd ((nI_eq (b := 1000) (by omega) (by decide)).mp q) (by omega))]
  unfold p129_16
  rw [v11, show nI th + 1 = nI (th + 1) from z_nI2 (i := th) (k := 1)]
  have h1 := h.vv (V' := z_v S.2.2.2.1 38 11 (nI (th + 1))) (th' := th + 1) (fun q j x => z_vn (fun e => x e.1)) ⟨h.2.2.1, h.2.2.2.1, h.2.2.2.2.1, rfl, h.2.2.2.2.2.2⟩ (Nat.le_refl _) (Nat.le_refl _)
  refine ⟨h.rm, m130 h1 hc ho (fun S2 h2 k2 rc2 m2 => ⟨nI rd, rfl, ?_⟩)⟩
  unfold p129_31
  refine ⟨h2.rm, (m117 (l := l + 1) h2 ht (fun S3 h3 k3 t3 r3 => ⟨rfl, ?_⟩))⟩
  unfold p129_34
  have v6 : S3.2.2.2.1 38 6 = nI pc := h3.2.2.1.2.2.2
  rw [v6, nI_clamp (show pc < 2 ^ 31 by omega), h3.rw (k := 17) (by decide) (by decide), hg, show nI g + 1 = nI (g + 1) from z_nI2 (i := g) (k := 1)]
  refine ⟨h3.ic hc o1 (by decide) (by decide), k _ (h3.vv (V' := z_v S3.2.2.2.1 38 6 (nI (g + 1))) (fun q j x => z_vn (fun e => x e.1)) ⟨⟨h3.2.2.1.1, h3.2.2.1.2.1, h3.2.2.1.2.2.1, rfl⟩, h3.2.2.2⟩ (Nat.le_refl _) (Nat.le_refl _)) (fun x hx => ?_) t3 (fun x hx => ?_) ⟨?_, fun q hq => ?_, fun q hq => ?_⟩⟩
  · refine (k3 x hx).trans ?_
    show z_fn 0 (S2.1 39) x = _
    rw [m2]
    rfl
  · exact (r3 x (by omega)).trans (k2 x hx)
  · exact (r3 rd (by omega)).trans rc2.1
  · exact (r3 _ (by have := ho.2.2.2.2.2.2.2.1; omega)).trans (rc2.2.1 q hq)
  · exact (r3 _ (by have := ho.2.2.2.2.2.2.2.1; omega)).trans (rc2.2.2 q hq)
theorem m129f (h : z_Mc S0 tp bs rd pc fu 1000 dp S) (k : ∀ S', z_Mz S0 5 0 (-1) fu 1000 dp S' → Q (.inl none) S') : z_WC (l + 1) 129 0 [(0, .ref 145)] [] S Q := by
  refine t129_0 (A := S.1) (E := S.2.1) (N := S.2.2.1) (V := S.2.2.2.1) (W := S.2.2.2.2.1) (c := S.2.2.2.2.2) ?_
  unfold p129_0
  have v11 : S.2.2.2.1 38 11 = nI 1000 := h.2.2.2.2.2.1
  rw [v11, if_pos (show nI 1000 = 1000 from rfl)]
  exact k _ (h.mz (V' := z_v S.2.2.2.1 38 7 5) (fun q j x => z_vn (fun e => x e.1)) ⟨⟨rfl, h.2.2.2.1.2⟩, h.2.2.2.2⟩)
/-- a handle begins -/
theorem m131 {cnt ar mk out g rm : Nat} (h : z_Mc S0 tp bs rd pc fu th dp S) (hc : z_Cn ce S0) (hth : th < 1000) (hdp : dp < 400) (ho : z_Co ce S0 S tp bs rd pc cnt ar mk out) (hg : z_fn 0 (S0.1 17) pc = nI g) (hr : z_fn 0 (S0.1 18) pc = nI rm) (hb : bs ≤ tp) (ht : tp + 4 + rm ≤ 262144) (k : ∀ S', z_Mc S0 (tp + 4 + rm) tp (rd + (1 + cnt)) (pc + 1) fu (th + 1) (dp + 1) S' → z_ke tp (z_mm S) (z_mm S') → z_mm S' tp = nI g → z_mm S' (tp + 1) = nI (tp - bs) → z_mm S' (tp + 2) = nI rd → z_mm S' (tp + 3) = nI pc → z_ke rd (z_rq S) (z_rq S') → z_Rc (z_mm S) (z_rq S) (z_rq S') rd pc ar out cnt bs → Q (.inl none) S') : z_WC (l + 3) 131 0 [(0, .ref 145)] [] S Q := by
  have c47 := hc.1
  have o1 := ho.1
  have v11 : S.2.2.2.1 38 11 = nI th := h.2.2.2.2.2.1
  have v12 : S.2.2.2.1 38 12 = nI dp := h.2.2.2.2.2.2
  have v6 : S.2.2.2.1 38 6 = nI pc := h.2.2.1.2.2.2
  refine t131_0 (A := S.1) (E := S.2.1) (N := S.2.2.1) (V := S.2.2.2.1) (W := S.2.2.2.2.1) (c := S.2.2.2.2.2) ?_
  unfold p131_0
  rw [v11, if_neg (show ¬ nI th = 1000 from fun q => absurd ((nI_eq (b := 1000) (by omega) (by decide)).mp q) (by omega))]
  unfold p131_18
  rw [v12, if_neg (show ¬ nI dp = 400 from fun q => absurd ((nI_eq (b := 400) (by omega) (by decide)).mp q) (by omega))]
  unfold p131_37
  rw [v11, v12, v6, show nI th + 1 = nI (th + 1) from z_nI2 (i := th) (k := 1), show nI dp + 1 = nI (dp + 1) from z_nI2 (i := dp) (k := 1), nI_clamp (show pc < 2 ^ 31 by omega), h.rw (k := 17) (by decide) (by decide), hg]
  have h1 := h.vv (V' := z_v (z_v S.2.2.2.1 38 11 (nI (th + 1))) 38 12 (nI (dp + 1))) (th' := th + 1) (dp' := dp + 1) (fun q j x => by rw [z_vn (fun e => x e.1), z_vn (fun e => x e.1)]) ⟨h.2.2.1, h.2.2.2.1, h.2.2.2.2.1, rfl, rfl⟩ (Nat.le_refl _) (Nat.le_refl _)
  refine ⟨h.ic hc o1 (by decide) (by decide), h.rm, m130 h1 hc ho (fun S2 h2 k2 rc2 m2 => ⟨nI rd, rfl, ?_⟩)⟩
  unfold p131_74
  have w6 : S2.2.2.2.1 38 6 = nI pc := h2.2.2.1.2.2.2
  rw [w6, nI_clamp (show pc < 2 ^ 31 by omega), h2.rw (k := 18) (by decide) (by decide), hr]
  refine ⟨h2.ic hc o1 (by decide) (by decide), h2.rm, m111 (l := l + 1) h2 hb ht (fun S3 h3 k3 t0 t1 t2 t3 r3 => ⟨rfl, ?_⟩)⟩
  unfold p131_93 p131_103
  have x6 : S3.2.2.2.1 38 6 = nI pc := h3.2.2.1.2.2.2
  rw [x6, show nI pc + 1 = nI (pc + 1) from z_nI2 (i := pc) (k := 1)]
  refine k _ (h3.vv (V' := z_v S3.2.2.2.1 38 6 (nI (pc + 1))) (fun q j x => z_vn (fun e => x e.1)) ⟨⟨h3.2.2.1.1, h3.2.2.1.2.1, h3.2.2.1.2.2.1, rfl⟩, h3.2.2.2⟩ (Nat.le_refl _) (Nat.le_refl _)) (fun x hx => ?_) t0 t1 t2 t3 (fun x hx => ?_) ⟨?_, fun q hq => ?_, fun q hq => ?_⟩
  · refine (k3 x hx).trans ?_
    show z_fn 0 (S2.1 39) x = _
    rw [m2]
    rfl
  · exact (r3 x (by omega)).trans (k2 x hx)
  · exact (r3 rd (by omega)).trans rc2.1
  · exact (r3 _ (by have := ho.2.2.2.2.2.2.2.1; omega)).trans (rc2.2.1 q hq)
  · exact (r3 _ (by have := ho.2.2.2.2.2.2.2.1; omega)).trans (rc2.2.2 q hq)
theorem m131f (h : z_Mc S0 tp bs rd pc fu 1000 dp S) (k : ∀ S', z_Mz S0 5 0 (-1) fu 1000 dp S' → Q (.inl none) S') : z_WC (l + 1) 131 0 [(0, .ref 145)] [] S Q := by
  refine t131_0 (A := S.1) (E := S.2.1) (N := S.2.2.1) (V := S.2.2.2.1) (W := S.2.2.2.2.1) (c := S.2.2.2.2.2) ?_
  unfold p131_0
  have v11 : S.2.2.2.1 38 11 = nI 1000 := h.2.2.2.2.2.1
  rw [v11, if_pos (show nI 1000 = 1000 from rfl)]
  exact k _ (h.mz (V' := z_v S.2.2.2.1 38 7 5) (fun q j x => z_vn (fun e => x e.1)) ⟨⟨rfl, h.2.2.2.1.2⟩, h.2.2.2.2⟩)
theorem m131d (h : z_Mc S0 tp bs rd pc fu th 400 S) (hth : th < 1000) (k : ∀ S', z_Mz S0 6 0 (-1) fu th 400 S' → Q (.inl none) S') : z_WC (l + 1) 131 0 [(0, .ref 145)] [] S Q := by
  refine t131_0 (A := S.1) (E := S.2.1) (N := S.2.2.1) (V := S.2.2.2.1) (W := S.2.2.2.2.1) (c := S.2.2.2.2.2) ?_
  unfold p131_0
  have v11 : S.2.2.2.1 38 11 = nI th := h.2.2.2.2.2.1
  have v12 : S.2.2.2.1 38 12 = nI 400 := h.2.2.2.2.2.2
  rw [v11, if_neg (show ¬ nI th = 1000 from fun q => absurd ((nI_eq (b := 1000) (by omega) (by decide)).mp q) (by omega))]
  unfold p131_18
  rw [v12, if_pos (show nI 400 = 400 from rfl)]
  exact k _ (h.mz (V' := z_v S.2.2.2.1 38 7 6) (fun q j x => z_vn (fun e => x e.1)) ⟨⟨rfl, h.2.2.2.1.2⟩, h.2.2.2.2⟩)
/-- a frame is closed -/
theorem m132 {bk bl : Nat} (h : z_Mc S0 (tp + 1) bs rd pc fu th (dp + 1) S) (hb : bs + 4 ≤ tp) (h0 : z_mm S bs = nI bk) (h1 : z_mm S (bs + 1) = nI bl) (hbl : bl ≤ bs) (k : ∀ S', z_Mc S0 (bs + 1) (bs - bl) rd bk fu th dp S' → z_ke bs (z_mm S) (z_mm S') → z_mm S' bs = z_mm S tp → z_ke rd (z_rq S) (z_rq S') → Q (.inl none) S') (ht : bs < 262144) : z_WC (l + 2) 132 0 [(0, .ref 145)] [] S Q := by
  refine t132_0 (A := S.1) (E := S.2.1) (N := S.2.2.1) (V := S.2.2.2.1) (W := S.2.2.2.2.1) (c := S.2.2.2.2.2) ?_
  unfold p132_0
  refine ⟨h.rm, m118 h (fun S1 h1' e1 e2 => ⟨z_mm S tp, rfl, ?_⟩)⟩
  have v3 : S1.2.2.2.1 38 3 = nI bs := h1'.2.2.1.2.1
  have v12 : S1.2.2.2.1 38 12 = nI (dp + 1) := h1'.2.2.2.2.2.2
  have m0 : z_fn 0 (S1.1 39) bs = nI bk := by rw [e1]; exact h0
  have m1 : z_fn 0 (S1.1 39) (bs + 1) = nI bl := by rw [e1]; exact h1
  unfold p132_4
  rw [v3, v12, show nI bs + 0 = nI bs from Int32.add_zero _, show nI bs + 1 = nI (bs + 1) from z_nI2 (i := bs) (k := 1), nI_clamp (show bs < 2 ^ 31 by omega), nI_clamp (show bs + 1 < 2 ^ 31 by omega), m0, m1, nI_pred, show nI bs - nI bl = nI (bs - bl) from pk_sub hbl]
  refine ⟨h1'.in39 (by omega), h1'.in39 (by omega), h1'.rm, m117 (tp := bs) (bs := bs - bl) (pc := bk) (dp := dp) (rd := rd) (h1'.vv (tp' := bs) (bs' := bs - bl) (pc' := bk) (dp' := dp) (fun q j x => ?_) ⟨⟨rfl, rfl, h1'.2.2.1.2.2.1, rfl⟩, h1'.2.2.2.1, h1'.2.2.2.2.1, h1'.2.2.2.2.2.1, rfl⟩ (by omega) (Nat.le_refl _)) ht (fun S2 h2 k2 t2 r2 => ⟨rfl, ?_⟩)⟩
  · rw [z_vn (fun e => x e.1), z_vn (fun e => x e.1), z_vn (fun e => x e.1), z_vn (fun e => x e.1)]
  · refine k _ h2 (fun x hx => ?_) t2 (fun x hx => ?_)
    · refine (k2 x hx).trans ?_
      show z_fn 0 (S1.1 39) x = _
      rw [e1]
      rfl
    · refine (r2 x hx).trans ?_
      show z_fn 0 (S1.1 40) x = _
      rw [e1]
      rfl
end ZAN
