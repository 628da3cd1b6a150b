/-! The class's machine: what it holds; its smallest steps. -/
theorem z_cpl_in {f g : List (Nat × Int32)} {sp dp : Nat} : ∀ n i, i < n → z_fn 0 (z_cpl f g sp dp n) (dp + i) = z_fn 0 f (sp + i) := by
  intro n
  induction n with
  | zero => intro i h; omega
  | succ n ih =>
    intro i h
    show z_fn 0 ((dp + n, z_fn 0 f (sp + n)) :: z_cpl f g sp dp n) (dp + i) = _
    by_cases e : i = n
    · subst e
      rw [z_fcs]
    · rw [z_fcn (by omega)]
      exact ih i (by omega)
theorem z_cpl_out {f g : List (Nat × Int32)} {sp dp x : Nat} : ∀ n, (x < dp ∨ dp + n ≤ x) → z_fn 0 (z_cpl f g sp dp n) x = z_fn 0 g x := by
  intro n
  induction n with
  | zero => intro _; rfl
  | succ n ih =>
    intro h
    show z_fn 0 ((dp + n, z_fn 0 f (sp + n)) :: z_cpl f g sp dp n) x = _
    rw [z_fcn (by omega)]
    exact ih (by omega)
/-- what the machine leaves as it was; its room -/
def z_Mf0 (S0 S : z_CS) : Prop := (∀ k, k ≠ 39 → k ≠ 40 → S.1 k = S0.1 k) ∧ S.2.1 = S0.2.1 ∧ (∀ k, k ≠ 39 → k ≠ 40 → S.2.2.1 k = S0.2.2.1 k) ∧ (∀ k j, k ≠ 38 → S.2.2.2.1 k j = S0.2.2.2.1 k j) ∧ (S.2.2.2.2.1 = S0.2.2.2.2.1 ∧ S.2.2.2.2.1 < 107) ∧ z_Rk S.2.2.1 S.2.2.2.2.2 ∧ z_Gw S0.2.2.1 S.2.2.1 S0.2.2.2.2.2 S.2.2.2.2.2
theorem z_Mf0.up {S0 : z_CS} {A A' : Nat → List (Nat × Int32)} {E : List (Nat × Option Nat)} {N N' : Nat → Nat} {V V' : Nat → Nat → Int32} {W : Nat} {c c' : Nat × Nat} (h : z_Mf0 S0 (A, E, N, V, W, c)) (h1 : ∀ q, q ≠ 39 → q ≠ 40 → A' q = A q) (h2 : ∀ q, q ≠ 39 → q ≠ 40 → N' q = N q) (h3 : ∀ k j, k ≠ 38 → V' k j = V k j) (h4 : z_Rk N' c') (h5 : z_Gw N N' c c') : z_Mf0 S0 (A', E, N', V', W, c') := by
  obtain ⟨a1, a2, a3, a4, a5, a6, a7⟩ := h
  exact ⟨fun q x y => (h1 q x y).trans (a1 q x y), a2, fun q x y => (h2 q x y).trans (a3 q x y), fun k j x => (h3 k j x).trans (a4 k j x), a5, h4, a7.tr h5⟩
/-- its ints -/
def z_Vm (V : Nat → Nat → Int32) (tp bs rd pc : Nat) (fu : Int32) (th dp : Nat) : Prop := (V 38 2 = nI tp ∧ V 38 3 = nI bs ∧ V 38 5 = nI rd ∧ V 38 6 = nI pc) ∧ (V 38 7 = 1 ∧ V 38 8 = 0 ∧ V 38 9 = -1) ∧ V 38 10 = fu ∧ V 38 11 = nI th ∧ V 38 12 = nI dp
def z_Mc (S0 : z_CS) (tp bs rd pc : Nat) (fu : Int32) (th dp : Nat) (S : z_CS) : Prop := z_Mf0 S0 S ∧ (tp ≤ S.2.2.1 39 ∧ rd ≤ S.2.2.1 40) ∧ z_Vm S.2.2.2.1 tp bs rd pc fu th dp
def z_mm (S : z_CS) (x : Nat) : Int32 := z_fn 0 (S.1 39) x
def z_rq (S : z_CS) (x : Nat) : Int32 := z_fn 0 (S.1 40) x
/-- g is f below n -/
def z_ke (n : Nat) (f g : Nat → Int32) : Prop := ∀ x, x < n → g x = f x
theorem z_ke.rf {n : Nat} {f : Nat → Int32} : z_ke n f f := fun _ _ => rfl
theorem z_ke.tr {n : Nat} {f g h : Nat → Int32} (a : z_ke n f g) (b : z_ke n g h) : z_ke n f h := fun x q => (b x q).trans (a x q)
theorem z_ke.le {n m : Nat} {f g : Nat → Int32} (a : z_ke n f g) (h : m ≤ n) : z_ke m f g := fun x q => a x (by omega)
theorem z_inR {N : Nat → Nat} {c : Nat × Nat} {k x : Nat} (h : z_Rk N c) (hk : z_gk k = true) (hx : x < N k) : z_in (nI x) (N k) = true := by
  refine z_inI hx ?_
  have := (h.1 k hk).2
  have := z_mxl_b k
  omega
section ZAM
variable {l : Nat} {S0 S : z_CS} {tp bs rd pc th dp : Nat} {fu v : Int32} {Q : z_V → z_CS → Prop}
theorem z_Mc.rm (h : z_Mc S0 tp bs rd pc fu th dp S) : z_Rm ([], S.2.2.2.2.2) := h.1.2.2.2.2.2.1.rm.1
theorem z_Mc.in39 (h : z_Mc S0 tp bs rd pc fu th dp S) {x : Nat} (hx : x < tp) : z_in (nI x) (S.2.2.1 39) = true := z_inR h.1.2.2.2.2.2.1 rfl (Nat.lt_of_lt_of_le hx h.2.1.1)
theorem z_Mc.in40 (h : z_Mc S0 tp bs rd pc fu th dp S) {x : Nat} (hx : x < rd) : z_in (nI x) (S.2.2.1 40) = true := z_inR h.1.2.2.2.2.2.1 rfl (Nat.lt_of_lt_of_le hx h.2.1.2)
theorem z_Mc.n31 (h : z_Mc S0 tp bs rd pc fu th dp S) : tp ≤ 524288 ∧ rd ≤ 1048576 := by
  have a := (h.1.2.2.2.2.2.1.1 39 rfl).2
  have b := (h.1.2.2.2.2.2.1.1 40 rfl).2
  have a : S.2.2.1 39 ≤ 524288 := a
  have b : S.2.2.1 40 ≤ 1048576 := b
  have := h.2.1
  omega
/-- other ints -/
theorem z_Mc.vv {tp' bs' rd' pc' th' dp' : Nat} {fu' : Int32} {V' : Nat → Nat → Int32} (h : z_Mc S0 tp bs rd pc fu th dp S) (ho : ∀ k j, k ≠ 38 → V' k j = S.2.2.2.1 k j) (hv : z_Vm V' tp' bs' rd' pc' fu' th' dp') (h1 : tp' ≤ tp) (h2 : rd' ≤ rd) : z_Mc S0 tp' bs' rd' pc' fu' th' dp' (S.1, S.2.1, S.2.2.1, V', S.2.2.2.2.1, S.2.2.2.2.2) := by
  obtain ⟨A, E, N, V, W, c⟩ := S
  exact ⟨h.1.up (fun _ _ _ => rfl) (fun _ _ _ => rfl) ho h.1.2.2.2.2.2.1 z_Gw.rf, ⟨Nat.le_trans h1 h.2.1.1, Nat.le_trans h2 h.2.1.2⟩, hv⟩
theorem m117 (h : z_Mc S0 tp bs rd pc fu th dp S) (ht : tp < 262144) (k : ∀ S', z_Mc S0 (tp + 1) bs rd pc fu th dp S' → z_ke tp (z_mm S) (z_mm S') → z_mm S' tp = v → z_ke rd (z_rq S) (z_rq S') → Q (.inl none) S') : z_WC (l + 1) 117 0 [(0, .ref 145), (1, .int v)] [] S Q := by
  obtain ⟨A, E, N, V, W, c⟩ := S
  obtain ⟨h0, ⟨b1, b2⟩, ⟨v2, v3, v5, v6⟩, v7, v10, v11, v12⟩ := h
  have v2 : V 38 2 = nI tp := v2
  have b1 : tp ≤ N 39 := b1
  have b2 : rd ≤ N 40 := b2
  have e1 : nI tp + 1 = nI (tp + 1) := z_nI2 (i := tp) (k := 1)
  have ct : (nI tp).toNatClampNeg = tp := nI_clamp (by omega)
  refine t117_0 ?_
  unfold p117_0
  rw [v2, e1]
  refine ⟨h0.2.2.2.2.1.2, z_Gr_i (m := tp + 1) rfl rfl h0.2.2.2.2.2.1 (by show 2 * (tp + 1) ≤ 524288; omega) (fun A' N' c' q1 q2 q3 q4 q5 q6 => ?_)⟩
  unfold p117_17
  rw [v2, ct, e1]
  refine ⟨z_inR q5 rfl q4, k _ ⟨h0.up (fun q x y => ?_) (fun q x y => q3 q x) (fun q j x => z_vn (fun e => x e.1)) q5 q6, ⟨q4, ?_⟩, ⟨rfl, v3, v5, v6⟩, v7, v10, v11, v12⟩ (fun x hx => ?_) ?_ (fun x hx => ?_)⟩
  · rw [z_un x, q1 q x]
  · show rd ≤ N' 40
    rw [q3 40 (by decide)]
    exact b2
  · show z_fn 0 (z_u A' 39 ((tp, v) :: A' 39) 39) x = z_fn 0 (A 39) x
    rw [z_uk, z_fcn (by omega), q2 x (by omega)]
  · show z_fn 0 (z_u A' 39 ((tp, v) :: A' 39) 39) tp = v
    rw [z_uk, z_fcs]
  · show z_fn 0 (z_u A' 39 ((tp, v) :: A' 39) 40) x = z_fn 0 (A 40) x
    rw [z_un (by decide), q1 40 (by decide)]
theorem m118 (h : z_Mc S0 (tp + 1) bs rd pc fu th dp S) (k : ∀ S', z_Mc S0 tp bs rd pc fu th dp S' → S'.1 = S.1 → S'.2.2.1 = S.2.2.1 → Q (.inl (some (.int (z_mm S tp)))) S') : z_WC (l + 1) 118 0 [(0, .ref 145)] [] S Q := by
  have i39 := h.in39 (Nat.lt_succ_self tp)
  have n31 := h.n31
  have hv := fun V' ho hv => h.vv (V' := V') (tp' := tp) (bs' := bs) (rd' := rd) (pc' := pc) (fu' := fu) (th' := th) (dp' := dp) ho hv (Nat.le_succ tp) (Nat.le_refl rd)
  obtain ⟨A, E, N, V, W, c⟩ := S
  obtain ⟨-, -, ⟨v2, v3, v5, v6⟩, v7, v10, v11, v12⟩ := h
  have v2 : V 38 2 = nI (tp + 1) := v2
  have ct : (nI tp).toNatClampNeg = tp := nI_clamp (by omega)
  refine t118_0 ?_
  unfold p118_0
  rw [v2, nI_pred, ct]
  exact ⟨i39, k _ (hv _ (fun q j x => z_vn (fun e => x e.1)) ⟨⟨rfl, v3, v5, v6⟩, v7, v10, v11, v12⟩) rfl rfl⟩
theorem m110 {mk : Int32} {sz : Nat} (h : z_Mc S0 tp bs rd pc fu th dp S) (hs : 1 ≤ sz) (ht : rd + sz ≤ 524288) (k : ∀ S', z_Mc S0 tp bs (rd + sz) pc fu th dp S' → z_ke rd (z_rq S) (z_rq S') → z_rq S' rd = mk → S'.1 39 = S.1 39 → S'.2.2.1 39 = S.2.2.1 39 → Q (.inl (some (.int (nI rd)))) S') : z_WC (l + 1) 110 0 [(0, .ref 145), (1, .int mk), (2, .int (nI sz))] [] S Q := by
  obtain ⟨A, E, N, V, W, c⟩ := S
  obtain ⟨h0, ⟨b1, b2⟩, ⟨v2, v3, v5, v6⟩, v7, v10, v11, v12⟩ := h
  have v5 : V 38 5 = nI rd := v5
  have b1 : tp ≤ N 39 := b1
  have b2 : rd ≤ N 40 := b2
  have ct : (nI rd).toNatClampNeg = rd := nI_clamp (by omega)
  refine t110_0 ?_
  unfold p110_0
  rw [v5, z_nI2]
  refine ⟨h0.2.2.2.2.1.2, z_Gr_i (m := rd + sz) rfl rfl h0.2.2.2.2.2.1 (by show 2 * (rd + sz) ≤ 1048576; omega) (fun A' N' c' q1 q2 q3 q4 q5 q6 => ?_)⟩
  unfold p110_30
  rw [ct]
  refine ⟨z_inR q5 rfl (by omega), k _ ⟨h0.up (fun q x y => ?_) (fun q x y => q3 q y) (fun q j x => z_vn (fun e => x e.1)) q5 q6, ⟨?_, q4⟩, ⟨v2, v3, rfl, v6⟩, v7, v10, v11, v12⟩ (fun x hx => ?_) ?_ ?_ (q3 39 (by decide))⟩
  · rw [z_un y, q1 q y]
  · show tp ≤ N' 39
    rw [q3 39 (by decide)]
    exact b1
  · show z_fn 0 (z_u A' 40 ((rd, mk) :: A' 40) 40) x = z_fn 0 (A 40) x
    rw [z_uk, z_fcn (by omega), q2 x (by omega)]
  · show z_fn 0 (z_u A' 40 ((rd, mk) :: A' 40) 40) rd = mk
    rw [z_uk, z_fcs]
  · show z_u A' 40 ((rd, mk) :: A' 40) 39 = A 39
    rw [z_un (by decide), q1 39 (by decide)]
theorem m111 {bk rc hd : Int32} {rm : Nat} (h : z_Mc S0 tp bs rd pc fu th dp S) (hb : bs ≤ tp) (ht : tp + 4 + rm ≤ 262144) (k : ∀ S', z_Mc S0 (tp + 4 + rm) tp rd pc fu th dp S' → z_ke tp (z_mm S) (z_mm S') → z_mm S' tp = bk → z_mm S' (tp + 1) = nI (tp - bs) → z_mm S' (tp + 2) = rc → z_mm S' (tp + 3) = hd → z_ke rd (z_rq S) (z_rq S') → Q (.inl none) S') : z_WC (l + 1) 111 0 [(0, .ref 145), (1, .int bk), (2, .int rc), (3, .int hd), (4, .int (nI rm))] [] S Q := by
  obtain ⟨A, E, N, V, W, c⟩ := S
  obtain ⟨h0, ⟨b1, b2⟩, ⟨v2, v3, v5, v6⟩, v7, v10, v11, v12⟩ := h
  have v2 : V 38 2 = nI tp := v2
  have v3 : V 38 3 = nI bs := v3
  have b1 : tp ≤ N 39 := b1
  have b2 : rd ≤ N 40 := b2
  have e4 : nI tp + 4 + nI rm = nI (tp + 4 + rm) := by rw [show (4 : Int32) = nI 4 from rfl, z_nI2, z_nI2]
  have e4' : nI tp + (4 + nI rm) = nI (tp + 4 + rm) := by rw [← Int32.add_assoc, e4]
  have e0 : nI tp + 0 = nI tp := Int32.add_zero _
  have e1 : nI tp + 1 = nI (tp + 1) := z_nI2 (i := tp) (k := 1)
  have e2 : nI tp + 2 = nI (tp + 2) := z_nI2 (i := tp) (k := 2)
  have e3 : nI tp + 3 = nI (tp + 3) := z_nI2 (i := tp) (k := 3)
  have es : nI tp - nI bs = nI (tp - bs) := pk_sub hb
  refine t111_0 ?_
  unfold p111_0
  rw [v2, e4]
  refine ⟨h0.2.2.2.2.1.2, z_Gr_i (m := tp + 4 + rm) rfl rfl h0.2.2.2.2.2.1 (by show 2 * (tp + 4 + rm) ≤ 524288; omega) (fun A' N' c' q1 q2 q3 q4 q5 q6 => ?_)⟩
  unfold p111_20
  rw [v2, v3, e0, e1, e2, e3, es, e4', nI_clamp (show tp < 2 ^ 31 by omega), nI_clamp (show tp + 1 < 2 ^ 31 by omega), nI_clamp (show tp + 2 < 2 ^ 31 by omega), nI_clamp (show tp + 3 < 2 ^ 31 by omega)]
  refine ⟨z_inR q5 rfl (by omega), z_inR q5 rfl (by omega), z_inR q5 rfl (by omega), z_inR q5 rfl (by omega), ?_⟩
  obtain ⟨L, hL⟩ : ∃ X, X = (tp + 3, hd) :: (tp + 2, rc) :: (tp + 1, nI (tp - bs)) :: (tp, bk) :: A' 39 := ⟨_, rfl⟩
  rw [← hL]
  refine k _ ⟨h0.up (fun q x y => ?_) (fun q x y => q3 q x) (fun q j x => ?_) q5 q6, ⟨q4, ?_⟩, ⟨rfl, rfl, v5, v6⟩, v7, v10, v11, v12⟩ (fun x hx => ?_) ?_ ?_ ?_ ?_ (fun x hx => ?_)
  · rw [z_un x, q1 q x]
  · rw [z_vn (fun e => x e.1), z_vn (fun e => x e.1)]
  · show rd ≤ N' 40
    rw [q3 40 (by decide)]
    exact b2
  · show z_fn 0 (z_u A' 39 L 39) x = z_fn 0 (A 39) x
    rw [z_uk, hL, z_fcn (by omega), z_fcn (by omega), z_fcn (by omega), z_fcn (by omega), q2 x (by omega)]
  · show z_fn 0 (z_u A' 39 L 39) tp = bk
    rw [z_uk, hL, z_fcn (by omega), z_fcn (by omega), z_fcn (by omega), z_fcs]
  · show z_fn 0 (z_u A' 39 L 39) (tp + 1) = _
    rw [z_uk, hL, z_fcn (by omega), z_fcn (by omega), z_fcs]
  · show z_fn 0 (z_u A' 39 L 39) (tp + 2) = rc
    rw [z_uk, hL, z_fcn (by omega), z_fcs]
  · show z_fn 0 (z_u A' 39 L 39) (tp + 3) = hd
    rw [z_uk, hL, z_fcs]
  · show z_fn 0 (z_u A' 39 L 40) x = z_fn 0 (A 40) x
    rw [z_un (by decide), q1 40 (by decide)]
end ZAM
