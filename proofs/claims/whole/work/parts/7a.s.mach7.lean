/-! The class's machine: effects performed. -/
/-- the clauses of a handle -/
def z_ccl (ce : Nat) (a : List (Nat × Int32)) : List Nat → Nat → Prop
  | [], l => z_fn 0 a l = 0
  | x :: r, l => z_fn 0 a l = nI x ∧ (0 < x ∧ x < ce) ∧ z_ccl ce a r x
def z_fe (a : List (Nat × Int32)) (e : Int32) : List Nat → Nat
  | [] => 0
  | x :: r => if z_fn 0 a x = e then x else z_fe a e r
/-- the frames, from the last -/
def z_Fb (mm : Nat → Int32) (tp bs dp : Nat) (fb : Nat → Nat) : Prop := fb 0 = bs ∧ (∀ j, j < dp → mm (fb j + 1) = nI (fb j - fb (j + 1)) ∧ fb (j + 1) ≤ fb j) ∧ ∀ j, j ≤ dp → fb j + 4 ≤ tp
/-- a frame's clause for an effect (0: none) -/
def z_Hd (ce : Nat) (S0 : z_CS) (mm : Nat → Int32) (b : Nat) (e : Int32) (cl : Nat) : Prop := (mm (b + 3) = -1 ∧ cl = 0) ∨ ∃ h r, mm (b + 3) = nI h ∧ h < ce ∧ z_ccl ce (S0.1 16) r h ∧ r.length ≤ 8 ∧ cl = z_fe (S0.1 17) e r
section ZAS
variable {l ce most i o : Nat} {S0 S : z_CS} {tp bs rd pc th dp : Nat} {fu f0 v e : Int32} {Q : z_V → z_CS → Prop}
theorem z_fe_lt {a a' : List (Nat × Int32)} : ∀ (r : List Nat) (l : Nat), z_ccl ce a r l → z_fe a' e r = 0 ∨ (0 < z_fe a' e r ∧ z_fe a' e r < ce) := by
  intro r
  induction r with
  | nil => intro l _; exact Or.inl rfl
  | cons x r ih =>
    intro l h
    show (if z_fn 0 a' x = e then x else z_fe a' e r) = 0 ∨ (0 < (if z_fn 0 a' x = e then x else z_fe a' e r) ∧ (if z_fn 0 a' x = e then x else z_fe a' e r) < ce)
    by_cases q : z_fn 0 a' x = e
    · rw [if_pos q]
      exact Or.inr h.2.1
    · rw [if_neg q]
      exact ih x h.2.2
theorem m126 {h : Nat} (hM : z_Mc S0 tp bs rd pc fu th dp S) (hc : z_Cn ce S0) (hh : h < ce) (r : List Nat) (hr : z_ccl ce (S0.1 16) r h) (h8 : r.length ≤ 8) {G : z_V → z_CS → Prop} (k : G (.inl (some (.int (nI (z_fe (S0.1 17) e r))))) S) : z_WC (l + 1) 126 0 [(0, .ref 145), (1, .int (nI h)), (2, .int e)] [] S G := by
  have c47 := hc.1
  have a16 : S.1 16 = S0.1 16 := hM.rw (by decide) (by decide)
  have a17 : S.1 17 = S0.1 17 := hM.rw (by decide) (by decide)
  refine t126_0 (A := S.1) (E := S.2.1) (N := S.2.2.1) (V := S.2.2.2.1) (W := S.2.2.2.2.1) (c := S.2.2.2.2.2) ?_
  unfold p126_0
  rw [nI_clamp (show h < 2 ^ 31 by omega), a16]
  refine ⟨hM.ic hc hh (by decide) (by decide), ?_⟩
  have loop : ∀ (r : List Nat) (y i : Nat), z_ccl ce (S0.1 16) r y → i + r.length ≤ 8 → G (.inl (some (.int (nI (z_fe (S0.1 17) e r))))) S → z_WC (l + 1) 126 13 [(0, .ref 145), (1, .int (nI h)), (2, .int e), (3, .int (z_fn 0 (S0.1 16) y)), (4, .int (nI i))] [] S G := by
    intro r
    induction r with
    | nil =>
      intro y i hy _ k
      have hy : z_fn 0 (S0.1 16) y = 0 := hy
      refine t126_13 (A := S.1) (E := S.2.1) (N := S.2.2.1) (V := S.2.2.2.1) (W := S.2.2.2.2.1) (c := S.2.2.2.2.2) ?_
      unfold p126_13
      rw [hy]
      split
      · exact k
      · unfold p126_20
        rw [if_pos rfl]
        exact k
    | cons x r ih =>
      intro y i hy hi k
      obtain ⟨y1, y2, y3⟩ := hy
      rw [List.length_cons] at hi
      refine t126_13 (A := S.1) (E := S.2.1) (N := S.2.2.1) (V := S.2.2.2.1) (W := S.2.2.2.2.1) (c := S.2.2.2.2.2) ?_
      unfold p126_13
      rw [y1, if_neg (show ¬ 8 ≤ nI i from nI_ge (show i < 8 by omega) (by decide))]
      unfold p126_20
      rw [if_neg (show ¬ nI x = 0 from fun q => absurd ((nI_eq (b := 0) (by omega) (by decide)).mp q) (by omega))]
      unfold p126_24
      rw [nI_clamp (show x < 2 ^ 31 by omega), a17]
      refine ⟨hM.ic hc y2.2 (by decide) (by decide), ?_⟩
      have e' : z_fe (S0.1 17) e (x :: r) = if z_fn 0 (S0.1 17) x = e then x else z_fe (S0.1 17) e r := rfl
      rw [e'] at k
      by_cases q : z_fn 0 (S0.1 17) x = e
      · rw [if_pos q] at k ⊢
        exact k
      · rw [if_neg q] at k ⊢
        unfold p126_39
        rw [nI_clamp (show x < 2 ^ 31 by omega), a16, z_p1]
        exact ⟨hM.ic hc y2.2 (by decide) (by decide), ih x (i + 1) y3 (by omega) k⟩
  exact loop r h 0 hr (by omega) k
/-- how many frames there are to the handler's -/
theorem m125 {fb : Nat → Nat} {n : Nat} {cl : Nat → Nat} (hM : z_Mc S0 tp bs rd pc fu th dp S) (hc : z_Cn ce S0) (hd4 : dp ≤ 400) (hf : z_Fb (z_mm S) tp bs dp fb) (hn : n ≤ dp) (h0 : ∀ j, j < n → z_Hd ce S0 (z_mm S) (fb j) e 0) (h1 : n < dp → z_Hd ce S0 (z_mm S) (fb n) e (cl n) ∧ cl n ≠ 0) {G : z_V → z_CS → Prop} (k : G (.inl (some (.int (if n = dp then 0 else nI (n + 1))))) S) : z_WC (l + 2) 125 0 [(0, .ref 145), (1, .int e)] [] S G := by
  have c47 := hc.1
  have n31 := hM.n31
  have v3 : S.2.2.2.1 38 3 = nI bs := hM.2.2.1.2.1
  have v12 : S.2.2.2.1 38 12 = nI dp := hM.2.2.2.2.2.2
  refine t125_0 (A := S.1) (E := S.2.1) (N := S.2.2.1) (V := S.2.2.2.1) (W := S.2.2.2.2.1) (c := S.2.2.2.2.2) ?_
  unfold p125_0
  rw [v3, ← hf.1]
  have loop : ∀ (q j : Nat), j + q = n → z_WC (l + 2) 125 7 [(0, .ref 145), (1, .int e), (2, .int (nI (fb j))), (3, .int (nI (j + 1)))] [] S G := by
    intro q
    induction q with
    | zero =>
      intro j hj
      have hj : j = n := by omega
      subst hj
      refine t125_7 (A := S.1) (E := S.2.1) (N := S.2.2.1) (V := S.2.2.2.1) (W := S.2.2.2.2.1) (c := S.2.2.2.2.2) ?_
      unfold p125_7
      rw [v12]
      by_cases e1 : j = dp
      · rw [if_pos (show nI dp < nI (j + 1) from nI_lt (by omega) (by omega))]
        rw [if_pos e1] at k
        exact k
      · rw [if_neg (nI_nlt (show j + 1 ≤ dp by omega) (by omega))]
        rw [if_neg e1] at k
        obtain ⟨q1, q2⟩ := h1 (by omega)
        have b4 := hf.2.2 j (by omega)
        unfold p125_15
        rw [show nI (fb j) + 3 = nI (fb j + 3) from z_nI2 (i := fb j) (k := 3), nI_clamp (show fb j + 3 < 2 ^ 31 by omega)]
        refine ⟨hM.in39 (by omega), ?_⟩
        rcases q1 with ⟨-, q1⟩ | ⟨h, r, g1, g2, g3, g4, g5⟩
        · exact absurd q1 q2
        · have g1 : z_fn 0 (S.1 39) (fb j + 3) = nI h := g1
          rw [g1, if_neg (show ¬ nI h = -1 from fun q => absurd (show nI h < 0 by rw [q]; decide) (nI_pos (by omega)))]
          unfold p125_31
          refine ⟨hM.rm, m126 (l := l) hM hc g2 r g3 g4 ⟨_, rfl, ?_⟩⟩
          unfold p125_38
          have c1 := (z_fe_lt (e := e) (a' := S0.1 17) r h g3)
          rw [if_neg (show ¬ nI (z_fe (S0.1 17) e r) = 0 from fun q => by
            rw [← g5] at q c1
            exact absurd ((nI_eq (b := 0) (by omega) (by decide)).mp q) q2)]
          exact k
    | succ q ih =>
      intro j hj
      have b4 := hf.2.2 j (by omega)
      have g0 := h0 j (by omega)
      obtain ⟨f1, f2⟩ := hf.2.1 j (by omega)
      have f1 : z_fn 0 (S.1 39) (fb j + 1) = nI (fb j - fb (j + 1)) := f1
      have nx : ∀ x4, p125_43 (l + 1) S.1 S.2.1 S.2.2.1 S.2.2.2.1 S.2.2.2.2.1 S.2.2.2.2.2 e (nI (fb j)) (nI (j + 1)) x4 G := by
        intro x4
        unfold p125_43
        rw [z_p1, z_p1, nI_clamp (show fb j + 1 < 2 ^ 31 by omega), f1, pk_sub (show fb j - fb (j + 1) ≤ fb j by omega), show fb j - (fb j - fb (j + 1)) = fb (j + 1) by omega]
        exact ⟨hM.in39 (by omega), ih (j + 1) (by omega)⟩
      refine t125_7 (A := S.1) (E := S.2.1) (N := S.2.2.1) (V := S.2.2.2.1) (W := S.2.2.2.2.1) (c := S.2.2.2.2.2) ?_
      unfold p125_7
      rw [v12, if_neg (nI_nlt (show j + 1 ≤ dp by omega) (by omega))]
      unfold p125_15
      rw [show nI (fb j) + 3 = nI (fb j + 3) from z_nI2 (i := fb j) (k := 3), nI_clamp (show fb j + 3 < 2 ^ 31 by omega)]
      refine ⟨hM.in39 (by omega), ?_⟩
      rcases g0 with ⟨g1, -⟩ | ⟨h, r, g1, g2, g3, g4, g5⟩
      · have g1 : z_fn 0 (S.1 39) (fb j + 3) = -1 := g1
        rw [g1, if_pos rfl]
        exact nx _
      · have g1 : z_fn 0 (S.1 39) (fb j + 3) = nI h := g1
        rw [g1, if_neg (show ¬ nI h = -1 from fun q => absurd (show nI h < 0 by rw [q]; decide) (nI_pos (by omega)))]
        unfold p125_31
        refine ⟨hM.rm, m126 (l := l) hM hc g2 r g3 g4 ⟨_, rfl, ?_⟩⟩
        unfold p125_38
        rw [← g5, if_pos (show nI 0 = 0 from rfl)]
        exact nx _
  exact loop n 0 (by omega)
theorem m127 {fb : Nat → Nat} {n : Nat} (hM : z_Mc S0 tp bs rd pc fu th dp S) {dq : Nat} (hd4 : dq ≤ 400) (hf : z_Fb (z_mm S) tp bs dq fb) (hn : n ≤ dq) {G : z_V → z_CS → Prop} (k : G (.inl (some (.int (nI (fb n))))) S) : z_WC (l + 1) 127 0 [(0, .ref 145), (1, .int (nI n))] [] S G := by
  have n31 := hM.n31
  have v3 : S.2.2.2.1 38 3 = nI bs := hM.2.2.1.2.1
  refine t127_0 (A := S.1) (E := S.2.1) (N := S.2.2.1) (V := S.2.2.2.1) (W := S.2.2.2.2.1) (c := S.2.2.2.2.2) ?_
  unfold p127_0
  rw [v3, ← hf.1]
  have loop : ∀ (q j : Nat), j + q = n → z_WC (l + 1) 127 7 [(0, .ref 145), (1, .int (nI n)), (2, .int (nI (fb j))), (3, .int (nI j))] [] S G := by
    intro q
    induction q with
    | zero =>
      intro j hj
      have hj : j = n := by omega
      subst hj
      refine t127_7 (A := S.1) (E := S.2.1) (N := S.2.2.1) (V := S.2.2.2.1) (W := S.2.2.2.2.1) (c := S.2.2.2.2.2) ?_
      unfold p127_7
      rw [if_pos (nI_le (Nat.le_refl _) (by omega))]
      exact k
    | succ q ih =>
      intro j hj
      have b4 := hf.2.2 j (by omega)
      obtain ⟨f1, f2⟩ := hf.2.1 j (by omega)
      have f1 : z_fn 0 (S.1 39) (fb j + 1) = nI (fb j - fb (j + 1)) := f1
      refine t127_7 (A := S.1) (E := S.2.1) (N := S.2.2.1) (V := S.2.2.2.1) (W := S.2.2.2.2.1) (c := S.2.2.2.2.2) ?_
      unfold p127_7
      rw [if_neg (nI_ge (show j < n by omega) (by omega))]
      unfold p127_12
      rw [z_p1, z_p1, nI_clamp (show fb j + 1 < 2 ^ 31 by omega), f1, pk_sub (show fb j - fb (j + 1) ≤ fb j by omega), show fb j - (fb j - fb (j + 1)) = fb (j + 1) by omega]
      exact ⟨hM.in39 (by omega), ih (j + 1) (by omega)⟩
  exact loop n 0 (by omega)
/-- the record of a continuation -/
def z_Rk2 (mm rr' : Nat → Int32) (rd pc fr b bs tp : Nat) : Prop := (rr' rd = nI pc ∧ rr' (rd + 1) = 0 ∧ rr' (rd + 2) = nI fr ∧ rr' (rd + 3) = nI (bs - b) ∧ rr' (rd + 4) = nI (tp - b)) ∧ ∀ x, x < tp - b → rr' (rd + 5 + x) = mm (b + x)
theorem m128 {b fr : Nat} (hM : z_Mc S0 tp bs rd pc fu th dp S) (hb : b ≤ bs) (hbt : b ≤ tp) (hr : rd + (5 + (tp - b)) ≤ 524288) {G : z_V → z_CS → Prop} (k : ∀ S', z_Mc S0 tp bs (rd + (5 + (tp - b))) pc fu th dp S' → S'.1 39 = S.1 39 → z_ke rd (z_rq S) (z_rq S') → z_Rk2 (z_mm S) (z_rq S') rd pc fr b bs tp → G (.inl (some (.int (nI rd)))) S') : z_WC (l + 2) 128 0 [(0, .ref 145), (1, .int (nI b)), (2, .int (nI fr))] [] S G := by
  have n31 := hM.n31
  have v2 : S.2.2.2.1 38 2 = nI tp := hM.2.2.1.1
  have v6 : S.2.2.2.1 38 6 = nI pc := hM.2.2.1.2.2.2
  refine t128_0 (A := S.1) (E := S.2.1) (N := S.2.2.1) (V := S.2.2.2.1) (W := S.2.2.2.2.1) (c := S.2.2.2.2.2) ?_
  unfold p128_0
  rw [v2, v6, pk_sub hbt, show (5 : Int32) + nI (tp - b) = nI (5 + (tp - b)) from z_nI2 (i := 5) (k := tp - b)]
  refine ⟨hM.rm, m110 hM (by omega) hr (fun S1 h1 ke1 mk1 m39 n39 => ⟨nI rd, rfl, ?_⟩)⟩
  have w3 : S1.2.2.2.1 38 3 = nI bs := h1.2.2.1.2.1
  have e39 : ∀ x, z_fn 0 (S1.1 39) x = z_mm S x := fun x => by rw [m39]; rfl
  have N39 := h1.2.1.1
  have N40 := h1.2.1.2
  unfold p128_18
  rw [w3, z_p1, show nI rd + 2 = nI (rd + 2) from z_nI2 (i := rd) (k := 2), show nI rd + 3 = nI (rd + 3) from z_nI2 (i := rd) (k := 3), show nI rd + 4 = nI (rd + 4) from z_nI2 (i := rd) (k := 4), show nI rd + 5 = nI (rd + 5) from z_nI2 (i := rd) (k := 5), pk_sub hb, nI_clamp (show rd + 1 < 2 ^ 31 by omega), nI_clamp (show rd + 2 < 2 ^ 31 by omega), nI_clamp (show rd + 3 < 2 ^ 31 by omega), nI_clamp (show rd + 4 < 2 ^ 31 by omega), nI_clamp (show rd + 5 < 2 ^ 31 by omega), nI_clamp (show b < 2 ^ 31 by omega), nI_clamp (show tp - b < 2 ^ 31 by omega)]
  refine ⟨h1.in40 (by omega), h1.in40 (by omega), h1.in40 (by omega), h1.in40 (by omega), z_cpI (by omega) (by omega) (h1.nb rfl) (h1.nb rfl), h1.rm, ?_⟩
  obtain ⟨L0, hL0⟩ : ∃ X, X = (rd + 4, nI (tp - b)) :: (rd + 3, nI (bs - b)) :: (rd + 2, nI fr) :: (rd + 1, (0 : Int32)) :: S1.1 40 := ⟨_, rfl⟩
  rw [← hL0]
  obtain ⟨L, hL⟩ : ∃ X, X = z_cpl (S1.1 39) L0 b (rd + 5) (tp - b) := ⟨_, rfl⟩
  rw [← hL]
  have lo : ∀ x, x < rd + 5 → z_fn 0 L x = z_fn 0 L0 x := fun x hx => by rw [hL, z_cpl_out _ (by omega)]
  have e40 : ∀ x, z_rq ((z_u S1.1 40 L), S1.2.1, S1.2.2.1, S1.2.2.2.1, S1.2.2.2.2.1, S1.2.2.2.2.2) x = z_fn 0 L x := fun x => by
    show z_fn 0 (z_u S1.1 40 L 40) x = _
    rw [z_uk]
  refine k _ ?_ ?_ (fun x hx => ?_) ⟨⟨?_, ?_, ?_, ?_, ?_⟩, fun x hx => ?_⟩
  · obtain ⟨A, E, N, V, W, c⟩ := S1
    exact ⟨h1.1.up (fun q a b => z_un b) (fun _ _ _ => rfl) (fun _ _ _ => rfl) h1.1.2.2.2.2.2.1 z_Gw.rf, h1.2.1, h1.2.2⟩
  · show z_u S1.1 40 L 39 = _
    rw [z_un (by decide)]
    exact m39
  · rw [e40, lo x (by omega), hL0, z_fcn (by omega), z_fcn (by omega), z_fcn (by omega), z_fcn (by omega)]
    exact ke1 x hx
  · rw [e40, lo rd (by omega), hL0, z_fcn (by omega), z_fcn (by omega), z_fcn (by omega), z_fcn (by omega)]
    exact mk1
  · rw [e40, lo _ (by omega), hL0, z_fcn (by omega), z_fcn (by omega), z_fcn (by omega), z_fcs]
  · rw [e40, lo _ (by omega), hL0, z_fcn (by omega), z_fcn (by omega), z_fcs]
  · rw [e40, lo _ (by omega), hL0, z_fcn (by omega), z_fcs]
  · rw [e40, lo _ (by omega), hL0, z_fcs]
  · rw [e40, hL, z_cpl_in _ x hx]
    exact e39 _
theorem z_Fb.le {mm : Nat → Int32} {fb : Nat → Nat} (h : z_Fb mm tp bs dp fb) : ∀ j, j ≤ dp → fb j ≤ bs := by
  intro j
  induction j with
  | zero => intro _; exact Nat.le_of_eq h.1
  | succ j ih =>
    intro hj
    exact Nat.le_trans (h.2.1 j (by omega)).2 (ih (by omega))
/-- at the head of an operation -/
theorem g_perfb {ef : Nat} (h : z_Mc S0 tp bs rd pc fu th dp S) (hc : z_Cn ce S0) (hp : pc < ce) (ho : z_fn 0 (S0.1 14) pc = 16) (ha : z_fn 0 (S0.1 15) pc = nI ef) (hf : ¬ fu - f0 = nI most) (hi : i < 100000000) (k : ∀ S1, z_Mc S0 tp bs rd pc (fu + 1) th dp S1 → S1.1 = S.1 → z_WC 29 124 0 [(0, .ref 145), (1, .int (nI ef))] [] S1 (fun v S2 => v = .inl none ∧ z_CL most f0 Q (i + 1) S2)) : z_CL most f0 Q i S := by
  have c47 := hc.1
  have v10 : S.2.2.2.1 38 10 = fu := h.2.2.2.2.1
  have v6 : S.2.2.2.1 38 6 = nI pc := h.2.2.1.2.2.2
  refine z_CL.hi (o := 16) h hc hp ho (by decide) (by decide) hi (fun _ => hf) (m120 h hc hp ho (by decide) (by decide) ?_)
  show p120_97 29 _ _ _ _ _ _ _
  unfold p120_97
  rw [v10, v6, nI_clamp (show pc < 2 ^ 31 by omega), h.rw (k := 15) (by decide) (by decide), ha]
  refine ⟨h.ic hc hp (by decide) (by decide), h.rm, (k _ (h.vv (V' := z_v S.2.2.2.1 38 10 (fu + 1)) (fun q j x => z_vn (fun e => x e.1)) ⟨h.2.2.1, h.2.2.2.1, rfl, h.2.2.2.2.2⟩ (Nat.le_refl _) (Nat.le_refl _)) rfl).im (fun v S2 q => ?_)⟩
  obtain ⟨rfl, q⟩ := q
  exact ⟨rfl, rfl, q⟩
/-- an effect is performed -/
theorem g_perf {fb : Nat → Nat} {n ef hh rm : Nat} {r : List Nat} (h : z_Mc S0 (tp + 1) bs rd pc fu th dp S) (hc : z_Cn ce S0) (hp : pc < ce) (hop : z_fn 0 (S0.1 14) pc = 16) (ha : z_fn 0 (S0.1 15) pc = nI ef) (hfu : ¬ fu - f0 = nI most) (hi : i < 100000000) (hd4 : dp ≤ 400) (hf : z_Fb (z_mm S) tp bs dp fb) (hn : n < dp) (h0 : ∀ j, j < n → z_Hd ce S0 (z_mm S) (fb j) (nI ef) 0) (hm : z_mm S (fb n + 3) = nI hh) (hh1 : hh < ce) (hr : z_ccl ce (S0.1 16) r hh) (h8 : r.length ≤ 8) (hcl : z_fe (S0.1 17) (nI ef) r ≠ 0) (hth : th + 1 + (n + 1) ≤ 1000) (h18 : z_fn 0 (S0.1 18) hh = nI rm) (rm2 : 2 ≤ rm) (hrm : fb n + 4 + rm ≤ tp) (hrd : rd + (5 + (tp - fb n)) ≤ 524288)
    (k : ∀ S', z_Mc S0 (fb n + 4 + rm) (fb n) (rd + (5 + (tp - fb n))) (z_fe (S0.1 17) (nI ef) r + 1) (fu + 1) (th + (1 + (n + 1))) (dp - n) S' → (∀ x, x ≠ fb n + 3 → x ≠ fb n + 4 → x ≠ fb n + 5 → z_mm S' x = z_mm S x) → z_mm S' (fb n + 3) = -1 → z_mm S' (fb n + 4) = z_mm S tp → z_mm S' (fb n + 5) = nI rd → z_ke rd (z_rq S) (z_rq S') → z_Rk2 (z_mm S) (z_rq S') rd pc (n + 1) (fb n) bs tp → z_CL most f0 Q (i + 1) S') : z_CL most f0 Q i S := by
  have c47 := hc.1
  have n31 := h.n31
  have fl := hf.le n (by omega)
  have bt := hf.2.2 0 (by omega)
  rw [hf.1] at bt
  refine g_perfb h hc hp hop ha hfu hi (fun S1 g1 e1 => ?_)
  have em : z_mm S1 = z_mm S := by
    funext x
    show z_fn 0 (S1.1 39) x = _
    rw [e1]
    rfl
  have er : z_rq S1 = z_rq S := by
    funext x
    show z_fn 0 (S1.1 40) x = _
    rw [e1]
    rfl
  have w11 : S1.2.2.2.1 38 11 = nI th := g1.2.2.2.2.2.1
  have w12 : S1.2.2.2.1 38 12 = nI dp := g1.2.2.2.2.2.2
  refine t124_0 (l := 28) (A := S1.1) (E := S1.2.1) (N := S1.2.2.1) (V := S1.2.2.2.1) (W := S1.2.2.2.2.1) (c := S1.2.2.2.2.2) ?_
  unfold p124_0
  have hf' : z_Fb (z_mm S1) (tp + 1) bs dp fb := by
    rw [em]
    exact ⟨hf.1, hf.2.1, fun j hj => Nat.le_succ_of_le (hf.2.2 j hj)⟩
  refine ⟨g1.rm, m125 (l := 26) (n := n) (cl := fun _ => z_fe (S0.1 17) (nI ef) r) g1 hc hd4 hf' (by omega) (fun j hj => by rw [em]; exact h0 j hj) (fun _ => ⟨Or.inr ⟨hh, r, by rw [em]; exact hm, hh1, hr, h8, rfl⟩, hcl⟩) ⟨_, rfl, ?_⟩⟩
  rw [if_neg (show ¬ n = dp by omega)]
  unfold p124_5
  rw [if_neg (show ¬ nI (n + 1) = 0 from fun q => absurd ((nI_eq (b := 0) (by omega) (by decide)).mp q) (by omega))]
  unfold p124_23
  rw [w11, z_p1, z_nI2, if_pos (show nI (th + 1 + (n + 1)) ≤ 1000 from nI_le (b := 1000) hth (by decide))]
  unfold p124_45
  rw [w11, w12, show (1 : Int32) + nI (n + 1) = nI (1 + (n + 1)) from z_nI2 (i := 1) (k := n + 1), z_nI2, show nI dp + (1 - nI (n + 1)) = nI (dp - n) from by
    rw [Int32.sub_eq_add_neg, ← Int32.add_assoc, ← Int32.sub_eq_add_neg, z_p1, pk_sub (by omega), Nat.add_sub_add_right]]
  have g2 := g1.vv (V' := z_v (z_v S1.2.2.2.1 38 11 (nI (th + (1 + (n + 1))))) 38 12 (nI (dp - n))) (th' := th + (1 + (n + 1))) (dp' := dp - n) (fun q j x => by rw [z_vn (fun e => x e.1), z_vn (fun e => x e.1)]) ⟨g1.2.2.1, g1.2.2.2.1, g1.2.2.2.2.1, rfl, rfl⟩ (Nat.le_refl _) (Nat.le_refl _)
  refine ⟨g1.rm, m118 (l := 27) g2 (fun S3 g3 e3 e3' => ⟨z_mm S tp, ?_, ?_⟩)⟩
  · show some (Value.int (z_fn 0 (S1.1 39) tp)) = _
    rw [e1]
    rfl
  have em3 : z_mm S3 = z_mm S := by
    funext x
    show z_fn 0 (S3.1 39) x = _
    rw [e3, e1]
    rfl
  have er3 : z_rq S3 = z_rq S := by
    funext x
    show z_fn 0 (S3.1 40) x = _
    rw [e3, e1]
    rfl
  unfold p124_73
  rw [nI_pred]
  refine ⟨g3.rm, m127 (l := 27) (dq := dp) g3 hd4 (by rw [em3]; exact hf) (by omega) ⟨_, rfl, ?_⟩⟩
  unfold p124_81
  have gm : z_fn 0 (S3.1 39) (fb n + 3) = nI hh := by
    rw [e3, e1]
    exact hm
  rw [show nI (fb n) + 3 = nI (fb n + 3) from z_nI2 (i := fb n) (k := 3), nI_clamp (show fb n + 3 < 2 ^ 31 by omega), gm]
  refine ⟨g3.in39 (by omega), g3.rm, m128 (l := 26) g3 fl (by omega) hrd (fun S4 g4 e4 k4 rk4 => ⟨_, rfl, ?_⟩)⟩
  rw [er3] at k4
  rw [em3] at rk4
  have N39 := g4.2.1.1
  unfold p124_101
  rw [nI_clamp (show hh < 2 ^ 31 by omega), g4.rw (k := 18) (by decide) (by decide), h18, show nI (fb n) + 3 = nI (fb n + 3) from z_nI2 (i := fb n) (k := 3), show nI (fb n) + 4 = nI (fb n + 4) from z_nI2 (i := fb n) (k := 4), z_p1, z_nI2, nI_clamp (show fb n + 3 < 2 ^ 31 by omega), nI_clamp (show fb n + 4 < 2 ^ 31 by omega), nI_clamp (show fb n + 4 + 1 < 2 ^ 31 by omega)]
  obtain ⟨L, hL⟩ : ∃ X, X = (fb n + 4 + 1, nI rd) :: (fb n + 4, z_mm S tp) :: (fb n + 3, (-1 : Int32)) :: S4.1 39 := ⟨_, rfl⟩
  rw [← hL]
  obtain ⟨S5, hS5⟩ : ∃ X : z_CS, X = ((z_u S4.1 39 L), S4.2.1, S4.2.2.1, (z_v (z_v S4.2.2.2.1 38 3 (nI (fb n))) 38 2 (nI (fb n + 4 + rm))), S4.2.2.2.2.1, S4.2.2.2.2.2) := ⟨_, rfl⟩
  rw [← hS5]
  have g5 : z_Mc S0 (fb n + 4 + rm) (fb n) (rd + (5 + (tp - fb n))) pc (fu + 1) (th + (1 + (n + 1))) (dp - n) S5 := by
    rw [hS5]
    obtain ⟨A, E, N, V, W, c⟩ := S4
    exact ⟨g4.1.up (fun q a b => z_un a) (fun _ _ _ => rfl) (fun q j x => by rw [z_vn (fun e => x e.1), z_vn (fun e => x e.1)]) g4.1.2.2.2.2.2.1 z_Gw.rf, ⟨Nat.le_trans hrm g4.2.1.1, g4.2.1.2⟩, ⟨rfl, rfl, g4.2.2.1.2.2⟩, g4.2.2.2⟩
  have m5 : ∀ x, z_mm S5 x = z_fn 0 L x := fun x => by
    rw [hS5]
    show z_fn 0 (z_u S4.1 39 L 39) x = _
    rw [z_uk]
  have r5 : ∀ x, z_rq S5 x = z_rq S4 x := fun x => by
    rw [hS5]
    show z_fn 0 (z_u S4.1 39 L 40) x = _
    rw [z_un (by decide)]
    rfl
  refine ⟨g4.ic hc hh1 (by decide) (by decide), g4.in39 (by omega), g4.in39 (by omega), g4.in39 (by omega), g4.rm, m126 (l := 27) g5 hc hh1 r hr h8 ⟨_, rfl, ?_⟩⟩
  unfold p124_175 p124_180
  rw [z_p1]
  refine ⟨rfl, k _ g5.att (fun x x1 x2 x3 => ?_) ?_ ?_ ?_ (fun x hx => ?_) ?_⟩
  · refine (m5 x).trans ?_
    rw [hL, z_fcn (by omega), z_fcn x2, z_fcn x1, e4, e3, e1]
    rfl
  · refine (m5 _).trans ?_
    rw [hL, z_fcn (by omega), z_fcn (by omega), z_fcs]
  · refine (m5 _).trans ?_
    rw [hL, z_fcn (by omega), z_fcs]
  · refine (m5 _).trans ?_
    rw [hL, z_fcs]
  · exact (r5 x).trans (k4 x hx)
  · obtain ⟨⟨a1, a2, a3, a4, a5⟩, a6⟩ := rk4
    exact ⟨⟨(r5 _).trans a1, (r5 _).trans a2, (r5 _).trans a3, (r5 _).trans a4, (r5 _).trans a5⟩, fun x hx => (r5 _).trans (a6 x hx)⟩
/-- an effect is performed, and the run ends -/
theorem g_perfe {fb : Nat → Nat} {n ef : Nat} {st un : Int32} {cl : Nat → Nat} (h : z_Mc S0 tp bs rd pc fu th dp S) (hc : z_Cn ce S0) (hp : pc < ce) (hop : z_fn 0 (S0.1 14) pc = 16) (ha : z_fn 0 (S0.1 15) pc = nI ef) (hfu : ¬ fu - f0 = nI most) (hi : i + 1 < 100000000) (hd4 : dp ≤ 400) (th1 : th ≤ 1000) (hf : z_Fb (z_mm S) tp bs dp fb) (hn : n ≤ dp) (h0 : ∀ j, j < n → z_Hd ce S0 (z_mm S) (fb j) (nI ef) 0) (h1 : n < dp → z_Hd ce S0 (z_mm S) (fb n) (nI ef) (cl n) ∧ cl n ≠ 0) (hs : (n = dp ∧ st = 4 ∧ un = nI ef) ∨ (n < dp ∧ st = 5 ∧ un = -1 ∧ 1000 < th + 1 + (n + 1)))
    (k : ∀ S', z_Mz S0 st 0 un (fu + 1) th dp S' → Q (.inl (some (.int (fu + 1 - f0)))) S') : z_CL most f0 Q i S := by
  refine g_perfb h hc hp hop ha hfu (by omega) (fun S1 g1 e1 => ?_)
  have em : z_mm S1 = z_mm S := by
    funext x
    show z_fn 0 (S1.1 39) x = _
    rw [e1]
    rfl
  have w11 : S1.2.2.2.1 38 11 = nI th := g1.2.2.2.2.2.1
  refine t124_0 (l := 28) (A := S1.1) (E := S1.2.1) (N := S1.2.2.1) (V := S1.2.2.2.1) (W := S1.2.2.2.2.1) (c := S1.2.2.2.2.2) ?_
  unfold p124_0
  refine ⟨g1.rm, m125 (l := 26) (n := n) (cl := cl) g1 hc hd4 (by rw [em]; exact hf) hn (fun j hj => by rw [em]; exact h0 j hj) (fun q => by rw [em]; exact h1 q) ⟨_, rfl, ?_⟩⟩
  unfold p124_5
  rcases hs with ⟨q1, rfl, rfl⟩ | ⟨q1, rfl, rfl, q2⟩
  · rw [if_pos q1, if_pos rfl]
    unfold p124_10 p124_180
    refine ⟨rfl, ?_⟩
    have q := g1.mz (st := 4) (un := nI ef) (V' := z_v (z_v S1.2.2.2.1 38 7 4) 38 9 (nI ef)) (fun q j x => by rw [z_vn (fun e => x e.1), z_vn (fun e => x e.1)]) ⟨⟨rfl, g1.2.2.2.1.2.1, rfl⟩, g1.2.2.2.2⟩
    exact z_CL.end q (by decide) hi (k _ q)
  · rw [if_neg (show ¬ n = dp by omega), if_neg (show ¬ nI (n + 1) = 0 from fun q => absurd ((nI_eq (b := 0) (by omega) (by decide)).mp q) (by omega))]
    unfold p124_23
    rw [w11, z_p1, z_nI2, if_neg (show ¬ nI (th + 1 + (n + 1)) ≤ 1000 from nI_ge q2 (by omega))]
    unfold p124_37 p124_180
    refine ⟨rfl, ?_⟩
    have q := g1.mz (st := 5) (un := -1) (V' := z_v S1.2.2.2.1 38 7 5) (fun q j x => z_vn (fun e => x e.1)) ⟨⟨rfl, g1.2.2.2.1.2⟩, g1.2.2.2.2⟩
    exact z_CL.end q (by decide) hi (k _ q)
end ZAS
