/-! The class's machine: its loop, and one step of it. -/
theorem z_p1 (x : Nat) : nI x + 1 = nI (x + 1) := z_nI2 (i := x) (k := 1)
def z_CL (most : Nat) (f0 : Int32) (Q : z_V → z_CS → Prop) (i : Nat) (S : z_CS) : Prop := z_WC 31 114 7 [(0, .ref 145), (1, .int (nI most)), (2, .int f0), (3, .int (nI i))] [] S Q
def z_op (o : Nat) (x y : Int32) : Int32 := if o = 9 then x + y else if o = 10 then x - y else if o = 11 then x * y else if o = 12 then (if y ≤ x then 0 else 1) else (if x = y then 1 else 0)
section ZAQ
variable {l ce most i o : Nat} {S0 S : z_CS} {tp bs rd pc th dp : Nat} {fu f0 v : Int32} {Q : z_V → z_CS → Prop}
theorem z_nIo {o k : Nat} (h : o < 28) (hk : k < 28) : nI o = nI k ↔ o = k := nI_eq (by omega) (by omega)
theorem m115 (h : z_Mc S0 tp bs rd pc fu th dp S) (hc : z_Cn ce S0) (hp : pc < ce) (ho : z_fn 0 (S0.1 14) pc = nI o) (o28 : o < 28) {G : z_V → z_CS → Prop} (k : G (.inl (some (.int (if o = 15 ∨ o = 16 then 1 else 0)))) S) : z_WC (l + 1) 115 0 [(0, .ref 145)] [] S G := by
  have c47 := hc.1
  have v6 : S.2.2.2.1 38 6 = nI pc := h.2.2.1.2.2.2
  have i14 := h.ic hc hp (k := 14) (by decide) (by decide)
  refine t115_0 (A := S.1) (E := S.2.1) (N := S.2.2.1) (V := S.2.2.2.1) (W := S.2.2.2.2.1) (c := S.2.2.2.2.2) ?_
  unfold p115_0
  rw [v6, nI_clamp (show pc < 2 ^ 31 by omega), h.rw (k := 14) (by decide) (by decide), ho]
  refine ⟨i14, ?_⟩
  by_cases e15 : o = 15
  · rw [if_pos (show nI o = 15 by rw [e15]; rfl)]
    rw [if_pos (Or.inl e15)] at k
    exact ⟨Or.inr rfl, k⟩
  · rw [if_neg (show ¬ nI o = 15 from fun q => e15 ((z_nIo o28 (by decide)).mp q))]
    unfold p115_17
    rw [v6, nI_clamp (show pc < 2 ^ 31 by omega), h.rw (k := 14) (by decide) (by decide), ho]
    refine ⟨i14, ?_⟩
    by_cases e16 : o = 16
    · rw [if_pos (show nI o = 16 by rw [e16]; rfl)]
      rw [if_pos (Or.inr e16)] at k
      exact ⟨Or.inr rfl, k⟩
    · rw [if_neg (show ¬ nI o = 16 from fun q => e16 ((z_nIo o28 (by decide)).mp q))]
      rw [if_neg (fun q => q.elim e15 e16)] at k
      exact ⟨Or.inl rfl, k⟩
theorem z_CL.hd (h : z_Mc S0 tp bs rd pc fu th dp S) (hc : z_Cn ce S0) (hp : pc < ce) (ho : z_fn 0 (S0.1 14) pc = nI o) (o28 : o < 28) (hi : i < 100000000) (hf : o = 15 ∨ o = 16 → ¬ fu - f0 = nI most) (k : p114_41 30 S.1 S.2.1 S.2.2.1 S.2.2.2.1 S.2.2.2.2.1 S.2.2.2.2.2 (nI most) f0 (nI i) Q) : z_CL most f0 Q i S := by
  have v7 : S.2.2.2.1 38 7 = 1 := h.2.2.2.1.1
  have v10 : S.2.2.2.1 38 10 = fu := h.2.2.2.2.1
  refine t114_7 (A := S.1) (E := S.2.1) (N := S.2.2.1) (V := S.2.2.2.1) (W := S.2.2.2.2.1) (c := S.2.2.2.2.2) ?_
  unfold p114_7
  rw [if_neg (show ¬ 100000000 ≤ nI i from nI_ge hi (by decide))]
  unfold p114_13
  rw [v7, if_pos rfl]
  unfold p114_21
  rw [v10]
  by_cases e : fu - f0 = nI most
  · rw [if_pos e]
    unfold p114_31
    refine ⟨h.rm, m115 (l := 29) h hc hp ho o28 ⟨_, rfl, ?_⟩⟩
    unfold p114_35
    rw [if_neg (fun q => hf q e), if_pos rfl]
    exact k
  · rw [if_neg e]
    exact k
theorem z_CL.lo (h : z_Mc S0 tp bs rd pc fu th dp S) (hc : z_Cn ce S0) (hp : pc < ce) (ho : z_fn 0 (S0.1 14) pc = nI o) (o14 : o < 14) (hi : i < 100000000) (k : z_WC 30 116 0 [(0, .ref 145)] [] S (fun v S1 => v = .inl none ∧ z_CL most f0 Q (i + 1) S1)) : z_CL most f0 Q i S := by
  have c47 := hc.1
  refine z_CL.hd h hc hp ho (by omega) hi (fun q => by omega) ?_
  have v6 : S.2.2.2.1 38 6 = nI pc := h.2.2.1.2.2.2
  unfold p114_41
  rw [v6, nI_clamp (show pc < 2 ^ 31 by omega), h.rw (k := 14) (by decide) (by decide), ho, if_neg (show ¬ 14 ≤ nI o from nI_ge o14 (by decide))]
  refine ⟨h.ic hc hp (by decide) (by decide), h.rm, k.im (fun v S1 q => ?_)⟩
  obtain ⟨rfl, q⟩ := q
  refine ⟨rfl, ?_⟩
  unfold p114_62 p114_69
  rw [z_p1]
  exact q
theorem z_CL.hi (h : z_Mc S0 tp bs rd pc fu th dp S) (hc : z_Cn ce S0) (hp : pc < ce) (ho : z_fn 0 (S0.1 14) pc = nI o) (o14 : 14 ≤ o) (o28 : o < 28) (hi : i < 100000000) (hf : o = 15 ∨ o = 16 → ¬ fu - f0 = nI most) (k : z_WC 30 120 0 [(0, .ref 145)] [] S (fun v S1 => v = .inl none ∧ z_CL most f0 Q (i + 1) S1)) : z_CL most f0 Q i S := by
  have c47 := hc.1
  refine z_CL.hd h hc hp ho o28 hi hf ?_
  have v6 : S.2.2.2.1 38 6 = nI pc := h.2.2.1.2.2.2
  unfold p114_41
  rw [v6, nI_clamp (show pc < 2 ^ 31 by omega), h.rw (k := 14) (by decide) (by decide), ho, if_pos (show 14 ≤ nI o from nI_le (a := 14) o14 (by omega))]
  refine ⟨h.ic hc hp (by decide) (by decide), h.rm, k.im (fun v S1 q => ?_)⟩
  obtain ⟨rfl, q⟩ := q
  refine ⟨rfl, ?_⟩
  unfold p114_69
  rw [z_p1]
  exact q
theorem z_CL.stop (h : z_Mc S0 tp bs rd pc fu th dp S) (hc : z_Cn ce S0) (hp : pc < ce) (ho : z_fn 0 (S0.1 14) pc = nI o) (o2 : o = 15 ∨ o = 16) (hi : i < 100000000) (hf : fu - f0 = nI most) (k : Q (.inl (some (.int (fu - f0)))) S) : z_CL most f0 Q i S := by
  have v7 : S.2.2.2.1 38 7 = 1 := h.2.2.2.1.1
  have v10 : S.2.2.2.1 38 10 = fu := h.2.2.2.2.1
  refine t114_7 (A := S.1) (E := S.2.1) (N := S.2.2.1) (V := S.2.2.2.1) (W := S.2.2.2.2.1) (c := S.2.2.2.2.2) ?_
  unfold p114_7
  rw [if_neg (show ¬ 100000000 ≤ nI i from nI_ge hi (by decide))]
  unfold p114_13
  rw [v7, if_pos rfl]
  unfold p114_21
  rw [v10, if_pos hf]
  unfold p114_31
  refine ⟨h.rm, m115 (l := 29) h hc hp ho (by omega) ⟨_, rfl, ?_⟩⟩
  unfold p114_35
  rw [if_pos o2, if_neg (by decide)]
  unfold p114_38 p114_75
  rw [v10]
  exact k
theorem z_CL.end {st va un : Int32} (h : z_Mz S0 st va un fu th dp S) (hs : ¬ st = 1) (hi : i < 100000000) (k : Q (.inl (some (.int (fu - f0)))) S) : z_CL most f0 Q i S := by
  have v7 : S.2.2.2.1 38 7 = st := h.2.1.1
  have v10 : S.2.2.2.1 38 10 = fu := h.2.2.1
  refine t114_7 (A := S.1) (E := S.2.1) (N := S.2.2.1) (V := S.2.2.2.1) (W := S.2.2.2.2.1) (c := S.2.2.2.2.2) ?_
  unfold p114_7
  rw [if_neg (show ¬ 100000000 ≤ nI i from nI_ge hi (by decide))]
  unfold p114_13
  rw [v7, if_neg hs]
  unfold p114_75
  rw [v10]
  exact k
/-- at the head of a step of 116 -/
theorem m116 (h : z_Mc S0 tp bs rd pc fu th dp S) (hc : z_Cn ce S0) (hp : pc < ce) (ho : z_fn 0 (S0.1 14) pc = nI o) (o14 : o < 14) {G : z_V → z_CS → Prop}
    (k : if o = 0 then p116_84 29 S.1 S.2.1 S.2.2.1 S.2.2.2.1 S.2.2.2.2.1 S.2.2.2.2.2 G else if o = 2 then p116_113 29 S.1 S.2.1 S.2.2.1 S.2.2.2.1 S.2.2.2.2.1 S.2.2.2.2.2 G else if o = 3 then p116_154 29 S.1 S.2.1 S.2.2.1 S.2.2.2.1 S.2.2.2.2.1 S.2.2.2.2.2 G else if o = 4 then p116_202 29 S.1 S.2.1 S.2.2.1 S.2.2.2.1 S.2.2.2.2.1 S.2.2.2.2.2 G else if o = 6 then p116_243 29 S.1 S.2.1 S.2.2.1 S.2.2.2.1 S.2.2.2.2.1 S.2.2.2.2.2 G else if o = 7 then p116_278 29 S.1 S.2.1 S.2.2.1 S.2.2.2.1 S.2.2.2.2.1 S.2.2.2.2.2 G else if 9 ≤ o then p116_297 29 S.1 S.2.1 S.2.2.1 S.2.2.2.1 S.2.2.2.2.1 S.2.2.2.2.2 G else p116_326 29 S.1 S.2.1 S.2.2.1 S.2.2.2.1 S.2.2.2.2.1 S.2.2.2.2.2 G) : z_WC 30 116 0 [(0, .ref 145)] [] S G := by
  have c47 := hc.1
  have v6 : S.2.2.2.1 38 6 = nI pc := h.2.2.1.2.2.2
  refine t116_0 (A := S.1) (E := S.2.1) (N := S.2.2.1) (V := S.2.2.2.1) (W := S.2.2.2.2.1) (c := S.2.2.2.2.2) ?_
  unfold p116_0
  rw [v6, nI_clamp (show pc < 2 ^ 31 by omega), h.rw (k := 14) (by decide) (by decide), ho]
  refine ⟨h.ic hc hp (by decide) (by decide), ?_⟩
  rcases (show o = 0 ∨ o = 1 ∨ o = 2 ∨ o = 3 ∨ o = 4 ∨ o = 5 ∨ o = 6 ∨ o = 7 ∨ o = 8 ∨ o = 9 ∨ o = 10 ∨ o = 11 ∨ o = 12 ∨ o = 13 by omega) with rfl | rfl | rfl | rfl | rfl | rfl | rfl | rfl | rfl | rfl | rfl | rfl | rfl | rfl <;> exact k
/-- at the head of a step of 120 -/
theorem m120 (h : z_Mc S0 tp bs rd pc fu th dp S) (hc : z_Cn ce S0) (hp : pc < ce) (ho : z_fn 0 (S0.1 14) pc = nI o) (o14 : 14 ≤ o) (o28 : o < 28) {G : z_V → z_CS → Prop}
    (k : if o = 15 then p120_80 29 S.1 S.2.1 S.2.2.1 S.2.2.2.1 S.2.2.2.2.1 S.2.2.2.2.2 G else if o = 16 then p120_97 29 S.1 S.2.1 S.2.2.1 S.2.2.2.1 S.2.2.2.2.1 S.2.2.2.2.2 G else if o = 17 ∨ o = 19 then p120_126 29 S.1 S.2.1 S.2.2.1 S.2.2.2.1 S.2.2.2.2.1 S.2.2.2.2.2 G else if o = 18 ∨ o = 20 ∨ o = 23 ∨ o = 25 then p120_180 29 S.1 S.2.1 S.2.2.1 S.2.2.2.1 S.2.2.2.2.1 S.2.2.2.2.2 G else if o = 21 then p120_133 29 S.1 S.2.1 S.2.2.1 S.2.2.2.1 S.2.2.2.2.1 S.2.2.2.2.2 G else if o = 22 then p120_140 29 S.1 S.2.1 S.2.2.1 S.2.2.2.1 S.2.2.2.2.1 S.2.2.2.2.2 G else if o = 27 then p120_187 29 S.1 S.2.1 S.2.2.1 S.2.2.2.1 S.2.2.2.2.1 S.2.2.2.2.2 G else p120_194 29 S.1 S.2.1 S.2.2.1 S.2.2.2.1 S.2.2.2.2.1 S.2.2.2.2.2 G) : z_WC 30 120 0 [(0, .ref 145)] [] S G := by
  have c47 := hc.1
  have v6 : S.2.2.2.1 38 6 = nI pc := h.2.2.1.2.2.2
  refine t120_0 (A := S.1) (E := S.2.1) (N := S.2.2.1) (V := S.2.2.2.1) (W := S.2.2.2.2.1) (c := S.2.2.2.2.2) ?_
  unfold p120_0
  rw [v6, nI_clamp (show pc < 2 ^ 31 by omega), h.rw (k := 14) (by decide) (by decide), ho]
  refine ⟨h.ic hc hp (by decide) (by decide), ?_⟩
  rcases (show o = 14 ∨ o = 15 ∨ o = 16 ∨ o = 17 ∨ o = 18 ∨ o = 19 ∨ o = 20 ∨ o = 21 ∨ o = 22 ∨ o = 23 ∨ o = 24 ∨ o = 25 ∨ o = 26 ∨ o = 27 by omega) with rfl | rfl | rfl | rfl | rfl | rfl | rfl | rfl | rfl | rfl | rfl | rfl | rfl | rfl <;> exact k
theorem z_Mc.att {pc' : Nat} (h : z_Mc S0 tp bs rd pc fu th dp S) : z_Mc S0 tp bs rd pc' fu th dp (S.1, S.2.1, S.2.2.1, z_v S.2.2.2.1 38 6 (nI pc'), S.2.2.2.2.1, S.2.2.2.2.2) := h.vv (fun q j x => z_vn (fun e => x e.1)) ⟨⟨h.2.2.1.1, h.2.2.1.2.1, h.2.2.1.2.2.1, rfl⟩, h.2.2.2⟩ (Nat.le_refl _) (Nat.le_refl _)
theorem z_Mc.ats {pc' : Nat} (h : z_Mc S0 tp bs rd pc fu th dp S) (e : v = nI pc') : z_Mc S0 tp bs rd pc' fu th dp (S.1, S.2.1, S.2.2.1, z_v S.2.2.2.1 38 6 v, S.2.2.2.2.1, S.2.2.2.2.2) := by
  rw [e]
  exact h.att
/-- instructions that do nothing -/
theorem g_nop (h : z_Mc S0 tp bs rd pc fu th dp S) (hc : z_Cn ce S0) (hp : pc < ce) (ho : z_fn 0 (S0.1 14) pc = nI o) (oo : o = 1 ∨ o = 5 ∨ o = 8 ∨ o = 14 ∨ o = 24 ∨ o = 26) (hi : i < 100000000) (k : ∀ S', z_Mc S0 tp bs rd (pc + 1) fu th dp S' → S'.1 = S.1 → z_CL most f0 Q (i + 1) S') : z_CL most f0 Q i S := by
  have v6 : S.2.2.2.1 38 6 = nI pc := h.2.2.1.2.2.2
  rcases (show o < 14 ∨ 14 ≤ o by omega) with q | q
  · refine z_CL.lo h hc hp ho q hi (m116 h hc hp ho q ?_)
    have go : p116_326 29 S.1 S.2.1 S.2.2.1 S.2.2.2.1 S.2.2.2.2.1 S.2.2.2.2.2 (fun v S1 => v = .inl none ∧ z_CL most f0 Q (i + 1) S1) := ⟨rfl, k _ (h.ats (by rw [v6, z_p1])) rfl⟩
    rcases (show o = 1 ∨ o = 5 ∨ o = 8 by omega) with rfl | rfl | rfl <;> exact go
  · refine z_CL.hi h hc hp ho q (by omega) hi (fun e => by omega) (m120 h hc hp ho q (by omega) ?_)
    have go : p120_194 29 S.1 S.2.1 S.2.2.1 S.2.2.2.1 S.2.2.2.2.1 S.2.2.2.2.2 (fun v S1 => v = .inl none ∧ z_CL most f0 Q (i + 1) S1) := ⟨rfl, k _ (h.ats (by rw [v6, z_p1])) rfl⟩
    rcases (show o = 14 ∨ o = 24 ∨ o = 26 by omega) with rfl | rfl | rfl <;> exact go
theorem g_skip {g : Nat} (h : z_Mc S0 tp bs rd pc fu th dp S) (hc : z_Cn ce S0) (hp : pc < ce) (ho : z_fn 0 (S0.1 14) pc = 7) (hg : z_fn 0 (S0.1 15) pc = nI g) (hi : i < 100000000) (k : ∀ S', z_Mc S0 tp bs rd g fu th dp S' → S'.1 = S.1 → z_CL most f0 Q (i + 1) S') : z_CL most f0 Q i S := by
  have c47 := hc.1
  have v6 : S.2.2.2.1 38 6 = nI pc := h.2.2.1.2.2.2
  refine z_CL.lo (o := 7) h hc hp ho (by decide) hi (m116 h hc hp ho (by decide) ?_)
  show p116_278 29 _ _ _ _ _ _ _
  unfold p116_278
  rw [v6, nI_clamp (show pc < 2 ^ 31 by omega), h.rw (k := 15) (by decide) (by decide), hg]
  exact ⟨h.ic hc hp (by decide) (by decide), rfl, k _ h.att rfl⟩
theorem g_push {p : Int32} (h : z_Mc S0 tp bs rd pc fu th dp S) (ht : tp < 262144) (k : ∀ S', z_Mc S0 (tp + 1) bs rd (pc + 1) fu th dp S' → z_ke tp (z_mm S) (z_mm S') → z_mm S' tp = v → z_ke rd (z_rq S) (z_rq S') → z_CL most f0 Q (i + 1) S') : z_Rm ([], S.2.2.2.2.2) ∧ z_WC 29 117 0 [(0, .ref 145), (1, .int v)] [] (S.1, S.2.1, S.2.2.1, S.2.2.2.1, S.2.2.2.2.1, S.2.2.2.2.2) (z_cx (fun v S1 => v = .inl none ∧ z_CL most f0 Q (i + 1) S1) (fun x S1 => x = none ∧ p116_100 29 S1.1 S1.2.1 S1.2.2.1 S1.2.2.2.1 S1.2.2.2.2.1 S1.2.2.2.2.2 (fun v S1 => v = .inl none ∧ z_CL most f0 Q (i + 1) S1))) := by
  refine ⟨h.rm, m117 (l := 28) h ht (fun S1 h1 k1 t1 r1 => ⟨rfl, rfl, k _ (h1.ats ?_) k1 t1 r1⟩)⟩
  have w6 : S1.2.2.2.1 38 6 = nI pc := h1.2.2.1.2.2.2
  rw [w6, z_p1]
theorem g_val (h : z_Mc S0 tp bs rd pc fu th dp S) (hc : z_Cn ce S0) (hp : pc < ce) (ho : z_fn 0 (S0.1 14) pc = 0) (hg : z_fn 0 (S0.1 15) pc = v) (ht : tp < 262144) (hi : i < 100000000) (k : ∀ S', z_Mc S0 (tp + 1) bs rd (pc + 1) fu th dp S' → z_ke tp (z_mm S) (z_mm S') → z_mm S' tp = v → z_ke rd (z_rq S) (z_rq S') → z_CL most f0 Q (i + 1) S') : z_CL most f0 Q i S := by
  have c47 := hc.1
  have v6 : S.2.2.2.1 38 6 = nI pc := h.2.2.1.2.2.2
  refine z_CL.lo (o := 0) h hc hp ho (by decide) hi (m116 h hc hp ho (by decide) ?_)
  show p116_84 29 _ _ _ _ _ _ _
  unfold p116_84
  rw [v6, nI_clamp (show pc < 2 ^ 31 by omega), h.rw (k := 15) (by decide) (by decide), hg]
  exact ⟨h.ic hc hp (by decide) (by decide), g_push (p := 0) h ht k⟩
theorem g_local {a : Nat} (h : z_Mc S0 tp bs rd pc fu th dp S) (hc : z_Cn ce S0) (hp : pc < ce) (ho : z_fn 0 (S0.1 14) pc = 2) (hg : z_fn 0 (S0.1 15) pc = nI a) (ha : bs + 4 + a < tp) (ht : tp < 262144) (hi : i < 100000000) (k : ∀ S', z_Mc S0 (tp + 1) bs rd (pc + 1) fu th dp S' → z_ke tp (z_mm S) (z_mm S') → z_mm S' tp = z_mm S (bs + 4 + a) → z_ke rd (z_rq S) (z_rq S') → z_CL most f0 Q (i + 1) S') : z_CL most f0 Q i S := by
  have c47 := hc.1
  have v6 : S.2.2.2.1 38 6 = nI pc := h.2.2.1.2.2.2
  have v3 : S.2.2.2.1 38 3 = nI bs := h.2.2.1.2.1
  refine z_CL.lo (o := 2) h hc hp ho (by decide) hi (m116 h hc hp ho (by decide) ?_)
  show p116_113 29 _ _ _ _ _ _ _
  unfold p116_113
  rw [v6, v3, nI_clamp (show pc < 2 ^ 31 by omega), h.rw (k := 15) (by decide) (by decide), hg, show nI bs + 4 = nI (bs + 4) from z_nI2 (i := bs) (k := 4), z_nI2, nI_clamp (show bs + 4 + a < 2 ^ 31 by omega)]
  exact ⟨h.ic hc hp (by decide) (by decide), h.in39 ha, g_push (p := 0) h ht k⟩
theorem g_outer {a ar : Nat} (h : z_Mc S0 tp bs rd pc fu th dp S) (hc : z_Cn ce S0) (hp : pc < ce) (ho : z_fn 0 (S0.1 14) pc = 3) (hg : z_fn 0 (S0.1 15) pc = nI a) (hb : bs + 2 < tp) (hr : z_mm S (bs + 2) = nI ar) (ha : ar + 1 + a < rd) (ht : tp < 262144) (hi : i < 100000000) (k : ∀ S', z_Mc S0 (tp + 1) bs rd (pc + 1) fu th dp S' → z_ke tp (z_mm S) (z_mm S') → z_mm S' tp = z_rq S (ar + 1 + a) → z_ke rd (z_rq S) (z_rq S') → z_CL most f0 Q (i + 1) S') : z_CL most f0 Q i S := by
  have c47 := hc.1
  have n31 := h.n31
  have v6 : S.2.2.2.1 38 6 = nI pc := h.2.2.1.2.2.2
  have v3 : S.2.2.2.1 38 3 = nI bs := h.2.2.1.2.1
  have g2 : z_fn 0 (S.1 39) (bs + 2) = nI ar := hr
  refine z_CL.lo (o := 3) h hc hp ho (by decide) hi (m116 h hc hp ho (by decide) ?_)
  show p116_154 29 _ _ _ _ _ _ _
  unfold p116_154
  rw [v6, v3, nI_clamp (show pc < 2 ^ 31 by omega), h.rw (k := 15) (by decide) (by decide), hg, show nI bs + 2 = nI (bs + 2) from z_nI2 (i := bs) (k := 2), nI_clamp (show bs + 2 < 2 ^ 31 by omega), g2, z_p1, z_nI2, nI_clamp (show ar + 1 + a < 2 ^ 31 by omega)]
  exact ⟨h.in39 hb, h.ic hc hp (by decide) (by decide), h.in40 ha, g_push (p := 0) h ht k⟩
/-- one word of the stack is written -/
theorem z_Mc.wr {x : Nat} (h : z_Mc S0 tp bs rd pc fu th dp S) : z_Mc S0 tp bs rd pc fu th dp ((z_u S.1 39 ((x, v) :: S.1 39)), S.2.1, S.2.2.1, S.2.2.2.1, S.2.2.2.2.1, S.2.2.2.2.2) := by
  obtain ⟨A, E, N, V, W, c⟩ := S
  exact ⟨h.1.up (fun q a b => z_un a) (fun _ _ _ => rfl) (fun _ _ _ => rfl) h.1.2.2.2.2.2.1 z_Gw.rf, h.2.1, h.2.2⟩
theorem g_bind {a : Nat} (h : z_Mc S0 (tp + 1) bs rd pc fu th dp S) (hc : z_Cn ce S0) (hp : pc < ce) (ho : z_fn 0 (S0.1 14) pc = 4) (hg : z_fn 0 (S0.1 15) pc = nI a) (ha : bs + 4 + a < tp) (hi : i < 100000000) (k : ∀ S', z_Mc S0 tp bs rd (pc + 1) fu th dp S' → (∀ x, x ≠ bs + 4 + a → z_mm S' x = z_mm S x) → z_mm S' (bs + 4 + a) = z_mm S tp → S'.1 40 = S.1 40 → z_CL most f0 Q (i + 1) S') : z_CL most f0 Q i S := by
  have c47 := hc.1
  have n31 := h.n31
  have v6 : S.2.2.2.1 38 6 = nI pc := h.2.2.1.2.2.2
  have v3 : S.2.2.2.1 38 3 = nI bs := h.2.2.1.2.1
  refine z_CL.lo (o := 4) h hc hp ho (by decide) hi (m116 h hc hp ho (by decide) ?_)
  show p116_202 29 _ _ _ _ _ _ _
  unfold p116_202
  rw [v6, v3, nI_clamp (show pc < 2 ^ 31 by omega), h.rw (k := 15) (by decide) (by decide), hg, show nI bs + 4 = nI (bs + 4) from z_nI2 (i := bs) (k := 4), z_nI2]
  refine ⟨h.ic hc hp (by decide) (by decide), h.rm, m118 (l := 28) h (fun S1 h1 e1 e2 => ⟨z_mm S tp, rfl, by rw [e2], ?_⟩)⟩
  unfold p116_229 p116_336
  have w6 : S1.2.2.2.1 38 6 = nI pc := h1.2.2.1.2.2.2
  rw [w6, z_p1, nI_clamp (show bs + 4 + a < 2 ^ 31 by omega)]
  refine ⟨h1.in39 ha, rfl, k _ (h1.wr.att) (fun x hx => ?_) ?_ ?_⟩
  · show z_fn 0 (z_u S1.1 39 ((bs + 4 + a, z_mm S tp) :: S1.1 39) 39) x = _
    rw [z_uk, z_fcn hx, e1]
    rfl
  · show z_fn 0 (z_u S1.1 39 ((bs + 4 + a, z_mm S tp) :: S1.1 39) 39) (bs + 4 + a) = _
    rw [z_uk, z_fcs]
  · show z_u S1.1 39 ((bs + 4 + a, z_mm S tp) :: S1.1 39) 40 = _
    rw [z_un (by decide), e1]
theorem g_test {g : Nat} (h : z_Mc S0 (tp + 1) bs rd pc fu th dp S) (hc : z_Cn ce S0) (hp : pc < ce) (ho : z_fn 0 (S0.1 14) pc = 6) (hg : z_fn 0 (S0.1 15) pc = nI g) (hi : i < 100000000) (k : ∀ S', z_Mc S0 tp bs rd (if z_mm S tp = 0 then g else pc + 1) fu th dp S' → S'.1 = S.1 → z_CL most f0 Q (i + 1) S') : z_CL most f0 Q i S := by
  have c47 := hc.1
  refine z_CL.lo (o := 6) h hc hp ho (by decide) hi (m116 h hc hp ho (by decide) ?_)
  show p116_243 29 _ _ _ _ _ _ _
  unfold p116_243
  refine ⟨h.rm, m118 (l := 28) h (fun S1 h1 e1 e2 => ⟨z_mm S tp, rfl, ?_⟩)⟩
  have w6 : S1.2.2.2.1 38 6 = nI pc := h1.2.2.1.2.2.2
  unfold p116_248
  by_cases e : z_mm S tp = 0
  · rw [if_pos e] at k ⊢
    unfold p116_260
    rw [w6, nI_clamp (show pc < 2 ^ 31 by omega), h1.rw (k := 15) (by decide) (by decide), hg]
    exact ⟨h1.ic hc hp (by decide) (by decide), rfl, k _ h1.att e1⟩
  · rw [if_neg e] at k ⊢
    unfold p116_251
    rw [w6, z_p1]
    exact ⟨rfl, k _ h1.att e1⟩
end ZAQ
