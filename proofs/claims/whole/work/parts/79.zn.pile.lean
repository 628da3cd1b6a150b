/-! Checking, of the reference: its loop, its pile, its cells. -/
theorem z_TyR.kp {B B' : Nat → List (Nat × Int32)} {U U' : Nat → Nat → Int32} {T : Nat → Nat × Nat × Int32} {m : Nat} (h : z_TyR B U T m) (hB : ∀ k, 46 ≤ k → k ≤ 48 → B' k = B k) (hU : U' 41 13 = U 41 13) : z_TyR B' U' T m := by
  unfold z_TyR at h ⊢
  rw [hU, hB 46 (by decide) (by decide), hB 47 (by decide) (by decide), hB 48 (by decide) (by decide)]
  exact h
/-- what lies on top of the pile -/
def z_tpk (P m st : Nat) (kx : Int32) (R : z_RS) : Prop := z_fn 0 (R.1 102) P = nI m ∧ z_fn 0 (R.1 103) P = nI st ∧ z_fn 0 (R.1 104) P = kx
def z_stg (P st : Nat) (R : z_RS) : z_RS := (z_u R.1 103 ((P, nI (st + 1)) :: R.1 103), R.2.1, R.2.2)
def z_typ (P m : Nat) (ty ef : Int32) (R : z_RS) : z_RS := (z_u (z_u R.1 106 ((m, ty) :: R.1 106)) 107 ((m, ef) :: R.1 107), R.2.1, z_v R.2.2 41 82 (nI P))
def z_pil (P m : Nat) (kx : Int32) (R : z_RS) : z_RS := (z_u (z_u (z_u R.1 102 ((P, nI m) :: R.1 102)) 103 ((P, 0) :: R.1 103)) 104 ((P, kx) :: R.1 104), R.2.1, z_v R.2.2 41 82 (nI (P + 1)))
def z_bnd (cc : Nat) (q w ty nx : Int32) (R : z_RS) : z_RS := (z_u (z_u (z_u (z_u R.1 98 ((cc, q) :: R.1 98)) 99 ((cc, w) :: R.1 99)) 100 ((cc, ty) :: R.1 100)) 101 ((cc, nx) :: R.1 101), R.2.1, z_v R.2.2 41 77 (nI (cc + 1)))
/-- which kind of node is next -/
def z_d183 (kd : Int32) (P m st : Nat) (kx : Int32) (R : z_RS) (Q : Option Value → z_RS → Prop) : Prop :=
  if kd = 0 then p183_156 9 R.1 R.2.1 R.2.2 (nI P) (nI m) (nI st) kx Q else if kd = 1 then p183_167 9 R.1 R.2.1 R.2.2 (nI P) (nI m) (nI st) kx Q else if kd = 2 then p183_178 9 R.1 R.2.1 R.2.2 (nI P) (nI m) (nI st) kx Q else if kd = 3 then p183_189 9 R.1 R.2.1 R.2.2 (nI P) (nI m) (nI st) kx Q else if kd = 4 then p183_200 9 R.1 R.2.1 R.2.2 (nI P) (nI m) (nI st) kx Q else if kd = 10 then p183_212 9 R.1 R.2.1 R.2.2 (nI P) (nI m) (nI st) kx Q else if kd = 11 then p183_223 9 R.1 R.2.1 R.2.2 (nI P) (nI m) (nI st) kx Q else if kd = 12 then p183_234 9 R.1 R.2.1 R.2.2 (nI P) (nI m) (nI st) kx Q else if kd = 13 then p183_244 9 R.1 R.2.1 R.2.2 (nI P) (nI m) (nI st) kx Q else if kd = 14 then p183_254 9 R.1 R.2.1 R.2.2 (nI P) (nI m) (nI st) kx Q else if kd = 15 then p183_264 9 R.1 R.2.1 R.2.2 (nI P) (nI m) (nI st) kx Q else p183_330 9 R.1 R.2.1 R.2.2 (nI P) (nI m) (nI st) kx Q
section ZN
variable {R0 R : z_RS} {T : Nat → Nat × Nat × Int32} {mT cc P m st : Nat} {kx : Int32}
theorem r183 (h : z_KR R0 T mT cc (P + 1) R) (hP : P < 700) (ht : z_tpk P m st kx R) (hm : m < 600) {kd : Int32} (hk : z_fn 0 (R0.1 57) m = kd) {Q : Option Value → z_RS → Prop} (k : z_d183 kd P m st kx (z_stg P st R) Q) : z_WR 10 183 19 [(0, .ref 148)] [] R Q := by
  obtain ⟨h1, h2, h3, h4, h5, h6⟩ := h
  have cP : (nI P).toNatClampNeg = P := nI_clamp (by omega)
  have cm : (nI m).toNatClampNeg = m := nI_clamp (by omega)
  have e1 : R.2.2 41 82 - 1 = nI P := by
    rw [h4]
    exact nI_pred P
  have e57 : R.1 57 = R0.1 57 := h2.1 57 (by decide) (by decide)
  have zi : z_in (nI P) 700 = true := z_inI hP (by decide)
  refine t183_19 (B := R.1) (M := R.2.1) (U := R.2.2) ?_
  unfold p183_19
  rw [h4, if_neg (show ¬ nI (P + 1) ≤ 0 from nI_ge (a := 0) (by omega) (by omega))]
  unfold p183_26
  rw [if_pos h5]
  unfold p183_33
  rw [e1, cP, ht.1, ht.2.1, ht.2.2, cm, e57, hk, nI_1]
  exact ⟨zi, zi, zi, zi, zi, z_inI hm (by decide), k⟩
/-- a fault is told: the loop ends -/
theorem r183d {l : Nat} {x y : Int32} (h : z_Td x y R.2.2) {Q : Option Value → z_RS → Prop} (k : Q none R) : z_WR (l + 1) 183 19 [(0, .ref 148)] [] R Q := by
  refine t183_19 (B := R.1) (M := R.2.1) (U := R.2.2) ?_
  unfold p183_19
  by_cases q : R.2.2 41 82 ≤ 0
  · rw [if_pos q]
    exact k
  · rw [if_neg q]
    unfold p183_26
    rw [if_neg h.n0]
    exact k
theorem r187 {l : Nat} {ty ef : Int32} {G : z_RS → Prop} (h : R.2.2 41 82 = nI (P + 1)) (hm : m < 600) (k : G (z_typ P m ty ef R)) : z_WR (l + 1) 187 0 [(0, .ref 148), (1, .int (nI m)), (2, .int ty), (3, .int ef)] [] R (fun x R1 => x = none ∧ G R1) := by
  have cm : (nI m).toNatClampNeg = m := nI_clamp (by omega)
  have e1 : R.2.2 41 82 - 1 = nI P := by
    rw [h]
    exact nI_pred P
  refine t187_0 (B := R.1) (M := R.2.1) (U := R.2.2) ?_
  unfold p187_0
  rw [cm, e1]
  exact ⟨z_inI hm (by decide), z_inI hm (by decide), rfl, k⟩
theorem r184 {l : Nat} {G : z_RS → Prop} (h : R.2.2 41 82 = nI P) (hP : P < 700) (k : G (z_pil P m kx R)) : z_WR (l + 1) 184 0 [(0, .ref 148), (1, .int (nI m)), (2, .int kx)] [] R (fun x R1 => x = none ∧ G R1) := by
  have cP : (nI P).toNatClampNeg = P := nI_clamp (by omega)
  have zi : z_in (nI P) 700 = true := z_inI hP (by decide)
  refine t184_0 (B := R.1) (M := R.2.1) (U := R.2.2) ?_
  unfold p184_0
  rw [h, cP, nI_1]
  exact ⟨zi, zi, zi, rfl, k⟩
theorem r186 {l : Nat} {q w ty nx : Int32} {G : Int32 → z_RS → Prop} (h : R.2.2 41 77 = nI cc) (hc : cc < 200000) (k : G (nI cc) (z_bnd cc q w ty nx R)) : z_WR (l + 1) 186 0 [(0, .ref 148), (1, .int q), (2, .int w), (3, .int ty), (4, .int nx)] [] R (fun x R1 => ∃ v : Int32, x = some (.int v) ∧ G v R1) := by
  have cP : (nI cc).toNatClampNeg = cc := nI_clamp (by omega)
  have zi : z_in (nI cc) 200000 = true := z_inI hc (by decide)
  refine t186_0 (B := R.1) (M := R.2.1) (U := R.2.2) ?_
  unfold p186_0
  rw [h, cP, nI_1]
  exact ⟨zi, zi, zi, zi, nI cc, rfl, k⟩
/-- what must be is -/
theorem r190 {l : Nat} {x y : Int32} {G : z_RS → Prop} (k : G R) : z_WR (l + 1) 190 0 [(0, .ref 148), (1, .int 1), (2, .int x), (3, .int y)] [] R (fun x R1 => x = none ∧ G R1) := by
  refine t190_0 (B := R.1) (M := R.2.1) (U := R.2.2) ?_
  unfold p190_0
  rw [if_neg (by decide)]
  exact ⟨rfl, k⟩
/-- what must be is not: the fault is told -/
theorem r190f {l : Nat} {x y : Int32} {G : z_RS → Prop} (h : R.2.2 41 11 = 0) (k : G (R.1, R.2.1, z_UF R.2.2 x y)) : z_WR (l + 1) 190 0 [(0, .ref 148), (1, .int 0), (2, .int x), (3, .int y)] [] R (fun x R1 => x = none ∧ G R1) := by
  refine t190_0 (B := R.1) (M := R.2.1) (U := R.2.2) ?_
  unfold p190_0
  rw [if_pos rfl]
  exact ⟨none, _, f150 h, rfl, rfl, k⟩
/-- a fault was told already -/
theorem r190d {l : Nat} {x y v a c : Int32} {G : z_RS → Prop} (h : z_Td a c R.2.2) (k : G R) : z_WR (l + 1) 190 0 [(0, .ref 148), (1, .int v), (2, .int x), (3, .int y)] [] R (fun x R1 => x = none ∧ G R1) := by
  refine t190_0 (B := R.1) (M := R.2.1) (U := R.2.2) ?_
  unfold p190_0
  by_cases e : v = 0
  · rw [if_pos e]
    exact ⟨none, _, d150 h, rfl, rfl, k⟩
  · rw [if_neg e]
    exact ⟨rfl, k⟩
theorem z_stg_o {k : Nat} (hk : k ≠ 103) : (z_stg P st R).1 k = R.1 k := z_un hk
theorem z_stg_103 : (z_stg P st R).1 103 = (P, nI (st + 1)) :: R.1 103 := rfl
theorem z_typ_o {ty ef : Int32} {k : Nat} (hk : ¬ (106 ≤ k ∧ k ≤ 107)) : (z_typ P m ty ef R).1 k = R.1 k := by
  show z_u (z_u R.1 106 ((m, ty) :: R.1 106)) 107 ((m, ef) :: R.1 107) k = R.1 k
  rw [z_un (by omega), z_un (by omega)]
theorem z_typ_106 {ty ef : Int32} : (z_typ P m ty ef R).1 106 = (m, ty) :: R.1 106 := rfl
theorem z_typ_107 {ty ef : Int32} : (z_typ P m ty ef R).1 107 = (m, ef) :: R.1 107 := rfl
theorem z_typ_U {ty ef : Int32} {k j : Nat} (h : ¬ (k = 41 ∧ j = 82)) : (z_typ P m ty ef R).2.2 k j = R.2.2 k j := z_vn h
theorem z_typ_82 {ty ef : Int32} : (z_typ P m ty ef R).2.2 41 82 = nI P := rfl
theorem z_pil_o {k : Nat} (hk : ¬ (102 ≤ k ∧ k ≤ 104)) : (z_pil P m kx R).1 k = R.1 k := by
  show z_u (z_u (z_u R.1 102 ((P, nI m) :: R.1 102)) 103 ((P, 0) :: R.1 103)) 104 ((P, kx) :: R.1 104) k = R.1 k
  rw [z_un (by omega), z_un (by omega), z_un (by omega)]
theorem z_pil_102 : (z_pil P m kx R).1 102 = (P, nI m) :: R.1 102 := rfl
theorem z_pil_103 : (z_pil P m kx R).1 103 = (P, 0) :: R.1 103 := rfl
theorem z_pil_104 : (z_pil P m kx R).1 104 = (P, kx) :: R.1 104 := rfl
theorem z_pil_U {k j : Nat} (h : ¬ (k = 41 ∧ j = 82)) : (z_pil P m kx R).2.2 k j = R.2.2 k j := z_vn h
theorem z_pil_82 : (z_pil P m kx R).2.2 41 82 = nI (P + 1) := rfl
theorem z_pil_tk : z_tpk P m 0 kx (z_pil P m kx R) := ⟨by rw [z_pil_102, z_fcs], by rw [z_pil_103, z_fcs]; rfl, by rw [z_pil_104, z_fcs]⟩
theorem z_bnd_o {q w ty nx : Int32} {k : Nat} (hk : ¬ (98 ≤ k ∧ k ≤ 101)) : (z_bnd cc q w ty nx R).1 k = R.1 k := by
  show z_u (z_u (z_u (z_u R.1 98 ((cc, q) :: R.1 98)) 99 ((cc, w) :: R.1 99)) 100 ((cc, ty) :: R.1 100)) 101 ((cc, nx) :: R.1 101) k = R.1 k
  rw [z_un (by omega), z_un (by omega), z_un (by omega), z_un (by omega)]
theorem z_bnd_98 {q w ty nx : Int32} : (z_bnd cc q w ty nx R).1 98 = (cc, q) :: R.1 98 := rfl
theorem z_bnd_99 {q w ty nx : Int32} : (z_bnd cc q w ty nx R).1 99 = (cc, w) :: R.1 99 := rfl
theorem z_bnd_100 {q w ty nx : Int32} : (z_bnd cc q w ty nx R).1 100 = (cc, ty) :: R.1 100 := rfl
theorem z_bnd_101 {q w ty nx : Int32} : (z_bnd cc q w ty nx R).1 101 = (cc, nx) :: R.1 101 := rfl
theorem z_bnd_U {q w ty nx : Int32} {k j : Nat} (h : ¬ (k = 41 ∧ j = 77)) : (z_bnd cc q w ty nx R).2.2 k j = R.2.2 k j := z_vn h
theorem z_bnd_77 {q w ty nx : Int32} : (z_bnd cc q w ty nx R).2.2 41 77 = nI (cc + 1) := rfl
theorem z_XU_stg : z_XU R (z_stg P st R) := ⟨fun k a b => z_stg_o (by omega), fun _ _ => rfl, fun _ _ _ => rfl⟩
theorem z_XU_typ {ty ef : Int32} : z_XU R (z_typ P m ty ef R) := ⟨fun k a b => z_typ_o (by omega), fun _ _ => rfl, fun k j a => z_typ_U (by omega)⟩
theorem z_XU_pil : z_XU R (z_pil P m kx R) := ⟨fun k a b => z_pil_o (by omega), fun _ _ => rfl, fun k j a => z_pil_U (by omega)⟩
theorem z_XU_bnd {q w ty nx : Int32} : z_XU R (z_bnd cc q w ty nx R) := ⟨fun k a b => z_bnd_o (by omega), fun _ _ => rfl, fun k j a => z_bnd_U (by omega)⟩
theorem z_XU_F {x y : Int32} : z_XU R (R.1, R.2.1, z_UF R.2.2 x y) := ⟨fun _ _ _ => rfl, fun _ _ => rfl, fun k j a => by
  show z_v (z_v R.2.2 41 11 x) 41 12 y k j = R.2.2 k j
  rw [z_vn (by omega), z_vn (by omega)]⟩
theorem z_KR.stg (h : z_KR R0 T mT cc P R) {p : Nat} : z_KR R0 T mT cc P (z_stg p st R) := ⟨h.1.kp (fun k a b => z_stg_o (by omega)) rfl, h.2.1.tr z_XU_stg, h.2.2.1, h.2.2.2.1, h.2.2.2.2⟩
theorem z_KR.typ (h : z_KR R0 T mT cc (P + 1) R) {ty ef : Int32} : z_KR R0 T mT cc P (z_typ P m ty ef R) := ⟨h.1.kp (fun k a b => z_typ_o (by omega)) (z_typ_U (by decide)), h.2.1.tr z_XU_typ, (z_typ_U (by decide)).trans h.2.2.1, z_typ_82, (z_typ_U (by decide)).trans h.2.2.2.2.1, (z_typ_U (by decide)).trans h.2.2.2.2.2⟩
theorem z_KR.pil (h : z_KR R0 T mT cc P R) : z_KR R0 T mT cc (P + 1) (z_pil P m kx R) := ⟨h.1.kp (fun k a b => z_pil_o (by omega)) (z_pil_U (by decide)), h.2.1.tr z_XU_pil, (z_pil_U (by decide)).trans h.2.2.1, z_pil_82, (z_pil_U (by decide)).trans h.2.2.2.2.1, (z_pil_U (by decide)).trans h.2.2.2.2.2⟩
theorem z_KR.bnd (h : z_KR R0 T mT cc P R) {q w ty nx : Int32} : z_KR R0 T mT (cc + 1) P (z_bnd cc q w ty nx R) := ⟨h.1.kp (fun k a b => z_bnd_o (by omega)) (z_bnd_U (by decide)), h.2.1.tr z_XU_bnd, z_bnd_77, (z_bnd_U (by decide)).trans h.2.2.2.1, (z_bnd_U (by decide)).trans h.2.2.2.2.1, (z_bnd_U (by decide)).trans h.2.2.2.2.2⟩
variable {u : z_Bd} {P' : Nat}
theorem z_Fl.stg (hP : P' ≤ P) : z_Fl u cc P' R (z_stg P st R) := by
  refine ⟨fun k a b j c => by rw [z_stg_o (by omega)], fun k a b j c => ?_, fun k a b j c => by rw [z_stg_o (by omega)]⟩
  by_cases e : k = 103
  · rw [e, z_stg_103, z_fcn (by omega)]
  · rw [z_stg_o e]
theorem z_Fl.typ (hm : u.1.1 ≤ m ∧ m < u.1.2) {ty ef : Int32} : z_Fl u cc P' R (z_typ P m ty ef R) := by
  refine ⟨fun k a b j c => by rw [z_typ_o (by omega)], fun k a b j c => by rw [z_typ_o (by omega)], fun k a b j c => ?_⟩
  have hj : j ≠ m := fun e => c (by rw [e]; exact hm)
  by_cases e : k = 106
  · rw [e, z_typ_106, z_fcn hj]
  · by_cases e2 : k = 107
    · rw [e2, z_typ_107, z_fcn hj]
    · rw [z_typ_o (by omega)]
theorem z_Fl.pil (hP : P' ≤ P) : z_Fl u cc P' R (z_pil P m kx R) := by
  refine ⟨fun k a b j c => by rw [z_pil_o (by omega)], fun k a b j c => ?_, fun k a b j c => by rw [z_pil_o (by omega)]⟩
  rcases (show k = 102 ∨ k = 103 ∨ k = 104 ∨ k = 105 by omega) with rfl | rfl | rfl | rfl
  · rw [z_pil_102, z_fcn (by omega)]
  · rw [z_pil_103, z_fcn (by omega)]
  · rw [z_pil_104, z_fcn (by omega)]
  · rw [z_pil_o (by decide)]
theorem z_Fl.bnd {q w ty nx : Int32} {cc' : Nat} (hc : cc' ≤ cc) : z_Fl u cc' P' R (z_bnd cc q w ty nx R) := by
  refine ⟨fun k a b j c => ?_, fun k a b j c => by rw [z_bnd_o (by omega)], fun k a b j c => by rw [z_bnd_o (by omega)]⟩
  rcases (show k = 98 ∨ k = 99 ∨ k = 100 ∨ k = 101 by omega) with rfl | rfl | rfl | rfl
  · rw [z_bnd_98, z_fcn (by omega)]
  · rw [z_bnd_99, z_fcn (by omega)]
  · rw [z_bnd_100, z_fcn (by omega)]
  · rw [z_bnd_101, z_fcn (by omega)]
end ZN
