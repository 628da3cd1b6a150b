/-! The soundness of the plain machine, by induction on its fuel. -/
section ZWALK
variable {l : Launch} {ad : Nat → Nat} {dA : Nat → ClassId} {D : va_G} {cl : List vw_C} {Ts : List Cond} {sz : Nat} {G : z_G} {P : z_Q} {B : z_B} {my : Nat → MethodName} {mb : Nat → ByteArray} {stl : List (String × String × String × Value)} {cW : String} {Wd : State → Prop}
/-- all that is asked of the world and of the program -/
def z_Hyp (l : Launch) (ad : Nat → Nat) (dA : Nat → ClassId) (D : va_G) (cl : List vw_C) (Ts : List Cond) (sz : Nat) (G : z_G) (P : z_Q) (B : z_B) (my : Nat → MethodName) (mb : Nat → ByteArray) (stl : List (String × String × String × Value)) (cW : String) (Wd : State → Prop) : Prop :=
  (∀ i, ad (G.1.1 + i) = sz + i) ∧ (∀ i, i < G.1.2.1 → ad i < sz) ∧ (∀ i j, i < G.1.2.1 → j < G.1.2.1 → ad i = ad j → i = j) ∧
  z_Cl cl G.2.2.1.2 Ts ∧ (∀ ci C T N, cl[ci]? = some (C, T, N) → G.2.2.1.1 ci = N) ∧ (∀ j v, G.2.2.2.2.1 j = some v → ∃ C n d, stl[j]? = some (C, n, d, v)) ∧ G.2.1.1[G.2.1.2]? = some (.object cW) ∧
  (∀ w ∈ Ts, z_good w) ∧ (∀ U, Wd U → ∀ b, (G.2.2.2.2.2.2.2.1 b 99).isSome = true → va_O "java/lang/String" (ad b) (z_A sz) U U.heap) ∧ (∀ U, Wd U → ∀ (ca cb : Nat) (ra rb : vw_C), cl[ca]? = some ra → cl[cb]? = some rb → G.2.2.2.2.2.2.2.2 ca cb = true → U.vm.assignable (D.1 ca) (D.1 cb) = false) ∧ z_okP my mb P cl G.2.1.1 stl Ts ∧ (∀ e, l.admits e → e.platform.stackTraces = false) ∧
  (∀ U, Wd U → z_Wd G sz D cl dA ad stl cW U) ∧ (∀ U V : State, Wd U → U.WarmedH V.vm → U.heap.size ≤ V.heap.size → (∀ q, q < U.heap.size → ¬ sz ≤ q → V.heap[q]? = U.heap[q]?) → Wd V) ∧
  (∀ {p : Program} {e : Env} {R : Room} {s : State} {m : MethodId} {args : Array Value} {below : List Frame} {meth : Method} {c : Code} {H : Heap} {locs : List Loc} {cells slots n0 s0 f w mi pc : Nat} {ls : Array Slot} {lv : List (Nat × Value)} {st : List Value} {S : z_S} {idx len ci q : Nat},
    z_Cx my mb P Ts mi p e s m args meth c → Wd s → z_At G P sz D cl ad dA R s H locs cells slots n0 s0 f w mi ls lv S → P.1 mi pc = some (.new idx, len, [9, ci, q]) → (len = 3 ∧ 6 ≤ f ∧ 150 ≤ w ∧ z_wt st ≤ 8 ∧ S.1.length + 1 ≤ G.1.2.2.1 ∧ S.2 + 6 ≤ G.1.2.2.2 ∧ z_fh G.2.2.2.2.2.2.2.2 pc ci (P.2.2.2.1 mi) (P.2.2.2.2.1 mi) = some none) →
    W p l e R s m args below meth c H locs cells slots (z_MQ below (z_Qc sz D cl ad dA G.1.1 (.inr (G.1.1 + S.1.length)) (S.1 ++ [.inr (ci, [])])) args s ((S.1 ++ [(.inr (ci, []) : z_E)]).length - n0) (S.2 + 6 - s0) (z_A sz)) (F0 m pc ls (st.map (z_tr ad)))) ∧
  (∀ {p : Program} {e : Env} {R : Room} {s : State} {m : MethodId} {args : Array Value} {below : List Frame} {meth : Method} {c : Code} {H : Heap} {locs : List Loc} {cells slots n0 s0 f w mi pc : Nat} {ls : Array Slot} {lv : List (Nat × Value)} {st st' : List Value} {S S' : z_S} {i : Instr} {len : Nat} {aux : List Nat} {Q : State → Prop},
    z_Cx my mb P Ts mi p e s m args meth c → Wd s → z_At G P sz D cl ad dA R s H locs cells slots n0 s0 f w mi ls lv S → P.1 mi pc = some (i, len, aux) → B i len aux lv st S = some (st', S') → (S'.1.length = S.1.length ∧ S'.2 = S.2 ∧ 1 ≤ f ∧ 60 ≤ w) →
    (∀ (H' : Heap) (locs' : List Loc), va_P D cl (z_W ad dA G.1.1 S'.1) H' → va_S (z_A sz) s.heap H' locs' → W p l e R s m args below meth c H' locs' cells slots Q (F0 m (pc + len) ls (st'.map (z_tr ad)))) →
    W p l e R s m args below meth c H locs cells slots Q (F0 m pc ls (st.map (z_tr ad))))
/-- the walk from anywhere -/
def z_Wk (l : Launch) (ad : Nat → Nat) (dA : Nat → ClassId) (D : va_G) (cl : List vw_C) (Ts : List Cond) (sz : Nat) (G : z_G) (P : z_Q) (B : z_B) (my : Nat → MethodName) (mb : Nat → ByteArray) (Wd : State → Prop) (n : Nat) : Prop :=
  ∀ {f w mi pc : Nat} {lv : List (Nat × Value)} {st : List Value} {S : z_S} {o : z_O} {S' : z_S}, z_ev G P B n f w mi pc lv st S = some (o, S') → z_okX my P cl Ts mi →
  ∀ {p : Program} {e : Env} {R : Room} {s : State} {m : MethodId} {args : Array Value} {below : List Frame} {meth : Method} {c : Code} {H : Heap} {locs : List Loc} {cells slots n0 s0 : Nat} {ls : Array Slot},
    z_Cx my mb P Ts mi p e s m args meth c → Wd s → z_At G P sz D cl ad dA R s H locs cells slots n0 s0 f w mi ls lv S →
    W p l e R s m args below meth c H locs cells slots (z_MQ below (z_Qc sz D cl ad dA G.1.1 o S'.1) args s (S'.1.length - n0) (S'.2 - s0) (z_A sz)) (F0 m pc ls (st.map (z_tr ad)))
theorem z_met_of (hy : z_Hyp l ad dA D cl Ts sz G P B my mb stl cW Wd) {n : Nat} (hk : z_Wk l ad dA D cl Ts sz G P B my mb Wd n) {f w mi : Nat} {as : List Value} {S : z_S} {o : z_O} {S' : z_S} (h : z_ev G P B n f w mi 0 (lv_args 0 as) [] S = some (o, S')) (hm : z_okM my mb P cl Ts mi) (has : z_wt as ≤ P.2.1 mi) :
    z_Met l (my mi) Ts { frames := f, cells := G.1.2.2.1 - S.1.length, slots := G.1.2.2.2 - S.2, locals := w } (z_Pc sz D cl ad dA G.1.1 Wd as S.1) (z_Qc sz D cl ad dA G.1.1 o S'.1) (S'.1.length - S.1.length) (S'.2 - S.2) (z_A sz) := by
  obtain ⟨had, hlo, hinj, hcl, hcN, hst, htW, hgd, hsr, hnc, hpg, htr, hwd, hmv, hth, hbi⟩ := hy
  refine z_ofW hm.2.1 hm.1 ?_
  intro p e s m args below meth c s₁ Bd hml htb hPc
  obtain ⟨rfl, hW, hP, hsz⟩ := hPc
  have hl := lv_entry (as.map (z_tr ad)) (n := P.2.1 mi) (by rw [z_sl_len]; exact has)
  rw [lg_entry_eq]
  generalize (lg_sl (as.map (z_tr ad)) ++ List.replicate (P.2.1 mi - (lg_sl (as.map (z_tr ad))).length) Slot.unset).toArray = ls at hl ⊢
  rw [z_args_tr] at hl
  exact hk h hm.2.2.2.2 ⟨Bd.exec, Bd.bytes, hml, findClass_of_methodNamed Bd.named, atoms_spec (ws := Ts) Bd.pre, Bd.returns, Bd.notSynchronized, (name_of_methodNamed Bd.named Bd.method).1, htb, htr e Bd.admits⟩ hW
    ⟨hl, hP, va_S.rf, hsz, by simp, by simp, by show _ ≤ (G.1.2.2.1 - S.1.length) + S.1.length; omega, by show _ ≤ (G.1.2.2.2 - S.2) + S.2; omega, Nat.le_refl _, Nat.le_refl _⟩
set_option maxHeartbeats 4000000 in
theorem z_walk (hy : z_Hyp l ad dA D cl Ts sz G P B my mb stl cW Wd) : ∀ n, z_Wk l ad dA D cl Ts sz G P B my mb Wd n := by
  intro n
  induction n with
  | zero =>
    intro f w mi pc lv st S o S' h
    simp [z_ev] at h
  | succ n ih =>
    intro f w mi pc lv st S o S' h hmi p e R s m args below meth c H locs cells slots n0 s0 ls hcx hWd hat
    obtain ⟨had, hlo, hinj, hcl, hcN, hst, htW, hgd, hsr, hnc, hpg, htr, hwd, hmv, hth, hbi⟩ := id hy
    obtain ⟨hx, hb, hml, hown, hts, hr, hlk, hnm, htb, htrc⟩ := id hcx
    obtain ⟨hl, hP, hS, hn0, hce, hsl, hRc, hRs, hf, hw⟩ := id hat
    unfold z_ev at h
    split at h
    · cases h
    · rename_i i len aux hcd
      obtain ⟨hdg, hoF, hoH, hoC, hoM⟩ := hpg mi pc i len aux hcd
      split at h
      · rename_i v hret
        cases h
        exact z_ret_ok hcx hat hdg hret
      · split at h
        · rename_i mj as r hinv
          split at h
          · rename_i hc
            obtain ⟨⟨rfl, hc1, hc2⟩, ⟨hc3, hc4⟩, hc5, hc6⟩ := hc
            obtain ⟨hmj, hgo⟩ := z_inv_go (l := l) (below := below) (hsr s hWd) had (hwd s hWd).1 hcx hat hdg hoC hoM hinv
            have hws : ∀ w ∈ Ts, ∀ (a' : Array Value) (U : State), s.WarmedH U.vm → w.before a' U = true := fun w hw a' U hW => z_wat hW (hgd w hw) (hts w hw)
            have hPcU : H.size ≤ sz + S.1.length → ∀ U : State, U.heap = H → s.WarmedH U.vm → z_Pc sz D cl ad dA G.1.1 Wd as S.1 (as.map (z_tr ad)).toArray U := by
              intro hle U hU hW
              have hge := z_size had hP hS hn0 (by omega)
              refine ⟨rfl, hmv s U hWd hW (by rw [hU]; exact hS.1) (fun q h1 h2 => by rw [hU]; exact hS.2.1 q h1 h2), by rw [hU]; exact hP, by rw [hU]; omega⟩
            have hbl : FrameBlind (z_Pc sz D cl ad dA G.1.1 Wd as S.1) := by
              intro a U g mk hq
              obtain ⟨q1, q2, q3, q4⟩ := hq
              exact ⟨q1, hmv U (U.calling g mk a) q2 (State.WarmedH.refl U) (Nat.le_refl _) (fun _ _ _ => rfl), q3, q4⟩
            have hdc : decode c.code pc = .ok (i, 3) := by rw [hb]; exact hdg
            refine z_pin (N := sz + S.1.length) (by omega) (fun hle => ?_)
            split at h
            · rename_i v S1 hev
              split at h
              · rename_i hg
                have hM := z_met_of hy ih hev hmj hc4
                refine z_call hgo hM hbl hmj.1 (by show f - 1 + 1 ≤ R.frames; omega) (by show 8 + (P.2.1 mj + 11) + (w - (19 + P.2.1 mj)) ≤ R.locals; omega) (by show cells + (G.1.2.2.1 - S.1.length) ≤ R.cells; omega) (by show slots + (G.1.2.2.2 - S.2) ≤ R.slots; omega) (hl.1.trans hml.symm) hdc (by rw [z_wt_tr]; exact hc3) hws (fun a' U hW => hws _ hmj.2.2.2.1 a' U hW) (hPcU hle) ?_
                intro o' st' t T' L hst' e1 e2 hal hq hL X'
                obtain ⟨rfl, q2, q3, q4⟩ := hq
                rw [hst'] at q3 q4
                have hS' : va_S (z_A sz) s.heap T'.heap (locs ++ L) := by
                  refine ⟨Nat.le_trans hS.1 (by rw [e1]; exact q3), fun q h1 h2 => ?_, fun q hq => ?_⟩
                  · rw [e1, q4 q (Nat.lt_of_lt_of_le h1 hS.1) h2]
                    exact hS.2.1 q h1 h2
                  · rcases List.mem_append.mp hq with h3 | h3
                    · exact hS.2.2 q h3
                    · exact hL q h3
                obtain ⟨t2, a1, b1⟩ := ih h hmi hcx hWd (ls := ls) (n0 := n0) (s0 := s0) (cells := cells + (S1.1.length - S.1.length)) (slots := slots + (S1.2 - S.2)) (H := T'.heap) (locs := locs ++ L) (below := below) ⟨hl, by rw [e1]; exact q2, hS', hn0, by omega, by omega, hRc, hRs, hf, hw⟩ T' rfl X'
                refine ⟨t2, fun u hu => ?_, b1⟩
                refine Steps.trans hu ?_
                have e3 : ({ F0 m pc ls (r.map (z_tr ad)) with pc := pc + 3, stack := (v.map (z_tr ad)).toList ++ r.map (z_tr ad) } : JFrame) = F0 m (pc + 3) ls ((v.toList ++ r).map (z_tr ad)) := by
                  cases v <;> rfl
                show Steps p.tables e below (T'.setTop { F0 m pc ls (r.map (z_tr ad)) with pc := pc + 3, stack := (v.map (z_tr ad)).toList ++ r.map (z_tr ad) }) t2
                rw [e3]
                exact a1
              · cases h
            · rename_i a S1 hev
              split at h
              · rename_i hg
                have hM := z_met_of hy ih hev hmj hc4
                refine z_call hgo hM hbl hmj.1 (by show f - 1 + 1 ≤ R.frames; omega) (by show 8 + (P.2.1 mj + 11) + (w - (19 + P.2.1 mj)) ≤ R.locals; omega) (by show cells + (G.1.2.2.1 - S.1.length) ≤ R.cells; omega) (by show slots + (G.1.2.2.2 - S.2) ≤ R.slots; omega) (hl.1.trans hml.symm) hdc (by rw [z_wt_tr]; exact hc3) hws (fun a' U hW => hws _ hmj.2.2.2.1 a' U hW) (hPcU hle) ?_
                intro o' st' t T' L hst' e1 e2 hal hq hL X'
                obtain ⟨rfl, q2, q3, q4⟩ := hq
                rw [hst'] at q3 q4
                have hS' : va_S (z_A sz) s.heap T'.heap (locs ++ L) := by
                  refine ⟨Nat.le_trans hS.1 (by rw [e1]; exact q3), fun q h1 h2 => ?_, fun q hq => ?_⟩
                  · rw [e1, q4 q (Nat.lt_of_lt_of_le h1 hS.1) h2]
                    exact hS.2.1 q h1 h2
                  · rcases List.mem_append.mp hq with h3 | h3
                    · exact hS.2.2 q h3
                    · exact hL q h3
                split at h
                · rename_i ci hcls
                  split at h
                  · rename_i hfh
                    cases h
                    obtain ⟨t2, a1, b1⟩ := z_leave (Qc := z_Qc sz D cl ad dA G.1.1 (.inr a) S'.1) (free := z_A sz) (st := r.map (z_tr ad)) (ls := ls) (pc := pc) (x := ad a) X' hlk (fun q hq => z_fh_none hfh q (by rw [← htb]; exact hq)) (fun t3 h3 _ => ⟨rfl, by rw [h3, e1]; exact q2, by rw [h3]; exact hS'.1, fun q h4 h5 => by rw [h3]; exact hS'.2.1 q h4 h5⟩) hS'.2.2
                    have e4 : cells + (S'.1.length - S.1.length) = S'.1.length - n0 := by omega
                    have e5 : slots + (S'.2 - S.2) = S'.2 - s0 := by omega
                    rw [e4, e5] at b1
                    exact ⟨t2, fun u hu => Steps.trans hu a1, b1⟩
                  · rename_i hp hfh
                    obtain ⟨k, q, k1, k2, k3, k4, k5⟩ := z_fh_some hfh
                    obtain ⟨g1, C, Tt, N, g2, g3⟩ := hmi k q ci k1 k2
                    unfold z_cls at hcls
                    split at hcls
                    · rename_i hKa
                      split at hcls
                      · rename_i ob hob
                        have hoc : ob.1 = ci := Option.some.inj hcls
                        have h3 := z_W_get (ad := ad) (dA := dA) (K := G.1.1) hob
                        rw [z_bk hKa] at h3
                        have hP' : va_P D cl (z_W ad dA G.1.1 S1.1) T'.heap := by rw [e1]; exact q2
                        obtain ⟨cell, r1, r2, r3⟩ := va_recv (ci := ci) (s := s) (hwd s hWd).1 hP' g2 (by rw [h3, ← hoc]; rfl)
                        have hsp : c.exceptionTable.toList = tableOf ((P.2.2.2.1 mi).take k) ++ ⟨q.1, q.2.1, q.2.2.1, q.2.2.2⟩ :: tableOf ((P.2.2.2.1 mi).drop (k + 1)) := by
                          rw [htb]
                          have hkl := (List.getElem?_eq_some_iff.mp k1).1
                          have h5 : P.2.2.2.1 mi = (P.2.2.2.1 mi).take k ++ q :: (P.2.2.2.1 mi).drop (k + 1) := by
                            rw [← (List.getElem?_eq_some_iff.mp k1).2, List.getElem_cons_drop, List.take_append_drop]
                          conv => lhs; rw [h5]
                          simp [tableOf]
                        have hpass : ∀ y ∈ tableOf ((P.2.2.2.1 mi).take k), z_pass (my mi).cls args s cell.cls pc y := by
                          intro y hy
                          unfold tableOf at hy
                          obtain ⟨qj, hqj, rfl⟩ := List.mem_map.mp hy
                          obtain ⟨j, hj⟩ := List.getElem?_of_mem hqj
                          rw [List.getElem?_take] at hj
                          split at hj
                          · rename_i hjk
                            obtain ⟨xj, hxj, hor⟩ := k5 j qj hjk hj
                            rcases hor with hn | hnc'
                            · exact Or.inl (z_ncov hn)
                            · obtain ⟨y1, C2, T2, N2, y2, y3⟩ := hmi j qj xj hj hxj
                              refine Or.inr ⟨y1, C2, D.1 xj, hts _ y3, ((hwd s hWd).1.1 xj _ y2).2.1, ?_⟩
                              have hcc : cell.cls = D.1 ci := Option.some.inj (r3.symm.trans ((hwd s hWd).1.1 ci _ g2).2.1)
                              rw [hcc]
                              exact hnc s hWd ci xj _ _ g2 y2 hnc'
                          · cases hj
                        obtain ⟨vm', Xv, stv⟩ := z_caught (ls := ls) (st := r.map (z_tr ad)) (pc := pc) (x := ad a) X' hown hsp (by simp [covers, k4.1, k4.2]) g1 (hts _ g3) r3 r1 r2 (va_assign ⟨r3, ((hwd s hWd).1.1 ci _ g2).2.2 |> fun z => by
                          obtain ⟨kc, z1, z2⟩ := z
                          exact ⟨kc, by rw [← Option.some.inj (r3.symm.trans ((hwd s hWd).1.1 ci _ g2).2.1)] at z1; exact z1, z2⟩⟩) hpass
                        obtain ⟨t2, a1, b1⟩ := ih h hmi hcx hWd (ls := ls) (n0 := n0) (s0 := s0) (cells := cells + (S1.1.length - S.1.length)) (slots := slots + (S1.2 - S.2)) (H := T'.heap) (locs := locs ++ L) (below := below) ⟨hl, hP', hS', hn0, by omega, by omega, hRc, hRs, hf, hw⟩ (T'.setVm vm') rfl Xv
                        refine ⟨t2, fun u hu => Steps.trans hu (stv t2 ?_), b1⟩
                        show Steps p.tables e below ((T'.setVm vm').setTop (F0 m q.2.2.1 ls [.ref (ad a)])) t2
                        rw [k3]
                        exact a1
                      · cases hcls
                    · cases hcls
                  · cases h
                · cases h
              · cases h
            · cases h
          · cases h
        · split at h
          · rename_i idx q
            split at h
            · rename_i b r
              split at h
              · rename_i hc
                obtain ⟨rfl, hc1, hc2, hc3⟩ := hc
                obtain ⟨g1, g2, g3⟩ := hoC
                have hwt := z_wt_tr ad r
                exact W.objInit hx hb hown (hts _ g1) (hts _ g2) (hts _ g3) rfl (hl.1.trans hml.symm) rfl hdg (by omega) (by show 2 * 0 + _ + 12 ≤ R.locals; omega) (ih h hmi hcx hWd hat)
              · cases h
            · cases h
          · rename_i idx ci q
            split at h
            · rename_i hc
              cases h
              exact hth hcx hWd hat hcd hc
            · cases h
          · split at h
            · rename_i st' S1 hB
              split at h
              · rename_i hc
                have hc' := hc
                obtain ⟨d1, d2, d3, d4⟩ := hc'
                exact hbi hcx hWd hat hcd hB hc (fun H' locs' hp hs => ih h hmi hcx hWd ⟨hl, hp, hs, hn0, by omega, by omega, hRc, hRs, hf, hw⟩)
              · cases h
            · split at h
              · rename_i pc' lv' st' S1 hstep
                exact z_step_ok had hlo hinj hcl hcN hst htW hx hb hts hown (fun q => by rw [hnm]; exact of_decide_eq_true q) (hwd s hWd) hdg hoF hoH hl hP hS hn0 hce hsl hRc hRs hstep (fun ls' H' locs' cells' slots' h1 h2 h3 h4 h5 => ih h hmi hcx hWd ⟨h1, h2, h3, hn0, h4, h5, hRc, hRs, hf, hw⟩)
              · cases h
end ZWALK
