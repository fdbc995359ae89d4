def qv_N : Nat := 5000
/-! contracts, calls, loops, joins, switches -/
def qv_Pc (G : qv_GT) (L : List qv_Lc) (S : qv_St) (av : List Value) : Array Value → State → Prop := va_Pc av (fun U => qv_inj G.2.2.1 L ∧ va_P G.2.1 vwCl (qv_wd G.2.2.1 G.2.2.2 L S) U.heap ∧ va_K G.2.1 vwCl (qv_tys G.2.2.2) U ∧ qv_ro G L U)
def qv_ws (y : MethodName) (b : ByteArray) (maxL : Nat) (ret : Option FieldType) : List Cond := .code y b maxL ret :: gw_tbl
def Cn (G : qv_GT) (L : List qv_Lc) (y : MethodName) (b : ByteArray) (maxL : Nat) (ret : Option FieldType) (lev : Nat) (av : List Value) (S : qv_St) (r : qv_St × Option Value) : Prop := Met G.1 y (qv_ws y b maxL ret) (qv_room lev) (qv_Pc G L S av) (qv_Q G L r) 0 0 (qv_A G.2.2.1 L)
theorem cn_of {G : qv_GT} {L : List qv_Lc} {y : MethodName} {b : ByteArray} {maxL : Nat} {ret : Option FieldType} {lev : Nat} {av : List Value} {S : qv_St} {ρ : Type} {emb : ρ → qv_St × Option Value} {o : Option ρ} {lv : List (Nat × Value)} {own : String} (ho : y.cls = own) (hy : plainName y.cls = true) (hlen : (lg_sl av).length ≤ maxL) (hlv : lv_args 0 av = lv) (vv : ∀ X : qv_XT, VV G L X own b maxL ret lev emb 0 lv [] S o) : ∀ r : ρ, o = some r → Cn G L y b maxL ret lev av S (emb r) := by
  intro r hr
  subst hlv
  subst ho
  refine Met.ofW (cc := b) (maxL := maxL) (ret := ret) hy rfl ?_
  intro p e s m args below meth c s₁ B hml hv
  obtain ⟨rfl, hinj, hP, hK, hro⟩ := hv
  have hts := atoms_spec (ws := qv_ws y b maxL ret) B.pre
  have hown : s.vm.findClass y.cls = some m.cls := findClass_of_methodNamed B.named
  have hl := lv_entry av hlen
  rw [lg_entry_eq]
  exact vv (p, e, s, m, av.toArray, below, meth, c) r hr ⟨⟨B.exec, B.bytes, hml, hown, fun w h => hts w (List.mem_cons_of_mem _ h)⟩, B.returns, B.notSynchronized, hK, hinj, hro⟩ s.heap [] _ hP va_S.rf hl
def qv_cv (own : String) (idx : Nat) (y : MethodName) (b : ByteArray) (maxL : Nat) (ret : Option FieldType) (n : Nat) : Prop := (Cond.methodLink own idx y ∈ gw_tbl ∧ Cond.instanceMethod y ∈ gw_tbl ∧ Cond.selects y.cls y y ∈ gw_tbl ∧ Cond.initialized y.cls ∈ gw_tbl ∧ Cond.code y b maxL ret ∈ gw_tbl) ∧ (y.cls ≠ "java/lang/invoke/MethodHandle" ∧ y.cls ≠ "java/lang/invoke/VarHandle" ∧ (parseMethodDescriptor y.desc).map (fun d => d.parameters.length) = some n)
def qv_cs (own : String) (idx : Nat) (y : MethodName) (b : ByteArray) (maxL : Nat) (ret : Option FieldType) (n : Nat) : Prop := (Cond.methodLink own idx y ∈ gw_tbl ∧ Cond.static y ∈ gw_tbl ∧ Cond.initialized y.cls ∈ gw_tbl ∧ Cond.code y b maxL ret ∈ gw_tbl) ∧ (y.cls ≠ "java/lang/invoke/MethodHandle" ∧ y.cls ≠ "java/lang/invoke/VarHandle" ∧ (parseMethodDescriptor y.desc).map (fun d => d.parameters.length) = some n)
theorem gw_ws {y : MethodName} {b : ByteArray} {maxL : Nat} {ret : Option FieldType} (h : Cond.code y b maxL ret ∈ gw_tbl) : GoodIn gw_tbl (qv_ws y b maxL ret) := by
  intro w hw
  rcases List.mem_cons.mp hw with rfl | hw
  · exact gw_good _ h
  · exact gw_good w hw
theorem qv_blind {G : qv_GT} {L : List qv_Lc} {S : qv_St} {av : List Value} : FrameBlind (qv_Pc G L S av) := fun a U g mk q => by
  obtain ⟨q0, q1, q2, q3, r1, r2, r3, r4, r5, r6⟩ := q
  exact ⟨q0, q1, q2, va_K.moved (u := U) (U := U.calling g mk a) (Vm.Alike.refl U.vm) q3, vk_S.moved (u := U) (U := U.calling g mk a) (Vm.Alike.refl U.vm) r1, vk_R.same (u := U) (U := U.calling g mk a) rfl r2, vk_R.same (u := U) (U := U.calling g mk a) rfl r3, va_Z.moved (u := U) (U := U.calling g mk a) (Vm.Alike.refl U.vm) r4, va_Z.moved (u := U) (U := U.calling g mk a) (Vm.Alike.refl U.vm) r5, va_Nw.same rfl (u := U) (U := U.calling g mk a) rfl r6⟩
section QVC
variable {cx sx : Nat} {G : qv_GT} {L : List qv_Lc} {X : qv_XT} {own : String} {cc : ByteArray} {nL : Nat} {ret : Option FieldType} {lev : Nat} {ρ : Type} {emb : ρ → qv_St × Option Value} {pc : Nat} {lv : List (Nat × Value)} {st : List Value} {S : qv_St} {o : Option ρ}
theorem qv_after {p : Program} {l : Launch} {e : Env} {R : Room} {s : State} {m : MethodId} {args : Array Value} {below : List Frame} {meth : Method} {c : Code} {H : Heap} {locs : List Loc} {Q : State → Prop} {ls : Array Slot} {st0 : List Value} {a : Array Value} {r2 : qv_St × Option Value} (run : va_Run p l e R s m args below meth c H locs cx sx 0 0 (F0 m pc ls st0) st (qv_Q G L r2 a) (qv_A G.2.2.1 L)) (hS : va_S (qv_A G.2.2.1 L) s.heap H locs)
    (kk : ∀ (H1 : Heap) (locs1 : List Loc), va_P G.2.1 vwCl (qv_wd G.2.2.1 G.2.2.2 L r2.1) H1 → va_S (qv_A G.2.2.1 L) s.heap H1 locs1 → W p l e R s m args below meth c H1 locs1 cx sx Q (F0 m (pc + 3) ls (r2.2.toList ++ st))) : W p l e R s m args below meth c H locs cx sx Q (F0 m pc ls st0) := by
  intro T hT X
  obtain ⟨v, st₀, t, T', Lx, h0, X', hL, e1, e2, ⟨hv, hP', hz, hk⟩, stp⟩ := run T hT X
  cases hv
  rw [h0] at hz hk
  obtain ⟨t2, a1, b1⟩ := kk T'.heap (locs ++ Lx) (by rw [e1]; exact hP') ⟨Nat.le_trans hS.1 (by rw [e1]; exact hz), fun q h1 h2 => by rw [e1, hk q (Nat.lt_of_lt_of_le h1 hS.1) h2]; exact hS.2.1 q h1 h2, fun q hq => by
      rcases List.mem_append.mp hq with h | h
      · exact hS.2.2 q h
      · exact hL q h⟩ T' rfl X'
  exact ⟨t2, stp t2 a1, b1⟩
theorem qr_cv {y : MethodName} {b : ByteArray} {maxL : Nat} {ret2 : Option FieldType} {lev2 idx na n : Nat} {ρ2 : Type} {emb2 : ρ2 → qv_St × Option Value} {of : Option ρ2} {ko : ρ2 → Option ρ} {st0 : List Value} (q : Nat) (As : List Value) {ci : Nat} {fs : List (Option Nat)} {T : u_T} {N : Nat} (hd : decode cc pc = .ok (.invokevirtual idx, 3)) (hn : pc + 3 = n) (cv : qv_cv own idx y b maxL ret2 na) (hna : As.length = na) (hst : st0 = As.reverse ++ .ref (G.2.2.1 q) :: st) (hsum : (st.map fun v => v.category).sum ≤ 8) (hlev : Nat.ble (lev2 + 1) lev = true) (hmax : Nat.ble maxL 45 = true) (hq : L[q]? = some (.inl (ci, fs))) (hcl : vwCl[ci]? = some (y.cls, T, N)) (hc : ∀ r2 : ρ2, of = some r2 → Cn G L y b maxL ret2 lev2 (.ref (G.2.2.1 q) :: As) S (emb2 r2))
    (k : ∀ r2 : ρ2, VVx cx sx G L X own cc nL ret lev emb n lv ((emb2 r2).2.toList ++ st) (emb2 r2).1 (ko r2)) : VVx cx sx G L X own cc nL ret lev emb pc lv st0 S (of.bind ko) := by
  subst hn
  subst hst
  intro r hr ok H locs ls hP hS hl
  cases ho : of with
  | none => rw [ho] at hr; cases hr
  | some r2 =>
    rw [ho] at hr
    obtain ⟨hx, hb, hml, hown, hts⟩ := ok.1
    have h1 := Nat.le_of_ble_eq_true hlev
    have h2 := Nat.le_of_ble_eq_true hmax
    refine qv_after (va_runV (As := As) (rest := st) ⟨hx, hb, hml, hown, hts⟩ (hc r2 ho) (C := y.cls) ⟨callB_of na hts (gw_ws cv.1.2.2.2.2) rfl rfl rfl (hts _ cv.1.2.2.2.1) (hts _ cv.1.1) cv.2 ⟨h1, by simp only [qv_room, qv_roomx]; omega⟩, hts _ cv.1.2.1, hts _ cv.1.2.2.1⟩ ⟨qv_blind, va_recv ok.2.2.2.1 hP hcl (qv_at_o hq), fun U hU hW => ⟨rfl, ok.2.2.2.2.1, by rw [hU]; exact hP, va_K.moved hW.alike ok.2.2.2.1, qv_ro_go ok.2.2.2.2.2 hS hU hW⟩⟩ rfl hna hl.1 rfl (lv_room hsum) hd ⟨Nat.le_refl _, Nat.le_refl _⟩) hS (fun H1 locs1 hP1 hS1 => ?_)
    exact k r2 r hr ok H1 locs1 ls hP1 hS1 hl
theorem qr_cs {y : MethodName} {b : ByteArray} {maxL : Nat} {ret2 : Option FieldType} {lev2 idx na n : Nat} {ρ2 : Type} {emb2 : ρ2 → qv_St × Option Value} {of : Option ρ2} {ko : ρ2 → Option ρ} {st0 : List Value} (As : List Value) (hd : decode cc pc = .ok (.invokestatic idx, 3)) (hn : pc + 3 = n) (cv : qv_cs own idx y b maxL ret2 na) (hna : As.length = na) (hst : st0 = As.reverse ++ st) (hsum : (st.map fun v => v.category).sum ≤ 8) (hlev : Nat.ble (lev2 + 1) lev = true) (hmax : Nat.ble maxL 45 = true) (hc : ∀ r2 : ρ2, of = some r2 → Cn G L y b maxL ret2 lev2 As S (emb2 r2))
    (k : ∀ r2 : ρ2, VVx cx sx G L X own cc nL ret lev emb n lv ((emb2 r2).2.toList ++ st) (emb2 r2).1 (ko r2)) : VVx cx sx G L X own cc nL ret lev emb pc lv st0 S (of.bind ko) := by
  subst hn
  subst hst
  intro r hr ok H locs ls hP hS hl
  cases ho : of with
  | none => rw [ho] at hr; cases hr
  | some r2 =>
    rw [ho] at hr
    obtain ⟨hx, hb, hml, hown, hts⟩ := ok.1
    have h1 := Nat.le_of_ble_eq_true hlev
    have h2 := Nat.le_of_ble_eq_true hmax
    refine qv_after (va_runS (As := As) (rest := st) ⟨hx, hb, hml, hown, hts⟩ (hc r2 ho) ⟨callB_of na hts (gw_ws cv.1.2.2.2) rfl rfl rfl (hts _ cv.1.2.2.1) (hts _ cv.1.1) cv.2 ⟨h1, by simp only [qv_room, qv_roomx]; omega⟩, hts _ cv.1.2.1⟩ ⟨qv_blind, fun U hU hW => ⟨rfl, ok.2.2.2.2.1, by rw [hU]; exact hP, va_K.moved hW.alike ok.2.2.2.1, qv_ro_go ok.2.2.2.2.2 hS hU hW⟩⟩ rfl hna hl.1 rfl (lv_room hsum) hd ⟨Nat.le_refl _, Nat.le_refl _⟩) hS (fun H1 locs1 hP1 hS1 => ?_)
    exact k r2 r hr ok H1 locs1 ls hP1 hS1 hl
theorem qr_if {c : Prop} {dc : Decidable c} {a b : Option ρ} (ka : c → VVx cx sx G L X own cc nL ret lev emb pc lv st S a) (kb : ¬ c → VVx cx sx G L X own cc nL ret lev emb pc lv st S b) : VVx cx sx G L X own cc nL ret lev emb pc lv st S (@ite _ c dc a b) := by
  by_cases h : c
  · rw [if_pos h]; exact ka h
  · rw [if_neg h]; exact kb h
theorem qr_j {α : Type} {K : α} {b : α → Option ρ} (P : α → Prop) (hK : P K) (hb : ∀ K2 : α, P K2 → VVx cx sx G L X own cc nL ret lev emb pc lv st S (b K2)) : VVx cx sx G L X own cc nL ret lev emb pc lv st S (qv_j K b) := hb K hK
end QVC
abbrev qe_i (S : qv_St) : Int32 → qv_St × Option Value := fun x => (S, some (.int x))
abbrev qe_l (S : qv_St) : Int64 → qv_St × Option Value := fun x => (S, some (.long x))
abbrev qe_u : qv_St → qv_St × Option Value := fun S => (S, none)
abbrev qe_p (S : qv_St) : Unit → qv_St × Option Value := fun _ => (S, none)
abbrev qe_m : qv_St × Int32 → qv_St × Option Value := fun z => (z.1, some (.int z.2))
section QVD
variable {cx sx : Nat} {G : qv_GT} {L : List qv_Lc} {X : qv_XT} {own : String} {cc : ByteArray} {nL : Nat} {ret : Option FieldType} {lev : Nat} {ρ : Type} {emb : ρ → qv_St × Option Value} {pc : Nat} {lv : List (Nat × Value)} {st : List Value} {S : qv_St} {o : Option ρ}
variable {y : MethodName} {b : ByteArray} {maxL : Nat} {ret2 : Option FieldType} {lev2 idx na n : Nat} {st0 : List Value}
theorem qr_cvi {of : Option Int32} {ko : Int32 → Option ρ} (q : Nat) (As : List Value) {ci : Nat} {fs : List (Option Nat)} {T : u_T} {N : Nat} (hd : decode cc pc = .ok (.invokevirtual idx, 3)) (hn : pc + 3 = n) (cv : qv_cv own idx y b maxL ret2 na) (hna : As.length = na) (hst : st0 = As.reverse ++ .ref (G.2.2.1 q) :: st) (hsum : (st.map fun v => v.category).sum ≤ 8) (hlev : Nat.ble (lev2 + 1) lev = true) (hmax : Nat.ble maxL 45 = true) (hq : L[q]? = some (.inl (ci, fs))) (hcl : vwCl[ci]? = some (y.cls, T, N)) (hc : ∀ r2, of = some r2 → Cn G L y b maxL ret2 lev2 (.ref (G.2.2.1 q) :: As) S (qe_i S r2)) (k : ∀ x : Int32, VVx cx sx G L X own cc nL ret lev emb n lv (.int x :: st) S (ko x)) : VVx cx sx G L X own cc nL ret lev emb pc lv st0 S (of.bind ko) := qr_cv q As hd hn cv hna hst hsum hlev hmax hq hcl hc (fun z => k z)
theorem qr_csi {of : Option Int32} {ko : Int32 → Option ρ} (As : List Value) (hd : decode cc pc = .ok (.invokestatic idx, 3)) (hn : pc + 3 = n) (cv : qv_cs own idx y b maxL ret2 na) (hna : As.length = na) (hst : st0 = As.reverse ++ st) (hsum : (st.map fun v => v.category).sum ≤ 8) (hlev : Nat.ble (lev2 + 1) lev = true) (hmax : Nat.ble maxL 45 = true) (hc : ∀ r2, of = some r2 → Cn G L y b maxL ret2 lev2 As S (qe_i S r2)) (k : ∀ x : Int32, VVx cx sx G L X own cc nL ret lev emb n lv (.int x :: st) S (ko x)) : VVx cx sx G L X own cc nL ret lev emb pc lv st0 S (of.bind ko) := qr_cs As hd hn cv hna hst hsum hlev hmax hc (fun z => k z)
theorem qr_cvl {of : Option Int64} {ko : Int64 → Option ρ} (q : Nat) (As : List Value) {ci : Nat} {fs : List (Option Nat)} {T : u_T} {N : Nat} (hd : decode cc pc = .ok (.invokevirtual idx, 3)) (hn : pc + 3 = n) (cv : qv_cv own idx y b maxL ret2 na) (hna : As.length = na) (hst : st0 = As.reverse ++ .ref (G.2.2.1 q) :: st) (hsum : (st.map fun v => v.category).sum ≤ 8) (hlev : Nat.ble (lev2 + 1) lev = true) (hmax : Nat.ble maxL 45 = true) (hq : L[q]? = some (.inl (ci, fs))) (hcl : vwCl[ci]? = some (y.cls, T, N)) (hc : ∀ r2, of = some r2 → Cn G L y b maxL ret2 lev2 (.ref (G.2.2.1 q) :: As) S (qe_l S r2)) (k : ∀ x : Int64, VVx cx sx G L X own cc nL ret lev emb n lv (.long x :: st) S (ko x)) : VVx cx sx G L X own cc nL ret lev emb pc lv st0 S (of.bind ko) := qr_cv q As hd hn cv hna hst hsum hlev hmax hq hcl hc (fun z => k z)
theorem qr_csl {of : Option Int64} {ko : Int64 → Option ρ} (As : List Value) (hd : decode cc pc = .ok (.invokestatic idx, 3)) (hn : pc + 3 = n) (cv : qv_cs own idx y b maxL ret2 na) (hna : As.length = na) (hst : st0 = As.reverse ++ st) (hsum : (st.map fun v => v.category).sum ≤ 8) (hlev : Nat.ble (lev2 + 1) lev = true) (hmax : Nat.ble maxL 45 = true) (hc : ∀ r2, of = some r2 → Cn G L y b maxL ret2 lev2 As S (qe_l S r2)) (k : ∀ x : Int64, VVx cx sx G L X own cc nL ret lev emb n lv (.long x :: st) S (ko x)) : VVx cx sx G L X own cc nL ret lev emb pc lv st0 S (of.bind ko) := qr_cs As hd hn cv hna hst hsum hlev hmax hc (fun z => k z)
theorem qr_cvu {of : Option qv_St} {ko : qv_St → Option ρ} (q : Nat) (As : List Value) {ci : Nat} {fs : List (Option Nat)} {T : u_T} {N : Nat} (hd : decode cc pc = .ok (.invokevirtual idx, 3)) (hn : pc + 3 = n) (cv : qv_cv own idx y b maxL ret2 na) (hna : As.length = na) (hst : st0 = As.reverse ++ .ref (G.2.2.1 q) :: st) (hsum : (st.map fun v => v.category).sum ≤ 8) (hlev : Nat.ble (lev2 + 1) lev = true) (hmax : Nat.ble maxL 45 = true) (hq : L[q]? = some (.inl (ci, fs))) (hcl : vwCl[ci]? = some (y.cls, T, N)) (hc : ∀ r2, of = some r2 → Cn G L y b maxL ret2 lev2 (.ref (G.2.2.1 q) :: As) S (qe_u r2)) (k : ∀ S : qv_St, VVx cx sx G L X own cc nL ret lev emb n lv st S (ko S)) : VVx cx sx G L X own cc nL ret lev emb pc lv st0 S (of.bind ko) := qr_cv q As hd hn cv hna hst hsum hlev hmax hq hcl hc (fun z => k z)
theorem qr_csu {of : Option qv_St} {ko : qv_St → Option ρ} (As : List Value) (hd : decode cc pc = .ok (.invokestatic idx, 3)) (hn : pc + 3 = n) (cv : qv_cs own idx y b maxL ret2 na) (hna : As.length = na) (hst : st0 = As.reverse ++ st) (hsum : (st.map fun v => v.category).sum ≤ 8) (hlev : Nat.ble (lev2 + 1) lev = true) (hmax : Nat.ble maxL 45 = true) (hc : ∀ r2, of = some r2 → Cn G L y b maxL ret2 lev2 As S (qe_u r2)) (k : ∀ S : qv_St, VVx cx sx G L X own cc nL ret lev emb n lv st S (ko S)) : VVx cx sx G L X own cc nL ret lev emb pc lv st0 S (of.bind ko) := qr_cs As hd hn cv hna hst hsum hlev hmax hc (fun z => k z)
theorem qr_cvm {of : Option (qv_St × Int32)} {ko : qv_St → Int32 → Option ρ} (q : Nat) (As : List Value) {ci : Nat} {fs : List (Option Nat)} {T : u_T} {N : Nat} (hd : decode cc pc = .ok (.invokevirtual idx, 3)) (hn : pc + 3 = n) (cv : qv_cv own idx y b maxL ret2 na) (hna : As.length = na) (hst : st0 = As.reverse ++ .ref (G.2.2.1 q) :: st) (hsum : (st.map fun v => v.category).sum ≤ 8) (hlev : Nat.ble (lev2 + 1) lev = true) (hmax : Nat.ble maxL 45 = true) (hq : L[q]? = some (.inl (ci, fs))) (hcl : vwCl[ci]? = some (y.cls, T, N)) (hc : ∀ r2, of = some r2 → Cn G L y b maxL ret2 lev2 (.ref (G.2.2.1 q) :: As) S (qe_m r2)) (k : ∀ (S : qv_St) (x : Int32), VVx cx sx G L X own cc nL ret lev emb n lv (.int x :: st) S (ko S x)) : VVx cx sx G L X own cc nL ret lev emb pc lv st0 S (qv_cm of ko) := qr_cv q As hd hn cv hna hst hsum hlev hmax hq hcl hc (fun z => k z.1 z.2)
theorem qr_csm {of : Option (qv_St × Int32)} {ko : qv_St → Int32 → Option ρ} (As : List Value) (hd : decode cc pc = .ok (.invokestatic idx, 3)) (hn : pc + 3 = n) (cv : qv_cs own idx y b maxL ret2 na) (hna : As.length = na) (hst : st0 = As.reverse ++ st) (hsum : (st.map fun v => v.category).sum ≤ 8) (hlev : Nat.ble (lev2 + 1) lev = true) (hmax : Nat.ble maxL 45 = true) (hc : ∀ r2, of = some r2 → Cn G L y b maxL ret2 lev2 As S (qe_m r2)) (k : ∀ (S : qv_St) (x : Int32), VVx cx sx G L X own cc nL ret lev emb n lv (.int x :: st) S (ko S x)) : VVx cx sx G L X own cc nL ret lev emb pc lv st0 S (qv_cm of ko) := qr_cs As hd hn cv hna hst hsum hlev hmax hc (fun z => k z.1 z.2)
theorem qr_csp {of : Option Unit} {ko : Unit → Option ρ} (As : List Value) (hd : decode cc pc = .ok (.invokestatic idx, 3)) (hn : pc + 3 = n) (cv : qv_cs own idx y b maxL ret2 na) (hna : As.length = na) (hst : st0 = As.reverse ++ st) (hsum : (st.map fun v => v.category).sum ≤ 8) (hlev : Nat.ble (lev2 + 1) lev = true) (hmax : Nat.ble maxL 45 = true) (hc : ∀ r2, of = some r2 → Cn G L y b maxL ret2 lev2 As S (qe_p S r2)) (k : VVx cx sx G L X own cc nL ret lev emb n lv st S (ko ())) : VVx cx sx G L X own cc nL ret lev emb pc lv st0 S (of.bind ko) := qr_cs As hd hn cv hna hst hsum hlev hmax hc (fun _ => k)
end QVD
def qv_lp1 {A1 ρ : Type} : Nat → ((A1 → Option ρ) → A1 → Option ρ) → A1 → Option ρ
  | 0, _, _ => none
  | n + 1, f, a1 => f (qv_lp1 n f) a1
theorem qr_lp1 {cx sx : Nat} {G : qv_GT} {L : List qv_Lc} {X : qv_XT} {own : String} {cc : ByteArray} {nL : Nat} {ret : Option FieldType} {lev : Nat} {ρ : Type} {emb : ρ → qv_St × Option Value} {pc : Nat} {A1 : Type} (lvf : A1 → List (Nat × Value)) (Sf : A1 → qv_St) {f : (A1 → Option ρ) → A1 → Option ρ} (k : ∀ self : A1 → Option ρ, (∀ (a1 : A1), VVx cx sx G L X own cc nL ret lev emb pc (lvf a1) [] (Sf a1) (self a1)) → ∀ (a1 : A1), VVx cx sx G L X own cc nL ret lev emb pc (lvf a1) [] (Sf a1) (f self a1)) (N : Nat) : ∀ (a1 : A1), VVx cx sx G L X own cc nL ret lev emb pc (lvf a1) [] (Sf a1) (qv_lp1 N f a1) := by
  induction N with
  | zero => exact fun _ r hr => by cases hr
  | succ N ih => exact fun a1 => k (qv_lp1 N f) ih a1
def qv_lp2 {A1 A2 ρ : Type} : Nat → ((A1 → A2 → Option ρ) → A1 → A2 → Option ρ) → A1 → A2 → Option ρ
  | 0, _, _, _ => none
  | n + 1, f, a1, a2 => f (qv_lp2 n f) a1 a2
theorem qr_lp2 {cx sx : Nat} {G : qv_GT} {L : List qv_Lc} {X : qv_XT} {own : String} {cc : ByteArray} {nL : Nat} {ret : Option FieldType} {lev : Nat} {ρ : Type} {emb : ρ → qv_St × Option Value} {pc : Nat} {A1 A2 : Type} (lvf : A1 → A2 → List (Nat × Value)) (Sf : A1 → A2 → qv_St) {f : (A1 → A2 → Option ρ) → A1 → A2 → Option ρ} (k : ∀ self : A1 → A2 → Option ρ, (∀ (a1 : A1) (a2 : A2), VVx cx sx G L X own cc nL ret lev emb pc (lvf a1 a2) [] (Sf a1 a2) (self a1 a2)) → ∀ (a1 : A1) (a2 : A2), VVx cx sx G L X own cc nL ret lev emb pc (lvf a1 a2) [] (Sf a1 a2) (f self a1 a2)) (N : Nat) : ∀ (a1 : A1) (a2 : A2), VVx cx sx G L X own cc nL ret lev emb pc (lvf a1 a2) [] (Sf a1 a2) (qv_lp2 N f a1 a2) := by
  induction N with
  | zero => exact fun _ _ r hr => by cases hr
  | succ N ih => exact fun a1 a2 => k (qv_lp2 N f) ih a1 a2
def qv_lp3 {A1 A2 A3 ρ : Type} : Nat → ((A1 → A2 → A3 → Option ρ) → A1 → A2 → A3 → Option ρ) → A1 → A2 → A3 → Option ρ
  | 0, _, _, _, _ => none
  | n + 1, f, a1, a2, a3 => f (qv_lp3 n f) a1 a2 a3
theorem qr_lp3 {cx sx : Nat} {G : qv_GT} {L : List qv_Lc} {X : qv_XT} {own : String} {cc : ByteArray} {nL : Nat} {ret : Option FieldType} {lev : Nat} {ρ : Type} {emb : ρ → qv_St × Option Value} {pc : Nat} {A1 A2 A3 : Type} (lvf : A1 → A2 → A3 → List (Nat × Value)) (Sf : A1 → A2 → A3 → qv_St) {f : (A1 → A2 → A3 → Option ρ) → A1 → A2 → A3 → Option ρ} (k : ∀ self : A1 → A2 → A3 → Option ρ, (∀ (a1 : A1) (a2 : A2) (a3 : A3), VVx cx sx G L X own cc nL ret lev emb pc (lvf a1 a2 a3) [] (Sf a1 a2 a3) (self a1 a2 a3)) → ∀ (a1 : A1) (a2 : A2) (a3 : A3), VVx cx sx G L X own cc nL ret lev emb pc (lvf a1 a2 a3) [] (Sf a1 a2 a3) (f self a1 a2 a3)) (N : Nat) : ∀ (a1 : A1) (a2 : A2) (a3 : A3), VVx cx sx G L X own cc nL ret lev emb pc (lvf a1 a2 a3) [] (Sf a1 a2 a3) (qv_lp3 N f a1 a2 a3) := by
  induction N with
  | zero => exact fun _ _ _ r hr => by cases hr
  | succ N ih => exact fun a1 a2 a3 => k (qv_lp3 N f) ih a1 a2 a3
def qv_lp4 {A1 A2 A3 A4 ρ : Type} : Nat → ((A1 → A2 → A3 → A4 → Option ρ) → A1 → A2 → A3 → A4 → Option ρ) → A1 → A2 → A3 → A4 → Option ρ
  | 0, _, _, _, _, _ => none
  | n + 1, f, a1, a2, a3, a4 => f (qv_lp4 n f) a1 a2 a3 a4
theorem qr_lp4 {cx sx : Nat} {G : qv_GT} {L : List qv_Lc} {X : qv_XT} {own : String} {cc : ByteArray} {nL : Nat} {ret : Option FieldType} {lev : Nat} {ρ : Type} {emb : ρ → qv_St × Option Value} {pc : Nat} {A1 A2 A3 A4 : Type} (lvf : A1 → A2 → A3 → A4 → List (Nat × Value)) (Sf : A1 → A2 → A3 → A4 → qv_St) {f : (A1 → A2 → A3 → A4 → Option ρ) → A1 → A2 → A3 → A4 → Option ρ} (k : ∀ self : A1 → A2 → A3 → A4 → Option ρ, (∀ (a1 : A1) (a2 : A2) (a3 : A3) (a4 : A4), VVx cx sx G L X own cc nL ret lev emb pc (lvf a1 a2 a3 a4) [] (Sf a1 a2 a3 a4) (self a1 a2 a3 a4)) → ∀ (a1 : A1) (a2 : A2) (a3 : A3) (a4 : A4), VVx cx sx G L X own cc nL ret lev emb pc (lvf a1 a2 a3 a4) [] (Sf a1 a2 a3 a4) (f self a1 a2 a3 a4)) (N : Nat) : ∀ (a1 : A1) (a2 : A2) (a3 : A3) (a4 : A4), VVx cx sx G L X own cc nL ret lev emb pc (lvf a1 a2 a3 a4) [] (Sf a1 a2 a3 a4) (qv_lp4 N f a1 a2 a3 a4) := by
  induction N with
  | zero => exact fun _ _ _ _ r hr => by cases hr
  | succ N ih => exact fun a1 a2 a3 a4 => k (qv_lp4 N f) ih a1 a2 a3 a4
def qv_lp5 {A1 A2 A3 A4 A5 ρ : Type} : Nat → ((A1 → A2 → A3 → A4 → A5 → Option ρ) → A1 → A2 → A3 → A4 → A5 → Option ρ) → A1 → A2 → A3 → A4 → A5 → Option ρ
  | 0, _, _, _, _, _, _ => none
  | n + 1, f, a1, a2, a3, a4, a5 => f (qv_lp5 n f) a1 a2 a3 a4 a5
theorem qr_lp5 {cx sx : Nat} {G : qv_GT} {L : List qv_Lc} {X : qv_XT} {own : String} {cc : ByteArray} {nL : Nat} {ret : Option FieldType} {lev : Nat} {ρ : Type} {emb : ρ → qv_St × Option Value} {pc : Nat} {A1 A2 A3 A4 A5 : Type} (lvf : A1 → A2 → A3 → A4 → A5 → List (Nat × Value)) (Sf : A1 → A2 → A3 → A4 → A5 → qv_St) {f : (A1 → A2 → A3 → A4 → A5 → Option ρ) → A1 → A2 → A3 → A4 → A5 → Option ρ} (k : ∀ self : A1 → A2 → A3 → A4 → A5 → Option ρ, (∀ (a1 : A1) (a2 : A2) (a3 : A3) (a4 : A4) (a5 : A5), VVx cx sx G L X own cc nL ret lev emb pc (lvf a1 a2 a3 a4 a5) [] (Sf a1 a2 a3 a4 a5) (self a1 a2 a3 a4 a5)) → ∀ (a1 : A1) (a2 : A2) (a3 : A3) (a4 : A4) (a5 : A5), VVx cx sx G L X own cc nL ret lev emb pc (lvf a1 a2 a3 a4 a5) [] (Sf a1 a2 a3 a4 a5) (f self a1 a2 a3 a4 a5)) (N : Nat) : ∀ (a1 : A1) (a2 : A2) (a3 : A3) (a4 : A4) (a5 : A5), VVx cx sx G L X own cc nL ret lev emb pc (lvf a1 a2 a3 a4 a5) [] (Sf a1 a2 a3 a4 a5) (qv_lp5 N f a1 a2 a3 a4 a5) := by
  induction N with
  | zero => exact fun _ _ _ _ _ r hr => by cases hr
  | succ N ih => exact fun a1 a2 a3 a4 a5 => k (qv_lp5 N f) ih a1 a2 a3 a4 a5
def qv_lp6 {A1 A2 A3 A4 A5 A6 ρ : Type} : Nat → ((A1 → A2 → A3 → A4 → A5 → A6 → Option ρ) → A1 → A2 → A3 → A4 → A5 → A6 → Option ρ) → A1 → A2 → A3 → A4 → A5 → A6 → Option ρ
  | 0, _, _, _, _, _, _, _ => none
  | n + 1, f, a1, a2, a3, a4, a5, a6 => f (qv_lp6 n f) a1 a2 a3 a4 a5 a6
theorem qr_lp6 {cx sx : Nat} {G : qv_GT} {L : List qv_Lc} {X : qv_XT} {own : String} {cc : ByteArray} {nL : Nat} {ret : Option FieldType} {lev : Nat} {ρ : Type} {emb : ρ → qv_St × Option Value} {pc : Nat} {A1 A2 A3 A4 A5 A6 : Type} (lvf : A1 → A2 → A3 → A4 → A5 → A6 → List (Nat × Value)) (Sf : A1 → A2 → A3 → A4 → A5 → A6 → qv_St) {f : (A1 → A2 → A3 → A4 → A5 → A6 → Option ρ) → A1 → A2 → A3 → A4 → A5 → A6 → Option ρ} (k : ∀ self : A1 → A2 → A3 → A4 → A5 → A6 → Option ρ, (∀ (a1 : A1) (a2 : A2) (a3 : A3) (a4 : A4) (a5 : A5) (a6 : A6), VVx cx sx G L X own cc nL ret lev emb pc (lvf a1 a2 a3 a4 a5 a6) [] (Sf a1 a2 a3 a4 a5 a6) (self a1 a2 a3 a4 a5 a6)) → ∀ (a1 : A1) (a2 : A2) (a3 : A3) (a4 : A4) (a5 : A5) (a6 : A6), VVx cx sx G L X own cc nL ret lev emb pc (lvf a1 a2 a3 a4 a5 a6) [] (Sf a1 a2 a3 a4 a5 a6) (f self a1 a2 a3 a4 a5 a6)) (N : Nat) : ∀ (a1 : A1) (a2 : A2) (a3 : A3) (a4 : A4) (a5 : A5) (a6 : A6), VVx cx sx G L X own cc nL ret lev emb pc (lvf a1 a2 a3 a4 a5 a6) [] (Sf a1 a2 a3 a4 a5 a6) (qv_lp6 N f a1 a2 a3 a4 a5 a6) := by
  induction N with
  | zero => exact fun _ _ _ _ _ _ r hr => by cases hr
  | succ N ih => exact fun a1 a2 a3 a4 a5 a6 => k (qv_lp6 N f) ih a1 a2 a3 a4 a5 a6
def qv_lp7 {A1 A2 A3 A4 A5 A6 A7 ρ : Type} : Nat → ((A1 → A2 → A3 → A4 → A5 → A6 → A7 → Option ρ) → A1 → A2 → A3 → A4 → A5 → A6 → A7 → Option ρ) → A1 → A2 → A3 → A4 → A5 → A6 → A7 → Option ρ
  | 0, _, _, _, _, _, _, _, _ => none
  | n + 1, f, a1, a2, a3, a4, a5, a6, a7 => f (qv_lp7 n f) a1 a2 a3 a4 a5 a6 a7
theorem qr_lp7 {cx sx : Nat} {G : qv_GT} {L : List qv_Lc} {X : qv_XT} {own : String} {cc : ByteArray} {nL : Nat} {ret : Option FieldType} {lev : Nat} {ρ : Type} {emb : ρ → qv_St × Option Value} {pc : Nat} {A1 A2 A3 A4 A5 A6 A7 : Type} (lvf : A1 → A2 → A3 → A4 → A5 → A6 → A7 → List (Nat × Value)) (Sf : A1 → A2 → A3 → A4 → A5 → A6 → A7 → qv_St) {f : (A1 → A2 → A3 → A4 → A5 → A6 → A7 → Option ρ) → A1 → A2 → A3 → A4 → A5 → A6 → A7 → Option ρ} (k : ∀ self : A1 → A2 → A3 → A4 → A5 → A6 → A7 → Option ρ, (∀ (a1 : A1) (a2 : A2) (a3 : A3) (a4 : A4) (a5 : A5) (a6 : A6) (a7 : A7), VVx cx sx G L X own cc nL ret lev emb pc (lvf a1 a2 a3 a4 a5 a6 a7) [] (Sf a1 a2 a3 a4 a5 a6 a7) (self a1 a2 a3 a4 a5 a6 a7)) → ∀ (a1 : A1) (a2 : A2) (a3 : A3) (a4 : A4) (a5 : A5) (a6 : A6) (a7 : A7), VVx cx sx G L X own cc nL ret lev emb pc (lvf a1 a2 a3 a4 a5 a6 a7) [] (Sf a1 a2 a3 a4 a5 a6 a7) (f self a1 a2 a3 a4 a5 a6 a7)) (N : Nat) : ∀ (a1 : A1) (a2 : A2) (a3 : A3) (a4 : A4) (a5 : A5) (a6 : A6) (a7 : A7), VVx cx sx G L X own cc nL ret lev emb pc (lvf a1 a2 a3 a4 a5 a6 a7) [] (Sf a1 a2 a3 a4 a5 a6 a7) (qv_lp7 N f a1 a2 a3 a4 a5 a6 a7) := by
  induction N with
  | zero => exact fun _ _ _ _ _ _ _ r hr => by cases hr
  | succ N ih => exact fun a1 a2 a3 a4 a5 a6 a7 => k (qv_lp7 N f) ih a1 a2 a3 a4 a5 a6 a7
def qv_lp8 {A1 A2 A3 A4 A5 A6 A7 A8 ρ : Type} : Nat → ((A1 → A2 → A3 → A4 → A5 → A6 → A7 → A8 → Option ρ) → A1 → A2 → A3 → A4 → A5 → A6 → A7 → A8 → Option ρ) → A1 → A2 → A3 → A4 → A5 → A6 → A7 → A8 → Option ρ
  | 0, _, _, _, _, _, _, _, _, _ => none
  | n + 1, f, a1, a2, a3, a4, a5, a6, a7, a8 => f (qv_lp8 n f) a1 a2 a3 a4 a5 a6 a7 a8
theorem qr_lp8 {cx sx : Nat} {G : qv_GT} {L : List qv_Lc} {X : qv_XT} {own : String} {cc : ByteArray} {nL : Nat} {ret : Option FieldType} {lev : Nat} {ρ : Type} {emb : ρ → qv_St × Option Value} {pc : Nat} {A1 A2 A3 A4 A5 A6 A7 A8 : Type} (lvf : A1 → A2 → A3 → A4 → A5 → A6 → A7 → A8 → List (Nat × Value)) (Sf : A1 → A2 → A3 → A4 → A5 → A6 → A7 → A8 → qv_St) {f : (A1 → A2 → A3 → A4 → A5 → A6 → A7 → A8 → Option ρ) → A1 → A2 → A3 → A4 → A5 → A6 → A7 → A8 → Option ρ} (k : ∀ self : A1 → A2 → A3 → A4 → A5 → A6 → A7 → A8 → Option ρ, (∀ (a1 : A1) (a2 : A2) (a3 : A3) (a4 : A4) (a5 : A5) (a6 : A6) (a7 : A7) (a8 : A8), VVx cx sx G L X own cc nL ret lev emb pc (lvf a1 a2 a3 a4 a5 a6 a7 a8) [] (Sf a1 a2 a3 a4 a5 a6 a7 a8) (self a1 a2 a3 a4 a5 a6 a7 a8)) → ∀ (a1 : A1) (a2 : A2) (a3 : A3) (a4 : A4) (a5 : A5) (a6 : A6) (a7 : A7) (a8 : A8), VVx cx sx G L X own cc nL ret lev emb pc (lvf a1 a2 a3 a4 a5 a6 a7 a8) [] (Sf a1 a2 a3 a4 a5 a6 a7 a8) (f self a1 a2 a3 a4 a5 a6 a7 a8)) (N : Nat) : ∀ (a1 : A1) (a2 : A2) (a3 : A3) (a4 : A4) (a5 : A5) (a6 : A6) (a7 : A7) (a8 : A8), VVx cx sx G L X own cc nL ret lev emb pc (lvf a1 a2 a3 a4 a5 a6 a7 a8) [] (Sf a1 a2 a3 a4 a5 a6 a7 a8) (qv_lp8 N f a1 a2 a3 a4 a5 a6 a7 a8) := by
  induction N with
  | zero => exact fun _ _ _ _ _ _ _ _ r hr => by cases hr
  | succ N ih => exact fun a1 a2 a3 a4 a5 a6 a7 a8 => k (qv_lp8 N f) ih a1 a2 a3 a4 a5 a6 a7 a8
def qv_lp9 {A1 A2 A3 A4 A5 A6 A7 A8 A9 ρ : Type} : Nat → ((A1 → A2 → A3 → A4 → A5 → A6 → A7 → A8 → A9 → Option ρ) → A1 → A2 → A3 → A4 → A5 → A6 → A7 → A8 → A9 → Option ρ) → A1 → A2 → A3 → A4 → A5 → A6 → A7 → A8 → A9 → Option ρ
  | 0, _, _, _, _, _, _, _, _, _, _ => none
  | n + 1, f, a1, a2, a3, a4, a5, a6, a7, a8, a9 => f (qv_lp9 n f) a1 a2 a3 a4 a5 a6 a7 a8 a9
theorem qr_lp9 {cx sx : Nat} {G : qv_GT} {L : List qv_Lc} {X : qv_XT} {own : String} {cc : ByteArray} {nL : Nat} {ret : Option FieldType} {lev : Nat} {ρ : Type} {emb : ρ → qv_St × Option Value} {pc : Nat} {A1 A2 A3 A4 A5 A6 A7 A8 A9 : Type} (lvf : A1 → A2 → A3 → A4 → A5 → A6 → A7 → A8 → A9 → List (Nat × Value)) (Sf : A1 → A2 → A3 → A4 → A5 → A6 → A7 → A8 → A9 → qv_St) {f : (A1 → A2 → A3 → A4 → A5 → A6 → A7 → A8 → A9 → Option ρ) → A1 → A2 → A3 → A4 → A5 → A6 → A7 → A8 → A9 → Option ρ} (k : ∀ self : A1 → A2 → A3 → A4 → A5 → A6 → A7 → A8 → A9 → Option ρ, (∀ (a1 : A1) (a2 : A2) (a3 : A3) (a4 : A4) (a5 : A5) (a6 : A6) (a7 : A7) (a8 : A8) (a9 : A9), VVx cx sx G L X own cc nL ret lev emb pc (lvf a1 a2 a3 a4 a5 a6 a7 a8 a9) [] (Sf a1 a2 a3 a4 a5 a6 a7 a8 a9) (self a1 a2 a3 a4 a5 a6 a7 a8 a9)) → ∀ (a1 : A1) (a2 : A2) (a3 : A3) (a4 : A4) (a5 : A5) (a6 : A6) (a7 : A7) (a8 : A8) (a9 : A9), VVx cx sx G L X own cc nL ret lev emb pc (lvf a1 a2 a3 a4 a5 a6 a7 a8 a9) [] (Sf a1 a2 a3 a4 a5 a6 a7 a8 a9) (f self a1 a2 a3 a4 a5 a6 a7 a8 a9)) (N : Nat) : ∀ (a1 : A1) (a2 : A2) (a3 : A3) (a4 : A4) (a5 : A5) (a6 : A6) (a7 : A7) (a8 : A8) (a9 : A9), VVx cx sx G L X own cc nL ret lev emb pc (lvf a1 a2 a3 a4 a5 a6 a7 a8 a9) [] (Sf a1 a2 a3 a4 a5 a6 a7 a8 a9) (qv_lp9 N f a1 a2 a3 a4 a5 a6 a7 a8 a9) := by
  induction N with
  | zero => exact fun _ _ _ _ _ _ _ _ _ r hr => by cases hr
  | succ N ih => exact fun a1 a2 a3 a4 a5 a6 a7 a8 a9 => k (qv_lp9 N f) ih a1 a2 a3 a4 a5 a6 a7 a8 a9
def qv_lp10 {A1 A2 A3 A4 A5 A6 A7 A8 A9 A10 ρ : Type} : Nat → ((A1 → A2 → A3 → A4 → A5 → A6 → A7 → A8 → A9 → A10 → Option ρ) → A1 → A2 → A3 → A4 → A5 → A6 → A7 → A8 → A9 → A10 → Option ρ) → A1 → A2 → A3 → A4 → A5 → A6 → A7 → A8 → A9 → A10 → Option ρ
  | 0, _, _, _, _, _, _, _, _, _, _, _ => none
  | n + 1, f, a1, a2, a3, a4, a5, a6, a7, a8, a9, a10 => f (qv_lp10 n f) a1 a2 a3 a4 a5 a6 a7 a8 a9 a10
theorem qr_lp10 {cx sx : Nat} {G : qv_GT} {L : List qv_Lc} {X : qv_XT} {own : String} {cc : ByteArray} {nL : Nat} {ret : Option FieldType} {lev : Nat} {ρ : Type} {emb : ρ → qv_St × Option Value} {pc : Nat} {A1 A2 A3 A4 A5 A6 A7 A8 A9 A10 : Type} (lvf : A1 → A2 → A3 → A4 → A5 → A6 → A7 → A8 → A9 → A10 → List (Nat × Value)) (Sf : A1 → A2 → A3 → A4 → A5 → A6 → A7 → A8 → A9 → A10 → qv_St) {f : (A1 → A2 → A3 → A4 → A5 → A6 → A7 → A8 → A9 → A10 → Option ρ) → A1 → A2 → A3 → A4 → A5 → A6 → A7 → A8 → A9 → A10 → Option ρ} (k : ∀ self : A1 → A2 → A3 → A4 → A5 → A6 → A7 → A8 → A9 → A10 → Option ρ, (∀ (a1 : A1) (a2 : A2) (a3 : A3) (a4 : A4) (a5 : A5) (a6 : A6) (a7 : A7) (a8 : A8) (a9 : A9) (a10 : A10), VVx cx sx G L X own cc nL ret lev emb pc (lvf a1 a2 a3 a4 a5 a6 a7 a8 a9 a10) [] (Sf a1 a2 a3 a4 a5 a6 a7 a8 a9 a10) (self a1 a2 a3 a4 a5 a6 a7 a8 a9 a10)) → ∀ (a1 : A1) (a2 : A2) (a3 : A3) (a4 : A4) (a5 : A5) (a6 : A6) (a7 : A7) (a8 : A8) (a9 : A9) (a10 : A10), VVx cx sx G L X own cc nL ret lev emb pc (lvf a1 a2 a3 a4 a5 a6 a7 a8 a9 a10) [] (Sf a1 a2 a3 a4 a5 a6 a7 a8 a9 a10) (f self a1 a2 a3 a4 a5 a6 a7 a8 a9 a10)) (N : Nat) : ∀ (a1 : A1) (a2 : A2) (a3 : A3) (a4 : A4) (a5 : A5) (a6 : A6) (a7 : A7) (a8 : A8) (a9 : A9) (a10 : A10), VVx cx sx G L X own cc nL ret lev emb pc (lvf a1 a2 a3 a4 a5 a6 a7 a8 a9 a10) [] (Sf a1 a2 a3 a4 a5 a6 a7 a8 a9 a10) (qv_lp10 N f a1 a2 a3 a4 a5 a6 a7 a8 a9 a10) := by
  induction N with
  | zero => exact fun _ _ _ _ _ _ _ _ _ _ r hr => by cases hr
  | succ N ih => exact fun a1 a2 a3 a4 a5 a6 a7 a8 a9 a10 => k (qv_lp10 N f) ih a1 a2 a3 a4 a5 a6 a7 a8 a9 a10
def qv_sw {ρ : Type} (x : Int32) (lo hi : Int) (os : List (Option ρ)) (d : Option ρ) : Option ρ := if x.toInt < lo ∨ hi < x.toInt then d else (os[(x.toInt - lo).toNat]?).getD none
def qv_all {ρ : Type} (P : Int → Option ρ → Prop) : List Int → List (Option ρ) → Prop
  | a :: as, o :: os => P a o ∧ qv_all P as os
  | _, [] => True
  | [], _ :: _ => False
theorem qv_all_at {ρ : Type} {P : Int → Option ρ → Prop} : ∀ (as : List Int) (os : List (Option ρ)), qv_all P as os → ∀ (i : Nat) (o : Option ρ), os[i]? = some o → ∃ a, as[i]? = some a ∧ P a o
  | a :: as, o :: os, h, 0, o', ho => by cases ho; exact ⟨a, rfl, h.1⟩
  | a :: as, o :: os, h, i + 1, o', ho => qv_all_at as os h.2 i o' ho
  | _, [], _, i, o', ho => by simp at ho
  | [], _ :: _, h, _, _, _ => h.elim
theorem qr_sw {cx sx : Nat} {G : qv_GT} {L : List qv_Lc} {X : qv_XT} {own : String} {cc : ByteArray} {nL : Nat} {ret : Option FieldType} {lev : Nat} {ρ : Type} {emb : ρ → qv_St × Option Value} {pc : Nat} {lv : List (Nat × Value)} {st : List Value} {S : qv_St} {x : Int32} {dflt lo hi : Int} {offs : Array Int} {len td : Nat} {os : List (Option ρ)} {d : Option ρ} (hd : decode cc pc = .ok (.tableswitch dflt lo hi offs, len)) (ht : (pc : Int) + dflt = (td : Int)) (kd : VVx cx sx G L X own cc nL ret lev emb td lv st S d)
    (ks : qv_all (fun off o => ∃ t : Nat, (pc : Int) + off = (t : Int) ∧ VVx cx sx G L X own cc nL ret lev emb t lv st S o) offs.toList os) : VVx cx sx G L X own cc nL ret lev emb pc lv (.int x :: st) S (qv_sw x lo hi os d) := by
  intro r hr ok H locs ls hP hS hl
  obtain ⟨hx, hb, hml, hown, hts⟩ := ok.1
  unfold qv_sw at hr
  by_cases h : x.toInt < lo ∨ hi < x.toInt
  · rw [if_pos h] at hr
    exact lv_tableOut hx hb hd h ht (kd r hr ok H locs ls hP hS hl)
  · rw [if_neg h] at hr
    cases ho : os[(x.toInt - lo).toNat]? with
    | none => rw [ho] at hr; cases hr
    | some o2 =>
      rw [ho] at hr
      obtain ⟨off, h1, t, h2, h3⟩ := qv_all_at _ _ ks _ _ ho
      exact lv_tableIn hx hb hd (fun z => h (Or.inl z)) (fun z => h (Or.inr z)) (by rw [← Array.getElem?_toList]; exact h1) h2 (h3 r hr ok H locs ls hP hS hl)
