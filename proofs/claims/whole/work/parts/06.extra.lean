def qv_rn {ρ : Type} (ty : FieldType) (y : Int32) (o : Option ρ) : Option ρ := if vp_nar ty y = y then o else none
def qv_cp (S : qv_St) (a sp b dp n : Nat) : qv_St := (fun q => if q = b then va_cpy (S.1 a) (S.1 b) sp dp n else S.1 q, S.2)
def qv_cq {ρ : Type} (sp dp n : Int32) (n0 n1 : Nat) (o : Option ρ) : Option ρ := if sp < 0 ∨ dp < 0 ∨ n < 0 ∨ n0 < sp.toNatClampNeg + n.toNatClampNeg ∨ n1 < dp.toNatClampNeg + n.toNatClampNeg then none else o
theorem qv_cp_ne {S : qv_St} {a sp b dp n : Nat} : ∀ i, i ≠ b → (qv_cp S a sp b dp n).1 i = S.1 i ∧ (qv_cp S a sp b dp n).2 i = S.2 i := fun i h => ⟨by simp [qv_cp, h], rfl⟩
theorem qv_set_cp {ad : Nat → Nat} {cy : Nat → ClassId} {L : List qv_Lc} {S : qv_St} {a sp b dp k n : Nat} {rs : List Nat} (h : L[b]? = some (.inr (0, n, rs))) : (qv_wd ad cy L S).set b (ad b, .inl (cy 0, n, .inl (va_cpy (S.1 a) (S.1 b) sp dp k))) = qv_wd ad cy L (qv_cp S a sp b dp k) :=
  qv_wd_set h (by simp [qv_cell, qv_cp]) qv_cp_ne
def qv_mx (x y : Int32) : Int32 := if x < y then y else x
def qv_mn (x y : Int32) : Int32 := if y < x then y else x
section QVX
variable {cx sx : Nat} {G : qv_GT} {L : List qv_Lc} {X : qv_XT} {own : String} {cc : ByteArray} {nL : Nat} {ret : Option FieldType} {lev : Nat} {ρ : Type} {emb : ρ → qv_St × Option Value} {pc : Nat} {lv : List (Nat × Value)} {st : List Value} {S : qv_St} {o : Option ρ}
theorem qr_max {x y : Int32} {idx n : Nat} (hd : decode cc pc = .ok (.invokestatic idx, 3)) (hn : pc + 3 = n) (hl1 : Cond.methodLink own idx Lib.Math.max.name ∈ gw_tbl) (hl2 : Cond.static Lib.Math.max.name ∈ gw_tbl) (hl3 : Cond.initialized "java/lang/Math" ∈ gw_tbl) (hl4 : Cond.code Lib.Math.max.name Lib.Math.max.code 2 (some .int) ∈ gw_tbl) (hlev : Nat.ble 1 lev = true) (hsum : (st.map fun v => v.category).sum ≤ 8) (k : VVx cx sx G L X own cc nL ret lev emb n lv (.int (qv_mx x y) :: st) S o) : VVx cx sx G L X own cc nL ret lev emb pc lv (.int y :: .int x :: st) S o := by
  subst hn
  intro r hr ok H locs ls hP hS hl
  obtain ⟨hx, hb, hml, hown, hts⟩ := ok.1
  have h1 := Nat.le_of_ble_eq_true hlev
  exact va_mmax hx hb (by rw [hml, hl.1]) hown (hts _ hl1) (hts _ hl2) (hts _ hl3) (hts _ hl4) h1 (by simp only [qv_room, qv_roomx]; omega) (Nat.le_refl _) (Nat.le_refl _) hd (k r hr ok H locs ls hP hS hl)
theorem qr_min {x y : Int32} {idx n : Nat} (hd : decode cc pc = .ok (.invokestatic idx, 3)) (hn : pc + 3 = n) (hl1 : Cond.methodLink own idx Lib.Math.min.name ∈ gw_tbl) (hl2 : Cond.static Lib.Math.min.name ∈ gw_tbl) (hl3 : Cond.initialized "java/lang/Math" ∈ gw_tbl) (hl4 : Cond.code Lib.Math.min.name Lib.Math.min.code 2 (some .int) ∈ gw_tbl) (hlev : Nat.ble 1 lev = true) (hsum : (st.map fun v => v.category).sum ≤ 8) (k : VVx cx sx G L X own cc nL ret lev emb n lv (.int (qv_mn x y) :: st) S o) : VVx cx sx G L X own cc nL ret lev emb pc lv (.int y :: .int x :: st) S o := by
  subst hn
  intro r hr ok H locs ls hP hS hl
  obtain ⟨hx, hb, hml, hown, hts⟩ := ok.1
  have h1 := Nat.le_of_ble_eq_true hlev
  exact va_mmin hx hb (by rw [hml, hl.1]) hown (hts _ hl1) (hts _ hl2) (hts _ hl3) (hts _ hl4) h1 (by simp only [qv_room, qv_roomx]; omega) (Nat.le_refl _) (Nat.le_refl _) hd (k r hr ok H locs ls hP hS hl)
theorem qr_ldcS0 {n : Nat} (hd : decode cc pc = .ok (.ldc 66, 2)) (hn : pc + 2 = n) (ho : own = "QuietTake$Tokens") (k : VVx cx sx G L X own cc nL ret lev emb n lv (.ref (G.2.2.1 1000) :: st) S o) : VVx cx sx G L X own cc nL ret lev emb pc lv st S o := by
  subst ho
  subst hn
  intro r hr ok H locs ls hP hS hl
  obtain ⟨hx, hb, hml, hown, hts⟩ := ok.1
  exact va_ldcS hx hb hown ok.2.2.2.2.2.2.1 hd (k r hr ok H locs ls hP hS hl)
theorem qr_ldcS1 {n : Nat} (hd : decode cc pc = .ok (.ldc 77, 2)) (hn : pc + 2 = n) (ho : own = "QuietTake$Tokens") (k : VVx cx sx G L X own cc nL ret lev emb n lv (.ref (G.2.2.1 1001) :: st) S o) : VVx cx sx G L X own cc nL ret lev emb pc lv st S o := by
  subst ho
  subst hn
  intro r hr ok H locs ls hP hS hl
  obtain ⟨hx, hb, hml, hown, hts⟩ := ok.1
  exact va_ldcS hx hb hown ok.2.2.2.2.2.2.2.1 hd (k r hr ok H locs ls hP hS hl)
theorem qr_gV (i : Nat) {idx n : Nat} (hd : decode cc pc = .ok (.getfield idx, 3)) (hn : pc + 3 = n) (hi : i < 2) (hw : Cond.fieldLink own idx "java/lang/String" "value" "[B" ∈ gw_tbl) (k : VVx cx sx G L X own cc nL ret lev emb n lv (.ref (G.2.2.1 (2000 + i)) :: st) S o) : VVx cx sx G L X own cc nL ret lev emb pc lv (.ref (G.2.2.1 (1000 + i)) :: st) S o := by
  subst hn
  intro r hr ok H locs ls hP hS hl
  obtain ⟨hx, hb, hml, hown, hts⟩ := ok.1
  exact vk_getf hx hb (ok.2.2.2.2.2.1.1 i hi).2.2.1 hS hown (hts _ hw) (fun _ h => h) hd (k r hr ok H locs ls hP hS hl)
theorem qr_gC (i : Nat) {idx n : Nat} (hd : decode cc pc = .ok (.getfield idx, 3)) (hn : pc + 3 = n) (hi : i < 2) (hw : Cond.fieldLink own idx "java/lang/String" "coder" "B" ∈ gw_tbl) (k : VVx cx sx G L X own cc nL ret lev emb n lv (.int 0 :: st) S o) : VVx cx sx G L X own cc nL ret lev emb pc lv (.ref (G.2.2.1 (1000 + i)) :: st) S o := by
  subst hn
  intro r hr ok H locs ls hP hS hl
  obtain ⟨hx, hb, hml, hown, hts⟩ := ok.1
  exact vk_getf hx hb (ok.2.2.2.2.2.1.1 i hi).2.1 hS hown (hts _ hw) (fun _ h => h) hd (k r hr ok H locs ls hP hS hl)
theorem qr_tb (i : Nat) {n : Nat} {j : Int32} (hd : decode cc pc = .ok (.baload, 1)) (hn : pc + 1 = n) (hi : i < 2) (k : VVx cx sx G L X own cc nL ret lev emb n lv (.int ((qv_byt.getD i []).getD (Int32.toNatClampNeg j) 0) :: st) S o) : VVx cx sx G L X own cc nL ret lev emb pc lv (.int j :: .ref (G.2.2.1 (2000 + i)) :: st) S (qv_ck j (qv_len.getD i 0) o) := by
  subst hn
  intro r hr ok H locs ls hP hS hl
  obtain ⟨hx, hb, hml, hown, hts⟩ := ok.1
  unfold qv_ck at hr
  split at hr
  · next h0 => exact va_tb hx hb (ok.2.2.2.2.2.1.1 i hi).2.2.2 hS (qv_in_iff.mp h0) rfl hd (k r hr ok H locs ls hP hS hl)
  · cases hr
theorem qr_tlen (i : Nat) {n : Nat} (hd : decode cc pc = .ok (.arraylength, 1)) (hn : pc + 1 = n) (hi : i < 2) (k : VVx cx sx G L X own cc nL ret lev emb n lv (.int (Int32.ofNat (qv_len.getD i 0)) :: st) S o) : VVx cx sx G L X own cc nL ret lev emb pc lv (.ref (G.2.2.1 (2000 + i)) :: st) S o := by
  subst hn
  intro r hr ok H locs ls hP hS hl
  obtain ⟨hx, hb, hml, hown, hts⟩ := ok.1
  exact va_tlen hx hb (ok.2.2.2.2.2.1.1 i hi).2.2.2 hS rfl hd (k r hr ok H locs ls hP hS hl)
theorem qr_gcs {idx n : Nat} (hd : decode cc pc = .ok (.getstatic idx, 3)) (hn : pc + 3 = n) (hw : Cond.fieldLink own idx "java/lang/String" "COMPACT_STRINGS" "Z" ∈ gw_tbl) (k : VVx cx sx G L X own cc nL ret lev emb n lv (.int 1 :: st) S o) : VVx cx sx G L X own cc nL ret lev emb pc lv st S o := by
  subst hn
  intro r hr ok H locs ls hP hS hl
  obtain ⟨hx, hb, hml, hown, hts⟩ := ok.1
  exact va_gets hx hb ok.2.2.2.2.2.2.2.2.1 hS hown (hts _ hw) (fun _ h => h) hd (k r hr ok H locs ls hP hS hl)
theorem qr_gfm {idx n : Nat} (hd : decode cc pc = .ok (.getstatic idx, 3)) (hn : pc + 3 = n) (hw : Cond.fieldLink own idx "jdk/internal/util/Preconditions" "SIOOBE_FORMATTER" "Ljava/util/function/BiFunction;" ∈ gw_tbl) (k : VVx cx sx G L X own cc nL ret lev emb n lv (qv_fm G :: st) S o) : VVx cx sx G L X own cc nL ret lev emb pc lv st S o := by
  subst hn
  intro r hr ok H locs ls hP hS hl
  obtain ⟨hx, hb, hml, hown, hts⟩ := ok.1
  exact va_gets hx hb ok.2.2.2.2.2.2.2.2.2.1 hS hown (hts _ hw) (fun _ h => h) hd (k r hr ok H locs ls hP hS hl)
theorem qr_nretB {x : Int32} {z : ρ} (hd : decode cc pc = .ok (.ireturn, 1)) (hrt : ret = some .byte) (he : emb z = (S, some (.int x))) : VVx cx sx G L X own cc nL ret lev emb pc lv [.int x] S (qv_rn .byte x (some z)) := by
  intro r hr ok H locs ls hP hS hl
  unfold qv_rn at hr
  split at hr
  · next h0 =>
    cases hr
    obtain ⟨hx, hb, hml, hown, hts⟩ := ok.1
    rw [he]
    exact W.zret hx hb (by rw [ok.2.1, hrt]) (show narrow .byte (.int x) = .int x from congrArg Value.int h0) (fun t ht hW => ⟨rfl, by rw [ht]; exact hP, hS.F ht⟩) hS.2.2 hd ok.2.2.1
  · cases hr
theorem qr_nretC {x : Int32} {z : ρ} (hd : decode cc pc = .ok (.ireturn, 1)) (hrt : ret = some .char) (he : emb z = (S, some (.int x))) : VVx cx sx G L X own cc nL ret lev emb pc lv [.int x] S (qv_rn .char x (some z)) := by
  intro r hr ok H locs ls hP hS hl
  unfold qv_rn at hr
  split at hr
  · next h0 =>
    cases hr
    obtain ⟨hx, hb, hml, hown, hts⟩ := ok.1
    rw [he]
    exact W.zret hx hb (by rw [ok.2.1, hrt]) (show narrow .char (.int x) = .int x from congrArg Value.int h0) (fun t ht hW => ⟨rfl, by rw [ht]; exact hP, hS.F ht⟩) hS.2.2 hd ok.2.2.1
  · cases hr
theorem qr_kvi {y : MethodName} {b : ByteArray} {maxL : Nat} {ret2 : Option FieldType} {lev2 idx na n : Nat} {of : Option Int32} {ko : Int32 → Option ρ} {st0 : List Value} (i : Nat) (As : List Value) (hd : decode cc pc = .ok (.invokevirtual idx, 3)) (hn : pc + 3 = n) (cv : qv_cv own idx y b maxL ret2 na) (hna : As.length = na) (hst : st0 = As.reverse ++ .ref (G.2.2.1 (1000 + i)) :: st) (hsum : (st.map fun v => v.category).sum ≤ 8) (hlev : Nat.ble (lev2 + 1) lev = true) (hmax : Nat.ble maxL 45 = true) (hi : i < 2) (hcl : y.cls = "java/lang/String") (hc : ∀ r2 : Int32, of = some r2 → Cn G L y b maxL ret2 lev2 (.ref (G.2.2.1 (1000 + i)) :: As) S (qe_i S r2))
    (k : ∀ x : Int32, VVx cx sx G L X own cc nL ret lev emb n lv (.int x :: st) S (ko x)) : VVx cx sx G L X own cc nL ret lev emb pc lv st0 S (of.bind ko) := by
  subst hn
  subst hst
  intro r hr ok H locs ls hP hS hl
  cases ho : of with
  | none => rw [ho] at hr; cases hr
  | some r2 =>
    rw [ho] at hr
    obtain ⟨hx, hb, hml, hown, hts⟩ := ok.1
    have h1 := Nat.le_of_ble_eq_true hlev
    have h2 := Nat.le_of_ble_eq_true hmax
    refine qv_after (va_runV (As := As) (rest := st) ⟨hx, hb, hml, hown, hts⟩ (hc r2 ho) (C := y.cls) ⟨callB_of na hts (gw_ws cv.1.2.2.2.2) rfl rfl rfl (hts _ cv.1.2.2.2.1) (hts _ cv.1.1) cv.2 ⟨h1, by simp only [qv_room, qv_roomx]; omega⟩, hts _ cv.1.2.1, hts _ cv.1.2.2.1⟩ ⟨qv_blind, by rw [hcl]; exact vk_recv (adK := fun i => G.2.2.1 (1000 + i)) (i := i) ok.2.2.2.2.2.1 hi hS, fun U hU hW => ⟨rfl, ok.2.2.2.2.1, by rw [hU]; exact hP, va_K.moved hW.alike ok.2.2.2.1, qv_ro_go ok.2.2.2.2.2 hS hU hW⟩⟩ rfl hna hl.1 rfl (lv_room hsum) hd ⟨Nat.le_refl _, Nat.le_refl _⟩) hS (fun H1 locs1 hP1 hS1 => ?_)
    exact k r2 r hr ok H1 locs1 ls hP1 hS1 hl
theorem qr_copy (a n0 b n1 : Nat) {rs0 rs1 : List Nat} {idx n : Nat} {sp dp c : Int32} {ko : qv_St → Option ρ} (hd : decode cc pc = .ok (.invokestatic idx, 3)) (hn : pc + 3 = n) (hl1 : Cond.methodLink own idx arraycopyName ∈ gw_tbl) (hl2 : Cond.native arraycopyName ∈ gw_tbl) (hl3 : Cond.static arraycopyName ∈ gw_tbl) (hl4 : Cond.initialized "java/lang/System" ∈ gw_tbl) (hlev : Nat.ble 1 lev = true) (hsum : (st.map fun v => v.category).sum ≤ 8) (ha : L[a]? = some (.inr (0, n0, rs0))) (hb1 : L[b]? = some (.inr (0, n1, rs1))) (k : ∀ S : qv_St, VVx cx sx G L X own cc nL ret lev emb n lv st S (ko S)) : VVx cx sx G L X own cc nL ret lev emb pc lv (.int c :: .int dp :: .ref (G.2.2.1 b) :: .int sp :: .ref (G.2.2.1 a) :: st) S (qv_cq sp dp c n0 n1 (qv_b (qv_cp S a sp.toNatClampNeg b dp.toNatClampNeg c.toNatClampNeg) ko)) := by
  subst hn
  intro r hr ok H locs ls hP hS hl
  obtain ⟨hx, hb, hml, hown, hts⟩ := ok.1
  have h1 := Nat.le_of_ble_eq_true hlev
  unfold qv_cq at hr
  split at hr
  · cases hr
  · next h0 =>
    simp only [not_or, Nat.not_lt] at h0
    obtain ⟨c1, c2, c3, c4, c5⟩ := h0
    refine va_copyi hx hb (by rw [hml, hl.1]) hown (hts _ hl1) (hts _ hl2) (hts _ hl3) (hts _ hl4) ok.2.2.2.1 hP (qv_D ok.2.2.2.2.1) hS a b 0 0 (ty := .int) (qv_at_a ha (by decide)) (qv_at_a hb1 (by decide)) rfl rfl rfl c1 c2 c3 c4 c5 (fun _ _ => rfl) h1 ?_ hd (fun H1 locs1 hP1 hD1 hS1 => ?_)
    · have h9 : nativeFrameWords "java/lang/System" "arraycopy" 5 + 11 ≤ 56 := by decide
      simp only [qv_roomx]
      omega
    · rw [qv_set_cp hb1] at hP1
      exact k _ r hr ok H1 locs1 ls hP1 hS1 hl
theorem qr_csiN {b : ByteArray} {maxL : Nat} {ret2 : Option FieldType} {lev2 na n : Nat} {y : MethodName} {of : Option Int32} {ko : Int32 → Option ρ} {st0 : List Value} (As : List Value) (hd : decode cc pc = .ok (.invokestatic 108, 3)) (hn : pc + 3 = n) (ho : own = "QuietTake$Reader") (hy : y = ⟨"QuietTake", "within", "(III)Z"⟩) (cv : (Cond.static y ∈ gw_tbl ∧ Cond.initialized y.cls ∈ gw_tbl ∧ Cond.code y b maxL ret2 ∈ gw_tbl) ∧ (y.cls ≠ "java/lang/invoke/MethodHandle" ∧ y.cls ≠ "java/lang/invoke/VarHandle" ∧ (parseMethodDescriptor y.desc).map (fun d => d.parameters.length) = some na)) (hna : As.length = na) (hst : st0 = As.reverse ++ st) (hsum : (st.map fun v => v.category).sum ≤ 8) (hlev : Nat.ble (lev2 + 1) lev = true) (hmax : Nat.ble maxL 45 = true) (hc : ∀ r2 : Int32, of = some r2 → Cn G L y b maxL ret2 lev2 As S (qe_i S r2))
    (k : ∀ x : Int32, VVx cx sx G L X own cc nL ret lev emb n lv (.int x :: st) S (ko x)) : VVx cx sx G L X own cc nL ret lev emb pc lv st0 S (of.bind ko) := by
  subst hn
  subst hst
  subst ho
  intro r hr ok H locs ls hP hS hl
  cases hof : of with
  | none => rw [hof] at hr; cases hr
  | some r2 =>
    rw [hof] at hr
    obtain ⟨hx, hb, hml, hown, hts⟩ := ok.1
    have h1 := Nat.le_of_ble_eq_true hlev
    have h2 := Nat.le_of_ble_eq_true hmax
    refine qv_after (va_runSN (As := As) (rest := st) (host := "QuietTake") ⟨hx, hb, hml, hown, hts⟩ (hc r2 hof) ⟨va_cnB na hts (gw_ws cv.1.2.2) rfl rfl rfl (by rw [hy]; exact ok.2.2.2.2.2.2.2.2.2.2) (hts _ cv.1.2.1) cv.2 ⟨h1, by simp only [qv_room, qv_roomx]; omega⟩, hts _ cv.1.1, trivial⟩ ⟨qv_blind, fun U hU hW => ⟨rfl, ok.2.2.2.2.1, by rw [hU]; exact hP, va_K.moved hW.alike ok.2.2.2.1, qv_ro_go ok.2.2.2.2.2 hS hU hW⟩⟩ rfl hna hl.1 rfl (lv_room hsum) hd ⟨Nat.le_refl _, Nat.le_refl _⟩) hS (fun H1 locs1 hP1 hS1 => ?_)
    exact k r2 r hr ok H1 locs1 ls hP1 hS1 hl
end QVX
