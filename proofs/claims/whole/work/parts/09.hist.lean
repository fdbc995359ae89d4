def tbX1_init : List (Nat × Instr × Nat) := [(0, .aload_n 0, 1), (1, .invokespecial 1, 3), (4, .aload_n 0, 1), (5, .bipush 40, 2), (7, .anewarray 9, 3), (10, .putfield 11, 3), (13, .iconst 0, 1), (14, .istore_n 1, 1), (15, .iload_n 1, 1), (16, .bipush 40, 2), (18, .if_icmp .ge 22, 3), (21, .aload_n 0, 1), (22, .getfield 11, 3), (25, .iload_n 1, 1), (26, .new 9, 3), (29, .dup, 1), (30, .invokespecial 15, 3), (33, .aastore, 1), (34, .iinc 1 1, 3), (37, .goto (-22), 3), (40, .return_, 1)]
set_option maxRecDepth 20000 in
theorem daX1_init : ∀ x ∈ tbX1_init, decode cX1_init x.1 = .ok x.2 := by decide +kernel
theorem dkX1_init {i pc n : Nat} {ins : Instr} (h : tbX1_init[i]? = some (pc, ins, n)) : decode cX1_init pc = .ok (ins, n) := daX1_init (pc, ins, n) (List.mem_of_getElem? h)
theorem ko_hist : Cond.methodLink RX1 1 Lib.objectInit ∈ gw_tbl := gw_ix 382 (by decide +kernel)
theorem kcl_hist : Cond.classLink RX1 9 "QuietTake$State" ∈ gw_tbl := gw_ix 383 (by decide +kernel)
theorem kin_st : Cond.instantiable RX6 8 ∈ gw_tbl := gw_ix 335 (by decide +kernel)
theorem kini_st : Cond.initialized RX6 ∈ gw_tbl := gw_ix 102 (by decide +kernel)
theorem jfh_11 : Cond.fieldLink RX1 11 (TX1 0).1 (TX1 0).2.1 (TX1 0).2.2.1 ∈ gw_tbl := gw_ix 386 (by decide +kernel)
theorem kcv_st : (Cond.instanceMethod yX6_init ∈ gw_tbl ∧ Cond.initialized yX6_init.cls ∈ gw_tbl ∧ Cond.code yX6_init cX6_init 1 none ∈ gw_tbl) ∧ (yX6_init.cls ≠ "java/lang/invoke/MethodHandle" ∧ yX6_init.cls ≠ "java/lang/invoke/VarHandle" ∧ (parseMethodDescriptor yX6_init.desc).map (fun d => d.parameters.length) = some 0) := ⟨⟨gw_ix 337 (by decide +kernel), gw_ix 102 (by decide +kernel), gw_ix 338 (by decide +kernel)⟩, by decide +kernel⟩
theorem dfX6 : ∀ j, j < 8 → defaultValue (tyX6 j) = vp_V [.int 0, .int 0, .int 0, .int 0, .null, .null, .null, .null] j := by
  intro j hj
  rcases (show j = 0 ∨ j = 1 ∨ j = 2 ∨ j = 3 ∨ j = 4 ∨ j = 5 ∨ j = 6 ∨ j = 7 by omega) with rfl | rfl | rfl | rfl | rfl | rfl | rfl | rfl <;> rfl
def hi_sts (cy : Nat → Nat) (B : Nat) : Nat → List va_E
  | 0 => []
  | i + 1 => hi_sts cy B i ++ bkX6_init cy (B + (2 + 5 * i))
def hi_f (B i : Nat) : Nat → Option Nat := fun k => if k < i then some (B + (2 + 5 * k)) else none
def hi_es (cy : Nat → Nat) (B i : Nat) : List va_E := [.inr (1, [.ref (B + 1), .int 0, .int 0]), .inl (cy 4, 40, .inr (.inr (.inr (.inr (hi_f B i)))))] ++ hi_sts cy B i
theorem hi_len (cy : Nat → Nat) (B : Nat) : ∀ i, (hi_sts cy B i).length = 5 * i
  | 0 => rfl
  | i + 1 => by
    rw [hi_sts, List.length_append, hi_len cy B i]
    show 5 * i + 5 = _
    omega
theorem hi_esl (cy : Nat → Nat) (B i : Nat) : (hi_es cy B i).length = 2 + 5 * i := by
  rw [hi_es, List.length_append, hi_len]; rfl
theorem hi_up (B i : Nat) : va_up (hi_f B i) i (some (B + (2 + 5 * i))) = hi_f B (i + 1) := by
  funext k
  by_cases h : k = i
  · subst h; simp [va_up, hi_f]
  · simp only [va_up, if_neg h, hi_f]
    by_cases h2 : k < i
    · rw [if_pos h2, if_pos (by omega)]
    · rw [if_neg h2, if_neg (by omega)]
abbrev bkX1_init (cy : Nat → Nat) (B : Nat) : List va_E := hi_es cy B 40
set_option maxRecDepth 20000 in
set_option maxHeartbeats 4000000 in
theorem hi_loop (l : Launch) (D : va_G) (cy ax : Nat → Nat) (B : Nat) (X : qv_XT) : ∀ (k i : Nat), i + k = 40 → VC l D cy ax B X RX1 cX1_init 2 2 201 1400 15 [(0, .ref B), (1, .int (nI i))] [] (hi_es cy B i) (1 + 5 * i) (40 + 34 * i) (MQ X.2.2.2.2.2.1 (qc_Q D B (bkX1_init cy B)) X.2.2.2.2.1 X.2.2.1 201 1400 (qc_A B)) := by
  intro k
  induction k with
  | zero =>
    intro i hi
    obtain rfl : i = 40 := by omega
    refine qc_iload_n (n := 16) 1 (dkX1_init (i := 8) rfl) rfl rfl ?_
    refine qc_bipush (n := 18) 40 (dkX1_init (i := 9) rfl) rfl (by decide) ?_
    refine qc_icmp_ge (t := 40) (n := 21) (dkX1_init (i := 10) rfl) (by decide) rfl (fun _ => ?_) (fun h => absurd (by decide) h)
    exact qc_ret (dkX1_init (i := 20) rfl) rfl rfl
  | succ k ih =>
    intro i hi
    have hi40 : i < 40 := by omega
    refine qc_iload_n (n := 16) 1 (dkX1_init (i := 8) rfl) rfl rfl ?_
    refine qc_bipush (n := 18) 40 (dkX1_init (i := 9) rfl) rfl (by decide) ?_
    refine qc_icmp_ge (t := 40) (n := 21) (dkX1_init (i := 10) rfl) (by decide) rfl (fun h => absurd h (nI_ge (b := 40) hi40 (by decide))) (fun _ => ?_)
    refine qc_aload_n (n := 22) 0 (dkX1_init (i := 11) rfl) rfl rfl ?_
    refine qc_get (n := 25) 0 0 (.ref (B + 1)) (dkX1_init (i := 12) rfl) rfl rfl rfl gnX1 (Nat.le_of_ble_eq_true rfl) jfh_11 rfl ?_
    refine qc_iload_n (n := 26) 1 (dkX1_init (i := 13) rfl) rfl rfl ?_
    refine qc_new (n := 29) (r := 2 + 5 * i) tyX6 [.int 0, .int 0, .int 0, .int 0, .null, .null, .null, .null] (dkX1_init (i := 14) rfl) rfl (ci := 6) rfl gnX6 tyX6_ok dfX6 kcl_hist kin_st kini_st (Nat.ble_eq_true_of_le (by omega)) (Nat.ble_eq_true_of_le (by omega)) (hi_esl cy B i) ?_
    refine qc_dup (n := 30) (dkX1_init (i := 15) rfl) rfl rfl ?_
    refine qc_callN (n := 33) (w := hi_es cy B i) (d := [.inr (6, [.int 0, .int 0, .int 0, .int 0, .null, .null, .null, .null])]) (d2 := bkX6_init cy (B + (2 + 5 * i))) (cN2 := 4) (sN2 := 26) [] (dkX1_init (i := 16) rfl) rfl rfl rfl (by rw [hi_esl]) rfl rfl rfl (fun A U h => h.2.2.2.2.2.1) kcv_st (by simp [Value.category]) rfl rfl (Nat.ble_eq_true_of_le (by omega)) (Nat.ble_eq_true_of_le (by omega)) (kcX6_init l D cy ax (B + (2 + 5 * i))) ?_
    refine qc_aast (n := 34) 1 (2 + 5 * i) (N := 40) (f := hi_f B i) (ci := 6) (vs := [.int 0, .int 0, .int 0, .int 0, .ref (B + (2 + 5 * i) + 1), .ref (B + (2 + 5 * i) + 2), .ref (B + (2 + 5 * i) + 3), .ref (B + (2 + 5 * i) + 4)]) (es2 := hi_es cy B (i + 1)) (dkX1_init (i := 17) rfl) rfl rfl ?_ rfl (vp_in_nI hi40 (by decide)) ?_ ?_
    · rw [List.getElem?_append_right (by rw [hi_esl]; exact Nat.le_refl _), hi_esl, Nat.sub_self]
      rfl
    · rw [nI_clamp (by omega), hi_up]
      show _ :: _ :: (hi_sts cy B i ++ _) = _
      rfl
    · refine qc_iinc (n := 37) (v := nI (i + 1)) (lv2 := [(0, .ref B), (1, .int (nI (i + 1)))]) 1 [1, 0] (dkX1_init (i := 18) rfl) rfl rfl (nI_1 i) (by decide) rfl ?_
      refine qc_goto (n := 15) (dkX1_init (i := 19) rfl) (by decide) ?_
      have h9 := ih (i + 1) (by omega)
      rw [show 1 + 5 * (i + 1) = 1 + 5 * i + 1 + 4 by omega, show 40 + 34 * (i + 1) = 40 + 34 * i + 8 + 26 by omega] at h9
      exact h9
set_option maxRecDepth 20000 in
set_option maxHeartbeats 4000000 in
theorem kcX1_init (l : Launch) (D : va_G) (cy ax : Nat → Nat) (B : Nat) : Kc l D cy ax yX1_init cX1_init 2 2 201 1400 [.ref B] B [.inr (1, [.null, .int 0, .int 0])] (bkX1_init cy B) := by
  refine kc_of (own := RX1) (lv := [(0, .ref B)]) rfl rfl rfl (Nat.le_of_ble_eq_true rfl) rfl rfl (fun X hX => ?_)
  refine qc_aload_n (n := 1) 0 (dkX1_init (i := 0) rfl) rfl rfl ?_
  refine qc_obj (n := 4) (dkX1_init (i := 1) rfl) rfl ko_hist kob1 kob2 rfl (Nat.le_of_ble_eq_true rfl) ?_
  refine qc_aload_n (n := 5) 0 (dkX1_init (i := 2) rfl) rfl rfl ?_
  refine qc_bipush (n := 7) 40 (dkX1_init (i := 3) rfl) rfl (by decide) ?_
  refine qc_arrq (n := 10) (N := 40) (r := 1) (dkX1_init (i := 4) rfl) rfl kcl_hist (by decide) (by decide) (by decide) rfl rfl rfl ?_
  refine qc_putF (n := 13) (v := .ref (B + 1)) (es2 := hi_es cy B 0) 0 0 (dkX1_init (i := 5) rfl) rfl rfl rfl gnX1 (Nat.le_of_ble_eq_true rfl) jfh_11 (Nat.le_of_ble_eq_true rfl) tyX1_ok nmX1 rfl rfl rfl rfl ?_ ?_
  · show _ = ([.inr (1, [.ref (B + 1), .int 0, .int 0]), .inl (cy 4, 40, .inr (.inr (.inr (.inr (hi_f B 0)))))] : List va_E)
    rw [show hi_f B 0 = fun _ => none from by funext k; simp [hi_f]]
    rfl
  · refine qc_iconst (n := 14) 0 (dkX1_init (i := 6) rfl) rfl (by decide) ?_
    refine qc_istore_n (n := 15) (lv2 := [(0, .ref B), (1, .int 0)]) [1, 0] (dkX1_init (i := 7) rfl) rfl rfl (by decide) rfl ?_
    exact hi_loop l D cy ax B X 40 0 rfl
/-! a layout's cells, one behind another, so that a machine can hold two lists of them against each other -/
def qc_gf (ad : Nat → Nat) (S : qv_St) (q : Nat) : Nat → List (Option Nat) → List Value
  | _, [] => []
  | j, f :: t => qv_fv ad S q j f :: qc_gf ad S q (j + 1) t
theorem qc_gf_eq (ad : Nat → Nat) (S : qv_St) (q : Nat) : ∀ (fs : List (Option Nat)) (n : Nat), fs.mapIdx (fun i f => qv_fv ad S q (i + n) f) = qc_gf ad S q n fs
  | [], _ => rfl
  | f :: t, n => by
    rw [List.mapIdx_cons, qc_gf, ← qc_gf_eq ad S q t (n + 1)]
    congr 1
    · rw [Nat.zero_add]
    · congr 1
      funext i f
      rw [show i + 1 + n = i + (n + 1) by omega]
def qc_gc (ad : Nat → Nat) (cy : Nat → ClassId) (S : qv_St) (q : Nat) (c : qv_Lc) : va_E := match c with
  | .inl o => .inr (o.1, qc_gf ad S q 0 o.2)
  | .inr a => if a.1 = 4 then .inl (cy 4, a.2.1, .inr (.inr (.inr (.inr (fun i => (a.2.2[i]?).map ad))))) else if a.1 = 3 then .inl (cy 3, a.2.1, .inr (.inl (S.2 q))) else .inl (cy a.1, a.2.1, .inl (S.1 q))
theorem qc_gc_eq {ad : Nat → Nat} {cy : Nat → ClassId} {S : qv_St} {q : Nat} {c : qv_Lc} : qv_cell ad cy S q c = qc_gc ad cy S q c := by
  cases c with
  | inl o =>
    simp only [qv_cell, qc_gc]
    rw [← qc_gf_eq ad S q o.2 0]
    rfl
  | inr a => rfl
def qc_go (ad : Nat → Nat) (cy : Nat → ClassId) (S : qv_St) : Nat → List qv_Lc → List va_E
  | _, [] => []
  | q, c :: t => qc_gc ad cy S q c :: qc_go ad cy S (q + 1) t
theorem qc_go_eq (ad : Nat → Nat) (cy : Nat → ClassId) (S : qv_St) : ∀ (L : List qv_Lc) (n : Nat), L.mapIdx (fun q c => qv_cell ad cy S (q + n) c) = qc_go ad cy S n L
  | [], _ => rfl
  | c :: t, n => by
    rw [List.mapIdx_cons, qc_go, ← qc_go_eq ad cy S t (n + 1)]
    congr 1
    · rw [Nat.zero_add, qc_gc_eq]
    · congr 1
      funext i c
      rw [show i + 1 + n = i + (n + 1) by omega]
theorem qc_es_go {ad : Nat → Nat} {cy : Nat → ClassId} {L : List qv_Lc} {S : qv_St} : qc_es ad cy L S = qc_go ad cy S 0 L := by
  rw [← qc_go_eq ad cy S L 0]
  rfl
