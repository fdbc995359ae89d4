/-- what the two must keep between them, call by call -/
def LawRel (Rel : Nat → qv_St → qv_St → Prop) : Prop :=
  (∀ (i : Nat) (S1 S2 : qv_St) (a1 a2 a3 a4 a5 : Int32), i + 6 ≤ 3072 → Rel i S1 S2 → ∃ (S1' : qv_St) (S2' : qv_St) (r : Int32), fX11_feed S1 a1 a2 a3 a4 a5 = some (S1', r) ∧ fX12_feed S2 a1 a2 a3 a4 a5 = some (S2', r) ∧ Rel (i + 6) S1' S2') ∧
  (∀ (i : Nat) (S1 S2 : qv_St) (a1 : Int32), i + 6 ≤ 3072 → Rel i S1 S2 → ∃ (S1' : qv_St) (S2' : qv_St) (r : Int32), fX11_back S1 a1 = some (S1', r) ∧ fX12_back S2 a1 = some (S2', r) ∧ Rel (i + 6) S1' S2') ∧
  (∀ (i : Nat) (S1 S2 : qv_St), i + 6 ≤ 3072 → Rel i S1 S2 → ∃ (S1' : qv_St) (S2' : qv_St) (r : Int32), fX11_read S1 = some (S1', r) ∧ fX12_read S2 = some (S2', r) ∧ Rel (i + 6) S1' S2') ∧
  (∀ (i : Nat) (S1 S2 : qv_St), i + 6 ≤ 3072 → Rel i S1 S2 → ∃ (r : Int32), fX11_place S1 = some r ∧ fX12_place S2 = some r ∧ Rel (i + 6) S1 S2) ∧
  (∀ (i : Nat) (S1 S2 : qv_St) (a1 a2 : Int32), i + 6 ≤ 3072 → Rel i S1 S2 → ∃ (S1' : qv_St) (S2' : qv_St) (r : Int32), fX11_noise S1 a1 a2 = some (S1', r) ∧ fX12_noise S2 a1 a2 = some (S2', r) ∧ Rel (i + 6) S1' S2') ∧
  (∀ (i : Nat) (S1 S2 : qv_St) (a1 a2 : Int32), i + 6 ≤ 3072 → Rel i S1 S2 → ∃ (S2' : qv_St) (r : Int32), fX11_shot S1 a1 a2 = some r ∧ fX12_shot S2 a1 a2 = some (S2', r) ∧ Rel (i + 6) S1 S2') ∧
  (∀ (i : Nat) (S1 S2 : qv_St) (a1 a2 a3 : Int32), i + 6 ≤ 3072 → Rel i S1 S2 → ∃ (S1' : qv_St) (S2' : qv_St) (r : Int32), fX11_heard S1 a1 a2 a3 = some (S1', r) ∧ fX12_heard S2 a1 a2 a3 = some (S2', r) ∧ Rel (i + 6) S1' S2') ∧
  (∀ (i : Nat) (S1 S2 : qv_St) (a1 a2 : Int32), i + 6 ≤ 3072 → Rel i S1 S2 → ∃ (S1' : qv_St) (S2' : qv_St) (r : Int32), fX11_loud S1 a1 a2 = some (S1', r) ∧ fX12_loud S2 a1 a2 = some (S2', r) ∧ Rel (i + 6) S1' S2') ∧
  (∀ (i : Nat) (S1 S2 : qv_St) (a1 a2 : Int32), i + 6 ≤ 3072 → Rel i S1 S2 → ∃ (S1' : qv_St) (S2' : qv_St) (r : Int32), fX11_bears S1 a1 a2 = some (S1', r) ∧ fX12_bears S2 a1 a2 = some (S2', r) ∧ Rel (i + 6) S1' S2') ∧
  (∀ (i : Nat) (S1 S2 : qv_St) (a1 : Int32), i + 6 ≤ 3072 → Rel i S1 S2 → ∃ (S1' : qv_St) (S2' : qv_St) (r : Int32), fX11_take S1 a1 = some (S1', r) ∧ fX12_take S2 a1 = some (S2', r) ∧ Rel (i + 6) S1' S2') ∧
  (∀ (i : Nat) (S1 S2 : qv_St) (a1 : Int32), i + 6 ≤ 3072 → Rel i S1 S2 → ∃ (S1' : qv_St) (S2' : qv_St) (r : Int32), fX11_waits S1 a1 = some (S1', r) ∧ fX12_waits S2 a1 = some (S2', r) ∧ Rel (i + 6) S1' S2') ∧
  (∀ (i : Nat) (S1 S2 : qv_St) (a1 : Int32), i + 6 ≤ 3072 → Rel i S1 S2 → ∃ (S1' : qv_St) (S2' : qv_St) (r : Int32), fX11_rests S1 a1 = some (S1', r) ∧ fX12_rests S2 a1 = some (S2', r) ∧ Rel (i + 6) S1' S2') ∧
  (∀ (i : Nat) (S1 S2 : qv_St) (a1 : Int32), i + 6 ≤ 3072 → Rel i S1 S2 → ∃ (S1' : qv_St) (S2' : qv_St) (r : Int32), fX11_moves S1 a1 = some (S1', r) ∧ fX12_moves S2 a1 = some (S2', r) ∧ Rel (i + 6) S1' S2') ∧
  (∀ (i : Nat) (S1 S2 : qv_St) (a1 a2 : Int32), i + 6 ≤ 3072 → Rel i S1 S2 → ∃ (S1' : qv_St) (S2' : qv_St) (r : Int32), fX11_pay S1 a1 a2 = some (S1', r) ∧ fX12_pay S2 a1 a2 = some (S2', r) ∧ Rel (i + 6) S1' S2') ∧
  (∀ (i : Nat) (S1 S2 : qv_St), i + 6 ≤ 3072 → Rel i S1 S2 → ∃ (S1' : qv_St) (S2' : qv_St) (r : Int32), fX11_undo S1 = some (S1', r) ∧ fX12_undo S2 = some (S2', r) ∧ Rel (i + 6) S1' S2') ∧
  (∀ (i : Nat) (S1 S2 : qv_St) (a1 a2 a3 : Int32), i + 6 ≤ 3072 → Rel i S1 S2 → ∃ (S1' : qv_St) (S2' : qv_St) (r : Int32), fX11_hole S1 a1 a2 a3 = some (S1', r) ∧ fX12_hole S2 a1 a2 a3 = some (S2', r) ∧ Rel (i + 6) S1' S2') ∧
  (∀ (i : Nat) (S1 S2 : qv_St) (a1 a2 a3 : Int32), i + 6 ≤ 3072 → Rel i S1 S2 → ∃ (S1' : qv_St) (S2' : qv_St) (r : Int32), fX11_holes S1 a1 a2 a3 = some (S1', r) ∧ fX12_holes S2 a1 a2 a3 = some (S2', r) ∧ Rel (i + 6) S1' S2') ∧
  (∀ (i : Nat) (S1 S2 : qv_St) (a1 a2 a3 : Int32), i + 6 ≤ 3072 → Rel i S1 S2 → ∃ (S1' : qv_St) (S2' : qv_St) (r : Int32), fX11_softest S1 a1 a2 a3 = some (S1', r) ∧ fX12_softest S2 a1 a2 a3 = some (S2', r) ∧ Rel (i + 6) S1' S2') ∧
  (∀ (i : Nat) (S1 S2 : qv_St) (a1 : Int32), i + 6 ≤ 3072 → Rel i S1 S2 → ∃ (S1' : qv_St) (S2' : qv_St) (r : Int32), fX11_next S1 a1 = some (S1', r) ∧ fX12_next S2 a1 = some (S2', r) ∧ Rel (i + 6) S1' S2') ∧
  (∀ (i : Nat) (S1 S2 : qv_St) (a1 a2 : Int32), i + 6 ≤ 3072 → Rel i S1 S2 → ∃ (S1' : qv_St) (S2' : qv_St) (r : Int32), fX11_loudest S1 a1 a2 = some (S1', r) ∧ fX12_loudest S2 a1 a2 = some (S2', r) ∧ Rel (i + 6) S1' S2') ∧
  (∀ (i : Nat) (S1 S2 : qv_St) (a1 a2 : Int32), i + 6 ≤ 3072 → Rel i S1 S2 → ∃ (S1' : qv_St) (S2' : qv_St) (r : Int32), fX11_peak S1 a1 a2 = some (S1', r) ∧ fX12_peak S2 a1 a2 = some (S2', r) ∧ Rel (i + 6) S1' S2') ∧
  (∀ (i : Nat) (S1 S2 : qv_St) (a1 : Int32), i + 6 ≤ 3072 → Rel i S1 S2 → ∃ (S1' : qv_St) (S2' : qv_St) (r : Int32), fX11_calmest S1 a1 = some (S1', r) ∧ fX12_calmest S2 a1 = some (S2', r) ∧ Rel (i + 6) S1' S2') ∧
  (∀ (i : Nat) (S1 S2 : qv_St) (a1 : Int32), i + 6 ≤ 3072 → Rel i S1 S2 → ∃ (S1' : qv_St) (S2' : qv_St) (r : Int32), fX11_ours S1 a1 = some (S1', r) ∧ fX12_ours S2 a1 = some (S2', r) ∧ Rel (i + 6) S1' S2') ∧
  (∀ (i : Nat) (S1 S2 : qv_St) (a1 a2 : Int32), i + 6 ≤ 3072 → Rel i S1 S2 → ∃ (S1' : qv_St) (S2' : qv_St) (r : Int32), fX11_best S1 a1 a2 = some (S1', r) ∧ fX12_best S2 a1 a2 = some (S2', r) ∧ Rel (i + 6) S1' S2') ∧
  (∀ (i : Nat) (S1 S2 : qv_St) (a1 : Int32), i + 6 ≤ 3072 → Rel i S1 S2 → ∃ (S1' : qv_St) (S2' : qv_St) (r : Int32), fX11_order S1 a1 = some (S1', r) ∧ fX12_order S2 a1 = some (S2', r) ∧ Rel (i + 6) S1' S2') ∧
  (∀ (i : Nat) (S1 S2 : qv_St) (a1 a2 : Int32), i + 6 ≤ 3072 → Rel i S1 S2 → ∃ (S1' : qv_St) (S2' : qv_St) (r : Int32), fX11_bribe S1 a1 a2 = some (S1', r) ∧ fX12_bribe S2 a1 a2 = some (S2', r) ∧ Rel (i + 6) S1' S2') ∧
  (∀ (i : Nat) (S1 S2 : qv_St) (a1 a2 : Int32), i + 6 ≤ 3072 → Rel i S1 S2 → ∃ (S1' : qv_St) (S2' : qv_St) (r : Int32), fX11_cellar S1 a1 a2 = some (S1', r) ∧ fX12_cellar S2 a1 a2 = some (S2', r) ∧ Rel (i + 6) S1' S2') ∧
  (∀ (i : Nat) (S1 S2 : qv_St) (a1 a2 : Int32), i + 6 ≤ 3072 → Rel i S1 S2 → ∃ (S1' : qv_St) (S2' : qv_St) (r : Int32), fX11_cheapest S1 a1 a2 = some (S1', r) ∧ fX12_cheapest S2 a1 a2 = some (S2', r) ∧ Rel (i + 6) S1' S2') ∧
  (∀ (i : Nat) (S1 S2 : qv_St) (a1 a2 : Int32), i + 6 ≤ 3072 → Rel i S1 S2 → ∃ (S1' : qv_St) (S2' : qv_St) (r : Int32), fX11_breakOff S1 a1 a2 = some (S1', r) ∧ fX12_breakOff S2 a1 a2 = some (S2', r) ∧ Rel (i + 6) S1' S2') ∧
  (∀ (i : Nat) (S1 S2 : qv_St) (a1 : Int32), i + 6 ≤ 3072 → Rel i S1 S2 → ∃ (S1' : qv_St) (S2' : qv_St) (r : Int32), fX11_join S1 a1 = some (S1', r) ∧ fX12_join S2 a1 = some (S2', r) ∧ Rel (i + 6) S1' S2') ∧
  (∀ (i : Nat) (S1 S2 : qv_St) (a1 a2 a3 : Int32), i + 6 ≤ 3072 → Rel i S1 S2 → ∃ (S1' : qv_St) (S2' : qv_St) (r : Int32), fX11_odds S1 a1 a2 a3 = some (S1', r) ∧ fX12_odds S2 a1 a2 a3 = some (S2', r) ∧ Rel (i + 6) S1' S2') ∧
  (∀ (i : Nat) (S1 S2 : qv_St) (a1 a2 a3 : Int32), i + 6 ≤ 3072 → Rel i S1 S2 → ∃ (S1' : qv_St) (S2' : qv_St) (r : Int32), fX11_tell S1 a1 a2 a3 = some (S1', r) ∧ fX12_tell S2 a1 a2 a3 = some (S2', r) ∧ Rel (i + 6) S1' S2') ∧
  (∀ (i : Nat) (S1 S2 : qv_St), i + 6 ≤ 3072 → Rel i S1 S2 → ∃ (S1' : qv_St) (S2' : qv_St) (r : Int32), fX11_forget S1 = some (S1', r) ∧ fX12_forget S2 = some (S2', r) ∧ Rel (i + 6) S1' S2') ∧
  (∀ (i : Nat) (S1 S2 : qv_St) (a1 a2 : Int32), i + 6 ≤ 3072 → Rel i S1 S2 → ∃ (S2' : qv_St) (r : Int32), fX11_when S1 a1 a2 = some r ∧ fX12_when S2 a1 a2 = some (S2', r) ∧ Rel (i + 6) S1 S2') ∧
  (∀ (i : Nat) (S1 S2 : qv_St) (a1 : Int32), i + 6 ≤ 3072 → Rel i S1 S2 → ∃ (S1' : qv_St) (S2' : qv_St) (r : Int32), fX11_hold S1 a1 = some (S1', r) ∧ fX12_hold S2 a1 = some (S2', r) ∧ Rel (i + 6) S1' S2') ∧
  (∀ (i : Nat) (S1 S2 : qv_St) (a1 : Int32), i + 6 ≤ 3072 → Rel i S1 S2 → ∃ (S1' : qv_St) (S2' : qv_St) (r : Int32), fX11_restore S1 a1 = some (S1', r) ∧ fX12_restore S2 a1 = some (S2', r) ∧ Rel (i + 6) S1' S2') ∧
  (∀ (i : Nat) (S1 S2 : qv_St) (a1 : Int32), i + 6 ≤ 3072 → Rel i S1 S2 → ∃ (S1' : qv_St) (S2' : qv_St) (r : Int32), fX11_count S1 a1 = some (S1', r) ∧ fX12_count S2 a1 = some (S2', r) ∧ Rel (i + 6) S1' S2') ∧
  (∀ (i : Nat) (S1 S2 : qv_St), i + 6 ≤ 3072 → Rel i S1 S2 → Rel (i + 6) S1 S2)
def tbL_m : List (Nat × Instr × Nat) := [(16, .iconst 0, 1), (17, .istore_n 3, 1), (18, .iload_n 3, 1), (19, .aload_n 0, 1), (20, .arraylength, 1), (21, .bipush 6, 2), (23, .isub, 1), (24, .if_icmp .gt 1279, 3), (27, .aload_n 0, 1), (28, .iload_n 3, 1), (29, .iaload, 1), (30, .bipush 63, 2), (32, .iand, 1), (33, .tableswitch 1264 0 36 #[163, 226, 249, 262, 275, 308, 341, 384, 417, 450, 473, 496, 519, 542, 575, 588, 631, 674, 717, 740, 773, 806, 829, 852, 885, 908, 941, 974, 1007, 1040, 1063, 1106, 1149, 1162, 1195, 1218, 1241], 163), (1297, .iinc 3 6, 3), (1300, .goto (-1282), 3), (1303, .iconst 1, 1), (1304, .ireturn, 1)]
set_option maxRecDepth 20000 in
theorem daL_m : ∀ x ∈ tbL_m, decode code x.1 = .ok x.2 := by decide +kernel
theorem dkL_m {i pc n : Nat} {ins : Instr} (h : tbL_m[i]? = some (pc, ins, n)) : decode code pc = .ok (ins, n) := daL_m (pc, ins, n) (List.mem_of_getElem? h)
theorem law_le {L i : Nat} (hL : L ≤ 3072) (hi : i ≤ 3078) : nI L - 6 < nI i ↔ L < i + 6 := by
  rw [Int32.lt_iff_toInt_lt, show (6 : Int32) = nI 6 from rfl, pk_sub_toInt (by omega) (by omega), nI_toInt (by omega)]
  omega
set_option maxRecDepth 20000 in
set_option maxHeartbeats 4000000 in
theorem law_loop {Rel : Nat → qv_St → qv_St → Prop} (hR0 : LawRel Rel) {l : Launch} {D : va_G} {cy ax : Nat → Nat} {B1 B2 b L : Nat} {xs : Nat → Int32} {X : qv_XT} (hL : L ≤ 3072) : ∀ (n i : Nat), i ≤ 3078 → L + 6 ≤ i + 6 * n → ∀ S1 S2 : qv_St, Rel i S1 S2 → VL l D cy ax B1 B2 b L xs X 18 [(0, .ref b), (1, .ref (qc_ad B1 ax 0)), (2, .ref (qc_ad B2 ax 0)), (3, .int (nI i))] [] S1 S2 := by
  intro n
  induction n with
  | zero =>
    intro i hi hn S1 S2 hrel
    refine vl_iload_n (n := 19) 3 (dkL_m (i := 2) rfl) rfl rfl ?_
    refine vl_aload_n (n := 20) 0 (dkL_m (i := 3) rfl) rfl rfl ?_
    refine vl_slen (n := 21) (dkL_m (i := 4) rfl) rfl ?_
    refine vl_bipush (n := 23) 6 (dkL_m (i := 5) rfl) rfl (by decide) ?_
    refine vl_isub (n := 24) (dkL_m (i := 6) rfl) rfl ?_
    refine vl_icmp_gt (t := 1303) (n := 27) (dkL_m (i := 7) rfl) (by decide) rfl (fun _ => ?_) (fun h => absurd ((law_le hL hi).mpr (by omega)) h)
    exact vl_end (n := 1304) (dkL_m (i := 16) rfl) rfl (dkL_m (i := 17) rfl)
  | succ n ih =>
    intro i hi hn S1 S2 hrel
    refine vl_iload_n (n := 19) 3 (dkL_m (i := 2) rfl) rfl rfl ?_
    refine vl_aload_n (n := 20) 0 (dkL_m (i := 3) rfl) rfl rfl ?_
    refine vl_slen (n := 21) (dkL_m (i := 4) rfl) rfl ?_
    refine vl_bipush (n := 23) 6 (dkL_m (i := 5) rfl) rfl (by decide) ?_
    refine vl_isub (n := 24) (dkL_m (i := 6) rfl) rfl ?_
    refine vl_icmp_gt (t := 1303) (n := 27) (dkL_m (i := 7) rfl) (by decide) rfl (fun _ => vl_end (n := 1304) (dkL_m (i := 16) rfl) rfl (dkL_m (i := 17) rfl)) (fun h => ?_)
    have hi6 : i + 6 ≤ L := by
      have h8 : ¬ L < i + 6 := fun z => h ((law_le hL hi).mpr z)
      omega
    have hnext : ∀ S1 S2 : qv_St, Rel (i + 6) S1 S2 → VL l D cy ax B1 B2 b L xs X 1297 [(0, .ref b), (1, .ref (qc_ad B1 ax 0)), (2, .ref (qc_ad B2 ax 0)), (3, .int (nI i))] [] S1 S2 := by
      intro S1 S2 hr
      refine vl_iinc (n := 1300) (v := nI (i + 6)) (lv2 := [(0, .ref b), (1, .ref (qc_ad B1 ax 0)), (2, .ref (qc_ad B2 ax 0)), (3, .int (nI (i + 6)))]) 3 [1, 2, 3, 0] (dkL_m (i := 14) rfl) rfl rfl (nI_add i 6) (by decide) rfl ?_
      refine vl_goto (n := 18) (dkL_m (i := 15) rfl) (by decide) ?_
      exact ih (i + 6) (by omega) (by omega) S1 S2 hr
    refine vl_aload_n (n := 28) 0 (dkL_m (i := 8) rfl) rfl rfl ?_
    refine vl_iload_n (n := 29) 3 (dkL_m (i := 9) rfl) rfl rfl ?_
    refine vl_sld (n := 30) (i := i) hL (by omega) (dkL_m (i := 10) rfl) rfl ?_
    refine vl_bipush (n := 32) 63 (dkL_m (i := 11) rfl) rfl (by decide) ?_
    refine vl_iand (n := 33) (dkL_m (i := 12) rfl) rfl ?_
    obtain ⟨j, hj, ej⟩ := pk_andE (xs i) (m := 63) 6 (by decide)
    rw [ej]
    rcases (show j = 0 ∨ j = 1 ∨ j = 2 ∨ j = 3 ∨ j = 4 ∨ j = 5 ∨ j = 6 ∨ j = 7 ∨ j = 8 ∨ j = 9 ∨ j = 10 ∨ j = 11 ∨ j = 12 ∨ j = 13 ∨ j = 14 ∨ j = 15 ∨ j = 16 ∨ j = 17 ∨ j = 18 ∨ j = 19 ∨ j = 20 ∨ j = 21 ∨ j = 22 ∨ j = 23 ∨ j = 24 ∨ j = 25 ∨ j = 26 ∨ j = 27 ∨ j = 28 ∨ j = 29 ∨ j = 30 ∨ j = 31 ∨ j = 32 ∨ j = 33 ∨ j = 34 ∨ j = 35 ∨ j = 36 ∨ 37 ≤ j by omega) with rfl | rfl | rfl | rfl | rfl | rfl | rfl | rfl | rfl | rfl | rfl | rfl | rfl | rfl | rfl | rfl | rfl | rfl | rfl | rfl | rfl | rfl | rfl | rfl | rfl | rfl | rfl | rfl | rfl | rfl | rfl | rfl | rfl | rfl | rfl | rfl | rfl | hj2
    · refine vl_tab (off := 163) (tgt := 196) (dkL_m (i := 13) rfl) (by decide) (by decide) rfl (by decide) ?_
      exact law_case_0 (hR0.1) hL hi6 hnext S1 S2 hrel
    · refine vl_tab (off := 226) (tgt := 259) (dkL_m (i := 13) rfl) (by decide) (by decide) rfl (by decide) ?_
      exact law_case_1 (hR0.2.1) hL hi6 hnext S1 S2 hrel
    · refine vl_tab (off := 249) (tgt := 282) (dkL_m (i := 13) rfl) (by decide) (by decide) rfl (by decide) ?_
      exact law_case_2 (hR0.2.2.1) hL hi6 hnext S1 S2 hrel
    · refine vl_tab (off := 262) (tgt := 295) (dkL_m (i := 13) rfl) (by decide) (by decide) rfl (by decide) ?_
      exact law_case_3 (hR0.2.2.2.1) hL hi6 hnext S1 S2 hrel
    · refine vl_tab (off := 275) (tgt := 308) (dkL_m (i := 13) rfl) (by decide) (by decide) rfl (by decide) ?_
      exact law_case_4 (hR0.2.2.2.2.1) hL hi6 hnext S1 S2 hrel
    · refine vl_tab (off := 308) (tgt := 341) (dkL_m (i := 13) rfl) (by decide) (by decide) rfl (by decide) ?_
      exact law_case_5 (hR0.2.2.2.2.2.1) hL hi6 hnext S1 S2 hrel
    · refine vl_tab (off := 341) (tgt := 374) (dkL_m (i := 13) rfl) (by decide) (by decide) rfl (by decide) ?_
      exact law_case_6 (hR0.2.2.2.2.2.2.1) hL hi6 hnext S1 S2 hrel
    · refine vl_tab (off := 384) (tgt := 417) (dkL_m (i := 13) rfl) (by decide) (by decide) rfl (by decide) ?_
      exact law_case_7 (hR0.2.2.2.2.2.2.2.1) hL hi6 hnext S1 S2 hrel
    · refine vl_tab (off := 417) (tgt := 450) (dkL_m (i := 13) rfl) (by decide) (by decide) rfl (by decide) ?_
      exact law_case_8 (hR0.2.2.2.2.2.2.2.2.1) hL hi6 hnext S1 S2 hrel
    · refine vl_tab (off := 450) (tgt := 483) (dkL_m (i := 13) rfl) (by decide) (by decide) rfl (by decide) ?_
      exact law_case_9 (hR0.2.2.2.2.2.2.2.2.2.1) hL hi6 hnext S1 S2 hrel
    · refine vl_tab (off := 473) (tgt := 506) (dkL_m (i := 13) rfl) (by decide) (by decide) rfl (by decide) ?_
      exact law_case_10 (hR0.2.2.2.2.2.2.2.2.2.2.1) hL hi6 hnext S1 S2 hrel
    · refine vl_tab (off := 496) (tgt := 529) (dkL_m (i := 13) rfl) (by decide) (by decide) rfl (by decide) ?_
      exact law_case_11 (hR0.2.2.2.2.2.2.2.2.2.2.2.1) hL hi6 hnext S1 S2 hrel
    · refine vl_tab (off := 519) (tgt := 552) (dkL_m (i := 13) rfl) (by decide) (by decide) rfl (by decide) ?_
      exact law_case_12 (hR0.2.2.2.2.2.2.2.2.2.2.2.2.1) hL hi6 hnext S1 S2 hrel
    · refine vl_tab (off := 542) (tgt := 575) (dkL_m (i := 13) rfl) (by decide) (by decide) rfl (by decide) ?_
      exact law_case_13 (hR0.2.2.2.2.2.2.2.2.2.2.2.2.2.1) hL hi6 hnext S1 S2 hrel
    · refine vl_tab (off := 575) (tgt := 608) (dkL_m (i := 13) rfl) (by decide) (by decide) rfl (by decide) ?_
      exact law_case_14 (hR0.2.2.2.2.2.2.2.2.2.2.2.2.2.2.1) hL hi6 hnext S1 S2 hrel
    · refine vl_tab (off := 588) (tgt := 621) (dkL_m (i := 13) rfl) (by decide) (by decide) rfl (by decide) ?_
      exact law_case_15 (hR0.2.2.2.2.2.2.2.2.2.2.2.2.2.2.2.1) hL hi6 hnext S1 S2 hrel
    · refine vl_tab (off := 631) (tgt := 664) (dkL_m (i := 13) rfl) (by decide) (by decide) rfl (by decide) ?_
      exact law_case_16 (hR0.2.2.2.2.2.2.2.2.2.2.2.2.2.2.2.2.1) hL hi6 hnext S1 S2 hrel
    · refine vl_tab (off := 674) (tgt := 707) (dkL_m (i := 13) rfl) (by decide) (by decide) rfl (by decide) ?_
      exact law_case_17 (hR0.2.2.2.2.2.2.2.2.2.2.2.2.2.2.2.2.2.1) hL hi6 hnext S1 S2 hrel
    · refine vl_tab (off := 717) (tgt := 750) (dkL_m (i := 13) rfl) (by decide) (by decide) rfl (by decide) ?_
      exact law_case_18 (hR0.2.2.2.2.2.2.2.2.2.2.2.2.2.2.2.2.2.2.1) hL hi6 hnext S1 S2 hrel
    · refine vl_tab (off := 740) (tgt := 773) (dkL_m (i := 13) rfl) (by decide) (by decide) rfl (by decide) ?_
      exact law_case_19 (hR0.2.2.2.2.2.2.2.2.2.2.2.2.2.2.2.2.2.2.2.1) hL hi6 hnext S1 S2 hrel
    · refine vl_tab (off := 773) (tgt := 806) (dkL_m (i := 13) rfl) (by decide) (by decide) rfl (by decide) ?_
      exact law_case_20 (hR0.2.2.2.2.2.2.2.2.2.2.2.2.2.2.2.2.2.2.2.2.1) hL hi6 hnext S1 S2 hrel
    · refine vl_tab (off := 806) (tgt := 839) (dkL_m (i := 13) rfl) (by decide) (by decide) rfl (by decide) ?_
      exact law_case_21 (hR0.2.2.2.2.2.2.2.2.2.2.2.2.2.2.2.2.2.2.2.2.2.1) hL hi6 hnext S1 S2 hrel
    · refine vl_tab (off := 829) (tgt := 862) (dkL_m (i := 13) rfl) (by decide) (by decide) rfl (by decide) ?_
      exact law_case_22 (hR0.2.2.2.2.2.2.2.2.2.2.2.2.2.2.2.2.2.2.2.2.2.2.1) hL hi6 hnext S1 S2 hrel
    · refine vl_tab (off := 852) (tgt := 885) (dkL_m (i := 13) rfl) (by decide) (by decide) rfl (by decide) ?_
      exact law_case_23 (hR0.2.2.2.2.2.2.2.2.2.2.2.2.2.2.2.2.2.2.2.2.2.2.2.1) hL hi6 hnext S1 S2 hrel
    · refine vl_tab (off := 885) (tgt := 918) (dkL_m (i := 13) rfl) (by decide) (by decide) rfl (by decide) ?_
      exact law_case_24 (hR0.2.2.2.2.2.2.2.2.2.2.2.2.2.2.2.2.2.2.2.2.2.2.2.2.1) hL hi6 hnext S1 S2 hrel
    · refine vl_tab (off := 908) (tgt := 941) (dkL_m (i := 13) rfl) (by decide) (by decide) rfl (by decide) ?_
      exact law_case_25 (hR0.2.2.2.2.2.2.2.2.2.2.2.2.2.2.2.2.2.2.2.2.2.2.2.2.2.1) hL hi6 hnext S1 S2 hrel
    · refine vl_tab (off := 941) (tgt := 974) (dkL_m (i := 13) rfl) (by decide) (by decide) rfl (by decide) ?_
      exact law_case_26 (hR0.2.2.2.2.2.2.2.2.2.2.2.2.2.2.2.2.2.2.2.2.2.2.2.2.2.2.1) hL hi6 hnext S1 S2 hrel
    · refine vl_tab (off := 974) (tgt := 1007) (dkL_m (i := 13) rfl) (by decide) (by decide) rfl (by decide) ?_
      exact law_case_27 (hR0.2.2.2.2.2.2.2.2.2.2.2.2.2.2.2.2.2.2.2.2.2.2.2.2.2.2.2.1) hL hi6 hnext S1 S2 hrel
    · refine vl_tab (off := 1007) (tgt := 1040) (dkL_m (i := 13) rfl) (by decide) (by decide) rfl (by decide) ?_
      exact law_case_28 (hR0.2.2.2.2.2.2.2.2.2.2.2.2.2.2.2.2.2.2.2.2.2.2.2.2.2.2.2.2.1) hL hi6 hnext S1 S2 hrel
    · refine vl_tab (off := 1040) (tgt := 1073) (dkL_m (i := 13) rfl) (by decide) (by decide) rfl (by decide) ?_
      exact law_case_29 (hR0.2.2.2.2.2.2.2.2.2.2.2.2.2.2.2.2.2.2.2.2.2.2.2.2.2.2.2.2.2.1) hL hi6 hnext S1 S2 hrel
    · refine vl_tab (off := 1063) (tgt := 1096) (dkL_m (i := 13) rfl) (by decide) (by decide) rfl (by decide) ?_
      exact law_case_30 (hR0.2.2.2.2.2.2.2.2.2.2.2.2.2.2.2.2.2.2.2.2.2.2.2.2.2.2.2.2.2.2.1) hL hi6 hnext S1 S2 hrel
    · refine vl_tab (off := 1106) (tgt := 1139) (dkL_m (i := 13) rfl) (by decide) (by decide) rfl (by decide) ?_
      exact law_case_31 (hR0.2.2.2.2.2.2.2.2.2.2.2.2.2.2.2.2.2.2.2.2.2.2.2.2.2.2.2.2.2.2.2.1) hL hi6 hnext S1 S2 hrel
    · refine vl_tab (off := 1149) (tgt := 1182) (dkL_m (i := 13) rfl) (by decide) (by decide) rfl (by decide) ?_
      exact law_case_32 (hR0.2.2.2.2.2.2.2.2.2.2.2.2.2.2.2.2.2.2.2.2.2.2.2.2.2.2.2.2.2.2.2.2.1) hL hi6 hnext S1 S2 hrel
    · refine vl_tab (off := 1162) (tgt := 1195) (dkL_m (i := 13) rfl) (by decide) (by decide) rfl (by decide) ?_
      exact law_case_33 (hR0.2.2.2.2.2.2.2.2.2.2.2.2.2.2.2.2.2.2.2.2.2.2.2.2.2.2.2.2.2.2.2.2.2.1) hL hi6 hnext S1 S2 hrel
    · refine vl_tab (off := 1195) (tgt := 1228) (dkL_m (i := 13) rfl) (by decide) (by decide) rfl (by decide) ?_
      exact law_case_34 (hR0.2.2.2.2.2.2.2.2.2.2.2.2.2.2.2.2.2.2.2.2.2.2.2.2.2.2.2.2.2.2.2.2.2.2.1) hL hi6 hnext S1 S2 hrel
    · refine vl_tab (off := 1218) (tgt := 1251) (dkL_m (i := 13) rfl) (by decide) (by decide) rfl (by decide) ?_
      exact law_case_35 (hR0.2.2.2.2.2.2.2.2.2.2.2.2.2.2.2.2.2.2.2.2.2.2.2.2.2.2.2.2.2.2.2.2.2.2.2.1) hL hi6 hnext S1 S2 hrel
    · refine vl_tab (off := 1241) (tgt := 1274) (dkL_m (i := 13) rfl) (by decide) (by decide) rfl (by decide) ?_
      exact law_case_36 (hR0.2.2.2.2.2.2.2.2.2.2.2.2.2.2.2.2.2.2.2.2.2.2.2.2.2.2.2.2.2.2.2.2.2.2.2.2.1) hL hi6 hnext S1 S2 hrel
    · refine vl_out (tgt := 1297) (dkL_m (i := 13) rfl) (Or.inr (by rw [nI_toInt (by omega)]; omega)) (by decide) ?_
      exact hnext S1 S2 (hR0.2.2.2.2.2.2.2.2.2.2.2.2.2.2.2.2.2.2.2.2.2.2.2.2.2.2.2.2.2.2.2.2.2.2.2.2.2 i S1 S2 (by omega) hrel)
