/-! the reference's E: units, the whole -/
def tvn (B : Nat → Nat) (L i : Nat) : Nat := if tk B L i = 23 then tnum B L i else 0
theorem tvn_lt {B : Nat → Nat} {L : Nat} (hL : L ≤ 2000) (hp : ∀ i, i < nT B L → ps B L i < L) (i : Nat) : tvn B L i ≤ 9999 := by
  unfold tvn
  by_cases h : tk B L i = 23
  · rw [if_pos h]; exact tv_lt hL (hp i) h
  · rw [if_neg h]; exact Nat.zero_le _
theorem valM {B : Nat → Nat} {L i : Nat} {S : qv_St} (h : tkM' B L S) (hk : tk B L i = 23) : S.1 5 i = nI (tvn B L i) := by
  obtain ⟨g, e⟩ := tk_in (B := B) (L := L) (i := i) (by omega)
  unfold tvn
  rw [if_pos hk]
  exact (h.1 i g).2.2.2.1 (e.symm.trans hk)
def cfg (B : Nat → Nat) (L sd c0 : Nat) (S0 : qv_St) (st : List Nat) (out : lwC) (t : Nat) (T : qv_St) : Prop :=
  lM B L (t, 0, 0) T ∧ (t ≤ 400 ∧ t ≤ nT B L) ∧ (stk st T ∧ cds c0 out T) ∧ (wst st ∧ nO st ≤ 6 ∧ T.1 0 12 = nI (nO st)) ∧ c0 + out.length + nP st ≤ 420 * sd + t ∧ fmE sd c0 S0 T
def bdS (B : Nat → Nat) (L sd c0 : Nat) (S0 : qv_St) (R : pst × lwC) (T : qv_St) : Prop := R.1.2.1 ≠ 0 ∧ R.1.2.1 ≤ 5 ∧ lM B L R.1 T ∧ fmE sd c0 S0 T
def stX (sd c0 : Nat) (T : qv_St) : Prop := ∃ st out, stk st T ∧ cds c0 out T ∧ wst st ∧ st.length ≤ 60 ∧ c0 + out.length + nP st ≤ 420 * sd + 419
theorem st60 {st : List Nat} (h : wst st) (h6 : nO st ≤ 6) : st.length ≤ 20 := by
  have h1 := st_bd st h
  have h2 := tpo_le st
  rw [st_len]
  omega
theorem goX {B : Nat → Nat} {L t : Nat} {T : qv_St} (h : lM B L (t, 0, 0) T) (h4 : t ≤ 400) (hn : t ≤ nT B L) (ht : tkM' B L T) (hk : tk B L t ≠ 24) : okk (fX12_goesOn T) (fun Z => fmP T Z ∧ ((t < 400 ∧ lM B L (t + 1, 0, 0) Z ∧ t + 1 ≤ nT B L) ∨ (¬ t < 400 ∧ lM B L (t, 2, t) Z))) := by
  have hq : qW B L (t, 0, 0) := ⟨⟨h4, Nat.zero_le _⟩, fun _ => hn⟩
  refine ok_mono (goesL h hq ht) ?_
  rintro Z ⟨z1, z2⟩
  refine ⟨z2, ?_⟩
  by_cases g : t < 400
  · rw [sP_lt g] at z1; exact Or.inl ⟨g, z1, (tk_in hk).1⟩
  · rw [sP_ge g] at z1; exact Or.inr ⟨g, z1⟩
theorem isB {B : Nat → Nat} {L : Nat} {T : qv_St} {p : pst} {x : Int32} (h : lM B L p T) (h1 : p.2.1 ≠ 0) (h5 : p.2.1 ≤ 5) : fX12_is T x = some 0 := by
  unfold fX12_is
  simp only [qj_e]
  rw [h.1, if_neg (nI_ne0 (by omega) (by omega))]
theorem failB {B : Nat → Nat} {L : Nat} {T : qv_St} {p : pst} {x : Int32} (h : lM B L p T) (h1 : p.2.1 ≠ 0) (h5 : p.2.1 ≤ 5) : fX12_fail T x = some T := by
  unfold fX12_fail
  rw [if_neg (by rw [h.1]; exact nI_nle (by omega) (by omega))]
theorem isVal {B : Nat → Nat} {L k t : Nat} {S : qv_St} (h : lM B L (t, 0, 0) S) (hw : qW B L (t, 0, 0)) (ht : tkM' B L S) (hk : kOK k = true) : ∃ b, fX12_is S (nI (km k)) = some b ∧ (tk B L t = k → b = 1) ∧ (tk B L t ≠ k → b = 0) := by
  refine ⟨_, isLM h hw ht hk, fun z => ?_, fun z => ?_⟩
  · rw [if_pos ⟨rfl, z⟩]
  · rw [if_neg (fun y => z y.2)]
theorem km_var {k : Nat} (hk : k < 62) : (13 ≤ k ∧ k ≤ 21 ∧ km k = 20 + k) ∨ (¬ (13 ≤ k ∧ k ≤ 21) ∧ km k < 33) := by
  by_cases h : 13 ≤ k ∧ k ≤ 21
  · exact Or.inl ⟨h.1, h.2, km_w (by omega)⟩
  · refine Or.inr ⟨h, ?_⟩
    by_cases h2 : k < 22
    · rw [km_w h2]; omega
    · unfold km
      rw [if_neg h2]
      repeat (first | (split; · decide) | decide)
theorem unitX {B : Nat → Nat} {L sd c0 t : Nat} {S0 T : qv_St} {st : List Nat} {out : lwC} {R : pst × lwC} (ht0 : tkM' B L S0) (hsd : sd ≤ 1) (h : cfg B L sd c0 S0 st out t T) (h40 : tk B L t ≠ 40) (hR : eR (tk B L) (tvn B L) true st out t = R) : okk (fX12_unit T) (fun Z => (∃ o, cfg B L sd c0 S0 st (out ++ [o]) (t + 1) Z ∧ eR (tk B L) (tvn B L) false st (out ++ [o]) (t + 1) = R) ∨ bdS B L sd c0 S0 R Z) := by
  obtain ⟨hl, ⟨h4, hn⟩, ⟨hs, hc⟩, ⟨hw, h6, h12⟩, hb, hf⟩ := h
  have ht := fmE_tk ht0 hf
  have hq : qW B L (t, 0, 0) := ⟨⟨h4, Nat.zero_le _⟩, fun _ => hn⟩
  have hk62 := kOK_lt (tk_ok (B := B) (L := L) (i := t))
  have h11 : T.1 0 11 = nI t := hl.2.1 rfl
  have h13 : T.1 0 13 = 0 := hl.1
  have hnp := st_bd st hw
  have htp := tpo_le st
  have k3 := (kindM ht hn h4).1
  have emitgo : ∀ k v : Int32, tk B L t ≠ 24 → nxS (tk B L) (tvn B L) t false st (out ++ [(k, v)]) = R → okk ((fX12_emit T k v).bind fun S_4 => (fX12_goesOn S_4).bind fun S_5 => some S_5) (fun Z => (∃ o, cfg B L sd c0 S0 st (out ++ [o]) (t + 1) Z ∧ eR (tk B L) (tvn B L) false st (out ++ [o]) (t + 1) = R) ∨ bdS B L sd c0 S0 R Z) := by
    intro k v h24 hnx
    refine ok_bd (emitX (k := k) (v := v) hc hsd (by omega)) ?_
    rintro Y ⟨y1, y2, y3⟩
    have hfY := fmE_trans hf (fmE_K y2)
    have hlY : lM B L (t, 0, 0) Y := lM_fr hl (y2.2.1 11 (by decide) (by decide)) (y2.2.1 13 (by decide) (by decide)) (y2.2.1 14 (by decide) (by decide))
    refine ok_bd (goX hlY h4 hn (fmE_tk ht0 hfY) h24) ?_
    rintro Z ⟨z1, z2⟩
    have hfZ := fmE_trans hfY (fmE_P z1)
    rcases z2 with ⟨g, z2, z3⟩ | ⟨g, z2⟩
    · rw [nx_lt g] at hnx
      refine ok_s (Or.inl ⟨(k, v), ⟨z2, ⟨by omega, z3⟩, ⟨⟨?_, ?_⟩, ⟨?_, ?_⟩⟩, ⟨hw, h6, ?_⟩, ?_, hfZ⟩, hnx⟩)
      · rw [z1.2.1 49 (by decide) (by decide) (by decide), y3]; exact hs.1
      · rw [z1.1 33 (by decide), y2.1 33 (by decide) (by decide) (by decide)]; exact hs.2
      · rw [z1.2.1 45 (by decide) (by decide) (by decide)]; exact y1.1
      · rw [z1.1 31 (by decide), z1.1 32 (by decide)]; exact y1.2
      · rw [z1.2.1 12 (by decide) (by decide) (by decide), y2.2.1 12 (by decide) (by decide)]; exact h12
      · rw [List.length_append]; show c0 + (out.length + 1) + nP st ≤ _; omega
    · rw [nx_ge g] at hnx
      refine ok_s (Or.inr ?_)
      rw [← hnx]
      exact ⟨(by decide : (2 : Nat) ≠ 0), (by decide : (2 : Nat) ≤ 5), z2, hfZ⟩
  obtain ⟨b2, e2, y2, n2⟩ : ∃ b, fX12_is T 2 = some b ∧ (tk B L t = 23 → b = 1) ∧ (tk B L t ≠ 23 → b = 0) := isVal (k := 23) hl hq ht rfl
  unfold fX12_unit
  rw [e2, Option.bind_some]
  by_cases g : tk B L t = 23
  · rw [y2 g]
    refine ok_neg (by decide) ?_
    rw [h11]
    refine ok_ck t rfl (by omega) (by decide) ?_
    rw [qi_cl (by omega), valM ht g]
    rw [er_23 h4 g] at hR
    exact emitgo _ _ (by omega) hR
  · rw [n2 g]
    refine ok_pos rfl ?_
    simp only [qj_e]
    refine ok_pos h13 ?_
    rw [h11]
    refine ok_ck t rfl (by omega) (by decide) ?_
    rw [qi_cl (by omega), k3]
    rcases km_var hk62 with ⟨v1, v2, v3⟩ | ⟨v1, v3⟩
    · refine ok_neg (show ¬ nI (km (tk B L t)) < 33 from nI_nlt (b := 33) (by omega) (by omega)) (ok_ck t rfl (by omega) (by decide) (ok_neg (show ¬ (41 : Int32) < nI (km (tk B L t)) from nI_nlt (a := 41) (by omega) (by decide)) (ok_ck t rfl (by omega) (by decide) ?_)))
      rw [er_vr h4 ⟨v1, v2⟩] at hR
      rw [show nI (km (tk B L t)) - 33 = nI (tk B L t - 13) from by rw [v3, show (33 : Int32) = nI 33 from rfl, pk_sub (by omega)]; congr 1; omega]
      exact emitgo _ _ (by omega) hR
    · refine ok_pos (show nI (km (tk B L t)) < 33 from nI_lt (b := 33) v3 (by decide)) ?_
      rw [er_no h4 h40 g v1] at hR
      refine ok_bd (failL 1 hl hq ht) ?_
      rintro Z ⟨z1, z2⟩
      refine ok_s (Or.inr ?_)
      rw [← hR]
      exact ⟨(by decide : (1 : Nat) ≠ 0), (by decide : (1 : Nat) ≤ 5), z1, fmE_trans hf (fmE_P z2)⟩
theorem unitB {B : Nat → Nat} {L sd c0 : Nat} {S0 T : qv_St} {R : pst × lwC} (h : bdS B L sd c0 S0 R T) : fX12_unit T = some T := by
  unfold fX12_unit
  simp only [qj_e]
  rw [isB h.2.2.1 h.1 h.2.1, Option.bind_some, if_pos rfl, if_neg (by rw [h.2.2.1.1]; have := h.1; have := h.2.1; exact nI_ne0 (by omega) (by omega)), failB h.2.2.1 h.1 h.2.1, Option.bind_some]
