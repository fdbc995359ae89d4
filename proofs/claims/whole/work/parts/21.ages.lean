/-! lots and ages -/
theorem lp1_congr {A1 ρ : Type} {f g : (A1 → Option ρ) → A1 → Option ρ} {N : Nat} {a : A1} (h : ∀ self x, f self x = g self x) : qv_lp1 N f a = qv_lp1 N g a := by rw [show f = g from funext fun self => funext fun x => h self x]
theorem lp2_congr {A1 A2 ρ : Type} {f g : (A1 → A2 → Option ρ) → A1 → A2 → Option ρ} {N : Nat} {a : A1} {b : A2} (h : ∀ self x y, f self x y = g self x y) : qv_lp2 N f a b = qv_lp2 N g a b := by rw [show f = g from funext fun self => funext fun x => funext fun y => h self x y]
theorem lp3_congr {A1 A2 A3 ρ : Type} {f g : (A1 → A2 → A3 → Option ρ) → A1 → A2 → A3 → Option ρ} {N : Nat} {a : A1} {b : A2} {c : A3} (h : ∀ self x y z, f self x y z = g self x y z) : qv_lp3 N f a b c = qv_lp3 N g a b c := by rw [show f = g from funext fun self => funext fun x => funext fun y => funext fun z => h self x y z]
def mixI (h v : Int32) : Int32 := (((h ^^^ v) * 1103515245) + 12345) ^^^ (Int32.toUInt32 (((h ^^^ v) * 1103515245) + 12345) >>> (Int32.toUInt32 15 &&& Int32.toUInt32 31)).toInt32
def lotI (seed w : Int32) : Int32 := (Int32.toUInt32 (mixI (mixI seed 79) w) >>> (Int32.toUInt32 1 &&& Int32.toUInt32 31)).toInt32 - (Int32.toUInt32 (mixI (mixI seed 79) w) >>> (Int32.toUInt32 1 &&& Int32.toUInt32 31)).toInt32 / 100 * 100
theorem qv_lp1_s {A1 ρ : Type} {f : (A1 → Option ρ) → A1 → Option ρ} {n : Nat} {a : A1} : qv_lp1 (n + 1) f a = f (qv_lp1 n f) a := rfl
theorem lotM {S : qv_St} {w : Int32} : fX12_lotOf S w = some (lotI (S.1 0 55) w) := by
  simp only [fX12_lotOf, fX12_mixed, qv_b, Option.bind_some, qv_nz, show ¬ (100 : Int32) = 0 by decide, if_false]
  rfl
theorem lotC {S : qv_St} {w : Int32} : fX0_lot S w = some (lotI (S.1 254 6) w) := by
  unfold fX0_lot
  rw [show qv_N = 4997 + 1 + 1 + 1 from rfl]
  simp only [qv_b, qv_j]
  rw [qv_lp2_s, if_neg (by decide), if_pos rfl, qv_lp2_s, if_neg (by decide), if_neg (by decide), qv_lp2_s, if_pos (by decide)]
  simp only [qv_nz, show ¬ (100 : Int32) = 0 by decide, if_false]
  rfl
/-- the latest second till t, of n looked at, for which P holds -/
def lb (P : Nat → Prop) (hd : ∀ n, Decidable (P n)) : Nat → Nat → Option Nat
  | 0, _ => none
  | _ + 1, 0 => if P 0 then some 0 else none
  | n + 1, t + 1 => if P (t + 1) then some (t + 1) else lb P hd n t
theorem lb_pos {P : Nat → Prop} {hd : ∀ n, Decidable (P n)} {n t : Nat} (h : P t) : lb P hd (n + 1) t = some t := by
  cases t with
  | zero => rw [lb, if_pos h]
  | succ t => rw [lb, if_pos h]
theorem lb_neg0 {P : Nat → Prop} {hd : ∀ n, Decidable (P n)} {n : Nat} (h : ¬ P 0) : lb P hd (n + 1) 0 = none := by rw [lb, if_neg h]
theorem lb_neg {P : Nat → Prop} {hd : ∀ n, Decidable (P n)} {n t : Nat} (h : ¬ P (t + 1)) : lb P hd (n + 1) (t + 1) = lb P hd n t := by rw [lb, if_neg h]
theorem lb_some {P : Nat → Prop} {hd : ∀ n, Decidable (P n)} : ∀ (n t u : Nat), lb P hd n t = some u → u ≤ t ∧ t < u + n ∧ P u ∧ ∀ v, u < v → v ≤ t → ¬ P v
  | 0, _, _, h => by cases h
  | n + 1, t, u, h => by
    by_cases hp : P t
    · rw [lb_pos hp] at h
      cases h
      exact ⟨Nat.le_refl _, by omega, hp, fun v h1 h2 => by omega⟩
    · match t, h, hp with
      | 0, h, hp => rw [lb_neg0 hp] at h; cases h
      | t + 1, h, hp =>
        rw [lb_neg hp] at h
        obtain ⟨h1, h2, h3, h4⟩ := lb_some n t u h
        refine ⟨by omega, by omega, h3, fun v g1 g2 => ?_⟩
        by_cases hv : v = t + 1
        · subst hv; exact hp
        · exact h4 v g1 (by omega)
theorem lb_none {P : Nat → Prop} {hd : ∀ n, Decidable (P n)} : ∀ (n t : Nat), lb P hd n t = none → ∀ v, v ≤ t → t < v + n → ¬ P v
  | 0, t, _, v, h1, h2 => by omega
  | n + 1, t, h, v, h1, h2 => by
    by_cases hp : P t
    · rw [lb_pos hp] at h; cases h
    · by_cases hv : v = t
      · subst hv; exact hp
      · match t, h, hp with
        | 0, h, hp => omega
        | t + 1, h, hp =>
          rw [lb_neg hp] at h
          exact lb_none n t h v (by omega) (by omega)
abbrev begs (seed every : Int32) (k : Nat) (u : Nat) : Prop := lotI seed (8 * nI u + nI k) < every
def lbI (seed every : Int32) (k n t : Nat) : Option Nat := lb (begs seed every k) (fun _ => inferInstance) n t
def lbR (seed every : Int32) (k n t : Nat) : Int32 := match lbI seed every k n t with
  | some u => nI u
  | none => -1
theorem lbR_0 {seed every : Int32} {k t : Nat} : lbR seed every k 0 t = -1 := rfl
theorem lbR_pos {seed every : Int32} {k n t : Nat} (h : begs seed every k t) : lbR seed every k (n + 1) t = nI t := by
  unfold lbR lbI
  rw [lb_pos h]
theorem lbR_neg0 {seed every : Int32} {k n : Nat} (h : ¬ begs seed every k 0) : lbR seed every k (n + 1) 0 = -1 := by
  unfold lbR lbI
  rw [lb_neg0 h]
theorem lbR_neg {seed every : Int32} {k n t : Nat} (h : ¬ begs seed every k (t + 1)) : lbR seed every k (n + 1) (t + 1) = lbR seed every k n t := by
  unfold lbR lbI
  rw [lb_neg h]
theorem lb_loop {seed every : Int32} {k n t : Nat} (hn1 : n ≤ 99) (ht : t < 100000000) (N : Nat) (hN : 101 ≤ N) : qv_lp1 N (fun (self : Int32 → Option Int32) (x : Int32) => if x < 0 then some (-1) else if x ≤ nI t - nI n then some (-1) else if every ≤ lotI seed (8 * x + nI k) then self (x + (-1)) else some x) (nI t) = some (lbR seed every k n t) := by
  have key : ∀ (m u : Nat), u ≤ t → u + n = t + m → ∀ N, m + 1 < N → qv_lp1 N (fun (self : Int32 → Option Int32) (x : Int32) => if x < 0 then some (-1) else if x ≤ nI t - nI n then some (-1) else if every ≤ lotI seed (8 * x + nI k) then self (x + (-1)) else some x) (nI u) = some (lbR seed every k m u) := by
    intro m
    induction m with
    | zero =>
      intro u h1 h2 N hN
      obtain ⟨N, rfl⟩ : ∃ M, N = M + 1 := ⟨N - 1, by omega⟩
      rw [qv_lp1_s, if_neg (nI_pos (by omega)), if_pos (by rw [pk_sub (by omega), show t - n = u by omega]; exact Int32.le_refl _), lbR_0]
    | succ m ih =>
      intro u h1 h2 N hN
      obtain ⟨N, rfl⟩ : ∃ M, N = M + 1 := ⟨N - 1, by omega⟩
      rw [qv_lp1_s, if_neg (nI_pos (by omega)), if_neg (by rw [Int32.le_iff_toInt_le, pk_sub_toInt (by omega) (by omega), nI_toInt (by omega)]; omega)]
      by_cases hp : begs seed every k u
      · rw [if_neg (Int32.not_le.mpr hp), lbR_pos hp]
      · rw [if_pos (Int32.not_lt.mp hp)]
        cases u with
        | zero =>
          obtain ⟨N, rfl⟩ : ∃ M, N = M + 1 := ⟨N - 1, by omega⟩
          rw [show nI 0 + (-1) = -1 from by decide, qv_lp1_s, if_pos (by decide), lbR_neg0 hp]
        | succ u => rw [pk_m1, lbR_neg hp, ih u (by omega) (by omega) N (by omega)]
  exact key n t (Nat.le_refl _) (by omega) N (by omega)
theorem lastM {S : qv_St} {lv k n t : Nat} (hl : S.1 0 18 = nI lv) (hlv : lv ≤ 1) (hk : k < 8) (hn : S.1 13 (8 * lv + k) = nI n) (hn1 : n ≤ 99) (ht : t < 100000000) : fX12_lastBegun S (nI k) (nI t) = some (lbR (S.1 0 55) (S.1 12 (8 * lv + k)) k n t) := by
  have hix : 8 * S.1 0 18 + nI k = nI (8 * lv + k) := by
    rw [hl, show (8 : Int32) = nI 8 from rfl, pk_mul, nI_add]
  unfold fX12_lastBegun
  rw [hix, qi_ck (show 8 * lv + k < 16 by omega) (by omega), qi_cl (show 8 * lv + k < 2 ^ 31 by omega), qv_b, hn]
  refine (lp1_congr (fun self x => ?_)).trans (lb_loop hn1 ht qv_N (show 101 ≤ 5000 by omega))
  rw [lotM, Option.bind_some, qi_ck (show 8 * lv + k < 16 by omega) (by omega)]
def enc (d : Int32) (o : Option Nat) : Int32 := match o with
  | some a => nI a
  | none => d
theorem enc_s {d : Int32} {a : Nat} : enc d (some a) = nI a := rfl
theorem enc_n {d : Int32} : enc d none = d := rfl
/-- the age of a noise in second t: none where it is not on -/
def ag (clk : Bool) (f e n : Nat) (seed ev : Int32) (k t : Nat) : Option Nat := if clk = true then (if t < f then none else if (t - f) % e < n then some ((t - f) % e) else none) else (lbI seed ev k n t).map (fun u => t - u)
theorem ag_lt {clk : Bool} {f e n : Nat} {seed ev : Int32} {k t a : Nat} (h : ag clk f e n seed ev k t = some a) : a < n := by
  unfold ag at h
  cases clk with
  | true =>
    rw [if_pos rfl] at h
    by_cases h1 : t < f
    · rw [if_pos h1] at h; cases h
    · rw [if_neg h1] at h
      by_cases h2 : (t - f) % e < n
      · rw [if_pos h2] at h; cases h; exact h2
      · rw [if_neg h2] at h; cases h
  | false =>
    rw [if_neg (by decide)] at h
    cases h1 : lbI seed ev k n t with
    | none => rw [h1] at h; cases h
    | some u =>
      rw [h1] at h
      cases h
      have := lb_some n t u h1
      show t - u < n
      omega
theorem ageM {S : qv_St} {lv k n t f e : Nat} {clk : Bool} (hl : S.1 0 18 = nI lv) (hlv : lv ≤ 1) (hk : k < 8) (hc : S.1 10 (8 * lv + k) = if clk = true then 1 else 0) (hf : S.1 11 (8 * lv + k) = nI f) (hf1 : f < 100000) (he : clk = true → S.1 12 (8 * lv + k) = nI e ∧ 0 < e ∧ e < 100000) (hn : S.1 13 (8 * lv + k) = nI n) (hn1 : n ≤ 99) (ht : t < 100000000) : fX12_ageOf S (nI k) (nI t) = some (enc (-1) (ag clk f e n (S.1 0 55) (S.1 12 (8 * lv + k)) k t)) := by
  have hix : 8 * S.1 0 18 + nI k = nI (8 * lv + k) := by
    rw [hl, show (8 : Int32) = nI 8 from rfl, pk_mul, nI_add]
  have hi : 8 * lv + k < 16 := by omega
  unfold fX12_ageOf
  rw [hix, qv_b, qi_ck hi (by omega), qi_cl (by omega), hc]
  cases clk with
  | false =>
    rw [if_pos (by decide), lastM hl hlv hk hn hn1 ht, Option.bind_some]
    unfold ag lbR
    rw [if_neg (show ¬ (false = true) by decide)]
    cases h1 : lbI (S.1 0 55) (S.1 12 (8 * lv + k)) k n t with
    | none => rfl
    | some u =>
      have h2 := lb_some n t u h1
      show (if 0 ≤ nI u then some (nI t - nI u) else some (-1)) = some (nI (t - u))
      rw [if_pos (nI_pos' (by omega)), pk_sub (by omega)]
  | true =>
    obtain ⟨e1, e2, e3⟩ := he rfl
    rw [if_neg (by decide), qi_ck hi (by omega), hf, e1, hn]
    unfold ag
    rw [if_pos rfl]
    by_cases h1 : t < f
    · rw [if_neg (nI_ge h1 (by omega)), if_pos h1]
      rfl
    · rw [if_pos (nI_le (by omega) (by omega)), if_neg h1, qi_ck hi (by omega), qi_ck hi (by omega), qv_nz, if_neg (nI_ne0 e2 (by omega)), qv_b, qi_ck hi (by omega), pk_sub (by omega), pk_rem (by omega) e2 (by omega)]
      have h3 : (t - f) % e < e := Nat.mod_lt _ e2
      by_cases h2 : (t - f) % e < n
      · rw [if_neg (nI_ge h2 (by omega)), if_pos h2]
        rfl
      · rw [if_pos (nI_le (by omega) (by omega)), if_neg h2]
        rfl
/-- what a class's cache of one noise may hold: asked in second t0, the begin found then -/
def begOK (seed ev : Int32) (k n t : Nat) (b : Int32) : Prop := (∃ u, u ≤ t ∧ b = nI u ∧ begs seed ev k u ∧ ∀ v, u < v → v ≤ t → ¬ begs seed ev k v) ∨ (b = -1000 ∧ ∀ v, v ≤ t → t < v + n → ¬ begs seed ev k v)
def cacheOK (seed ev : Int32) (k n : Nat) (asked begun : Int32) : Prop := asked = -1000 ∨ ∃ t0, t0 < 100000000 ∧ asked = nI t0 ∧ begOK seed ev k n t0 begun
theorem begOK_age {seed ev : Int32} {k n t : Nat} {b : Int32} (h : begOK seed ev k n t b) (hn : n ≤ 99) (ht : t < 100000000) : (∃ u, u ≤ t ∧ b = nI u ∧ (t < u + n → lbI seed ev k n t = some u) ∧ (u + n ≤ t → lbI seed ev k n t = none)) ∨ (b = -1000 ∧ lbI seed ev k n t = none) := by
  rcases h with ⟨u, h1, h2, h3, h4⟩ | ⟨h1, h2⟩
  · refine Or.inl ⟨u, h1, h2, fun h5 => ?_, fun h5 => ?_⟩
    · cases h6 : lbI seed ev k n t with
      | none => exact absurd h3 (lb_none n t h6 u h1 h5)
      | some w =>
        obtain ⟨g1, g2, g3, g4⟩ := lb_some n t w h6
        have : w = u := by
          rcases Nat.lt_trichotomy w u with g | g | g
          · exact absurd h3 (g4 u g h1)
          · exact g
          · exact absurd g3 (h4 w g g1)
        rw [this]
    · cases h6 : lbI seed ev k n t with
      | none => rfl
      | some w =>
        obtain ⟨g1, g2, g3, g4⟩ := lb_some n t w h6
        exact absurd g3 (h4 w (by omega) g1)
  · refine Or.inr ⟨h1, ?_⟩
    cases h6 : lbI seed ev k n t with
    | none => rfl
    | some w =>
      obtain ⟨g1, g2, g3, g4⟩ := lb_some n t w h6
      exact absurd g3 (h2 w g1 g2)
/-- the class's search, with its cache -/
theorem lbC_loop {seed every : Int32} {k lo t : Nat} {d : Int32} {ρ : Type} (K4 : Int32 → Option ρ) (ht : t < 100000000) (hlo : lo ≤ t + 1) : ∀ (N : Nat), t + 2 < N + lo → qv_lp1 N (fun (self : Int32 → Option ρ) (x : Int32) => if x < nI lo then K4 d else if every ≤ lotI seed (8 * x + nI k) then self (x + (-1)) else K4 x) (nI t) = K4 (match lbI seed every k (t + 1 - lo) t with | some u => nI u | none => d) := by
  have key : ∀ (m u : Nat), u + 1 = lo + m → u ≤ t → ∀ N, m < N → qv_lp1 N (fun (self : Int32 → Option ρ) (x : Int32) => if x < nI lo then K4 d else if every ≤ lotI seed (8 * x + nI k) then self (x + (-1)) else K4 x) (nI u) = K4 (match lbI seed every k m u with | some u => nI u | none => d) := by
    intro m
    induction m with
    | zero =>
      intro u h1 h2 N hN
      obtain ⟨N, rfl⟩ : ∃ M, N = M + 1 := ⟨N - 1, by omega⟩
      rw [qv_lp1_s, if_pos (nI_lt (by omega) (by omega))]
      rfl
    | succ m ih =>
      intro u h1 h2 N hN
      obtain ⟨N, rfl⟩ : ∃ M, N = M + 1 := ⟨N - 1, by omega⟩
      rw [qv_lp1_s, if_neg (nI_nlt (by omega) (by omega))]
      unfold lbI
      by_cases hp : begs seed every k u
      · rw [if_neg (Int32.not_le.mpr hp), lb_pos hp]
      · rw [if_pos (Int32.not_lt.mp hp)]
        cases u with
        | zero =>
          have hm : m = 0 := by omega
          subst hm
          obtain ⟨N, rfl⟩ : ∃ M, N = M + 1 := ⟨N - 1, by omega⟩
          have hl : lo = 0 := by omega
          subst hl
          rw [show nI 0 + (-1) = -1 from by decide, qv_lp1_s, if_pos (by decide), lb_neg0 hp]
        | succ u =>
          rw [pk_m1, lb_neg hp]
          exact ih u (by omega) (by omega) N (by omega)
  intro N hN
  by_cases h : lo = t + 1
  · subst h
    obtain ⟨N, rfl⟩ : ∃ M, N = M + 1 := ⟨N - 1, by omega⟩
    rw [qv_lp1_s, if_pos (nI_lt (by omega) (by omega)), Nat.sub_self]
    rfl
  · exact key (t + 1 - lo) t (by omega) (Nat.le_refl _) N (by omega)
theorem upd_self {f : Nat → Int32} {k : Nat} : upd f k (f k) = f := by
  funext j
  by_cases h : j = k <;> simp [upd, h]
theorem nI_ne_m {a : Nat} (h : a < 2 ^ 31) : nI a ≠ -1000 := fun z => absurd (z ▸ nI_pos h) (by decide)
theorem hlo_eq {n t : Nat} (hn1 : n ≤ 99) (ht : t < 10000000) : qv_mx 0 (nI t - nI n + 1) = nI (t + 1 - n) := by
  unfold qv_mx
  by_cases h3 : n ≤ t
  · rw [pk_sub h3, nI_1, show t - n + 1 = t + 1 - n by omega, if_pos (show (0 : Int32) < nI (t + 1 - n) from nI_lt (a := 0) (by omega) (by omega))]
  · obtain ⟨d, rfl⟩ : ∃ d, n = t + 1 + d := ⟨n - (t + 1), by omega⟩
    have e0 : nI t - nI (t + 1 + d) + 1 = nI 0 - nI d := by
      rw [← nI_add (t + 1) d, ← nI_add t 1]
      show nI t - (nI t + 1 + nI d) + 1 = nI 0 - nI d
      rw [nI_0]
      generalize nI t = x
      generalize nI d = y
      grind
    rw [e0, if_neg (by rw [Int32.lt_iff_toInt_lt, pk_sub_toInt (by omega) (by omega)]; show ¬ ((0 : Int) < _); omega), show t + 1 - (t + 1 + d) = 0 by omega]
    rfl
set_option maxRecDepth 100000 in
theorem latC {S : qv_St} {k n t : Nat} {seed : Int32} (hk : k < 8) (hs : S.1 254 6 = seed) (hn : S.1 13 k = nI n) (hn0 : 0 < n) (hn1 : n ≤ 99) (ht : t < 10000000) (hc : cacheOK seed (S.1 12 k) k n (S.1 258 k) (S.1 259 k)) : ∃ b, fX0_latestBegin S (nI k) (nI t) = some (qs (qs S 258 (upd (S.1 258) k (nI t))) 259 (upd (S.1 259) k b), b) ∧ begOK seed (S.1 12 k) k n t b := by
  unfold fX0_latestBegin
  have hN5 : qv_N = 5000 := rfl
  generalize qv_N = N at hN5 ⊢
  dsimp only [qv_j, qv_b]
  have hq : ∀ {ρ : Type} {o : Option ρ}, qv_ck (nI k) 8 o = o := fun {ρ} {o} => qi_ck hk (by omega)
  have fin : ∀ b : Int32, (qv_ck (nI k) 8 (qv_ck (nI k) 8 (some (qv_si (qv_si S 258 k (nI t)) 259 k b, b)))) = some (qs (qs S 258 (upd (S.1 258) k (nI t))) 259 (upd (S.1 259) k b), b) := by
    intro b
    rw [hq, hq, qs_si, qs_si, qs_ne (show (259 : Nat) ≠ 258 by decide)]
  rw [hq, qi_cl (by omega)]
  by_cases h1 : S.1 258 k = nI t
  · rw [if_pos h1, hq]
    refine ⟨S.1 259 k, ?_, ?_⟩
    · rw [← h1, upd_self, qs_id, upd_self, qs_id]
    · rcases hc with h | ⟨t0, h2, h3, h4⟩
      · exact absurd (h1.symm.trans h) (nI_ne_m (by omega))
      · have : t0 = t := (nI_eq (by omega) (by omega)).mp (h3.symm.trans h1)
        subst this
        exact h4
  · rw [if_neg h1, hq]
    by_cases h2 : S.1 258 k = nI t - 1
    · rw [if_pos h2, if_neg (show ¬ (1 : Int32) = 0 by decide), if_neg (show ¬ (1 : Int32) = 0 by decide), hq]
      obtain ⟨t0, g1, g2, g3⟩ : ∃ t0, t0 < 100000000 ∧ S.1 258 k = nI t0 ∧ begOK seed (S.1 12 k) k n t0 (S.1 259 k) := by
        rcases hc with h | h
        · exfalso
          rw [h] at h2
          have := congrArg Int32.toInt h2
          rw [show (1 : Int32) = nI 1 from rfl, pk_sub_toInt (by omega) (by omega)] at this
          have h9 : Int32.toInt (-1000) = -1000 := by decide
          omega
        · exact h
      have ht0 : t = t0 + 1 := by
        have := congrArg Int32.toInt (h2.symm.trans g2)
        rw [show (1 : Int32) = nI 1 from rfl, pk_sub_toInt (by omega) (by omega), nI_toInt (by omega)] at this
        omega
      refine ⟨match lbI seed (S.1 12 k) k (t + 1 - t) t with | some u => nI u | none => S.1 259 k, ?_, ?_⟩
      · refine ((lp1_congr (fun self x => ?_)).trans (lbC_loop (seed := seed) (every := S.1 12 k) (k := k) (lo := t) (t := t) (d := S.1 259 k) (fun b => qv_ck (nI k) 8 (qv_ck (nI k) 8 (some (qv_si (qv_si S 258 k (nI t)) 259 k b, b)))) (by omega) (by omega) N (by omega))).trans (fin _)
        rw [lotC, hs, Option.bind_some]
        by_cases hx : x < nI t
        · rw [if_pos hx, if_pos hx]
        · rw [if_neg hx, if_neg hx]
          exact hq
      · rw [show t + 1 - t = 1 by omega]
        unfold lbI
        by_cases hp : begs seed (S.1 12 k) k t
        · rw [lb_pos hp]
          exact Or.inl ⟨t, Nat.le_refl _, rfl, hp, fun v h3 h4 => by omega⟩
        · subst ht0
          rw [lb_neg hp]
          rcases g3 with ⟨u, e1, e2, e3, e4⟩ | ⟨e1, e2⟩
          · refine Or.inl ⟨u, by omega, e2, e3, fun v h3 h4 => ?_⟩
            by_cases hv : v = t0 + 1
            · subst hv; exact hp
            · exact e4 v h3 (by omega)
          · refine Or.inr ⟨e1, fun v h3 h4 => ?_⟩
            by_cases hv : v = t0 + 1
            · subst hv; exact hp
            · exact e2 v (by omega) (by omega)
    · rw [if_neg h2, if_pos (show (0 : Int32) = 0 from rfl), if_pos (show (0 : Int32) = 0 from rfl), hq, hn]
      have hlo : qv_mx 0 (nI t - nI n + 1) = nI (t + 1 - n) := hlo_eq hn1 ht
      rw [hlo]
      refine ⟨match lbI seed (S.1 12 k) k (t + 1 - (t + 1 - n)) t with | some u => nI u | none => -1000, ?_, ?_⟩
      · refine ((lp1_congr (fun self x => ?_)).trans (lbC_loop (seed := seed) (every := S.1 12 k) (k := k) (lo := t + 1 - n) (t := t) (d := -1000) (fun b => qv_ck (nI k) 8 (qv_ck (nI k) 8 (some (qv_si (qv_si S 258 k (nI t)) 259 k b, b)))) (by omega) (by omega) N (by omega))).trans (fin _)
        rw [lotC, hs, Option.bind_some]
        by_cases hx : x < nI (t + 1 - n)
        · rw [if_pos hx, if_pos hx]
        · rw [if_neg hx, if_neg hx]
          exact hq
      · cases h6 : lbI seed (S.1 12 k) k (t + 1 - (t + 1 - n)) t with
        | none => exact Or.inr ⟨rfl, fun v h3 h4 => lb_none _ t h6 v h3 (by omega)⟩
        | some u =>
          obtain ⟨e1, e2, e3, e4⟩ := lb_some _ t u h6
          exact Or.inl ⟨u, e1, rfl, e3, e4⟩
