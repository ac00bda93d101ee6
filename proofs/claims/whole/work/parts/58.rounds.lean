/-! PURE: rounds of guesses -/
/-- a flag that comes up where p fails, and stays -/
def flg (p : Nat → Bool) (y : Int32) (i : Nat) : Nat → Int32
  | 0 => y
  | m + 1 => flg p (if y = 0 then (if p i = true then 0 else 1) else 1) (i + 1) m
theorem flg_01 (p : Nat → Bool) : ∀ (m i : Nat) (y : Int32), y = 0 ∨ y = 1 → flg p y i m = 0 ∨ flg p y i m = 1 := by
  intro m
  induction m with
  | zero => intro i y h; exact h
  | succ m ih =>
    intro i y h
    refine ih (i + 1) _ ?_
    split
    · split
      · exact Or.inl rfl
      · exact Or.inr rfl
    · exact Or.inr rfl
theorem flg_congr {p q : Nat → Bool} : ∀ (m i : Nat) (y : Int32), (∀ w, i ≤ w → w < i + m → p w = q w) → flg p y i m = flg q y i m := by
  intro m
  induction m with
  | zero => intro i y _; rfl
  | succ m ih =>
    intro i y h
    show flg p _ (i + 1) m = flg q _ (i + 1) m
    rw [h i (Nat.le_refl i) (by omega)]
    exact ih (i + 1) _ (fun w a b => h w (by omega) (by omega))
section R0
variable {labels guesses lengths words times totals sizes : Nat → Int32} {n : Nat} {len wd : Nat → Nat} {up dn : Nat}
/-- the guesses that come: of the rows i .. i + m those without a label -/
def gNew (labels : Nat → Int32) (bst : Nat → Int32) (g : Nat → Int32) (i m k : Nat) : Int32 := if i ≤ k ∧ k < i + m ∧ labels k = (-1) then bst k else g k
theorem ga_4 (hn : n ≤ 40) {bst : Nat → Int32} (hb : ∀ k, k < n → f_X2_bestLabel (nI k) lengths words times totals sizes (nI up) (nI dn) = some (bst k)) : ∀ (m i fu : Nat) (y : Int32) (g : Nat → Int32), i + m = n → m < fu → y = 0 ∨ y = 1 → ∃ g', f_X2_guessAnew_L4 labels lengths words times totals sizes (nI n) (nI up) (nI dn) fu (nI i) y g = some (nI n, flg (fun k => decide (labels k = (-1) → bst k = g k)) y i m, g') ∧ ∀ k, g' k = gNew labels bst g i m k := by
  intro m
  induction m with
  | zero =>
    intro i fu y g hi hfu hy
    obtain ⟨fu, rfl⟩ : ∃ q, fu = q + 1 := ⟨fu - 1, by omega⟩
    have e : i = n := by omega
    subst e
    refine ⟨g, ?_, fun k => by unfold gNew; rw [if_neg (by omega)]⟩
    rw [f_X2_guessAnew_L4.eq_2, if_pos (nI_le (Nat.le_refl _) (by omega))]
    rfl
  | succ m ih =>
    intro i fu y g hi hfu hy
    obtain ⟨fu, rfl⟩ : ∃ q, fu = q + 1 := ⟨fu - 1, by omega⟩
    rw [f_X2_guessAnew_L4.eq_2, if_neg (nI_ge (by omega) (by omega)), gA_n (by omega) (by decide)]
    by_cases c1 : labels i = (-1)
    · rw [if_pos c1, hb i (by omega)]
      simp only [Option.bind_some, nm, nI_1, gA_n (show i < 40 by omega) (show 40 < 2 ^ 31 by decide), sI_n (show i < 40 by omega) (show 40 < 2 ^ 31 by decide)]
      have key : ∀ z : Int32, z = 0 ∨ z = 1 → z = (if y = 0 then (if (decide (labels i = (-1) → bst i = g i)) = true then 0 else 1) else 1) → ∃ g', f_X2_guessAnew_L4 labels lengths words times totals sizes (nI n) (nI up) (nI dn) fu (nI (i + 1)) z (upd g i (bst i)) = some (nI n, flg (fun k => decide (labels k = (-1) → bst k = g k)) y i (m + 1), g') ∧ ∀ k, g' k = gNew labels bst g i (m + 1) k := by
        intro z hz ez
        obtain ⟨g', e1, e2⟩ := ih (i + 1) fu z (upd g i (bst i)) (by omega) (by omega) hz
        refine ⟨g', ?_, fun k => ?_⟩
        · rw [e1]
          congr 2
          congr 1
          show _ = flg _ _ (i + 1) m
          rw [← ez]
          refine flg_congr m (i + 1) z (fun w a b => ?_)
          rw [upd_eq, if_neg (show ¬ w = i by omega)]
        · rw [e2]
          unfold gNew
          rw [upd_eq]
          by_cases q : i + 1 ≤ k ∧ k < i + 1 + m ∧ labels k = (-1)
          · rw [if_pos q, if_pos (by refine ⟨by omega, by omega, q.2.2⟩)]
          · rw [if_neg q]
            by_cases q2 : k = i
            · rw [if_pos q2, if_pos (by subst q2; exact ⟨by omega, by omega, c1⟩), q2]
            · rw [if_neg q2, if_neg (fun q3 => q ⟨by omega, by omega, q3.2.2⟩)]
      rcases hy with rfl | rfl
      · rw [if_pos rfl]
        by_cases c2 : bst i = g i
        · rw [if_pos c2]
          exact key 0 (Or.inl rfl) (by rw [if_pos rfl, if_pos (decide_eq_true (fun _ => c2))])
        · rw [if_neg c2]
          exact key 1 (Or.inr rfl) (by rw [if_pos rfl, if_neg (show ¬ (decide (labels i = (-1) → bst i = g i)) = true from fun q => c2 (of_decide_eq_true q c1))])
      · rw [if_neg b10]
        exact key 1 (Or.inr rfl) (by rw [if_neg b10])
    · rw [if_neg c1]
      simp only [nm, nI_1]
      obtain ⟨g', e1, e2⟩ := ih (i + 1) fu y g (by omega) (by omega) hy
      refine ⟨g', ?_, fun k => ?_⟩
      · rw [e1]
        congr 2
        congr 1
        show _ = flg _ (if y = 0 then (if (decide (labels i = (-1) → bst i = g i)) = true then 0 else 1) else 1) (i + 1) m
        rw [show (decide (labels i = (-1) → bst i = g i)) = true from decide_eq_true (fun q => absurd q c1)]
        rcases hy with rfl | rfl
        · rfl
        · rfl
      · rw [e2]
        unfold gNew
        by_cases q : i + 1 ≤ k ∧ k < i + 1 + m ∧ labels k = (-1)
        · rw [if_pos q, if_pos (by refine ⟨by omega, by omega, q.2.2⟩)]
        · rw [if_neg q, if_neg (fun q3 => q ⟨by
            have : ¬ k = i := fun q4 => c1 (by rw [← q4]; exact q3.2.2)
            omega, by omega, q3.2.2⟩)]
theorem r6_2 (h : wfR labels guesses lengths words n len wd) {bst : Nat → Int32} (hb : ∀ k, k < n → ∀ wa wo, ∃ y4 y5, f_X6_bestOf (nI k) (nI n) labels guesses lengths words (nI up) (nI dn) wa wo = some (bst k, y4, y5)) : ∀ (m i fu : Nat) (cm : Nat → Int32) (wa wo : Int64), i + m = n → m < fu → ∃ cm' wa' wo', f_X6_round_L2 (nI n) labels guesses lengths words (nI up) (nI dn) fu (nI i) cm wa wo = some (nI n, cm', wa', wo') ∧ ∀ k, cm' k = if i ≤ k ∧ k < i + m then (if labels k = (-1) then bst k else (-1)) else cm k := by
  have hn := h.1
  intro m
  induction m with
  | zero =>
    intro i fu cm wa wo hi hfu
    obtain ⟨fu, rfl⟩ : ∃ q, fu = q + 1 := ⟨fu - 1, by omega⟩
    have e : i = n := by omega
    subst e
    refine ⟨cm, wa, wo, ?_, fun k => by rw [if_neg (by omega)]⟩
    rw [f_X6_round_L2.eq_2, if_pos (nI_le (Nat.le_refl _) (by omega))]
  | succ m ih =>
    intro i fu cm wa wo hi hfu
    obtain ⟨fu, rfl⟩ : ∃ q, fu = q + 1 := ⟨fu - 1, by omega⟩
    have hi40 : i < 40 := by omega
    have fin : ∀ (x : Int32) (wa wo : Int64), x = (if labels i = (-1) then bst i else (-1)) → ∃ cm' wa' wo', f_X6_round_L2 (nI n) labels guesses lengths words (nI up) (nI dn) fu (nI (i + 1)) (upd cm i x) wa wo = some (nI n, cm', wa', wo') ∧ ∀ k, cm' k = if i ≤ k ∧ k < i + (m + 1) then (if labels k = (-1) then bst k else (-1)) else cm k := by
      intro x wa wo hx
      obtain ⟨cm', wa', wo', e1, e2⟩ := ih (i + 1) fu (upd cm i x) wa wo (by omega) (by omega)
      refine ⟨cm', wa', wo', e1, fun k => ?_⟩
      rw [e2, upd_eq]
      by_cases q : i + 1 ≤ k ∧ k < i + 1 + m
      · rw [if_pos q, if_pos (show i ≤ k ∧ k < i + (m + 1) by omega)]
      · rw [if_neg q]
        by_cases q2 : k = i
        · rw [if_pos q2, if_pos (show i ≤ k ∧ k < i + (m + 1) by omega), hx, q2]
        · rw [if_neg q2, if_neg (show ¬ (i ≤ k ∧ k < i + (m + 1)) by omega)]
    rw [f_X6_round_L2.eq_2, if_neg (nI_ge (by omega) (by omega)), gA_n hi40 (by decide)]
    by_cases c1 : labels i = (-1)
    · obtain ⟨y4, y5, e0⟩ := hb i (by omega) wa wo
      rw [if_pos ((LB_neg (h.2.1 i (by omega))).mpr c1), e0]
      simp only [Option.bind_some, nm, nI_1, sI_n hi40 (show 40 < 2 ^ 31 by decide)]
      exact fin _ _ _ (by rw [if_pos c1])
    · rw [if_neg (fun q => c1 ((LB_neg (h.2.1 i (by omega))).mp q))]
      simp only [nm, nI_1, sI_n hi40 (show 40 < 2 ^ 31 by decide)]
      exact fin _ _ _ (by rw [if_neg c1])
theorem r6_44 (hn : n ≤ 40) (cm : Nat → Int32) : ∀ (m i fu : Nat) (y : Int32) (g : Nat → Int32), i + m = n → m < fu → y = 0 ∨ y = 1 → ∃ g', f_X6_round_L44 (nI n) cm fu (nI i) y g = some (nI n, flg (fun k => decide (g k = cm k)) y i m, g') ∧ ∀ k, g' k = if i ≤ k ∧ k < i + m then cm k else g k := by
  intro m
  induction m with
  | zero =>
    intro i fu y g hi hfu hy
    obtain ⟨fu, rfl⟩ : ∃ q, fu = q + 1 := ⟨fu - 1, by omega⟩
    have e : i = n := by omega
    subst e
    refine ⟨g, ?_, fun k => by rw [if_neg (by omega)]⟩
    rw [f_X6_round_L44.eq_2, if_pos (nI_le (Nat.le_refl _) (by omega))]
    rfl
  | succ m ih =>
    intro i fu y g hi hfu hy
    obtain ⟨fu, rfl⟩ : ∃ q, fu = q + 1 := ⟨fu - 1, by omega⟩
    have hi40 : i < 40 := by omega
    rw [f_X6_round_L44.eq_2, if_neg (nI_ge (by omega) (by omega))]
    simp only [nm, nI_1, gA_n hi40 (show 40 < 2 ^ 31 by decide), sI_n hi40 (show 40 < 2 ^ 31 by decide)]
    have key : ∀ z : Int32, z = 0 ∨ z = 1 → z = (if y = 0 then (if (decide (g i = cm i)) = true then 0 else 1) else 1) → ∃ g', f_X6_round_L44 (nI n) cm fu (nI (i + 1)) z (upd g i (cm i)) = some (nI n, flg (fun k => decide (g k = cm k)) y i (m + 1), g') ∧ ∀ k, g' k = if i ≤ k ∧ k < i + (m + 1) then cm k else g k := by
      intro z hz ez
      obtain ⟨g', e1, e2⟩ := ih (i + 1) fu z (upd g i (cm i)) (by omega) (by omega) hz
      refine ⟨g', ?_, fun k => ?_⟩
      · rw [e1]
        congr 2
        congr 1
        show _ = flg _ _ (i + 1) m
        rw [← ez]
        refine flg_congr m (i + 1) z (fun w a b => ?_)
        rw [upd_eq, if_neg (show ¬ w = i by omega)]
      · rw [e2, upd_eq]
        by_cases q : i + 1 ≤ k ∧ k < i + 1 + m
        · rw [if_pos q, if_pos (show i ≤ k ∧ k < i + (m + 1) by omega)]
        · rw [if_neg q]
          by_cases q2 : k = i
          · rw [if_pos q2, if_pos (show i ≤ k ∧ k < i + (m + 1) by omega), q2]
          · rw [if_neg q2, if_neg (show ¬ (i ≤ k ∧ k < i + (m + 1)) by omega)]
    rcases hy with rfl | rfl
    · rw [if_pos rfl]
      by_cases c2 : g i = cm i
      · rw [if_pos c2]
        exact key 0 (Or.inl rfl) (by rw [if_pos rfl, if_pos (decide_eq_true c2)])
      · rw [if_neg c2]
        exact key 1 (Or.inr rfl) (by rw [if_pos rfl, if_neg (fun q => c2 (of_decide_eq_true q))])
    · rw [if_neg b10]
      exact key 1 (Or.inr rfl) (by rw [if_neg b10])
end R0
/-- one round, of both -/
theorem round_f {labels guesses lengths words times totals sizes : Nat → Int32} {n : Nat} {len wd : Nat → Nat} {up dn : Nat} (h : wfR labels guesses lengths words n len wd) (ht : tallied labels guesses n len wd times totals sizes) (hu : up ≤ 3) (hd0 : 1 ≤ dn) (hd : dn ≤ 3) (hg : ∀ k, k < n → ¬ labels k = (-1) → guesses k = (-1)) (cm : Nat → Int32) (wa wo : Int64) :
    ∃ y g t o s cm' wa' wo', (y = 0 ∨ y = 1) ∧ f_X2_guessAnew labels guesses lengths words times totals sizes (nI n) (nI up) (nI dn) = some (y, g, t, o, s) ∧ f_X6_round (nI n) labels guesses cm lengths words (nI up) (nI dn) wa wo = some (y, g, cm', wa', wo') ∧ wfR labels g lengths words n len wd ∧ tallied labels g n len wd t o s ∧ ∀ k, k < n → ¬ labels k = (-1) → g k = (-1) := by
  have hF := FU_ge
  obtain ⟨hn, w1, w2, w3, w4⟩ := id h
  have hbst : ∃ bst : Nat → Int32, ∀ k, k < n → f_X2_bestLabel (nI k) lengths words times totals sizes (nI up) (nI dn) = some (bst k) ∧ LB (bst k) ∧ ∀ wa wo, ∃ y4 y5, f_X6_bestOf (nI k) (nI n) labels guesses lengths words (nI up) (nI dn) wa wo = some (bst k, y4, y5) := by
    refine ⟨fun k => (f_X2_bestLabel (nI k) lengths words times totals sizes (nI up) (nI dn)).getD 0, fun k hk => ?_⟩
    obtain ⟨r, e1, e2, e3⟩ := be_f h ht hu hd0 hd hk
    have e9 : (fun k => (f_X2_bestLabel (nI k) lengths words times totals sizes (nI up) (nI dn)).getD 0) k = r := by
      show (f_X2_bestLabel (nI k) lengths words times totals sizes (nI up) (nI dn)).getD 0 = r
      rw [e1]
      rfl
    rw [e9]
    exact ⟨e1, e2, e3⟩
  obtain ⟨bst, hb⟩ := hbst
  obtain ⟨g, a1, a2⟩ := ga_4 (labels := labels) hn (fun k hk => (hb k hk).1) n 0 FU 0 guesses (by omega) (by omega) (Or.inl rfl)
  obtain ⟨cm', wa', wo', b1, b2⟩ := r6_2 h (fun k hk => (hb k hk).2.2) n 0 FU cm wa wo (by omega) (by omega)
  obtain ⟨g6, d1, d2⟩ := r6_44 hn cm' n 0 FU 0 guesses (by omega) (by omega) (Or.inl rfl)
  have eg : g6 = g := by
    funext k
    rw [d2, a2]
    unfold gNew
    by_cases q : k < n
    · rw [if_pos (show 0 ≤ k ∧ k < 0 + n by omega), b2, if_pos (show 0 ≤ k ∧ k < 0 + n by omega)]
      by_cases q2 : labels k = (-1)
      · rw [if_pos q2, if_pos ⟨by omega, by omega, q2⟩]
      · rw [if_neg q2, if_neg (fun q3 => q2 q3.2.2), hg k q q2]
    · rw [if_neg (show ¬ (0 ≤ k ∧ k < 0 + n) by omega), if_neg (fun q3 => q (by omega))]
  have ef : flg (fun k => decide (guesses k = cm' k)) 0 0 n = flg (fun k => decide (labels k = (-1) → bst k = guesses k)) 0 0 n := by
    refine flg_congr n 0 0 (fun k _ hk => ?_)
    rw [b2, if_pos (show 0 ≤ k ∧ k < 0 + n by omega)]
    by_cases q2 : labels k = (-1)
    · rw [if_pos q2]
      refine decide_eq_decide.mpr ⟨fun e _ => e.symm, fun e => (e q2).symm⟩
    · rw [if_neg q2]
      refine decide_eq_decide.mpr ⟨fun _ e => absurd e q2, fun _ => hg k (by omega) q2⟩
  have hw2 : wfR labels g lengths words n len wd := by
    refine ⟨hn, w1, fun k hk => ?_, w3, w4⟩
    rw [a2]
    unfold gNew
    split
    · exact (hb k hk).2.1
    · exact w2 k hk
  obtain ⟨t, o, s, p1, p2⟩ := ta_f hw2 times totals sizes
  have h01 := flg_01 (fun k => decide (labels k = (-1) → bst k = guesses k)) n 0 0 (Or.inl rfl)
  refine ⟨_, g, t, o, s, cm', wa', wo', h01, ?_, ?_, hw2, p2, fun k hk q => ?_⟩
  · unfold f_X2_guessAnew
    simp only [nm]
    rw [show nI 0 = (0 : Int32) from rfl] at a1
    rw [a1, Option.bind_some]
    simp only
    rw [p1, Option.bind_some]
    exact bz_p h01
  · unfold f_X6_round
    simp only [nm]
    rw [show nI 0 = (0 : Int32) from rfl] at b1 d1
    rw [b1, Option.bind_some]
    simp only
    rw [d1, Option.bind_some]
    simp only
    rw [ef, bz_p h01, eg]
  · rw [a2]
    unfold gNew
    rw [if_neg (fun q3 => q q3.2.2)]
    exact hg k hk q
theorem rs_L {labels lengths words : Nat → Int32} {n : Nat} {len wd : Nat → Nat} {up dn N : Nat} (hu : up ≤ 3) (hd0 : 1 ≤ dn) (hd : dn ≤ 3) (hN : N ≤ 20) : ∀ (m d fu : Nat) (guesses times totals sizes cm : Nat → Int32) (wa wo : Int64), d + (m + 1) = N → m + 2 < fu → wfR labels guesses lengths words n len wd → tallied labels guesses n len wd times totals sizes → (∀ k, k < n → ¬ labels k = (-1) → guesses k = (-1)) →
    ∃ r z g t o s cm' wa' wo', f_X5_rounds_L17 (nI N) labels lengths words (nI n) (nI up) (nI dn) fu 1 (nI d) guesses times totals sizes = some (z, r, g, t, o, s) ∧ f_X6_rounds_L20 (nI N) (nI n) labels lengths words (nI up) (nI dn) fu (nI (d + 1)) guesses cm wa wo = some (r, g, cm', wa', wo') ∧ wfR labels g lengths words n len wd ∧ tallied labels g n len wd t o s ∧ ∀ k, k < n → ¬ labels k = (-1) → g k = (-1) := by
  intro m
  induction m with
  | zero =>
    intro d fu guesses times totals sizes cm wa wo hm hfu h ht hg
    obtain ⟨fu, rfl⟩ : ∃ q, fu = q + 2 := ⟨fu - 2, by omega⟩
    obtain ⟨y, g, t, o, s, cm', wa', wo', h01, e1, e2, e3, e4, e5⟩ := round_f h ht hu hd0 hd hg cm wa wo
    refine ⟨nI (d + 1), y, g, t, o, s, cm', wa', wo', ?_, ?_, e3, e4, e5⟩
    · rw [f_X5_rounds_L17.eq_2, if_neg b10, if_neg (nI_ge (by omega) (by omega)), e1, Option.bind_some]
      simp only [nm, nI_1]
      rw [f_X5_rounds_L17.eq_2]
      by_cases c : y = 0
      · rw [if_pos c]
      · rw [if_neg c, if_pos (nI_le (by omega) (by omega))]
    · rw [f_X6_rounds_L20.eq_2, e2, Option.bind_some]
      simp only
      by_cases c : y = 0
      · rw [if_pos c]
      · rw [if_neg c, if_pos (nI_le (by omega) (by omega))]
  | succ m ih =>
    intro d fu guesses times totals sizes cm wa wo hm hfu h ht hg
    obtain ⟨fu, rfl⟩ : ∃ q, fu = q + 2 := ⟨fu - 2, by omega⟩
    obtain ⟨y, g, t, o, s, cm', wa', wo', h01, e1, e2, e3, e4, e5⟩ := round_f h ht hu hd0 hd hg cm wa wo
    by_cases c : y = 0
    · refine ⟨nI (d + 1), y, g, t, o, s, cm', wa', wo', ?_, ?_, e3, e4, e5⟩
      · rw [f_X5_rounds_L17.eq_2, if_neg b10, if_neg (nI_ge (by omega) (by omega)), e1, Option.bind_some]
        simp only [nm, nI_1]
        rw [f_X5_rounds_L17.eq_2, if_pos c]
      · rw [f_X6_rounds_L20.eq_2, e2, Option.bind_some]
        simp only
        rw [if_pos c]
    · have c1 : y = 1 := by
        rcases h01 with q | q
        · exact absurd q c
        · exact q
      obtain ⟨r, z, g', t', o', s', cm2, wa2, wo2, f1, f2, f3, f4, f5⟩ := ih (d + 1) (fu + 1) g t o s cm' wa' wo' (by omega) (by omega) e3 e4 e5
      refine ⟨r, z, g', t', o', s', cm2, wa2, wo2, ?_, ?_, f3, f4, f5⟩
      · rw [f_X5_rounds_L17.eq_2, if_neg b10, if_neg (nI_ge (by omega) (by omega)), e1, Option.bind_some]
        simp only [nm, nI_1]
        rw [c1]
        exact f1
      · rw [f_X6_rounds_L20.eq_2, e2, Option.bind_some]
        simp only [nm, nI_1]
        rw [if_neg c, if_neg (nI_ge (by omega) (by omega))]
        exact f2
theorem st_rounds (i1 : Int32) {labels2 guesses2 lengths2 words2 times2 totals2 sizes2 labels6 guesses6 sizes6 words6 : Nat → Int32} {rowCount2 addedUp2 addedDown2 rows6 up6 down6 : Int32} (hI : INVr labels2 guesses2 lengths2 words2 times2 totals2 sizes2 rowCount2 addedUp2 addedDown2 rows6 labels6 guesses6 sizes6 words6 up6 down6) (thrown6 : Int32) (comes6 : Nat → Int32) (wa wo : Int64) :
    ∃ r guesses2' times2' totals2' sizes2' guesses6' comes6' wa' wo', f_X5_rounds i1 labels2 guesses2 lengths2 words2 times2 totals2 sizes2 rowCount2 addedUp2 addedDown2 = some (r, guesses2', times2', totals2', sizes2') ∧ f_X6_rounds i1 thrown6 rows6 labels6 guesses6 comes6 sizes6 words6 up6 down6 wa wo = some (r, 0, guesses6', comes6', wa', wo') ∧ INVr labels2 guesses2' lengths2 words2 times2' totals2' sizes2' rowCount2 addedUp2 addedDown2 rows6 labels6 guesses6' sizes6 words6 up6 down6 := by
  have hI0 := hI
  have hF := FU_ge
  obtain ⟨rfl, rfl, rfl, rfl, rfl, rfl, rfl, n, len, wd, up, dn, rfl, hw, ht, rfl, hu2, rfl, hd2, hd3, hz, hg⟩ := hI
  unfold f_X5_rounds f_X6_rounds
  simp only [nm, within5, within6, Option.bind_some]
  by_cases c1 : wb i1 1 20 = 0
  · rw [if_pos c1, if_pos c1]
    exact ⟨_, _, _, _, _, _, _, _, _, rfl, rfl, hI0⟩
  · rw [if_neg c1, if_neg c1]
    have hd : ∃ d, 1 ≤ d ∧ d ≤ 20 ∧ i1 = nI d := by
      unfold wb at c1
      by_cases q1 : i1 < 1
      · rw [if_pos q1] at c1; exact absurd rfl c1
      · rw [if_neg q1] at c1
        by_cases q2 : 20 < i1
        · rw [if_pos q2] at c1; exact absurd rfl c1
        · have e1 : ¬ i1.toInt < 1 := fun q => q1 (Int32.lt_iff_toInt_lt.mpr q)
          have e3 : ¬ 20 < i1.toInt := fun q => q2 (Int32.lt_iff_toInt_lt.mpr q)
          obtain ⟨d, hd, rfl⟩ := nI_of2 (x := i1) (M := 20) (n := 20) rfl (fun q => e1 (by have : i1.toInt < 0 := Int32.lt_iff_toInt_lt.mp q; omega)) (Int32.le_iff_toInt_le.mpr (by show i1.toInt ≤ 20; omega))
          rw [nI_toInt (by omega)] at e1
          exact ⟨d, by omega, hd, rfl⟩
    obtain ⟨N, d1, d2, rfl⟩ := hd
    obtain ⟨r, z, g, t, o, s, cm', wa', wo', e1, e2, e3, e4, e5⟩ := rs_L (N := N) hu2 hd2 hd3 d2 (N - 1) 0 FU guesses6 times2 totals2 sizes2 comes6 wa wo (by omega) (by omega) hw ht hg
    rw [show (nI 0) = (0 : Int32) from rfl] at e1
    rw [show (nI (0 + 1)) = (1 : Int32) from rfl] at e2
    rw [e1, e2]
    simp only [Option.bind_some]
    exact ⟨_, _, _, _, _, _, _, _, _, rfl, rfl, rfl, rfl, rfl, rfl, rfl, rfl, rfl, n, len, wd, up, dn, rfl, e3, e4, rfl, hu2, rfl, hd2, hd3, hz, e5⟩
