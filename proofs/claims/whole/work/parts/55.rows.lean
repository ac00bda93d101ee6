/-! PURE: rows, what is counted of them -/
def LB (x : Int32) : Prop := x = (-1) ∨ ∃ l, l < 4 ∧ x = nI l
theorem nI_nm1 {k : Nat} (h : k < 2 ^ 31) : ¬ nI k = (-1) := by
  intro e
  have e1 := nI_toInt h
  rw [e] at e1
  have e2 : (-1 : Int32).toInt = -1 := rfl
  omega
theorem LB_neg {x : Int32} (h : LB x) : x < 0 ↔ x = (-1) := by
  rcases h with rfl | ⟨l, hl, rfl⟩
  · exact ⟨fun _ => rfl, fun _ => by decide⟩
  · exact ⟨fun q => absurd q (nI_pos (by omega)), fun q => absurd q (nI_nm1 (by omega))⟩
/-- the label that a row counts for -/
def cl (labels guesses : Nat → Int32) (k : Nat) : Int32 := if labels k = (-1) then guesses k else labels k
/-- rows that are as they may be -/
def wfR (labels guesses lengths words : Nat → Int32) (n : Nat) (len wd : Nat → Nat) : Prop :=
  n ≤ 40 ∧ (∀ k, k < n → LB (labels k)) ∧ (∀ k, k < n → LB (guesses k)) ∧ (∀ k, k < n → lengths k = nI (len k) ∧ len k ≤ 6) ∧ ∀ k j, k < n → j < len k → wd (k * 6 + j) < 8 ∧ words (k * 6 + j) = nI (wd (k * 6 + j))
theorem cl_LB {labels guesses lengths words : Nat → Int32} {n : Nat} {len wd : Nat → Nat} (h : wfR labels guesses lengths words n len wd) {k : Nat} (hk : k < n) : LB (cl labels guesses k) := by
  unfold cl
  split
  · exact h.2.2.1 k hk
  · exact h.2.1 k hk
def cw (wd : Nat → Nat) (k w j m : Nat) : Nat := sg (fun j => if wd (k * 6 + j) = w then 1 else 0) j m
def fS (labels guesses : Nat → Int32) (l k : Nat) : Nat := if cl labels guesses k = nI l then 1 else 0
def fT (labels guesses : Nat → Int32) (len : Nat → Nat) (l k : Nat) : Nat := if cl labels guesses k = nI l then len k else 0
def fM (labels guesses : Nat → Int32) (len wd : Nat → Nat) (l w k : Nat) : Nat := if cl labels guesses k = nI l then cw wd k w 0 (len k) else 0
theorem ix {a b k j : Nat} : nI k * nI a + nI j = nI (k * a + j) := by rw [pk_mul, nI_add]
theorem tr_27 {labels guesses lengths words : Nat → Int32} {n : Nat} {len wd : Nat → Nat} (h : wfR labels guesses lengths words n len wd) {k l : Nat} (hk : k < n) (hl : l < 4) : ∀ (m j fu : Nat) (times : Nat → Int32) (T : Nat → Nat → Nat), j + m = len k → m < fu → (∀ a, a < 4 → ∀ w, w < 8 → times (a * 8 + w) = nI (T a w)) → ∃ times', f_X2_tallyRow_L27 (nI k) (nI l) lengths words fu (nI j) times = some (nI (len k), times') ∧ ∀ a, a < 4 → ∀ w, w < 8 → times' (a * 8 + w) = nI (T a w + if a = l then cw wd k w j m else 0) := by
  obtain ⟨hn, -, -, hlen, hwd⟩ := h
  obtain ⟨hk1, hk2⟩ := hlen k hk
  intro m
  induction m with
  | zero =>
    intro j fu times T hj hfu hT
    obtain ⟨fu, rfl⟩ : ∃ q, fu = q + 1 := ⟨fu - 1, by omega⟩
    have e : j = len k := by omega
    subst e
    refine ⟨times, ?_, fun a ha w hw => by rw [hT a ha w hw]; simp [cw, sg]⟩
    rw [f_X2_tallyRow_L27.eq_2, gA_n (by omega) (by decide), hk1, if_pos (nI_le (Nat.le_refl _) (by omega))]
  | succ m ih =>
    intro j fu times T hj hfu hT
    obtain ⟨fu, rfl⟩ : ∃ q, fu = q + 1 := ⟨fu - 1, by omega⟩
    obtain ⟨w1, w2⟩ := hwd k j hk (by omega)
    obtain ⟨t', e1, e2⟩ := ih (j + 1) fu (upd times (l * 8 + wd (k * 6 + j)) (times (l * 8 + wd (k * 6 + j)) + 1)) (fun a w => T a w + if a = l ∧ wd (k * 6 + j) = w then 1 else 0) (by omega) (by omega) (fun a ha w hw => by
      rw [upd_eq]
      by_cases q : a = l ∧ wd (k * 6 + j) = w
      · obtain ⟨rfl, rfl⟩ := q
        rw [if_pos rfl, if_pos ⟨rfl, rfl⟩, hT a hl _ w1, nI_1]
      · rw [if_neg (fun q2 => q (by omega)), if_neg q]
        exact hT a ha w hw)
    refine ⟨t', ?_, fun a ha w hw => ?_⟩
    · rw [f_X2_tallyRow_L27.eq_2, gA_n (by omega) (by decide), hk1, if_neg (nI_ge (by omega) (by omega))]
      rw [show (6 : Int32) = nI 6 from rfl, show (8 : Int32) = nI 8 from rfl, ix (b := 0), gA_n (by omega) (by decide), w2, ix (b := 0), gA_n (by omega) (by decide), sI_n (by omega) (by decide)]
      simp only [nm, nI_1]
      exact e1
    · rw [e2 a ha w hw]
      congr 1
      have e3 : cw wd k w j (m + 1) = (if wd (k * 6 + j) = w then 1 else 0) + cw wd k w (j + 1) m := rfl
      rw [e3]
      by_cases q : a = l
      · simp only [q, true_and, if_true]
        omega
      · simp only [q, false_and, if_false]
theorem tr_f {labels guesses lengths words : Nat → Int32} {n : Nat} {len wd : Nat → Nat} (h : wfR labels guesses lengths words n len wd) {k l : Nat} (hk : k < n) (hl : l < 4) {times totals sizes : Nat → Int32} {T : Nat → Nat → Nat} {TO SI : Nat → Nat} (hT : ∀ a, a < 4 → ∀ w, w < 8 → times (a * 8 + w) = nI (T a w)) (hTO : ∀ a, a < 4 → totals a = nI (TO a)) (hSI : ∀ a, a < 4 → sizes a = nI (SI a)) :
    ∃ times' totals' sizes', f_X2_tallyRow (nI k) (nI l) lengths words times totals sizes = some (times', totals', sizes') ∧ (∀ a, a < 4 → ∀ w, w < 8 → times' (a * 8 + w) = nI (T a w + if a = l then cw wd k w 0 (len k) else 0)) ∧ (∀ a, a < 4 → totals' a = nI (TO a + if a = l then len k else 0)) ∧ ∀ a, a < 4 → sizes' a = nI (SI a + if a = l then 1 else 0) := by
  have hF := FU_ge
  obtain ⟨hn, -, -, hlen, -⟩ := id h
  obtain ⟨hk1, hk2⟩ := hlen k hk
  obtain ⟨t', e1, e2⟩ := tr_27 h hk hl (len k) 0 FU times T (by omega) (by omega) hT
  refine ⟨t', upd totals l (nI (TO l + len k)), upd sizes l (nI (SI l + 1)), ?_, e2, fun a ha => ?_, fun a ha => ?_⟩
  · unfold f_X2_tallyRow
    rw [gA_n hl (by decide), sI_n hl (by decide), gA_n hl (by decide), gA_n (by omega) (by decide), sI_n hl (by decide), hk1, hTO l hl, hSI l hl, nI_add, nI_1]
    simp only [nm]
    rw [show (0 : Int32) = nI 0 from rfl, e1]
    rfl
  · rw [upd_eq]
    by_cases q : a = l
    · rw [if_pos q, if_pos q, q]
    · rw [if_neg q, if_neg q]; exact hTO a ha
  · rw [upd_eq]
    by_cases q : a = l
    · rw [if_pos q, if_pos q, q]
    · rw [if_neg q, if_neg q]; exact hSI a ha
theorem ta_26 {labels guesses lengths words : Nat → Int32} {n : Nat} {len wd : Nat → Nat} (h : wfR labels guesses lengths words n len wd) : ∀ (m i fu : Nat) (times totals sizes : Nat → Int32) (T : Nat → Nat → Nat) (TO SI : Nat → Nat), i + m = n → m < fu → (∀ a, a < 4 → ∀ w, w < 8 → times (a * 8 + w) = nI (T a w)) → (∀ a, a < 4 → totals a = nI (TO a)) → (∀ a, a < 4 → sizes a = nI (SI a)) →
    ∃ times' totals' sizes', f_X2_tally_L26 labels guesses lengths words (nI n) fu (nI i) times totals sizes = some (nI n, times', totals', sizes') ∧ (∀ a, a < 4 → ∀ w, w < 8 → times' (a * 8 + w) = nI (T a w + sg (fM labels guesses len wd a w) i m)) ∧ (∀ a, a < 4 → totals' a = nI (TO a + sg (fT labels guesses len a) i m)) ∧ ∀ a, a < 4 → sizes' a = nI (SI a + sg (fS labels guesses a) i m) := by
  have hn := h.1
  intro m
  induction m with
  | zero =>
    intro i fu times totals sizes T TO SI hi hfu hT hTO hSI
    obtain ⟨fu, rfl⟩ : ∃ q, fu = q + 1 := ⟨fu - 1, by omega⟩
    have e : i = n := by omega
    subst e
    refine ⟨times, totals, sizes, ?_, hT, hTO, hSI⟩
    rw [f_X2_tally_L26.eq_2, if_pos (nI_le (Nat.le_refl _) (by omega))]
  | succ m ih =>
    intro i fu times totals sizes T TO SI hi hfu hT hTO hSI
    obtain ⟨fu, rfl⟩ : ∃ q, fu = q + 1 := ⟨fu - 1, by omega⟩
    have hin : i < n := by omega
    have step : ∀ x : Int32, x = cl labels guesses i → ∃ times' totals' sizes', (if x = (-1) then f_X2_tally_L26 labels guesses lengths words (nI n) fu (nI (i + 1)) times totals sizes else Option.bind (f_X2_tallyRow (nI i) x lengths words times totals sizes) fun (t, o, z) => f_X2_tally_L26 labels guesses lengths words (nI n) fu (nI (i + 1)) t o z) = some (nI n, times', totals', sizes') ∧ (∀ a, a < 4 → ∀ w, w < 8 → times' (a * 8 + w) = nI (T a w + sg (fM labels guesses len wd a w) i (m + 1))) ∧ (∀ a, a < 4 → totals' a = nI (TO a + sg (fT labels guesses len a) i (m + 1))) ∧ ∀ a, a < 4 → sizes' a = nI (SI a + sg (fS labels guesses a) i (m + 1)) := by
      intro x hx
      rcases cl_LB h hin with hc | ⟨l, hl, hc⟩
      · obtain ⟨t', o', s', q1, q2, q3, q4⟩ := ih (i + 1) fu times totals sizes T TO SI (by omega) (by omega) hT hTO hSI
        have no : ∀ a, a < 4 → ¬ cl labels guesses i = nI a := fun a ha q => nI_nm1 (show a < 2 ^ 31 by omega) (by rw [← q]; exact hc)
        refine ⟨t', o', s', by rw [hx, if_pos hc]; exact q1, fun a ha w hw => ?_, fun a ha => ?_, fun a ha => ?_⟩
        · rw [q2 a ha w hw]
          show _ = nI (T a w + (fM labels guesses len wd a w i + sg (fM labels guesses len wd a w) (i + 1) m))
          rw [show fM labels guesses len wd a w i = 0 from if_neg (no a ha), Nat.zero_add]
        · rw [q3 a ha]
          show _ = nI (TO a + (fT labels guesses len a i + sg (fT labels guesses len a) (i + 1) m))
          rw [show fT labels guesses len a i = 0 from if_neg (no a ha), Nat.zero_add]
        · rw [q4 a ha]
          show _ = nI (SI a + (fS labels guesses a i + sg (fS labels guesses a) (i + 1) m))
          rw [show fS labels guesses a i = 0 from if_neg (no a ha), Nat.zero_add]
      · obtain ⟨t1, o1, s1, p1, p2, p3, p4⟩ := tr_f h hin hl hT hTO hSI
        obtain ⟨t', o', s', q1, q2, q3, q4⟩ := ih (i + 1) fu t1 o1 s1 _ _ _ (by omega) (by omega) p2 p3 p4
        have iff : ∀ a, a < 4 → (cl labels guesses i = nI a ↔ a = l) := fun a ha => by rw [hc, nI_eq (by omega) (by omega)]; exact eq_comm
        refine ⟨t', o', s', ?_, fun a ha w hw => ?_, fun a ha => ?_, fun a ha => ?_⟩
        · rw [hx, hc, if_neg (nI_nm1 (by omega)), p1]
          exact q1
        · rw [q2 a ha w hw]
          show _ = nI (T a w + (fM labels guesses len wd a w i + sg (fM labels guesses len wd a w) (i + 1) m))
          unfold fM
          simp only [iff a ha]
          rw [Nat.add_assoc]
        · rw [q3 a ha]
          show _ = nI (TO a + (fT labels guesses len a i + sg (fT labels guesses len a) (i + 1) m))
          unfold fT
          simp only [iff a ha]
          rw [Nat.add_assoc]
        · rw [q4 a ha]
          show _ = nI (SI a + (fS labels guesses a i + sg (fS labels guesses a) (i + 1) m))
          unfold fS
          simp only [iff a ha]
          rw [Nat.add_assoc]
    rw [f_X2_tally_L26.eq_2, if_neg (nI_ge (by omega) (by omega)), gA_n (by omega) (by decide)]
    simp only [nm, nI_1]
    by_cases c1 : labels i = (-1)
    · rw [if_pos c1, gA_n (by omega) (by decide)]
      exact step (guesses i) (by unfold cl; rw [if_pos c1])
    · rw [if_neg c1, gA_n (by omega) (by decide)]
      exact step (labels i) (by unfold cl; rw [if_neg c1])
/-- the counts fit the rows -/
def tallied (labels guesses : Nat → Int32) (n : Nat) (len wd : Nat → Nat) (times totals sizes : Nat → Int32) : Prop :=
  (∀ a, a < 4 → ∀ w, w < 8 → times (a * 8 + w) = nI (sg (fM labels guesses len wd a w) 0 n)) ∧ (∀ a, a < 4 → totals a = nI (sg (fT labels guesses len a) 0 n)) ∧ ∀ a, a < 4 → sizes a = nI (sg (fS labels guesses a) 0 n)
theorem ta_f {labels guesses lengths words : Nat → Int32} {n : Nat} {len wd : Nat → Nat} (h : wfR labels guesses lengths words n len wd) (times totals sizes : Nat → Int32) :
    ∃ times' totals' sizes', f_X2_tally labels guesses lengths words times totals sizes (nI n) = some (times', totals', sizes') ∧ tallied labels guesses n len wd times' totals' sizes' := by
  have hF := FU_ge
  have hn := h.1
  obtain ⟨t1, p1, p2⟩ := setAll_f (N := 32) (by decide) times 0
  obtain ⟨o1, p3, p4⟩ := setAll_f (N := 4) (by decide) totals 0
  obtain ⟨s1, p5, p6⟩ := setAll_f (N := 4) (by decide) sizes 0
  have z0 : (0 : Int32) = nI 0 := rfl
  have r1 : ∀ a, a < 4 → ∀ w, w < 8 → t1 (a * 8 + w) = nI 0 := fun a ha w hw => by rw [p2, if_pos (show a * 8 + w < 32 by omega), z0]
  have r2 : ∀ a, a < 4 → o1 a = nI 0 := fun a ha => by rw [p4, if_pos ha, z0]
  have r3 : ∀ a, a < 4 → s1 a = nI 0 := fun a ha => by rw [p6, if_pos ha, z0]
  obtain ⟨t', o', s', q1, q2, q3, q4⟩ := ta_26 h n 0 FU t1 o1 s1 (fun _ _ => 0) (fun _ => 0) (fun _ => 0) (by omega) (by omega) r1 r2 r3
  refine ⟨t', o', s', ?_, fun a ha w hw => by rw [q2 a ha w hw, Nat.zero_add], fun a ha => by rw [q3 a ha, Nat.zero_add], fun a ha => by rw [q4 a ha, Nat.zero_add]⟩
  unfold f_X2_tally
  rw [p1, Option.bind_some, p3, Option.bind_some, p5, Option.bind_some]
  simp only [nm]
  rw [z0, q1, Option.bind_some]
theorem sa_f {labels guesses lengths words : Nat → Int32} {n : Nat} {len wd : Nat → Nat} (hn : n ≤ 40) (hlab : ∀ k, k < n → LB (labels k)) (hlen : ∀ k, k < n → lengths k = nI (len k) ∧ len k ≤ 6) (hwd : ∀ k j, k < n → j < len k → wd (k * 6 + j) < 8 ∧ words (k * 6 + j) = nI (wd (k * 6 + j))) (times totals sizes : Nat → Int32) :
    ∃ g times' totals' sizes', f_X2_startAnew labels guesses lengths words times totals sizes (nI n) = some (g, times', totals', sizes') ∧ (∀ w, g w = if w < 40 then (-1) else guesses w) ∧ wfR labels g lengths words n len wd ∧ tallied labels g n len wd times' totals' sizes' := by
  obtain ⟨g, p1, p2⟩ := setAll_f (N := 40) (by decide) guesses (-1)
  have hw : wfR labels g lengths words n len wd := ⟨hn, hlab, fun k hk => by rw [p2, if_pos (by omega)]; exact Or.inl rfl, hlen, hwd⟩
  obtain ⟨t', o', s', q1, q2⟩ := ta_f hw times totals sizes
  refine ⟨g, t', o', s', ?_, p2, hw, q2⟩
  unfold f_X2_startAnew
  rw [p1]
  simp only [Option.bind_some]
  rw [q1]
  rfl
theorem fo_2 : ∀ (m i n : Nat) (f : Nat → Int32), i + m = 40 → m < n → ∃ f', f_X6_forget_L2 n (nI i) f = some (nI 40, f') ∧ ∀ w, f' w = if i ≤ w ∧ w < 40 then (-1) else f w := by
  intro m
  induction m with
  | zero =>
    intro i n f h hn
    obtain ⟨n, rfl⟩ : ∃ q, n = q + 1 := ⟨n - 1, by omega⟩
    have e : i = 40 := by omega
    subst e
    refine ⟨f, ?_, fun w => by rw [if_neg (by omega)]⟩
    rw [f_X6_forget_L2.eq_2, if_pos (show (40 : Int32) ≤ nI 40 from nI_le (Nat.le_refl _) (by decide))]
  | succ m ih =>
    intro i n f h hn
    obtain ⟨n, rfl⟩ : ∃ q, n = q + 1 := ⟨n - 1, by omega⟩
    obtain ⟨f', e1, e2⟩ := ih (i + 1) n (upd f i (-1)) (by omega) (by omega)
    refine ⟨f', ?_, fun w => ?_⟩
    · rw [f_X6_forget_L2.eq_2, if_neg (show ¬ (40 : Int32) ≤ nI i from nI_ge (b := 40) (by omega) (by decide)), sI_n (by omega) (by decide)]
      simp only [nm, nI_1]
      exact e1
    · rw [e2, upd_eq]
      by_cases h1 : i + 1 ≤ w ∧ w < 40
      · rw [if_pos h1, if_pos (by omega)]
      · rw [if_neg h1]
        by_cases h2 : w = i
        · rw [if_pos h2, if_pos (by omega)]
        · rw [if_neg h2, if_neg (by omega)]
theorem fo_f (f : Nat → Int32) {g : Nat → Int32} (hg : ∀ w, g w = if w < 40 then (-1) else f w) : f_X6_forget f = some g := by
  obtain ⟨f', e1, e2⟩ := fo_2 40 0 FU f (by omega) (by have := FU_ge; omega)
  unfold f_X6_forget
  simp only [nm]
  rw [show (0 : Int32) = nI 0 from rfl, e1]
  simp only [Option.bind_some, Option.some.injEq]
  funext w
  rw [e2, hg]
  simp
/-- the reference counts anew -/
theorem as_f {labels guesses lengths words : Nat → Int32} {n : Nat} {len wd : Nat → Nat} (h : wfR labels guesses lengths words n len wd) {k : Nat} (hk : k < n) : f_X6_asLabel (nI k) labels guesses = some (cl labels guesses k) := by
  have hn := h.1
  unfold f_X6_asLabel cl
  rw [gA_n (by omega) (by decide)]
  by_cases c : labels k = (-1)
  · rw [if_pos ((LB_neg (h.2.1 k hk)).mpr c), if_pos c, gA_n (by omega) (by decide)]
  · rw [if_neg (fun q => c ((LB_neg (h.2.1 k hk)).mp q)), if_neg c, gA_n (by omega) (by decide)]
theorem ro_4 {labels guesses lengths words : Nat → Int32} {n : Nat} {len wd : Nat → Nat} (h : wfR labels guesses lengths words n len wd) (l : Nat) : ∀ (m i fu c : Nat), i + m = n → m < fu → f_X6_rowsOf_L4 (nI l) (nI n) labels guesses fu (nI i) (nI c) = some (nI n, nI (c + sg (fS labels guesses l) i m)) := by
  have hn := h.1
  intro m
  induction m with
  | zero =>
    intro i fu c hi hfu
    obtain ⟨fu, rfl⟩ : ∃ q, fu = q + 1 := ⟨fu - 1, by omega⟩
    have e : i = n := by omega
    subst e
    rw [f_X6_rowsOf_L4.eq_2, if_pos (nI_le (Nat.le_refl _) (by omega))]
    rfl
  | succ m ih =>
    intro i fu c hi hfu
    obtain ⟨fu, rfl⟩ : ∃ q, fu = q + 1 := ⟨fu - 1, by omega⟩
    rw [f_X6_rowsOf_L4.eq_2, if_neg (nI_ge (by omega) (by omega)), as_f h (by omega)]
    simp only [Option.bind_some, nm, nI_1]
    show _ = some (nI n, nI (c + (fS labels guesses l i + sg (fS labels guesses l) (i + 1) m)))
    by_cases q : cl labels guesses i = nI l
    · rw [if_pos q, ih (i + 1) fu (c + 1) (by omega) (by omega), show fS labels guesses l i = 1 from if_pos q, Nat.add_assoc]
    · rw [if_neg q, show nI c + 0 = nI c by rw [show (0 : Int32) = nI 0 from rfl, nI_add, Nat.add_zero], ih (i + 1) fu c (by omega) (by omega), show fS labels guesses l i = 0 from if_neg q, Nat.zero_add]
theorem ro_f {labels guesses lengths words : Nat → Int32} {n : Nat} {len wd : Nat → Nat} (h : wfR labels guesses lengths words n len wd) (l : Nat) : f_X6_rowsOf (nI l) (nI n) labels guesses = some (nI (sg (fS labels guesses l) 0 n)) := by
  have hF := FU_ge
  have hn := h.1
  unfold f_X6_rowsOf
  simp only [nm]
  rw [show (0 : Int32) = nI 0 from rfl, ro_4 h l n 0 FU 0 (by omega) (by omega)]
  simp only [Option.bind_some, Nat.zero_add]
/-- words of a row that are asked for: all, or one -/
def ask (x : Int32) (v : Nat) : Nat := if x = (-1) then 1 else if nI v = x then 1 else 0
theorem ti_17 {labels guesses lengths words : Nat → Int32} {n : Nat} {len wd : Nat → Nat} (h : wfR labels guesses lengths words n len wd) (l : Nat) (x : Int32) {k : Nat} (hk : k < n) (hc : cl labels guesses k = nI l) : ∀ (m j fu c : Nat), j + m = len k → m < fu → f_X6_timesOf_L17 (nI k) (nI l) x labels guesses lengths words fu (nI j) (nI c) = some (nI (len k), nI (c + sg (fun j => ask x (wd (k * 6 + j))) j m)) := by
  obtain ⟨hn, -, -, hlen, hwd⟩ := id h
  obtain ⟨hk1, hk2⟩ := hlen k hk
  intro m
  induction m with
  | zero =>
    intro j fu c hj hfu
    obtain ⟨fu, rfl⟩ : ∃ q, fu = q + 1 := ⟨fu - 1, by omega⟩
    have e : j = len k := by omega
    subst e
    rw [f_X6_timesOf_L17.eq_2, gA_n (by omega) (by decide), hk1, if_pos (nI_le (Nat.le_refl _) (by omega))]
    rfl
  | succ m ih =>
    intro j fu c hj hfu
    obtain ⟨fu, rfl⟩ : ∃ q, fu = q + 1 := ⟨fu - 1, by omega⟩
    obtain ⟨w1, w2⟩ := hwd k j hk (by omega)
    rw [f_X6_timesOf_L17.eq_2, gA_n (by omega) (by decide), hk1, if_neg (nI_ge (by omega) (by omega)), as_f h hk]
    simp only [Option.bind_some, nm, nI_1]
    rw [if_pos hc]
    show _ = some (nI (len k), nI (c + (ask x (wd (k * 6 + j)) + sg (fun j => ask x (wd (k * 6 + j))) (j + 1) m)))
    by_cases q : x = (-1)
    · rw [if_pos q, ih (j + 1) fu (c + 1) (by omega) (by omega), show ask x (wd (k * 6 + j)) = 1 from if_pos q, Nat.add_assoc]
    · rw [if_neg q, show (6 : Int32) = nI 6 from rfl, ix (b := 0), Nat.mul_comm 6 k, gA_n (by omega) (by decide), w2]
      have e0 : ask x (wd (k * 6 + j)) = if nI (wd (k * 6 + j)) = x then 1 else 0 := if_neg q
      by_cases q2 : nI (wd (k * 6 + j)) = x
      · rw [if_pos q2, ih (j + 1) fu (c + 1) (by omega) (by omega), e0, if_pos q2, Nat.add_assoc]
      · rw [if_neg q2, show nI c + 0 = nI c by rw [show (0 : Int32) = nI 0 from rfl, nI_add, Nat.add_zero], ih (j + 1) fu c (by omega) (by omega), e0, if_neg q2, Nat.zero_add]
def fA (labels guesses : Nat → Int32) (len wd : Nat → Nat) (l : Nat) (x : Int32) (k : Nat) : Nat := if cl labels guesses k = nI l then sg (fun j => ask x (wd (k * 6 + j))) 0 (len k) else 0
theorem ti_5 {labels guesses lengths words : Nat → Int32} {n : Nat} {len wd : Nat → Nat} (h : wfR labels guesses lengths words n len wd) (l : Nat) (x : Int32) : ∀ (m i fu c : Nat), i + m = n → m < fu → f_X6_timesOf_L5 (nI l) x (nI n) labels guesses lengths words fu (nI i) (nI c) = some (nI n, nI (c + sg (fA labels guesses len wd l x) i m)) := by
  have hF := FU_ge
  obtain ⟨hn, -, -, hlen, hwd⟩ := id h
  intro m
  induction m with
  | zero =>
    intro i fu c hi hfu
    obtain ⟨fu, rfl⟩ : ∃ q, fu = q + 1 := ⟨fu - 1, by omega⟩
    have e : i = n := by omega
    subst e
    rw [f_X6_timesOf_L5.eq_2, if_pos (nI_le (Nat.le_refl _) (by omega))]
    rfl
  | succ m ih =>
    intro i fu c hi hfu
    obtain ⟨fu, rfl⟩ : ∃ q, fu = q + 1 := ⟨fu - 1, by omega⟩
    have hin : i < n := by omega
    obtain ⟨hk1, hk2⟩ := hlen i hin
    rw [f_X6_timesOf_L5.eq_2, if_neg (nI_ge (by omega) (by omega))]
    simp only [nm, nI_1]
    show _ = some (nI n, nI (c + (fA labels guesses len wd l x i + sg (fA labels guesses len wd l x) (i + 1) m)))
    by_cases q : cl labels guesses i = nI l
    · rw [show (0 : Int32) = nI 0 from rfl, ti_17 h l x hin q (len i) 0 FU c (by omega) (by omega)]
      simp only [Option.bind_some]
      rw [ih (i + 1) fu _ (by omega) (by omega), show fA labels guesses len wd l x i = _ from if_pos q, Nat.add_assoc]
    · have e0 : ∃ z, f_X6_timesOf_L17 (nI i) (nI l) x labels guesses lengths words FU 0 (nI c) = some (z, nI c) := by
        obtain ⟨fz, hfz⟩ : ∃ q, FU = q + 1 := ⟨FU - 1, by omega⟩
        rw [hfz, f_X6_timesOf_L17.eq_2, gA_n (by omega) (by decide), hk1]
        by_cases c1 : nI (len i) ≤ 0
        · rw [if_pos c1]; exact ⟨_, rfl⟩
        · rw [if_neg c1, as_f h hin]
          simp only [Option.bind_some]
          rw [if_neg q]
          exact ⟨_, rfl⟩
      obtain ⟨z, hz⟩ := e0
      rw [hz]
      simp only [Option.bind_some]
      rw [ih (i + 1) fu c (by omega) (by omega), show fA labels guesses len wd l x i = 0 from if_neg q, Nat.zero_add]
theorem ti_f {labels guesses lengths words : Nat → Int32} {n : Nat} {len wd : Nat → Nat} (h : wfR labels guesses lengths words n len wd) (l : Nat) (x : Int32) : f_X6_timesOf (nI l) x (nI n) labels guesses lengths words = some (nI (sg (fA labels guesses len wd l x) 0 n)) := by
  have hF := FU_ge
  have hn := h.1
  unfold f_X6_timesOf
  simp only [nm]
  rw [show (0 : Int32) = nI 0 from rfl, ti_5 h l x n 0 FU 0 (by omega) (by omega)]
  simp only [Option.bind_some, Nat.zero_add]
theorem sg_1s : ∀ (m i : Nat), sg (fun _ => 1) i m = m := by
  intro m
  induction m with
  | zero => intro i; rfl
  | succ m ih => intro i; show 1 + sg _ (i + 1) m = m + 1; rw [ih]; omega
theorem fA_all {labels guesses : Nat → Int32} {n : Nat} {len wd : Nat → Nat} (l : Nat) : sg (fA labels guesses len wd l (-1)) 0 n = sg (fT labels guesses len l) 0 n := by
  refine sg_congr n 0 (fun k _ _ => ?_)
  unfold fA fT
  split
  · rw [sg_congr (f := fun _ => 1) (len k) 0 (fun j _ _ => by unfold ask; rw [if_pos rfl]), sg_1s]
  · rfl
theorem fA_w {labels guesses lengths words : Nat → Int32} {n : Nat} {len wd : Nat → Nat} (h : wfR labels guesses lengths words n len wd) (l : Nat) {w : Nat} (hw : w < 8) : sg (fA labels guesses len wd l (nI w)) 0 n = sg (fM labels guesses len wd l w) 0 n := by
  refine sg_congr n 0 (fun k _ hk => ?_)
  unfold fA fM
  split
  · refine sg_congr (len k) 0 (fun j _ hj => ?_)
    have w1 := (h.2.2.2.2 k j (by omega) (by omega)).1
    unfold ask
    rw [if_neg (nI_nm1 (by omega))]
    have : (nI (wd (k * 6 + j)) = nI w) ↔ wd (k * 6 + j) = w := nI_eq (by omega) (by omega)
    simp only [this]
  · rfl
