/-! PURE: rules and counts, of both -/
def SCf (n : Nat) (len wd : Nat → Nat) (p : Nat) : Nat := if p / 8 = p % 8 then 0 else SUP n len wd (p / 8) (p % 8)
def HVf (n : Nat) (len wd : Nat → Nat) (w : Nat) : Nat := SUP n len wd w w
section Y0
variable {labels guesses lengths words : Nat → Int32} {n : Nat} {len wd : Nat → Nat}
theorem SCf_le (hn : n ≤ 40) (p : Nat) : SCf n len wd p ≤ 40 := by
  unfold SCf
  split
  · omega
  · exact Nat.le_trans (SUP_le len wd _ _) hn
theorem HVf_le (hn : n ≤ 40) (w : Nat) : HVf n len wd w ≤ 40 := Nat.le_trans (SUP_le len wd _ _) hn
theorem ga_f (h : wfR labels guesses lengths words n len wd) (support having keys : Nat → Int32) (ct : Int32) : ∃ sup hav keys' pi, f_X4_gather lengths words (nI n) support having keys ct = some (sup, hav, keys', nI (CN (SCf n len wd) 64)) ∧ (∀ p, p < 64 → sup p = nI (SCf n len wd p)) ∧ (∀ w, w < 8 → hav w = nI (HVf n len wd w)) ∧ ordK (SCf n len wd) (HVf n len wd) 64 (CN (SCf n len wd) 64) pi keys' := by
  have hn := h.1
  obtain ⟨f0, p1, p2⟩ := setAll_f (N := 64) (by decide) support 0
  obtain ⟨g0, p3, p4⟩ := setAll_f (N := 8) (by decide) having 0
  obtain ⟨sup, hav, q1, q2, q3⟩ := ga18_f h (f := f0) (g := g0) (fun x hx => by rw [p2, if_pos hx]; rfl) (fun x hx => by rw [p4, if_pos hx]; rfl)
  have hsup : ∀ p, p < 64 → sup p = nI (SCf n len wd p) := by
    intro p hp
    have := q2 (p / 8) (by omega) (p % 8) (by omega)
    rw [show p / 8 * 8 + p % 8 = p by omega] at this
    rw [this]
    unfold SCf
    by_cases c : p % 8 = p / 8
    · rw [if_pos c, if_pos c.symm]
    · rw [if_neg c, if_neg (fun q => c q.symm)]
  obtain ⟨pi, keys', r1, r2⟩ := ga48_f (SC := SCf n len wd) (HV := HVf n len wd) (fun p hp => ⟨hsup p hp, SCf_le hn p⟩) (fun p hp e => if_pos e) (fun w hw => ⟨q3 w hw, HVf_le hn w⟩) keys
  refine ⟨sup, hav, keys', pi, ?_, hsup, q3, r2⟩
  unfold f_X4_gather
  rw [p1, Option.bind_some, p3, Option.bind_some]
  simp only [nm]
  rw [i0, q1, Option.bind_some]
  simp only
  rw [r1, Option.bind_some]
theorem dz8 {β : Type} (K : Option β) : dz 8 K = K := by
  unfold dz
  rw [if_neg (by decide)]
theorem dz64 {β : Type} (K : Option β) : dz 64 K = K := by
  unfold dz
  rw [if_neg (by decide)]
theorem d8 {p : Nat} (hp : p < 2 ^ 31) : (nI p / 8 : Int32) = nI (p / 8) := pk_div (d := 8) hp (by decide) (by decide)
theorem m8 {p : Nat} (hp : p < 2 ^ 31) : (nI p - nI p / 8 * 8 : Int32) = nI (p % 8) := pk_rem (d := 8) hp (by decide) (by decide)
theorem isRule6 (h : wfR labels guesses lengths words n len wd) {p : Nat} (hp : p < 64) : f_X6_isRule (nI p) (nI n) lengths words = some (nI (isR (SCf n len wd) p)) := by
  have hn := h.1
  unfold f_X6_isRule
  simp only [dz8]
  rw [m8 (by omega), d8 (by omega), sup6 h (by omega) (by omega), Option.bind_some]
  unfold isR SCf
  by_cases c : p / 8 = p % 8
  · rw [if_pos (by rw [c]), if_pos c, if_neg (Nat.lt_irrefl 0)]
    rfl
  · rw [if_neg (fun q => c ((nI_eq (by omega) (by omega)).mp q)), if_neg c]
    have hs := SUP_le (n := n) len wd (p / 8) (p % 8)
    by_cases c2 : 0 < SUP n len wd (p / 8) (p % 8)
    · rw [if_neg (nI_nle c2 (by omega)), if_pos c2]
      rfl
    · rw [show SUP n len wd (p / 8) (p % 8) = 0 by omega, if_pos (show nI 0 ≤ (0 : Int32) by decide), if_neg (Nat.lt_irrefl 0)]
      rfl
theorem isAhead6 (h : wfR labels guesses lengths words n len wd) {p q : Nat} (hp : p < 64) (hq : q < 64) (rp : 0 < SCf n len wd p) (rq : 0 < SCf n len wd q) : f_X6_isAhead (nI q) (nI p) (nI n) lengths words = some (nI (if KEY (SCf n len wd) (HVf n len wd) q < KEY (SCf n len wd) (HVf n len wd) p then 1 else 0)) := by
  have hn := h.1
  have off : ∀ x, 0 < SCf n len wd x → SUP n len wd (x / 8) (x % 8) = SCf n len wd x := by
    intro x hx
    unfold SCf at hx ⊢
    by_cases c : x / 8 = x % 8
    · rw [if_pos c] at hx; omega
    · rw [if_neg c]
  have k := KEY_lt (SCf n len wd) (HVf n len wd) hp hq (fun p _ => SCf_le hn p) (fun w _ => HVf_le hn w)
  have s1 := SCf_le (len := len) (wd := wd) hn p
  have s2 := SCf_le (len := len) (wd := wd) hn q
  have s3 := HVf_le (len := len) (wd := wd) hn (p / 8)
  have s4 := HVf_le (len := len) (wd := wd) hn (q / 8)
  unfold f_X6_isAhead
  simp only [dz8, nm]
  rw [m8 (by omega), m8 (by omega), d8 (by omega), d8 (by omega), sup6 h (by omega) (by omega), sup6 h (by omega) (by omega), sup6 h (by omega) (by omega), sup6 h (by omega) (by omega), off p rp, off q rq]
  simp only [Option.bind_some]
  rw [show SUP n len wd (q / 8) (q / 8) = HVf n len wd (q / 8) from rfl, show SUP n len wd (p / 8) (p / 8) = HVf n len wd (p / 8) from rfl]
  generalize HVf n len wd (q / 8) = x at *
  generalize HVf n len wd (p / 8) = y at *
  generalize SCf n len wd q = a at *
  generalize SCf n len wd p = b at *
  generalize KEY (SCf n len wd) (HVf n len wd) q = Kq at *
  generalize KEY (SCf n len wd) (HVf n len wd) p = Kp at *
  by_cases c1 : a = b
  · rw [if_pos (by rw [c1])]
    by_cases c2 : x = y
    · rw [if_pos (by rw [c2])]
      by_cases c3 : p ≤ q
      · rw [if_pos (nI_le c3 (by omega)), if_neg (by omega)]; rfl
      · rw [if_neg (nI_ge (by omega) (by omega)), if_pos (by omega)]; rfl
    · rw [if_neg (fun e => c2 ((nI_eq (by omega) (by omega)).mp e))]
      by_cases c3 : y ≤ x
      · rw [if_pos (nI_le c3 (by omega)), if_neg (by omega)]; rfl
      · rw [if_neg (nI_ge (by omega) (by omega)), if_pos (by omega)]; rfl
  · rw [if_neg (fun e => c1 ((nI_eq (by omega) (by omega)).mp e))]
    by_cases c3 : a ≤ b
    · rw [if_pos (nI_le c3 (by omega)), if_neg (by omega)]; rfl
    · rw [if_neg (nI_ge (by omega) (by omega)), if_pos (by omega)]; rfl
theorem isR_le (SC : Nat → Nat) (p : Nat) : isR SC p ≤ 1 := by unfold isR; split <;> omega
theorem rules6 (h : wfR labels guesses lengths words n len wd) : f_X6_rules (nI n) lengths words = some (nI (CN (SCf n len wd) 64)) := by
  have hF := FU_ge
  obtain ⟨x, h1, h2⟩ := loop_inv (fun fu j (x : Int32) => f_X6_rules_L4 (nI n) lengths words fu j x) 64 (fun j x => x = nI (sg (isR (SCf n len wd)) 0 j)) (fun fu x _ => by
    show f_X6_rules_L4 _ _ _ (fu + 1) _ _ = _
    rw [f_X6_rules_L4.eq_2, if_pos (show (64 : Int32) ≤ nI 64 by decide)]) (fun fu j x hj hx => by
    subst hx
    refine ⟨_, rfl, ?_⟩
    show f_X6_rules_L4 _ _ _ (fu + 1) _ _ = f_X6_rules_L4 _ _ _ fu _ _
    rw [f_X6_rules_L4.eq_2, if_neg (show ¬ (64 : Int32) ≤ nI j from nI_ge (b := 64) hj (by decide)), isRule6 h hj, Option.bind_some, sg_last]
    simp only [nm, nI_1]
    have e1 := isR_le (SCf n len wd) j
    by_cases c1 : isR (SCf n len wd) j = 0
    · rw [c1, if_pos (show nI 0 = 0 from rfl), i0, nI_add]
    · have c1 : isR (SCf n len wd) j = 1 := by omega
      rw [c1, if_neg (show ¬ nI 1 = 0 by decide)]) 64 0 FU (nI 0) (by omega) (by omega) rfl
  have h2 : f_X6_rules_L4 (nI n) lengths words FU (nI 0) (nI 0) = some (nI 64, x) := h2
  unfold f_X6_rules
  simp only [nm]
  rw [i0, h2, Option.bind_some]
  simp only
  rw [h1]
  rfl
theorem rk6 (h : wfR labels guesses lengths words n len wd) {p : Nat} (hp : p < 64) (rp : 0 < SCf n len wd p) : ∃ x, x = nI (sg (ahd (SCf n len wd) (HVf n len wd) p) 0 64) ∧ f_X6_ruleAt_L13 (nI p) (nI n) lengths words FU (nI 0) (nI 0) = some (nI 64, x) := by
  have hF := FU_ge
  refine loop_inv (fun fu j (x : Int32) => f_X6_ruleAt_L13 (nI p) (nI n) lengths words fu j x) 64 (fun j x => x = nI (sg (ahd (SCf n len wd) (HVf n len wd) p) 0 j)) (fun fu x _ => ?_) (fun fu j x hj hx => ?_) 64 0 FU (nI 0) (by omega) (by omega) rfl
  · show f_X6_ruleAt_L13 _ _ _ _ (fu + 1) _ _ = _
    rw [f_X6_ruleAt_L13.eq_2, if_pos (show (64 : Int32) ≤ nI 64 by decide)]
  · subst hx
    refine ⟨_, rfl, ?_⟩
    show f_X6_ruleAt_L13 _ _ _ _ (fu + 1) _ _ = f_X6_ruleAt_L13 _ _ _ _ fu _ _
    rw [f_X6_ruleAt_L13.eq_2, if_neg (show ¬ (64 : Int32) ≤ nI j from nI_ge (b := 64) hj (by decide)), isRule6 h hp, Option.bind_some, show isR (SCf n len wd) p = 1 from if_pos rp, if_neg (show ¬ nI 1 = 0 by decide), sg_last]
    simp only [nm, nI_1]
    by_cases c1 : j = p
    · rw [if_pos (by rw [c1]), show ahd (SCf n len wd) (HVf n len wd) p j = 0 from if_neg (fun q => by rw [c1] at q; omega), i0, nI_add]
    · rw [if_neg (fun q => c1 ((nI_eq (by omega) (by omega)).mp q)), isRule6 h hj, Option.bind_some]
      by_cases rj : 0 < SCf n len wd j
      · rw [show isR (SCf n len wd) j = 1 from if_pos rj, if_neg (show ¬ nI 1 = 0 by decide), isAhead6 h hp hj rp rj, Option.bind_some]
        unfold ahd
        by_cases c2 : KEY (SCf n len wd) (HVf n len wd) j < KEY (SCf n len wd) (HVf n len wd) p
        · rw [if_pos c2, if_neg (show ¬ nI 1 = 0 by decide), if_pos ⟨rj, c2⟩]
        · rw [if_neg c2, if_pos (show nI 0 = 0 from rfl), if_neg (fun q => c2 q.2), i0, nI_add]
      · rw [show isR (SCf n len wd) j = 0 from if_neg rj, if_pos (show nI 0 = 0 from rfl), show ahd (SCf n len wd) (HVf n len wd) p j = 0 from if_neg (fun q => rj q.1), i0, nI_add]
theorem CN_le (SC : Nat → Nat) : CN SC 64 ≤ 64 := by
  have := sg_le (g := isR SC) (b := 1) 64 0 (fun w _ _ => isR_le SC w)
  unfold CN
  omega
theorem ruleAt6 (h : wfR labels guesses lengths words n len wd) {pi : Nat → Nat} {keys : Nat → Int32} (ho : ordK (SCf n len wd) (HVf n len wd) 64 (CN (SCf n len wd) 64) pi keys) {i : Nat} (hi : i < CN (SCf n len wd) 64) : f_X6_ruleAt (nI i) (nI n) lengths words = some (nI (pi i)) := by
  have hF := FU_ge
  have hc := CN_le (SCf n len wd)
  obtain ⟨o1, o2, o3, o4⟩ := ho
  obtain ⟨a1, a2, a3, a4⟩ := o2 i hi
  have key : ∀ (m p fu : Nat), p + m = pi i → m < fu → f_X6_ruleAt_L2 (nI i) (nI n) lengths words fu (nI p) = some (.inl (nI (pi i))) := by
    intro m
    induction m with
    | zero =>
      intro p fu hp hfu
      obtain ⟨fu, rfl⟩ : ∃ q, fu = q + 1 := ⟨fu - 1, by omega⟩
      have e : p = pi i := by omega
      subst e
      obtain ⟨x, x1, x2⟩ := rk6 h a1 a2
      have a4 : sg (ahd (SCf n len wd) (HVf n len wd) (pi i)) 0 64 = i := a4
      rw [f_X6_ruleAt_L2.eq_2, if_neg (show ¬ (64 : Int32) ≤ nI (pi i) from nI_ge (b := 64) a1 (by decide))]
      simp only [nm]
      rw [i0, x2, Option.bind_some]
      simp only
      rw [isRule6 h a1, Option.bind_some, show isR (SCf n len wd) (pi i) = 1 from if_pos a2, if_neg (show ¬ nI 1 = nI 0 by decide), x1, a4, if_pos rfl]
    | succ m ih =>
      intro p fu hp hfu
      obtain ⟨fu, rfl⟩ : ∃ q, fu = q + 1 := ⟨fu - 1, by omega⟩
      have hp64 : p < 64 := by omega
      rw [f_X6_ruleAt_L2.eq_2, if_neg (show ¬ (64 : Int32) ≤ nI p from nI_ge (b := 64) hp64 (by decide))]
      simp only [nm, nI_1]
      have nx := ih (p + 1) fu (by omega) (by omega)
      by_cases rp : 0 < SCf n len wd p
      · obtain ⟨x, x1, x2⟩ := rk6 h hp64 rp
        rw [i0, x2, Option.bind_some]
        simp only
        rw [isRule6 h hp64, Option.bind_some, show isR (SCf n len wd) p = 1 from if_pos rp, if_neg (show ¬ nI 1 = nI 0 by decide), x1]
        obtain ⟨b, b1, b2⟩ := o4 p hp64 rp
        have b3 : sg (ahd (SCf n len wd) (HVf n len wd) p) 0 64 = b := by
          have := (o2 b b1).2.2.2
          rw [b2] at this
          exact this
        rw [b3, if_neg (fun q => by
          have : b = i := (nI_eq (by omega) (by omega)).mp q
          rw [this] at b2
          omega)]
        exact nx
      · obtain ⟨fu2, hf2⟩ : ∃ q, FU = q + 1 := ⟨FU - 1, by omega⟩
        rw [hf2, f_X6_ruleAt_L13.eq_2, if_neg (show ¬ (64 : Int32) ≤ 0 by decide), isRule6 h hp64, Option.bind_some, show isR (SCf n len wd) p = 0 from if_neg rp, if_pos (show nI 0 = 0 from rfl), Option.bind_some]
        simp only
        rw [Option.bind_some, if_pos (show nI 0 = 0 from rfl)]
        exact nx
  unfold f_X6_ruleAt
  simp only [nm]
  rw [i0, key (pi i) 0 FU (by omega) (by omega), Option.bind_some]
end Y0
theorem hasr_d (x : Int32) {c : Nat} (hc : c ≤ 64) : (f_X4_has x (nI c) = some 0 ∧ wb x 0 (nI c - 1) = 0) ∨ f_X4_has x (nI c) = some 1 ∧ wb x 0 (nI c - 1) = 1 ∧ ∃ a, a < c ∧ x = nI a := by
  unfold f_X4_has
  by_cases h : x < 0
  · rw [if_pos h, wb_neg h]; exact Or.inl ⟨rfl, rfl⟩
  · rw [if_neg h]
    obtain ⟨a, ha, rfl⟩ := nI_of h
    by_cases h2 : c ≤ a
    · rw [if_pos (nI_le h2 ha)]
      refine Or.inl ⟨rfl, ?_⟩
      unfold wb
      rw [if_neg h]
      rcases Nat.eq_zero_or_pos c with q | q
      · subst q
        rw [if_pos]
        have e1 := nI_toInt ha
        exact Int32.lt_iff_toInt_lt.mpr (by rw [e1, show (nI 0 - 1 : Int32).toInt = -1 from rfl]; omega)
      · obtain ⟨m, rfl⟩ : ∃ m, c = m + 1 := ⟨c - 1, by omega⟩
        rw [nI_pred, if_pos (nI_lt (by omega) ha)]
    · rw [if_neg (nI_ge (by omega) (by omega))]
      obtain ⟨m, rfl⟩ : ∃ m, c = m + 1 := ⟨c - 1, by omega⟩
      rw [nI_pred]
      exact Or.inr ⟨rfl, wb_i rfl (by omega) (by omega), a, by omega, rfl⟩
theorem off56 : sg (fun q => if q / 8 = q % 8 then 0 else 1) 0 64 = 56 := by decide
theorem CN_56 (n : Nat) (len wd : Nat → Nat) : CN (SCf n len wd) 64 ≤ 56 := by
  rw [← off56]
  unfold CN
  refine sg_mono _ _ (fun p _ _ => ?_)
  unfold isR SCf
  by_cases c : p / 8 = p % 8
  · rw [if_pos c, if_pos c, if_neg (Nat.lt_irrefl 0)]
    exact Nat.le_refl 0
  · rw [if_neg c, if_neg c]
    split <;> omega
theorem K64 {K p : Nat} (h : K % 64 = p) (hK : K < 2 ^ 31) : (nI K - nI K / 64 * 64 : Int32) = nI p := by
  rw [← h]
  exact pk_rem (d := 64) hK (by decide) (by decide)
theorem part_u (i1 i2 : Int32) (sup hav keys : Nat → Int32) {k K p : Nat} (hi : i1 = nI k) (hk : k < 56) (hK : keys k = nI K) (hm : K % 64 = p) (hK2 : K < 2 ^ 31) : f_X4_partOf i1 i2 sup hav keys = if i2 = 0 then some (nI (p / 8)) else if i2 = 1 then some (nI (p % 8)) else if i2 = 2 then gA 64 sup (nI p) fun v => some v else gA 64 sup (nI p) fun v => gA 8 hav (nI (p / 8)) fun w => if i2 = 4 then Option.bind (f_X0_sideOf (Int32.toInt64 v) (Int32.toInt64 w) 1) fun r => some (Int64.toInt32 r) else Option.bind (f_X0_sideOf (Int32.toInt64 v) (Int32.toInt64 w) 0) fun r => some (Int64.toInt32 r) := by
  have hp : p < 64 := by rw [← hm]; exact Nat.mod_lt _ (by decide)
  have e1 := K64 hm hK2
  have e2 : (nI p / 8 : Int32) = nI (p / 8) := d8 (by omega)
  have e3 : (nI p - nI p / 8 * 8 : Int32) = nI (p % 8) := m8 (by omega)
  unfold f_X4_partOf
  rw [hi, gA_n hk (by decide), hK, dz64]
  unfold nm
  rw [e1]
  dsimp only
  rw [dz8, e2]
  rw [e2] at e3
  rw [e3, dz8]
theorem fr_i {a b : Nat} (ha : a ≤ 40) (hb : b ≤ 40) (z z' : Int32) (hz : z = 0 ↔ z' = 0) : fr_side a b z = fr_side a b z' := by
  unfold fr_side
  by_cases c : z = 0
  · rw [if_pos c, if_pos (hz.mp c)]
  · rw [if_neg c, if_neg (fun q => c (hz.mpr q))]
theorem st_rule (i1 i2 : Int32) {labels2 guesses2 lengths2 words2 times2 totals2 sizes2 labels6 guesses6 sizes6 words6 : Nat → Int32} {rowCount2 addedUp2 addedDown2 rows6 up6 down6 : Int32} (hI : INVr labels2 guesses2 lengths2 words2 times2 totals2 sizes2 rowCount2 addedUp2 addedDown2 rows6 labels6 guesses6 sizes6 words6 up6 down6) (thrown6 : Int32) (support4 having4 keys4 : Nat → Int32) (ruleCount4 : Int32) :
    ∃ r s h k c, f_X5_rule i1 i2 lengths2 words2 rowCount2 support4 having4 keys4 ruleCount4 = some (r, s, h, k, c) ∧ f_X6_rule i1 i2 thrown6 rows6 sizes6 words6 = some (r, 0) := by
  obtain ⟨rfl, rfl, rfl, rfl, rfl, rfl, rfl, n, len, wd, up, dn, rfl, hw, -, -, -, -, -, -, -, -⟩ := hI
  have hn := hw.1
  unfold f_X5_rule f_X6_rule
  simp only [nm, within5, within6, Option.bind_some, dz8]
  rcases wb_d i2 4 (m := 4) rfl with c1 | ⟨c1, x, hx, rfl⟩
  · rw [if_pos c1, if_pos c1]; exact ⟨_, _, _, _, _, rfl, rfl⟩
  · rw [c1, if_neg b10, if_neg b10]
    obtain ⟨sup, hav, keys', pi, e1, e2, e3, e4⟩ := ga_f hw support4 having4 keys4 ruleCount4
    have hc := CN_le (SCf n len wd)
    have hd := hasr_d i1 hc
    rw [e1, rules6 hw]
    simp only [Option.bind_some]
    rcases hd with ⟨p1, p2⟩ | ⟨p1, p2, a, ha, rfl⟩
    · rw [p1, p2]
      exact ⟨_, _, _, _, _, rfl, rfl⟩
    · rw [p1, p2, if_neg b10]
      simp only [Option.bind_some]
      rw [if_neg b10, ruleAt6 hw e4 ha]
      obtain ⟨o1, o2, o3, o4⟩ := e4
      obtain ⟨a1, a2, a3, a4⟩ := o2 a ha
      have hoff : ¬ pi a / 8 = pi a % 8 := fun q => by
        unfold SCf at a2
        rw [if_pos q] at a2
        omega
      have hS : SUP n len wd (pi a / 8) (pi a % 8) = SCf n len wd (pi a) := by unfold SCf; rw [if_neg hoff]
      have hs1 := SCf_le (len := len) (wd := wd) hn (pi a)
      have hs2 := HVf_le (len := len) (wd := wd) hn (pi a / 8)
      have hs3 : SCf n len wd (pi a) ≤ HVf n len wd (pi a / 8) := by rw [← hS]; exact SUP_sub len wd _ _
      have hK := KEY_le (SCf n len wd) (HVf n len wd) a1 (fun w _ => HVf_le hn w)
      have hm := KEY_mod (SCf n len wd) (HVf n len wd) a1
      have h56 : a < 56 := Nat.lt_of_lt_of_le ha (CN_56 n len wd)
      generalize KEY (SCf n len wd) (HVf n len wd) (pi a) = K at a3 hK hm
      rw [part_u (nI a) (nI x) sup hav keys' rfl h56 a3 hm (by omega)]
      simp only [Option.bind_some, d8 (show pi a < 2 ^ 31 by omega), show (nI (pi a) - nI (pi a / 8) * 8 : Int32) = nI (pi a % 8) by rw [← d8 (show pi a < 2 ^ 31 by omega)]; exact m8 (show pi a < 2 ^ 31 by omega), sup6 hw (show pi a / 8 < 8 by omega) (show pi a % 8 < 8 by omega), sup6 hw (show pi a / 8 < 8 by omega) (show pi a / 8 < 8 by omega), hS]
      have hx5 : x = 0 ∨ x = 1 ∨ x = 2 ∨ x = 3 ∨ x = 4 := by omega
      rcases hx5 with rfl | rfl | rfl | rfl | rfl
      · rw [if_pos (show nI 0 = 0 from rfl), if_pos (show nI 0 = 0 from rfl)]
        exact ⟨_, _, _, _, _, rfl, rfl⟩
      · rw [if_neg (show ¬ nI 1 = 0 by decide), if_neg (show ¬ nI 1 = 0 by decide), if_pos (show nI 1 = 1 from rfl), if_pos (show nI 1 = 1 from rfl)]
        exact ⟨_, _, _, _, _, rfl, rfl⟩
      · rw [if_neg (show ¬ nI 2 = 0 by decide), if_neg (show ¬ nI 2 = 0 by decide), if_neg (show ¬ nI 2 = 1 by decide), if_neg (show ¬ nI 2 = 1 by decide), if_pos (show nI 2 = 2 from rfl), if_pos (show nI 2 = 2 from rfl), gA_n a1 (by decide), e2 _ a1]
        exact ⟨_, _, _, _, _, rfl, rfl⟩
      · rw [if_neg (show ¬ nI 3 = 0 by decide), if_neg (show ¬ nI 3 = 0 by decide), if_neg (show ¬ nI 3 = 1 by decide), if_neg (show ¬ nI 3 = 1 by decide), if_neg (show ¬ nI 3 = 2 by decide), if_neg (show ¬ nI 3 = 2 by decide), gA_n a1 (by decide), e2 _ a1, gA_n (by omega) (by decide), e3 _ (by omega), if_neg (show ¬ nI 3 = 4 by decide), nI_l (by omega), nI_l (by omega), side0 (by omega) (by omega) (by omega)]
        rw [show SUP n len wd (pi a / 8) (pi a / 8) = HVf n len wd (pi a / 8) from rfl, nI_l (by omega), side6 (by omega) (by omega) (by omega), fr_i hs1 hs2 (nI 3 - 3) 0 (by decide)]
        exact ⟨_, _, _, _, _, rfl, rfl⟩
      · rw [if_neg (show ¬ nI 4 = 0 by decide), if_neg (show ¬ nI 4 = 0 by decide), if_neg (show ¬ nI 4 = 1 by decide), if_neg (show ¬ nI 4 = 1 by decide), if_neg (show ¬ nI 4 = 2 by decide), if_neg (show ¬ nI 4 = 2 by decide), gA_n a1 (by decide), e2 _ a1, gA_n (by omega) (by decide), e3 _ (by omega), if_pos (show nI 4 = 4 from rfl), nI_l (by omega), nI_l (by omega), side0 (by omega) (by omega) (by omega)]
        rw [show SUP n len wd (pi a / 8) (pi a / 8) = HVf n len wd (pi a / 8) from rfl, nI_l (by omega), side6 (by omega) (by omega) (by omega), fr_i hs1 hs2 (nI 4 - 3) 1 (by decide)]
        exact ⟨_, _, _, _, _, rfl, rfl⟩
theorem st_count (a1 : Int32) {labels2 guesses2 lengths2 words2 times2 totals2 sizes2 labels6 guesses6 sizes6 words6 : Nat → Int32} {rowCount2 addedUp2 addedDown2 rows6 up6 down6 : Int32} (hI : INVr labels2 guesses2 lengths2 words2 times2 totals2 sizes2 rowCount2 addedUp2 addedDown2 rows6 labels6 guesses6 sizes6 words6 up6 down6) {weights1 signs1 lengths1 start6 move6 show6 signs6 many6 : Nat → Int32} (hs : INVs weights1 signs1 lengths1 start6 move6 show6 signs6 many6) {text3 told6 : Nat → Int32} {textLength3 length6 : Int32} (ht : INVt text3 textLength3 told6 length6) (thrown6 : Int32) (support4 having4 keys4 : Nat → Int32) (ruleCount4 : Int32) :
    ∃ r s h k c, f_X5_count a1 lengths1 labels2 lengths2 words2 rowCount2 textLength3 support4 having4 keys4 ruleCount4 = some (r, s, h, k, c) ∧ f_X6_count_ a1 thrown6 rows6 labels6 sizes6 words6 length6 many6 = some (r, 0) := by
  have hF := FU_ge
  obtain ⟨rfl, rfl, rfl, rfl, rfl, rfl, rfl, n, len, wd, up, dn, rfl, hw, -, -, -, -, -, -, -, -⟩ := hI
  obtain ⟨rfl, rfl, gl, sn, W, hG, -⟩ := hs
  obtain ⟨rfl, rfl, -⟩ := ht
  have hn := hw.1
  unfold f_X5_count f_X6_count_ f_X2_size f_X3_length
  simp only [nm, Option.bind_some]
  by_cases c0 : a1 = 0
  · rw [if_pos c0, if_pos c0]; exact ⟨_, _, _, _, _, rfl, rfl⟩
  · rw [if_neg c0, if_neg c0]
    by_cases c1 : a1 = 1
    · rw [if_pos c1, if_pos c1]
      obtain ⟨x, h1, h2⟩ := loop_inv (fun fu j (x : Int32) => f_X2_labelledRows_L4 labels6 (nI n) fu j x) n (fun j x => x = nI (sg (fun k => if labels6 k = (-1) then 0 else 1) 0 j)) (fun fu x _ => by
        show f_X2_labelledRows_L4 _ _ (fu + 1) _ _ = _
        rw [f_X2_labelledRows_L4.eq_2, if_pos (nI_le (Nat.le_refl _) (by omega))]) (fun fu j x hj hx => by
        subst hx
        refine ⟨_, rfl, ?_⟩
        show f_X2_labelledRows_L4 _ _ (fu + 1) _ _ = f_X2_labelledRows_L4 _ _ fu _ _
        rw [f_X2_labelledRows_L4.eq_2, if_neg (nI_ge hj (by omega)), gA_n (by omega) (by decide), sg_last]
        simp only [nm, nI_1]
        by_cases c : labels6 j = (-1)
        · rw [if_pos c, if_pos c]; rfl
        · rw [if_neg c, if_neg c]) n 0 FU (nI 0) (by omega) (by omega) rfl
      obtain ⟨y, g1, g2⟩ := loop_inv (fun fu j (x : Int32) => f_X6_count__L51 (nI n) labels6 fu j x) n (fun j x => x = nI (sg (fun k => if labels6 k = (-1) then 0 else 1) 0 j)) (fun fu x _ => by
        show f_X6_count__L51 _ _ (fu + 1) _ _ = _
        rw [f_X6_count__L51.eq_2, if_pos (nI_le (Nat.le_refl _) (by omega))]) (fun fu j x hj hx => by
        subst hx
        refine ⟨_, rfl, ?_⟩
        show f_X6_count__L51 _ _ (fu + 1) _ _ = f_X6_count__L51 _ _ fu _ _
        rw [f_X6_count__L51.eq_2, if_neg (nI_ge hj (by omega)), gA_n (by omega) (by decide), sg_last]
        simp only [nm, nI_1]
        have hb := LB_neg (hw.2.1 j hj)
        by_cases c : labels6 j = (-1)
        · rw [if_pos (hb.mpr c), if_pos c, i0, nI_add]
        · rw [if_neg (fun q => c (hb.mp q)), if_neg c]) n 0 FU (nI 0) (by omega) (by omega) rfl
      have h2 : f_X2_labelledRows_L4 labels6 (nI n) FU (nI 0) (nI 0) = some (nI n, x) := h2
      have g2 : f_X6_count__L51 (nI n) labels6 FU (nI 0) (nI 0) = some (nI n, y) := g2
      unfold f_X2_labelledRows
      simp only [nm]
      rw [i0, h2, g2, h1, g1]
      exact ⟨_, _, _, _, _, rfl, rfl⟩
    · rw [if_neg c1, if_neg c1]
      by_cases c2 : a1 = 2
      · rw [if_pos c2, if_pos c2]; exact ⟨_, _, _, _, _, rfl, rfl⟩
      · rw [if_neg c2, if_neg c2]
        by_cases c3 : a1 = 3
        · rw [if_pos c3, if_pos c3]
          obtain ⟨sup, hav, keys', pi, e1, e2, e3, e4⟩ := ga_f hw support4 having4 keys4 ruleCount4
          rw [e1, rules6 hw]
          unfold f_X4_size
          exact ⟨_, _, _, _, _, rfl, rfl⟩
        · rw [if_neg c3, if_neg c3]
          by_cases c4 : a1 = 4
          · rw [if_pos c4, if_pos c4]
            obtain ⟨x, h1, h2⟩ := loop_inv (fun fu j (x : Int32) => f_X1_signsOfAll_L4 many6 fu j x) 4 (fun j x => x = nI (sg gl 0 j)) (fun fu x _ => by
              show f_X1_signsOfAll_L4 _ (fu + 1) _ _ = _
              rw [f_X1_signsOfAll_L4.eq_2, if_pos (show (4 : Int32) ≤ nI 4 by decide)]) (fun fu j x hj hx => by
              subst hx
              refine ⟨_, rfl, ?_⟩
              show f_X1_signsOfAll_L4 _ (fu + 1) _ _ = f_X1_signsOfAll_L4 _ fu _ _
              rw [f_X1_signsOfAll_L4.eq_2, if_neg (show ¬ (4 : Int32) ≤ nI j from nI_ge (b := 4) hj (by decide)), gA_n hj (by decide), sg_last, (hG.1 j hj).1]
              simp only [nm, nI_1, nI_add]) 4 0 FU (nI 0) (by omega) (by omega) rfl
            have h2 : f_X1_signsOfAll_L4 many6 FU (nI 0) (nI 0) = some (nI 4, x) := h2
            unfold f_X1_signsOfAll
            simp only [nm]
            rw [i0, h2, h1, sg_s4, gA_n (by decide) (by decide), i1, gA_n (by decide) (by decide), show (2 : Int32) = nI 2 from rfl, gA_n (by decide) (by decide), show (3 : Int32) = nI 3 from rfl, gA_n (by decide) (by decide), (hG.1 0 (by decide)).1, (hG.1 1 (by decide)).1, (hG.1 2 (by decide)).1, (hG.1 3 (by decide)).1, nI_add, nI_add, nI_add]
            exact ⟨_, _, _, _, _, rfl, rfl⟩
          · rw [if_neg c4, if_neg c4]; exact ⟨_, _, _, _, _, rfl, rfl⟩
