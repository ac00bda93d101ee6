/-! PURE: weights counted anew -/
theorem bump {N k : Nat} {f : Nat → Int32} {w : Nat → Nat} (h : ∀ j, j < N → f j = nI (w j)) (hk : k < N) : ∀ j, j < N → upd f k (f k + 1) j = nI (w j + if j = k then 1 else 0) := by
  intro j hj
  rw [upd_eq]
  by_cases c : j = k
  · rw [if_pos c, if_pos c, h k hk, nI_1, c]
  · rw [if_neg c, if_neg c, h j hj, Nat.add_zero]
section L0
variable {weights signs lengths start move sho : Nat → Int32} {len sn W : Nat → Nat}
/-- fresh weights, while a path is counted: at place j -/
def cpR (d : Nat → Nat) (B j : Nat) (fr ns mo nsh : Nat → Int32) : Prop := ∃ w : Nat → Nat, (∀ k, k < 36 → fr k = nI (w k)) ∧ (∀ k, k < 36 → w k ≤ B + if k < 4 then 1 else j) ∧ (∀ k, k < 4 → fr k = if j = 0 ∧ k = d 0 then ns k + 1 else ns k) ∧ (∀ k, k < 16 → mo k = fr (4 + k)) ∧ ∀ k, k < 16 → nsh k = fr (20 + k)
theorem cp_L (hG : wfG signs lengths len sn) {r P : Nat} (hr : r < 4) (hP : P < 2 ^ 31) {d : Nat → Nat} (hd : ∀ i, i < len r → d i < 4 ∧ P / 4 ^ (len r - 1 - i) % 4 = d i) {bpa : Nat → Int32} (hb : ∀ i, i < len r → bpa i = nI (d i)) {B : Nat} : ∀ (m j fu fu2 : Nat) (fr ns mo nsh : Nat → Int32), j + m = len r → m < fu → m < fu2 → cpR d B j fr ns mo nsh →
    ∃ fr' ns' mo' nsh', f_X1_countBestPath_L17 (nI r) signs lengths bpa fu (nI j) fr = some (nI (len r), fr') ∧ f_X6_countPath_L2 (nI P) (nI r) signs lengths fu2 (nI j) ns mo nsh = some (nI (len r), ns', mo', nsh') ∧ cpR d B (len r) fr' ns' mo' nsh' := by
  obtain ⟨k1, k2⟩ := hG.1 r hr
  intro m
  induction m with
  | zero =>
    intro j fu fu2 fr ns mo nsh hj hfu hfu2 h
    obtain ⟨fu, rfl⟩ : ∃ q, fu = q + 1 := ⟨fu - 1, by omega⟩
    obtain ⟨fu2, rfl⟩ : ∃ q, fu2 = q + 1 := ⟨fu2 - 1, by omega⟩
    have e : j = len r := by omega
    subst e
    refine ⟨fr, ns, mo, nsh, ?_, ?_, h⟩
    · rw [f_X1_countBestPath_L17.eq_2, gA_n hr (by decide), k1, if_pos (nI_le (Nat.le_refl _) (by omega))]
    · rw [f_X6_countPath_L2.eq_2, gA_n hr (by decide), k1, if_pos (nI_le (Nat.le_refl _) (by omega))]
  | succ m ih =>
    intro j fu fu2 fr ns mo nsh hj hfu hfu2 h
    obtain ⟨fu, rfl⟩ : ∃ q, fu = q + 1 := ⟨fu - 1, by omega⟩
    obtain ⟨fu2, rfl⟩ : ∃ q, fu2 = q + 1 := ⟨fu2 - 1, by omega⟩
    obtain ⟨w, h1, h2, h3, h4, h5⟩ := h
    have hjl : j < len r := by omega
    obtain ⟨s1, s2⟩ := hG.2 r j hr hjl
    obtain ⟨d1, d2⟩ := hd j hjl
    have f1 := bump h1 (k := 20 + d j * 4 + sn (r * 5 + j)) (by omega)
    rw [f_X1_countBestPath_L17.eq_2, gA_n hr (by decide), k1, if_neg (nI_ge hjl (by omega)), gA_n (by omega) (by decide), hb j hjl, show (5 : Int32) = nI 5 from rfl, ix (b := 0), gA_n (by omega) (by decide), s2]
    unfold f_X1_showAt f_X1_moveAt
    rw [Option.bind_some, sh_n, gA_n (by omega) (by decide), sI_n (by omega) (by decide)]
    rw [f_X6_countPath_L2.eq_2, gA_n hr (by decide), k1, if_neg (nI_ge hjl (by omega)), so_f hr k1 k2 hjl hP, d2, Option.bind_some]
    have hsh : ∀ (g : Nat → Int32), (∀ k, k < 16 → g (20 + k) = upd fr (20 + d j * 4 + sn (r * 5 + j)) (fr (20 + d j * 4 + sn (r * 5 + j)) + 1) (20 + k)) → ∀ k, k < 16 → upd nsh (d j * 4 + sn (r * 5 + j)) (nsh (d j * 4 + sn (r * 5 + j)) + 1) k = g (20 + k) := by
      intro g hg k hk
      rw [hg k hk, upd_eq, upd_eq, h5 k hk, h5 _ (by omega), ← Nat.add_assoc]
      by_cases c : k = d j * 4 + sn (r * 5 + j)
      · rw [if_pos c, if_pos (by omega)]
      · rw [if_neg c, if_neg (by omega)]
    by_cases c0 : j = 0
    · subst c0
      rw [if_pos (show nI 0 ≤ (0 : Int32) by decide)]
      simp only [nm]
      rw [if_pos (show nI 0 = (0 : Int32) from rfl), gA_n d1 (by decide), sI_n d1 (by decide), show (5 : Int32) = nI 5 from rfl, ix6, gA_n (by omega) (by decide), s2, show (4 : Int32) = nI 4 from rfl, ix6, gA_n (by omega) (by decide), sI_n (by omega) (by decide), nI_1]
      refine ih (0 + 1) fu fu2 _ _ _ _ (by omega) (by omega) (by omega) ⟨_, f1, fun k hk => ?_, fun k hk => ?_, fun k hk => ?_, hsh _ (fun _ _ => rfl)⟩
      · have := h2 k hk
        by_cases c : k < 4
        · rw [if_pos c] at this ⊢; rw [if_neg (by omega)]; omega
        · rw [if_neg c] at this ⊢; split <;> omega
      · rw [upd_eq, if_neg (by omega), h3 k hk, upd_eq, if_neg (show ¬ (0 + 1 = 0 ∧ k = d 0) by omega)]
        by_cases c : k = d 0
        · rw [if_pos ⟨rfl, c⟩, if_pos c, c]
        · rw [if_neg (fun q => c q.2), if_neg c]
      · rw [h4 k hk, upd_eq, if_neg (by omega)]
    · obtain ⟨j, rfl⟩ : ∃ q, j = q + 1 := ⟨j - 1, by omega⟩
      obtain ⟨e1, e2⟩ := hd j (by omega)
      have f2 := bump f1 (k := 4 + d j * 4 + d (j + 1)) (by omega)
      rw [if_neg (nI_nle (by omega) (by omega)), nI_pred, gA_n (by omega) (by decide), gA_n (by omega) (by decide), hb j (by omega), hb (j + 1) hjl, Option.bind_some, mv_n, gA_n (by omega) (by decide), sI_n (by omega) (by decide)]
      simp only [nm]
      rw [if_neg (nI_ne0 (by omega) (by omega)), so_f hr k1 k2 (by omega) hP, e2, Option.bind_some, show (4 : Int32) = nI 4 from rfl, ix6, gA_n (by omega) (by decide), sI_n (by omega) (by decide), show (5 : Int32) = nI 5 from rfl, ix6, gA_n (by omega) (by decide), s2, ix6, gA_n (by omega) (by decide), sI_n (by omega) (by decide), nI_1]
      refine ih (j + 1 + 1) fu fu2 _ _ _ _ (by omega) (by omega) (by omega) ⟨_, f2, fun k hk => ?_, fun k hk => ?_, fun k hk => ?_, hsh _ (fun k hk => ?_)⟩
      · have := h2 k hk
        by_cases c : k < 4
        · rw [if_pos c] at this ⊢; rw [if_neg (by omega), if_neg (by omega)]; omega
        · rw [if_neg c] at this ⊢
          by_cases c2 : k = 20 + d (j + 1) * 4 + sn (r * 5 + (j + 1))
          · rw [if_pos c2, if_neg (by omega)]; omega
          · rw [if_neg c2]; split <;> omega
      · rw [upd_eq, if_neg (by omega), upd_eq, if_neg (by omega), h3 k hk, if_neg (by omega), if_neg (by omega)]
      · rw [upd_eq, upd_eq, h4 k hk, h4 _ (by omega), ← Nat.add_assoc]
        by_cases c : k = d j * 4 + d (j + 1)
        · rw [if_pos c, if_pos (by omega), upd_eq, if_neg (by omega)]
        · rw [if_neg c, if_neg (by omega), upd_eq, if_neg (by omega)]
      · rw [upd_eq, if_neg (by omega)]
/-- fresh weights between the rows -/
def frR (B : Nat) (fr ns mo nsh : Nat → Int32) : Prop := ∃ w : Nat → Nat, (∀ k, k < 36 → fr k = nI (w k) ∧ w k ≤ B) ∧ (∀ k, k < 4 → ns k = fr k) ∧ (∀ k, k < 16 → mo k = fr (4 + k)) ∧ ∀ k, k < 16 → nsh k = fr (20 + k)
theorem cp_f (hG : wfG signs lengths len sn) {r P : Nat} (hr : r < 4) (h0 : 0 < len r) (hP : P < 2 ^ 31) {d : Nat → Nat} (hd : ∀ i, i < len r → d i < 4 ∧ P / 4 ^ (len r - 1 - i) % 4 = d i) {bpa : Nat → Int32} (hb : ∀ i, i < len r → bpa i = nI (d i)) {B : Nat} {fr ns mo nsh : Nat → Int32} (h : frR B fr ns mo nsh) :
    ∃ fr' ns' mo' nsh', f_X1_countBestPath (nI r) fr signs lengths bpa = some fr' ∧ f_X6_countPath (nI P) (nI r) signs lengths ns mo nsh = some (ns', mo', nsh') ∧ frR (B + 5) fr' ns' mo' nsh' := by
  have hF := FU_ge
  obtain ⟨k1, k2⟩ := hG.1 r hr
  obtain ⟨w, h1, h2, h3, h4⟩ := h
  have d0 := (hd 0 h0).1
  have f1 := bump (fun j hj => (h1 j hj).1) (k := d 0) (N := 36) (by omega)
  obtain ⟨fr', ns', mo', nsh', a1, a2, w', b1, b2, b3, b4, b5⟩ := cp_L hG hr hP hd hb (B := B) (len r) 0 FU FU (upd fr (d 0) (fr (d 0) + 1)) ns mo nsh (by omega) (by omega) (by omega) ⟨_, f1, fun k hk => by
    have := (h1 k hk).2
    by_cases c : k < 4
    · rw [if_pos c]; split <;> omega
    · rw [if_neg c, if_neg (by omega)]; omega, fun k hk => by
    rw [upd_eq, h2 k hk]
    by_cases c : k = d 0
    · rw [if_pos c, if_pos ⟨rfl, c⟩, c]
    · rw [if_neg c, if_neg (fun q => c q.2)], fun k hk => by rw [upd_eq, if_neg (by omega)]; exact h3 k hk, fun k hk => by rw [upd_eq, if_neg (by omega)]; exact h4 k hk⟩
  refine ⟨fr', ns', mo', nsh', ?_, ?_, w', fun k hk => ⟨b1 k hk, ?_⟩, fun k hk => ?_, b4, b5⟩
  · unfold f_X1_countBestPath
    rw [i0, gA_n (by decide) (by decide), hb 0 h0, gA_n (by omega) (by decide), sI_n (by omega) (by decide)]
    simp only [nm]
    rw [a1]
    rfl
  · unfold f_X6_countPath
    simp only [nm]
    rw [i0, a2]
    rfl
  · have := b2 k hk
    split at this <;> omega
  · rw [b3 k hk, if_neg (by omega)]
theorem row_L (hG : wfG signs lengths len sn) (hW : wfW weights start move sho W) : ∀ (m r fu fu2 : Nat) (fr ns mo nsh bpc bp6 : Nat → Int32) (bf : Nat → Int64), r + m = 4 → m < fu → m < fu2 → frR (1 + 5 * r) fr ns mo nsh →
    ∃ fr' ns' mo' nsh' bpc' bp6' bf', f_X1_weighAnew_L10 weights signs lengths fu (nI r) fr bf bpc = some (nI 4, fr', bf', bpc') ∧ f_X6_learnt_L39 start move sho signs lengths fu2 (nI r) bp6 ns mo nsh = some (nI 4, bp6', ns', mo', nsh') ∧ frR 21 fr' ns' mo' nsh' := by
  intro m
  induction m with
  | zero =>
    intro r fu fu2 fr ns mo nsh bpc bp6 bf hr hfu hfu2 h
    obtain ⟨fu, rfl⟩ : ∃ q, fu = q + 1 := ⟨fu - 1, by omega⟩
    obtain ⟨fu2, rfl⟩ : ∃ q, fu2 = q + 1 := ⟨fu2 - 1, by omega⟩
    have e : r = 4 := by omega
    subst e
    refine ⟨fr, ns, mo, nsh, bpc, bp6, bf, ?_, ?_, h⟩
    · rw [f_X1_weighAnew_L10.eq_2, if_pos (show (4 : Int32) ≤ nI 4 by decide)]
    · rw [f_X6_learnt_L39.eq_2, if_pos (show (4 : Int32) ≤ nI 4 by decide)]
  | succ m ih =>
    intro r fu fu2 fr ns mo nsh bpc bp6 bf hr hfu hfu2 h
    obtain ⟨fu, rfl⟩ : ∃ q, fu = q + 1 := ⟨fu - 1, by omega⟩
    obtain ⟨fu2, rfl⟩ : ∃ q, fu2 = q + 1 := ⟨fu2 - 1, by omega⟩
    have hr4 : r < 4 := by omega
    obtain ⟨k1, k2⟩ := hG.1 r hr4
    have mono : frR (1 + 5 * (r + 1)) fr ns mo nsh := by
      obtain ⟨w, h1, h2⟩ := h
      exact ⟨w, fun k hk => ⟨(h1 k hk).1, by have := (h1 k hk).2; omega⟩, h2⟩
    rw [f_X1_weighAnew_L10.eq_2, if_neg (show ¬ (4 : Int32) ≤ nI r from nI_ge (b := 4) hr4 (by decide)), f_X6_learnt_L39.eq_2, if_neg (show ¬ (4 : Int32) ≤ nI r from nI_ge (b := 4) hr4 (by decide))]
    have none_ : ∀ bf bpc, ∃ fr' ns' mo' nsh' bpc' bp6' bf', f_X1_weighAnew_L10 weights signs lengths fu (nI (r + 1)) fr bf bpc = some (nI 4, fr', bf', bpc') ∧ f_X6_learnt_L39 start move sho signs lengths fu2 (nI (r + 1)) (upd bp6 r (-1)) ns mo nsh = some (nI 4, bp6', ns', mo', nsh') ∧ frR 21 fr' ns' mo' nsh' := fun bf bpc => ih (r + 1) fu fu2 fr ns mo nsh bpc _ bf (by omega) (by omega) (by omega) mono
    rcases Nat.eq_zero_or_pos (len r) with h0 | h0
    · rw [fb_0 hG hr4 h0, b6_0 hG hr4 h0]
      simp only [Option.bind_some, nm, sI_n hr4 (show 4 < 2 ^ 31 by decide), gA_n hr4 (show 4 < 2 ^ 31 by decide), pk_us, if_true, nI_1]
      exact none_ _ _
    · obtain ⟨bf1, bpc1, e1, e2⟩ := fb_f hG hW hr4 h0 bf bpc
      rw [e1, b6_f hG hW hr4 h0]
      simp only [Option.bind_some, nm, sI_n hr4 (show 4 < 2 ^ 31 by decide), gA_n hr4 (show 4 < 2 ^ 31 by decide), pk_us, nI_1]
      by_cases c : bV W (wM W) (wG W sn r (len r)) (len r) = 0
      · simp only [if_pos c, if_true]
        exact none_ _ _
      · have hP := (bP_all W (wM W) (wG W sn r (len r)) (len r) h0).2.1
        have h4 : 4 ^ len r ≤ 4 ^ 5 := Nat.pow_le_pow_right (by decide) k2
        simp only [if_neg c, if_neg b10, if_neg (nI_nm1 (show bP W (wM W) (wG W sn r (len r)) (len r) < 2 ^ 31 by omega))]
        obtain ⟨fr1, ns1, mo1, nsh1, a1, a2, a3⟩ := cp_f hG hr4 h0 (show bP W (wM W) (wG W sn r (len r)) (len r) < 2 ^ 31 by omega) (d := bp W (wM W) (wG W sn r (len r)) (len r)) (fun i hi => ⟨bp_lt _ _ _ _ i, (bp_all W (wM W) (wG W sn r (len r)) (len r) h0 i hi).1⟩) e2 h
        rw [a1, a2]
        simp only [Option.bind_some]
        exact ih (r + 1) fu fu2 fr1 ns1 mo1 nsh1 _ _ _ (by omega) (by omega) (by omega) (by rw [show 1 + 5 * (r + 1) = 1 + 5 * r + 5 by omega]; exact a3)
theorem l2_f (ns mo nsh : Nat → Int32) : ∃ ns' mo' nsh', f_X6_learnt_L2 FU (nI 0) ns mo nsh = some (nI 16, ns', mo', nsh') ∧ (∀ k, k < 4 → ns' k = nI 1) ∧ (∀ k, k < 16 → mo' k = nI 1) ∧ ∀ k, k < 16 → nsh' k = nI 1 := by
  have hF := FU_ge
  obtain ⟨⟨a, b, c⟩, ⟨h1, h2, h3⟩, h4⟩ := loop_inv (fun fu j (b : (Nat → Int32) × (Nat → Int32) × (Nat → Int32)) => f_X6_learnt_L2 fu j b.1 b.2.1 b.2.2) 16 (fun j b => (∀ k, k < 4 → k < j → b.1 k = nI 1) ∧ (∀ k, k < j → b.2.1 k = nI 1) ∧ ∀ k, k < j → b.2.2 k = nI 1) (fun fu b _ => by
    show f_X6_learnt_L2 (fu + 1) _ _ _ _ = _
    rw [f_X6_learnt_L2.eq_2, if_pos (show (16 : Int32) ≤ nI 16 by decide)]) (fun fu j b hj hb => by
    obtain ⟨a, b, c⟩ := b
    obtain ⟨h1, h2, h3⟩ := hb
    have hm : j % 4 < 4 := Nat.mod_lt _ (by decide)
    refine ⟨(upd a (j % 4) 1, upd b j 1, upd c j 1), ⟨fun k hk hkj => ?_, fun k hkj => ?_, fun k hkj => ?_⟩, ?_⟩
    · show upd a (j % 4) 1 k = nI 1
      rw [upd_eq]
      by_cases q : k = j % 4
      · rw [if_pos q]; rfl
      · rw [if_neg q]; exact h1 k hk (by omega)
    · show upd b j 1 k = nI 1
      rw [upd_eq]
      by_cases q : k = j
      · rw [if_pos q]; rfl
      · rw [if_neg q]; exact h2 k (by omega)
    · show upd c j 1 k = nI 1
      rw [upd_eq]
      by_cases q : k = j
      · rw [if_pos q]; rfl
      · rw [if_neg q]; exact h3 k (by omega)
    · show f_X6_learnt_L2 (fu + 1) _ a b c = f_X6_learnt_L2 fu _ (upd a (j % 4) 1) (upd b j 1) (upd c j 1)
      rw [f_X6_learnt_L2.eq_2, if_neg (show ¬ (16 : Int32) ≤ nI j from nI_ge (b := 16) hj (by decide))]
      unfold dz
      rw [if_neg (show ¬ (4 : Int32) = 0 by decide), show (4 : Int32) = nI 4 from rfl, pk_rem (by omega) (by decide) (by decide), sI_n hm (by decide), sI_n hj (by decide), sI_n hj (by decide)]
      simp only [nm, nI_1]) 16 0 FU (ns, mo, nsh) (by omega) (by omega) ⟨fun k _ hk => absurd hk (Nat.not_lt_zero k), fun k hk => absurd hk (Nat.not_lt_zero k), fun k hk => absurd hk (Nat.not_lt_zero k)⟩
  exact ⟨a, b, c, h4, fun k hk => h1 k hk (by omega), fun k hk => h2 k hk, fun k hk => h3 k hk⟩
theorem l38_f (fr weights : Nat → Int32) : ∃ y wt, f_X1_weighAnew_L38 fr FU (nI 0) 0 weights = some (nI 36, y, wt) ∧ (y = 0 ∨ y = 1) ∧ (y = 0 ↔ ∀ k, k < 36 → weights k = fr k) ∧ ∀ k, k < 36 → wt k = fr k := by
  have hF := FU_ge
  obtain ⟨⟨y, wt⟩, ⟨h1, h2, h3⟩, h4⟩ := loop_inv (fun fu j (b : Int32 × (Nat → Int32)) => f_X1_weighAnew_L38 fr fu j b.1 b.2) 36 (fun j b => (b.1 = 0 ∨ b.1 = 1) ∧ (b.1 = 0 ↔ ∀ k, k < j → weights k = fr k) ∧ ∀ k, b.2 k = if k < j then fr k else weights k) (fun fu b _ => by
    show f_X1_weighAnew_L38 _ (fu + 1) _ _ _ = _
    rw [f_X1_weighAnew_L38.eq_2, if_pos (show (36 : Int32) ≤ nI 36 by decide)]) (fun fu j b hj hb => by
    obtain ⟨y, wt⟩ := b
    obtain ⟨h1, h2, h3⟩ := hb
    have h1 : y = 0 ∨ y = 1 := h1
    have h2 : y = 0 ↔ ∀ k, k < j → weights k = fr k := h2
    have h3 : ∀ k, wt k = if k < j then fr k else weights k := h3
    have e3 : ∀ k, upd wt j (fr j) k = if k < j + 1 then fr k else weights k := fun k => by
      rw [upd_eq, h3]
      by_cases q : k = j
      · rw [if_pos q, if_pos (by omega), q]
      · rw [if_neg q]
        by_cases q2 : k < j
        · rw [if_pos q2, if_pos (by omega)]
        · rw [if_neg q2, if_neg (by omega)]
    show ∃ b' : Int32 × (Nat → Int32), _ ∧ f_X1_weighAnew_L38 _ (fu + 1) _ y wt = f_X1_weighAnew_L38 _ fu _ b'.1 b'.2
    rw [f_X1_weighAnew_L38.eq_2, if_neg (show ¬ (36 : Int32) ≤ nI j from nI_ge (b := 36) hj (by decide))]
    simp only [gA_n hj (show 36 < 2 ^ 31 by decide), sI_n hj (show 36 < 2 ^ 31 by decide), nm, nI_1]
    have no1 : ¬ (∀ k, k < j + 1 → weights k = fr k) → ((1 : Int32) = 0 ↔ ∀ k, k < j + 1 → weights k = fr k) := fun q => ⟨fun q2 => absurd q2 b10, fun q2 => absurd q2 q⟩
    by_cases c : y = 0
    · rw [if_pos c, h3, if_neg (Nat.lt_irrefl j)]
      have ha := h2.mp c
      by_cases c2 : weights j = fr j
      · rw [if_pos c2]
        refine ⟨(0, upd wt j (fr j)), ⟨Or.inl rfl, ⟨fun _ k hk => ?_, fun _ => rfl⟩, e3⟩, rfl⟩
        by_cases q : k = j
        · rw [q]; exact c2
        · exact ha k (by omega)
      · rw [if_neg c2]
        exact ⟨(1, upd wt j (fr j)), ⟨Or.inr rfl, no1 (fun q => c2 (q j (by omega))), e3⟩, rfl⟩
    · rw [if_neg c]
      exact ⟨(1, upd wt j (fr j)), ⟨Or.inr rfl, no1 (fun q => c (h2.mpr (fun k hk => q k (by omega)))), e3⟩, rfl⟩) 36 0 FU (0, weights) (by omega) (by omega) ⟨Or.inl rfl, ⟨fun _ k hk => absurd hk (Nat.not_lt_zero k), fun _ => rfl⟩, fun k => by rw [if_neg (Nat.not_lt_zero k)]⟩
  refine ⟨y, wt, h4, h1, h2, fun k hk => ?_⟩
  have := h3 k
  rw [if_pos hk] at this
  exact this
theorem l86_f (start move sho ns mo nsh : Nat → Int32) : ∃ y, f_X6_learnt_L86 start move sho ns mo nsh FU (nI 0) 0 = some (nI 16, y) ∧ (y = 0 ∨ y = 1) ∧ (y = 0 ↔ ∀ k, k < 16 → start (k % 4) = ns (k % 4) ∧ move k = mo k ∧ sho k = nsh k) := by
  have hF := FU_ge
  obtain ⟨y, ⟨h1, h2⟩, h4⟩ := loop_inv (fun fu j (b : Int32) => f_X6_learnt_L86 start move sho ns mo nsh fu j b) 16 (fun j y => (y = 0 ∨ y = 1) ∧ (y = 0 ↔ ∀ k, k < j → start (k % 4) = ns (k % 4) ∧ move k = mo k ∧ sho k = nsh k)) (fun fu b _ => by
    show f_X6_learnt_L86 _ _ _ _ _ _ (fu + 1) _ _ = _
    rw [f_X6_learnt_L86.eq_2, if_pos (show (16 : Int32) ≤ nI 16 by decide)]) (fun fu j y hj hb => by
    obtain ⟨h1, h2⟩ := hb
    have hm : j % 4 < 4 := Nat.mod_lt _ (by decide)
    show ∃ b' : Int32, _ ∧ f_X6_learnt_L86 _ _ _ _ _ _ (fu + 1) _ y = f_X6_learnt_L86 _ _ _ _ _ _ fu _ b'
    rw [f_X6_learnt_L86.eq_2, if_neg (show ¬ (16 : Int32) ≤ nI j from nI_ge (b := 16) hj (by decide))]
    simp only [dz, if_neg (show ¬ (4 : Int32) = 0 by decide), show (4 : Int32) = nI 4 from rfl, pk_rem (show j < 2 ^ 31 by omega) (show 0 < 4 by decide) (show 4 < 2 ^ 31 by decide), gA_n hm (show 4 < 2 ^ 31 by decide), gA_n hj (show 16 < 2 ^ 31 by decide), nm, nI_1]
    have no1 : ¬ (start (j % 4) = ns (j % 4) ∧ move j = mo j ∧ sho j = nsh j) → ∃ b', ((b' = 0 ∨ b' = 1) ∧ (b' = 0 ↔ ∀ k, k < j + 1 → start (k % 4) = ns (k % 4) ∧ move k = mo k ∧ sho k = nsh k)) ∧ f_X6_learnt_L86 start move sho ns mo nsh fu (nI (j + 1)) 1 = f_X6_learnt_L86 start move sho ns mo nsh fu (nI (j + 1)) b' := fun q => ⟨1, ⟨Or.inr rfl, fun q2 => absurd q2 b10, fun q2 => absurd (q2 j (by omega)) q⟩, rfl⟩
    by_cases c : y = 0
    · rw [if_pos c]
      have ha := h2.mp c
      by_cases c1 : start (j % 4) = ns (j % 4)
      · rw [if_pos c1]
        by_cases c2 : move j = mo j
        · rw [if_pos c2]
          by_cases c3 : sho j = nsh j
          · rw [if_pos c3]
            refine ⟨0, ⟨Or.inl rfl, ⟨fun _ k hk => ?_, fun _ => rfl⟩⟩, rfl⟩
            by_cases q : k = j
            · rw [q]; exact ⟨c1, c2, c3⟩
            · exact ha k (by omega)
          · rw [if_neg c3]; exact no1 (fun q => c3 q.2.2)
        · rw [if_neg c2]; exact no1 (fun q => c2 q.2.1)
      · rw [if_neg c1]; exact no1 (fun q => c1 q.1)
    · rw [if_neg c]
      exact ⟨1, ⟨Or.inr rfl, fun q2 => absurd q2 b10, fun q2 => absurd (h2.mpr (fun k hk => q2 k (by omega))) c⟩, rfl⟩) 16 0 FU 0 (by omega) (by omega) ⟨Or.inl rfl, ⟨fun _ k hk => absurd hk (Nat.not_lt_zero k), fun _ => rfl⟩⟩
  exact ⟨y, h4, h1, h2⟩
theorem l159_f (ns mo nsh start move sho : Nat → Int32) : ∃ st' mv' sh', f_X6_learnt_L159 ns mo nsh FU (nI 0) start move sho = some (nI 16, st', mv', sh') ∧ (∀ k, k < 4 → st' k = ns k) ∧ (∀ k, k < 16 → mv' k = mo k) ∧ ∀ k, k < 16 → sh' k = nsh k := by
  have hF := FU_ge
  obtain ⟨⟨a, b, c⟩, ⟨h1, h2, h3⟩, h4⟩ := loop_inv (fun fu j (b : (Nat → Int32) × (Nat → Int32) × (Nat → Int32)) => f_X6_learnt_L159 ns mo nsh fu j b.1 b.2.1 b.2.2) 16 (fun j b => (∀ k, k < 4 → k < j → b.1 k = ns k) ∧ (∀ k, k < j → b.2.1 k = mo k) ∧ ∀ k, k < j → b.2.2 k = nsh k) (fun fu b _ => by
    show f_X6_learnt_L159 _ _ _ (fu + 1) _ _ _ _ = _
    rw [f_X6_learnt_L159.eq_2, if_pos (show (16 : Int32) ≤ nI 16 by decide)]) (fun fu j b hj hb => by
    obtain ⟨a, b, c⟩ := b
    obtain ⟨h1, h2, h3⟩ := hb
    have hm : j % 4 < 4 := Nat.mod_lt _ (by decide)
    refine ⟨(upd a (j % 4) (ns (j % 4)), upd b j (mo j), upd c j (nsh j)), ⟨fun k hk hkj => ?_, fun k hkj => ?_, fun k hkj => ?_⟩, ?_⟩
    · show upd a (j % 4) (ns (j % 4)) k = ns k
      rw [upd_eq]
      by_cases q : k = j % 4
      · rw [if_pos q, q]
      · rw [if_neg q]; exact h1 k hk (by omega)
    · show upd b j (mo j) k = mo k
      rw [upd_eq]
      by_cases q : k = j
      · rw [if_pos q, q]
      · rw [if_neg q]; exact h2 k (by omega)
    · show upd c j (nsh j) k = nsh k
      rw [upd_eq]
      by_cases q : k = j
      · rw [if_pos q, q]
      · rw [if_neg q]; exact h3 k (by omega)
    · show f_X6_learnt_L159 _ _ _ (fu + 1) _ a b c = f_X6_learnt_L159 _ _ _ fu _ (upd a (j % 4) (ns (j % 4))) (upd b j (mo j)) (upd c j (nsh j))
      rw [f_X6_learnt_L159.eq_2, if_neg (show ¬ (16 : Int32) ≤ nI j from nI_ge (b := 16) hj (by decide))]
      unfold dz
      rw [if_neg (show ¬ (4 : Int32) = 0 by decide), show (4 : Int32) = nI 4 from rfl, pk_rem (by omega) (by decide) (by decide), if_neg (show ¬ nI 4 = 0 by decide), gA_n hm (by decide), sI_n hm (by decide), gA_n hj (by decide), sI_n hj (by decide), gA_n hj (by decide), sI_n hj (by decide)]
      simp only [nm, nI_1]) 16 0 FU (start, move, sho) (by omega) (by omega) ⟨fun k _ hk => absurd hk (Nat.not_lt_zero k), fun k hk => absurd hk (Nat.not_lt_zero k), fun k hk => absurd hk (Nat.not_lt_zero k)⟩
  exact ⟨a, b, c, h4, fun k hk => h1 k hk (by omega), fun k hk => h2 k hk, fun k hk => h3 k hk⟩
/-- one round, of both -/
theorem learn_f (hG : wfG signs lengths len sn) (hW : wfW weights start move sho W) (fresh bp1 bp6 ns mo nsh : Nat → Int32) (bf : Nat → Int64) :
    ∃ y wt fr bf' bp1' st' mv' sh' bp6' ns' mo' nsh', (y = 0 ∨ y = 1) ∧ f_X1_weighAnew weights fresh signs lengths bf bp1 = some (y, wt, fr, bf', bp1') ∧ f_X6_learnt start move sho signs lengths bp6 ns mo nsh = some (y, st', mv', sh', bp6', ns', mo', nsh') ∧ ∃ W', wfW wt st' mv' sh' W' := by
  have hF := FU_ge
  obtain ⟨f0, p1, p2⟩ := setAll_f (N := 36) (by decide) fresh 1
  obtain ⟨ns0, mo0, nsh0, q1, q2, q3, q4⟩ := l2_f ns mo nsh
  obtain ⟨fr, ns1, mo1, nsh1, bp1', bp6', bf', r1, r2, w, r3, r4, r5, r6⟩ := row_L hG hW 4 0 FU FU f0 ns0 mo0 nsh0 bp1 bp6 bf (by omega) (by omega) (by omega) ⟨fun _ => 1, fun k hk => ⟨by rw [p2, if_pos hk]; rfl, (by decide : (1 : Nat) ≤ 1 + 5 * 0)⟩, fun k hk => by rw [q2 k hk, p2, if_pos (by omega)]; rfl, fun k hk => by rw [q3 k hk, p2, if_pos (by omega)]; rfl, fun k hk => by rw [q4 k hk, p2, if_pos (by omega)]; rfl⟩
  obtain ⟨y, wt, s1, s2, s3, s4⟩ := l38_f fr weights
  obtain ⟨y6, t1, t2, t3⟩ := l86_f start move sho ns1 mo1 nsh1
  obtain ⟨st', mv', sh', u1, u2, u3, u4⟩ := l159_f ns1 mo1 nsh1 start move sho
  obtain ⟨a, b, c, d⟩ := hW
  have iff : (∀ k, k < 36 → weights k = fr k) ↔ ∀ k, k < 16 → start (k % 4) = ns1 (k % 4) ∧ move k = mo1 k ∧ sho k = nsh1 k := by
    constructor
    · intro h k hk
      rw [b _ (by omega), r4 _ (by omega), c k hk, r5 k hk, d k hk, r6 k hk]
      exact ⟨h _ (by omega), h _ (by omega), h _ (by omega)⟩
    · intro h k hk
      by_cases c1 : k < 4
      · have := (h k (by omega)).1
        rw [Nat.mod_eq_of_lt c1, b k c1, r4 k c1] at this
        exact this
      · by_cases c2 : k < 20
        · have := (h (k - 4) (by omega)).2.1
          rw [c _ (by omega), r5 _ (by omega), show 4 + (k - 4) = k by omega] at this
          exact this
        · have := (h (k - 20) (by omega)).2.2
          rw [d _ (by omega), r6 _ (by omega), show 20 + (k - 20) = k by omega] at this
          exact this
  have ey : y6 = y := by
    have e : y6 = 0 ↔ y = 0 := by rw [t3, s3, iff]
    rcases s2 with q | q <;> rcases t2 with q' | q'
    · rw [q, q']
    · exact absurd (e.mpr q) (by rw [q']; decide)
    · exact absurd (e.mp q') (by rw [q]; decide)
    · rw [q, q']
  subst ey
  refine ⟨y6, wt, fr, bf', bp1', st', mv', sh', bp6', ns1, mo1, nsh1, s2, ?_, ?_, w, fun k hk => ?_, fun k hk => ?_, fun k hk => ?_, fun k hk => ?_⟩
  · unfold f_X1_weighAnew
    rw [p1, Option.bind_some]
    simp only [nm]
    rw [i0, r1, Option.bind_some]
    simp only
    rw [show f_X1_weighAnew_L38 fr FU (nI 0) (nI 0) weights = _ from s1, Option.bind_some]
    exact bz_p s2
  · unfold f_X6_learnt
    simp only [nm]
    rw [i0, q1, Option.bind_some]
    simp only
    rw [r2, Option.bind_some]
    simp only
    rw [show f_X6_learnt_L86 start move sho ns1 mo1 nsh1 FU (nI 0) (nI 0) = _ from t1, Option.bind_some]
    simp only
    rw [u1, Option.bind_some]
    exact bz_p s2
  · rw [s4 k hk]; exact r3 k hk
  · rw [u2 k hk, s4 k (by omega)]; exact r4 k hk
  · rw [u3 k hk, s4 _ (by omega)]; exact r5 k hk
  · rw [u4 k hk, s4 _ (by omega)]; exact r6 k hk
theorem le_L {N : Nat} (hG : wfG signs lengths len sn) (hN : N ≤ 20) : ∀ (m d fu : Nat) (weights start move sho fresh bp1 bp6 ns mo nsh : Nat → Int32) (bf : Nat → Int64) (W : Nat → Nat), d + (m + 1) = N → m + 2 < fu → wfW weights start move sho W →
    ∃ r z wt fr bf' bp1' st' mv' sh' bp6' ns' mo' nsh', f_X5_learn_L17 (nI N) signs lengths fu 1 (nI d) weights fresh bf bp1 = some (z, r, wt, fr, bf', bp1') ∧ f_X6_learn_L20 (nI N) signs lengths fu (nI (d + 1)) start move sho bp6 ns mo nsh = some (r, st', mv', sh', bp6', ns', mo', nsh') ∧ ∃ W', wfW wt st' mv' sh' W' := by
  intro m
  induction m with
  | zero =>
    intro d fu weights start move sho fresh bp1 bp6 ns mo nsh bf W hm hfu hW
    obtain ⟨fu, rfl⟩ : ∃ q, fu = q + 2 := ⟨fu - 2, by omega⟩
    obtain ⟨y, wt, fr, bf', bp1', st', mv', sh', bp6', ns', mo', nsh', h01, e1, e2, e3⟩ := learn_f hG hW fresh bp1 bp6 ns mo nsh bf
    refine ⟨nI (d + 1), y, wt, fr, bf', bp1', st', mv', sh', bp6', ns', mo', nsh', ?_, ?_, e3⟩
    · rw [f_X5_learn_L17.eq_2, if_neg b10, if_neg (nI_ge (by omega) (by omega)), e1, Option.bind_some]
      simp only [nm, nI_1]
      rw [f_X5_learn_L17.eq_2]
      by_cases c : y = 0
      · rw [if_pos c]
      · rw [if_neg c, if_pos (nI_le (by omega) (by omega))]
    · rw [f_X6_learn_L20.eq_2, e2, Option.bind_some]
      simp only
      by_cases c : y = 0
      · rw [if_pos c]
      · rw [if_neg c, if_pos (nI_le (by omega) (by omega))]
  | succ m ih =>
    intro d fu weights start move sho fresh bp1 bp6 ns mo nsh bf W hm hfu hW
    obtain ⟨fu, rfl⟩ : ∃ q, fu = q + 2 := ⟨fu - 2, by omega⟩
    obtain ⟨y, wt, fr, bf', bp1', st', mv', sh', bp6', ns', mo', nsh', h01, e1, e2, e3⟩ := learn_f hG hW fresh bp1 bp6 ns mo nsh bf
    by_cases c : y = 0
    · refine ⟨nI (d + 1), y, wt, fr, bf', bp1', st', mv', sh', bp6', ns', mo', nsh', ?_, ?_, e3⟩
      · rw [f_X5_learn_L17.eq_2, if_neg b10, if_neg (nI_ge (by omega) (by omega)), e1, Option.bind_some]
        simp only [nm, nI_1]
        rw [f_X5_learn_L17.eq_2, if_pos c]
      · rw [f_X6_learn_L20.eq_2, e2, Option.bind_some]
        simp only
        rw [if_pos c]
    · have c1 : y = 1 := by
        rcases h01 with q | q
        · exact absurd q c
        · exact q
      obtain ⟨W', e3⟩ := e3
      obtain ⟨r, z, wt2, fr2, bf2, bp2, st2, mv2, sh2, b62, ns2, mo2, nsh2, f1, f2, f3⟩ := ih (d + 1) (fu + 1) wt st' mv' sh' fr bp1' bp6' ns' mo' nsh' bf' W' (by omega) (by omega) e3
      refine ⟨r, z, wt2, fr2, bf2, bp2, st2, mv2, sh2, b62, ns2, mo2, nsh2, ?_, ?_, f3⟩
      · rw [f_X5_learn_L17.eq_2, if_neg b10, if_neg (nI_ge (by omega) (by omega)), e1, Option.bind_some]
        simp only [nm, nI_1]
        rw [c1]
        exact f1
      · rw [f_X6_learn_L20.eq_2, e2, Option.bind_some]
        simp only [nm, nI_1]
        rw [if_neg c, if_neg (nI_ge (by omega) (by omega))]
        exact f2
end L0
theorem w20_d {x : Int32} (c : ¬ wb x 1 20 = 0) : ∃ d, 1 ≤ d ∧ d ≤ 20 ∧ x = nI d := by
  unfold wb at c
  by_cases q1 : x < 1
  · rw [if_pos q1] at c; exact absurd rfl c
  · rw [if_neg q1] at c
    by_cases q2 : 20 < x
    · rw [if_pos q2] at c; exact absurd rfl c
    · have e1 : ¬ x.toInt < 1 := fun q => q1 (Int32.lt_iff_toInt_lt.mpr q)
      have e3 : ¬ 20 < x.toInt := fun q => q2 (Int32.lt_iff_toInt_lt.mpr q)
      obtain ⟨d, hd, rfl⟩ := nI_of2 (x := x) (M := 20) (n := 20) rfl (fun q => e1 (by have : x.toInt < 0 := Int32.lt_iff_toInt_lt.mp q; omega)) (Int32.le_iff_toInt_le.mpr (by show x.toInt ≤ 20; omega))
      rw [nI_toInt (by omega)] at e1
      exact ⟨d, by omega, hd, rfl⟩
theorem st_learn (i1 : Int32) {weights1 signs1 lengths1 start6 move6 show6 signs6 many6 : Nat → Int32} (hI : INVs weights1 signs1 lengths1 start6 move6 show6 signs6 many6) (thrown6 : Int32) (fresh1 bp1 bp6 ns mo nsh : Nat → Int32) (bf : Nat → Int64) :
    ∃ r wt fr bf' bp1' st' mv' sh' bp6' ns' mo' nsh', f_X5_learn i1 weights1 fresh1 signs1 lengths1 bf bp1 = some (r, wt, fr, bf', bp1') ∧ f_X6_learn i1 thrown6 start6 move6 show6 signs6 many6 bp6 ns mo nsh = some (r, 0, st', mv', sh', bp6', ns', mo', nsh') ∧ INVs wt signs1 lengths1 st' mv' sh' signs6 many6 := by
  have hI0 := hI
  have hF := FU_ge
  obtain ⟨rfl, rfl, len, sn, W, hG, hW⟩ := hI
  unfold f_X5_learn f_X6_learn
  simp only [nm, within5, within6, Option.bind_some]
  by_cases c1 : wb i1 1 20 = 0
  · rw [if_pos c1, if_pos c1]
    exact ⟨_, _, _, _, _, _, _, _, _, _, _, _, rfl, rfl, hI0⟩
  · rw [if_neg c1, if_neg c1]
    obtain ⟨N, d1, d2, rfl⟩ := w20_d c1
    obtain ⟨r, z, wt, fr, bf', bp1', st', mv', sh', bp6', ns', mo', nsh', e1, e2, W', e3⟩ := le_L (N := N) hG d2 (N - 1) 0 FU weights1 start6 move6 show6 fresh1 bp1 bp6 ns mo nsh bf W (by omega) (by omega) hW
    rw [show (nI 0) = (0 : Int32) from rfl] at e1
    rw [show (nI (0 + 1)) = (1 : Int32) from rfl] at e2
    rw [e1, e2]
    simp only [Option.bind_some]
    exact ⟨_, _, _, _, _, _, _, _, _, _, _, _, rfl, rfl, rfl, rfl, len, sn, W', hG, e3⟩
