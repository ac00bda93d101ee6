/-! PURE: best paths, of both -/
section P0
variable {weights signs lengths start move sho : Nat → Int32} {len sn W : Nat → Nat}
theorem wo_f (hW : wfW weights start move sho W) {i s t : Nat} (hi : i + 1 < 5) (hs : s < 4) (ht : t < 4) {X : Nat → Nat} {bf : Nat → Int64} (hX : ∀ t, t < 4 → bf ((i + 1) * 4 + t) = lN (X t)) : f_X1_weightOnward (nI i) (nI s) (nI t) weights bf = some (lN (wM W s t * X t)) := by
  unfold f_X1_weightOnward f_X1_moveAt
  have hw := wM_le hW s t hs ht
  rw [Option.bind_some, mv_n, gA_n (by omega) (by decide), nI_1, show (4 : Int32) = nI 4 from rfl, ix (b := 0), gA_n (by omega) (by decide), (hW.1 _ (by omega)).1, hX t ht, nI_l (show W (4 + s * 4 + t) < 2 ^ 31 from Nat.lt_of_le_of_lt hw (by decide)), lN_mul]
  rfl
theorem bo_f (hW : wfW weights start move sho W) {i s : Nat} (hi : i + 1 < 5) (hs : s < 4) {X : Nat → Nat} (hB : ∀ t, t < 4 → X t ≤ 21 ^ 9) {bf : Nat → Int64} (hX : ∀ t, t < 4 → bf ((i + 1) * 4 + t) = lN (X t)) : f_X1_bestOnward (nI i) (nI s) weights bf = some (nI (amF (fun t => wM W s t * X t) 3)) := by
  have hF := FU_ge
  have hP : ∀ t, t < 4 → wM W s t * X t ≤ 21 * 21 ^ 9 := fun t ht => Nat.mul_le_mul (wM_le hW s t hs ht) (hB t ht)
  obtain ⟨b, ⟨_, h1⟩, h2⟩ := loop_inv (fun fu j (b : Int32) => f_X1_bestOnward_L5 (nI i) (nI s) weights bf fu j b) 4 (fun j b => 1 ≤ j ∧ b = nI (amF (fun t => wM W s t * X t) (j - 1))) (fun fu b _ => by
    show f_X1_bestOnward_L5 _ _ _ _ (fu + 1) _ _ = _
    rw [f_X1_bestOnward_L5.eq_2, if_pos (show (4 : Int32) ≤ nI 4 by decide)]) (fun fu j b hj hb => by
    obtain ⟨h1, rfl⟩ := hb
    obtain ⟨j, rfl⟩ : ∃ q, j = q + 1 := ⟨j - 1, by omega⟩
    have ha := amF_le (fun t => wM W s t * X t) j
    refine ⟨_, ⟨by omega, rfl⟩, ?_⟩
    show f_X1_bestOnward_L5 _ _ _ _ (fu + 1) _ _ = f_X1_bestOnward_L5 _ _ _ _ fu _ (nI (if wM W s (amF (fun t => wM W s t * X t) j) * X (amF (fun t => wM W s t * X t) j) < wM W s (j + 1) * X (j + 1) then j + 1 else amF (fun t => wM W s t * X t) j))
    rw [show j + 1 - 1 = j by omega]
    generalize amF (fun t => wM W s t * X t) j = z at ha
    have p1 := hP z (by omega)
    have p2 := hP (j + 1) hj
    rw [f_X1_bestOnward_L5.eq_2, if_neg (show ¬ (4 : Int32) ≤ nI (j + 1) from nI_ge (b := 4) hj (by decide)), wo_f hW hi hs hj hX, Option.bind_some, wo_f hW hi hs (show z < 4 by omega) hX, Option.bind_some]
    simp only [nm, nI_1, c_le, pk_lLE (show wM W s (j + 1) * X (j + 1) < 2 ^ 63 by omega) (show wM W s z * X z < 2 ^ 63 by omega)]
    by_cases c : wM W s (j + 1) * X (j + 1) ≤ wM W s z * X z
    · rw [if_pos c, if_neg (by omega)]
    · rw [if_neg c, if_pos (by omega)]) 3 1 FU (nI 0) (by omega) (by omega) ⟨Nat.le_refl 1, rfl⟩
  unfold f_X1_bestOnward
  simp only [nm]
  rw [i0, i1, show f_X1_bestOnward_L5 (nI i) (nI s) weights bf FU (nI 1) (nI 0) = _ from h2, h1]
  rfl
theorem bs_f (hW : wfW weights start move sho W) {X : Nat → Nat} (hB : ∀ t, t < 4 → X t ≤ 21 ^ 9) {bf : Nat → Int64} (hX : ∀ t, t < 4 → bf t = lN (X t)) : f_X1_bestStart weights bf = some (nI (amF (fun t => W t * X t) 3)) := by
  have hF := FU_ge
  have hP : ∀ t, t < 4 → W t * X t ≤ 21 * 21 ^ 9 := fun t ht => Nat.mul_le_mul (W_le hW t (by omega)) (hB t ht)
  obtain ⟨b, ⟨_, h1⟩, h2⟩ := loop_inv (fun fu j (b : Int32) => f_X1_bestStart_L4 weights bf fu j b) 4 (fun j b => 1 ≤ j ∧ b = nI (amF (fun t => W t * X t) (j - 1))) (fun fu b _ => by
    show f_X1_bestStart_L4 _ _ (fu + 1) _ _ = _
    rw [f_X1_bestStart_L4.eq_2, if_pos (show (4 : Int32) ≤ nI 4 by decide)]) (fun fu j b hj hb => by
    obtain ⟨h1, rfl⟩ := hb
    obtain ⟨j, rfl⟩ : ∃ q, j = q + 1 := ⟨j - 1, by omega⟩
    have ha := amF_le (fun t => W t * X t) j
    refine ⟨_, ⟨by omega, rfl⟩, ?_⟩
    show f_X1_bestStart_L4 _ _ (fu + 1) _ _ = f_X1_bestStart_L4 _ _ fu _ (nI (if W (amF (fun t => W t * X t) j) * X (amF (fun t => W t * X t) j) < W (j + 1) * X (j + 1) then j + 1 else amF (fun t => W t * X t) j))
    rw [show j + 1 - 1 = j by omega]
    generalize amF (fun t => W t * X t) j = z at ha
    have p1 := hP z (by omega)
    have p2 := hP (j + 1) hj
    have w1 := W_le hW z (by omega)
    have w2 := W_le hW (j + 1) (by omega)
    rw [f_X1_bestStart_L4.eq_2, if_neg (show ¬ (4 : Int32) ≤ nI (j + 1) from nI_ge (b := 4) hj (by decide)), gA_n (by omega) (by decide), gA_n (by omega) (by decide), gA_n (by omega) (by decide), gA_n (by omega) (by decide), (hW.1 (j + 1) (by omega)).1, (hW.1 z (by omega)).1, hX z (by omega), hX (j + 1) hj, nI_l (by omega), nI_l (by omega), lN_mul, lN_mul]
    simp only [nm, nI_1, c_le, pk_lLE (show W (j + 1) * X (j + 1) < 2 ^ 63 by omega) (show W z * X z < 2 ^ 63 by omega)]
    by_cases c : W (j + 1) * X (j + 1) ≤ W z * X z
    · rw [if_pos c, if_neg (by omega)]
    · rw [if_neg c, if_pos (by omega)]) 3 1 FU (nI 0) (by omega) (by omega) ⟨Nat.le_refl 1, rfl⟩
  unfold f_X1_bestStart
  simp only [nm]
  rw [i0, i1, show f_X1_bestStart_L4 weights bf FU (nI 1) (nI 0) = _ from h2, h1]
  rfl
theorem fb_24 (hG : wfG signs lengths len sn) (hW : wfW weights start move sho W) {r i : Nat} (hr : r < 4) (hi : i < len r) (f : Nat → Int64) (hf : i + 1 < len r → ∀ t, t < 4 → f ((i + 1) * 4 + t) = lN (VW (wM W) (wG W sn r (len r)) (len r) (len r - 1 - (i + 1)) t)) :
    ∃ f', ((∀ s, s < 4 → f' (i * 4 + s) = lN (VW (wM W) (wG W sn r (len r)) (len r) (len r - 1 - i) s)) ∧ ∀ k, i * 4 + 4 ≤ k → f' k = f k) ∧ f_X1_findBestPath_L24 (nI i) (nI (len r)) (nI r) weights signs FU (nI 0) f = some (nI 4, f') := by
  have hF := FU_ge
  have h5 := (hG.1 r hr).2
  refine loop_inv (fun fu j (b : Nat → Int64) => f_X1_findBestPath_L24 (nI i) (nI (len r)) (nI r) weights signs fu j b) 4 (fun j b => (∀ s, s < j → b (i * 4 + s) = lN (VW (wM W) (wG W sn r (len r)) (len r) (len r - 1 - i) s)) ∧ ∀ k, i * 4 + 4 ≤ k → b k = f k) (fun fu b _ => ?_) (fun fu j b hj hb => ?_) 4 0 FU f (by omega) (by omega) ⟨fun s hs => absurd hs (Nat.not_lt_zero s), fun _ _ => rfl⟩
  · show f_X1_findBestPath_L24 _ _ _ _ _ (fu + 1) _ _ = _
    rw [f_X1_findBestPath_L24.eq_2, if_pos (show (4 : Int32) ≤ nI 4 by decide)]
  · obtain ⟨hb1, hb2⟩ := hb
    have hg := wG_le hG hW hr i j hj
    refine ⟨vp_updL b (i * 4 + j) (lN (VW (wM W) (wG W sn r (len r)) (len r) (len r - 1 - i) j)), ⟨fun s hs => ?_, fun k hk => ?_⟩, ?_⟩
    · rw [updL_eq]
      by_cases q : s = j
      · rw [q, if_pos rfl]
      · rw [if_neg (by omega)]; exact hb1 s (by omega)
    · rw [updL_eq, if_neg (by omega)]; exact hb2 k hk
    · show f_X1_findBestPath_L24 _ _ _ _ _ (fu + 1) _ _ = f_X1_findBestPath_L24 _ _ _ _ _ fu _ _
      rw [f_X1_findBestPath_L24.eq_2, if_neg (show ¬ (4 : Int32) ≤ nI j from nI_ge (b := 4) hj (by decide))]
      obtain ⟨n, hn⟩ : ∃ n, len r = n + 1 := ⟨len r - 1, by omega⟩
      have e0 : (nI (len r) - 1 : Int32) = nI n := by rw [hn, nI_pred]
      rw [e0]
      simp only [shown_f hG hW hr hi hj, Option.bind_some, nm, nI_1, show (4 : Int32) = nI 4 from rfl, ix (b := 0), nI_l (show wG W sn r (len r) i j < 2 ^ 31 by omega)]
      by_cases c : i = n
      · rw [if_pos (by rw [c]), l1, lN_mul, sL_n (by omega) (by decide), Nat.mul_one, show len r - 1 - i = 0 by omega]
        show _ = f_X1_findBestPath_L24 _ _ _ _ _ fu _ (vp_updL b (i * 4 + j) (lN (wG W sn r (len r) (len r - 1) j)))
        rw [show len r - 1 = i by omega]
      · have hX : ∀ t, t < 4 → b ((i + 1) * 4 + t) = lN (VW (wM W) (wG W sn r (len r)) (len r) (len r - 1 - (i + 1)) t) := fun t ht => by rw [hb2 _ (by omega)]; exact hf (by omega) t ht
        have hV : ∀ t, t < 4 → VW (wM W) (wG W sn r (len r)) (len r) (len r - 1 - (i + 1)) t ≤ 21 ^ 9 := fun t ht => Nat.le_trans (VW_le (wM W) (wG W sn r (len r)) (len r) (b := 21) (fun s t hs ht => wM_le hW s t hs ht) (fun i s hs => wG_le hG hW hr i s hs) _ t ht) (Nat.pow_le_pow_right (by decide) (by omega))
        rw [if_neg (fun q => c ((nI_eq (by omega) (by omega)).mp q)), bo_f hW (by omega) hj hV hX, Option.bind_some, wo_f hW (by omega) hj (by have := amF_le (fun t => wM W j t * VW (wM W) (wG W sn r (len r)) (len r) (len r - 1 - (i + 1)) t) 3; omega) hX, Option.bind_some, lN_mul, sL_n (by omega) (by decide)]
        rw [show len r - 1 - i = (len r - 1 - (i + 1)) + 1 by omega, VW_s, show len r - 1 - (len r - 1 - (i + 1) + 1) = i by omega]
        rfl
theorem fb_17 (hG : wfG signs lengths len sn) (hW : wfW weights start move sho W) {r : Nat} (hr : r < 4) : ∀ (m fu : Nat) (f : Nat → Int64), m ≤ len r → m < fu → (∀ i, m ≤ i → i < len r → ∀ s, s < 4 → f (i * 4 + s) = lN (VW (wM W) (wG W sn r (len r)) (len r) (len r - 1 - i) s)) →
    ∃ f' z, f_X1_findBestPath_L17 (nI (len r)) (nI r) weights signs fu (nI m + (-1)) f = some (z, f') ∧ ∀ i, i < len r → ∀ s, s < 4 → f' (i * 4 + s) = lN (VW (wM W) (wG W sn r (len r)) (len r) (len r - 1 - i) s) := by
  intro m
  induction m with
  | zero =>
    intro fu f hm hfu hf
    obtain ⟨fu, rfl⟩ : ∃ q, fu = q + 1 := ⟨fu - 1, by omega⟩
    refine ⟨f, nI 0 + (-1), ?_, fun i hi => hf i (by omega) hi⟩
    rw [f_X1_findBestPath_L17.eq_2, if_pos (show nI 0 + (-1) < (0 : Int32) by decide)]
  | succ m ih =>
    intro fu f hm hfu hf
    obtain ⟨fu, rfl⟩ : ∃ q, fu = q + 1 := ⟨fu - 1, by omega⟩
    have h5 := (hG.1 r hr).2
    obtain ⟨f1, ⟨a1, a2⟩, a3⟩ := fb_24 hG hW hr (show m < len r by omega) f (fun h t ht => hf (m + 1) (Nat.le_refl _) h t ht)
    obtain ⟨f', z, b1, b2⟩ := ih fu f1 (by omega) (by omega) (fun i hi hl s hs => by
      by_cases q : i = m
      · rw [q]; exact a1 s hs
      · rw [a2 _ (by omega)]; exact hf i (by omega) hl s hs)
    refine ⟨f', z, ?_, b2⟩
    rw [pk_m1, f_X1_findBestPath_L17.eq_2, if_neg (nI_pos (by omega))]
    simp only [nm]
    rw [i0, a3, Option.bind_some]
    exact b1
theorem fb_107 (hG : wfG signs lengths len sn) (hW : wfW weights start move sho W) {r : Nat} (hr : r < 4) (h0 : 0 < len r) {bf : Nat → Int64} (hf : ∀ i, i < len r → ∀ s, s < 4 → bf (i * 4 + s) = lN (VW (wM W) (wG W sn r (len r)) (len r) (len r - 1 - i) s)) (f : Nat → Int32) (hf0 : f 0 = nI (bp W (wM W) (wG W sn r (len r)) (len r) 0)) :
    ∃ f', (1 ≤ len r ∧ ∀ i, i < len r → f' i = nI (bp W (wM W) (wG W sn r (len r)) (len r) i)) ∧ f_X1_findBestPath_L107 (nI (len r)) weights bf FU (nI 1) f = some (nI (len r), f') := by
  have hF := FU_ge
  have h5 := (hG.1 r hr).2
  refine loop_inv (fun fu j (b : Nat → Int32) => f_X1_findBestPath_L107 (nI (len r)) weights bf fu j b) (len r) (fun j b => 1 ≤ j ∧ ∀ i, i < j → b i = nI (bp W (wM W) (wG W sn r (len r)) (len r) i)) (fun fu b _ => ?_) (fun fu j b hj hb => ?_) (len r - 1) 1 FU f (by omega) (by omega) ⟨Nat.le_refl 1, fun i hi => by rw [show i = 0 by omega]; exact hf0⟩
  · show f_X1_findBestPath_L107 _ _ _ (fu + 1) _ _ = _
    rw [f_X1_findBestPath_L107.eq_2, if_pos (nI_le (Nat.le_refl _) (by omega))]
  · obtain ⟨h1, hb⟩ := hb
    obtain ⟨j, rfl⟩ : ∃ q, j = q + 1 := ⟨j - 1, by omega⟩
    refine ⟨upd b (j + 1) (nI (bp W (wM W) (wG W sn r (len r)) (len r) (j + 1))), ⟨by omega, fun i hi => ?_⟩, ?_⟩
    · rw [upd_eq]
      by_cases q : i = j + 1
      · rw [if_pos q, q]
      · rw [if_neg q]; exact hb i (by omega)
    · show f_X1_findBestPath_L107 _ _ _ (fu + 1) _ _ = f_X1_findBestPath_L107 _ _ _ fu _ _
      have hV : ∀ t, t < 4 → VW (wM W) (wG W sn r (len r)) (len r) (len r - 1 - (j + 1)) t ≤ 21 ^ 9 := fun t ht => Nat.le_trans (VW_le (wM W) (wG W sn r (len r)) (len r) (b := 21) (fun s t hs ht => wM_le hW s t hs ht) (fun i s hs => wG_le hG hW hr i s hs) _ t ht) (Nat.pow_le_pow_right (by decide) (by omega))
      rw [f_X1_findBestPath_L107.eq_2, if_neg (nI_ge hj (by omega)), nI_pred, gA_n (by omega) (by decide), hb j (by omega), bo_f hW (by omega) (bp_lt _ _ _ _ j) hV (hf (j + 1) hj), Option.bind_some, sI_n (by omega) (by decide)]
      simp only [nm, nI_1]
      rfl
theorem bV_le (hG : wfG signs lengths len sn) (hW : wfW weights start move sho W) {r : Nat} (hr : r < 4) (h0 : 0 < len r) : bV W (wM W) (wG W sn r (len r)) (len r) ≤ 21 * 21 ^ 9 := by
  have h5 := (hG.1 r hr).2
  have hb : bS W (wM W) (wG W sn r (len r)) (len r) < 4 := bp_lt W (wM W) (wG W sn r (len r)) (len r) 0
  exact Nat.mul_le_mul (W_le hW _ (by omega)) (Nat.le_trans (VW_le (wM W) (wG W sn r (len r)) (len r) (b := 21) (fun s t hs ht => wM_le hW s t hs ht) (fun i s hs => wG_le hG hW hr i s hs) _ _ hb) (Nat.pow_le_pow_right (by decide) (by omega)))
theorem fb_f (hG : wfG signs lengths len sn) (hW : wfW weights start move sho W) {r : Nat} (hr : r < 4) (h0 : 0 < len r) (bestFrom : Nat → Int64) (bestPath : Nat → Int32) : ∃ bf bp', f_X1_findBestPath (nI r) weights signs lengths bestFrom bestPath = some (if bV W (wM W) (wG W sn r (len r)) (len r) = 0 then 0 else 1, bf, bp') ∧ ∀ i, i < len r → bp' i = nI (bp W (wM W) (wG W sn r (len r)) (len r) i) := by
  have hF := FU_ge
  obtain ⟨k1, h5⟩ := hG.1 r hr
  obtain ⟨bf, z, a1, a2⟩ := fb_17 hG hW hr (len r) FU bestFrom (Nat.le_refl _) (by omega) (fun i hi hl => by omega)
  have hX : ∀ t, t < 4 → bf t = lN (VW (wM W) (wG W sn r (len r)) (len r) (len r - 1) t) := fun t ht => by have := a2 0 h0 t ht; rw [Nat.zero_mul, Nat.zero_add] at this; exact this
  have hV : ∀ t, t < 4 → VW (wM W) (wG W sn r (len r)) (len r) (len r - 1) t ≤ 21 ^ 9 := fun t ht => Nat.le_trans (VW_le (wM W) (wG W sn r (len r)) (len r) (b := 21) (fun s t hs ht => wM_le hW s t hs ht) (fun i s hs => wG_le hG hW hr i s hs) _ t ht) (Nat.pow_le_pow_right (by decide) (by omega))
  have hb : bS W (wM W) (wG W sn r (len r)) (len r) < 4 := bp_lt W (wM W) (wG W sn r (len r)) (len r) 0
  obtain ⟨bp', ⟨_, b1⟩, b2⟩ := fb_107 hG hW hr h0 a2 (upd bestPath 0 (nI (bS W (wM W) (wG W sn r (len r)) (len r)))) (by rw [upd_eq, if_pos rfl]; rfl)
  refine ⟨bf, bp', ?_, b1⟩
  unfold f_X1_findBestPath
  rw [gA_n hr (by decide), k1]
  simp only [nm]
  have em : (nI (len r) - 1 : Int32) = nI (len r) + (-1) := by
    obtain ⟨n, hn⟩ : ∃ n, len r = n + 1 := ⟨len r - 1, by omega⟩
    rw [hn, nI_pred, pk_m1]
  rw [if_neg (nI_ne0 h0 (by omega)), em, a1, Option.bind_some]
  simp only
  rw [bs_f hW hV hX, Option.bind_some, i0, show nI (amF (fun t => W t * VW (wM W) (wG W sn r (len r)) (len r) (len r - 1) t) 3) = nI (bS W (wM W) (wG W sn r (len r)) (len r)) from rfl, sI_n (by decide) (by decide), i1, b2, Option.bind_some]
  simp only
  have hw := W_le hW (bS W (wM W) (wG W sn r (len r)) (len r)) (by omega)
  have hbv := bV_le hG hW hr h0
  rw [gA_n (by omega) (by decide), gA_n (by omega) (by decide), (hW.1 _ (by omega)).1, hX _ hb, nI_l (by omega), lN_mul]
  show (if lg_cmp (lN (bV W (wM W) (wG W sn r (len r)) (len r))) 0 ≤ 0 then _ else _) = _
  simp only [c_le, l0, pk_lLE (show bV W (wM W) (wG W sn r (len r)) (len r) < 2 ^ 63 by omega) (show 0 < 2 ^ 63 by decide)]
  by_cases c : bV W (wM W) (wG W sn r (len r)) (len r) = 0
  · rw [if_pos (by omega), if_pos c]
  · rw [if_neg (by omega), if_neg c]
theorem fb_0 (hG : wfG signs lengths len sn) {r : Nat} (hr : r < 4) (h0 : len r = 0) (bestFrom : Nat → Int64) (bestPath : Nat → Int32) : f_X1_findBestPath (nI r) weights signs lengths bestFrom bestPath = some (0, bestFrom, bestPath) := by
  obtain ⟨k1, h5⟩ := hG.1 r hr
  unfold f_X1_findBestPath
  rw [gA_n hr (by decide), k1, h0]
  simp only [nm]
  rw [if_pos (show nI 0 = 0 from rfl)]
/-- the reference's best so far -/
def sofar (v : Nat → Nat) (j : Nat) (b : Int64 × Int32) : Prop := b = (lN 0, (-1)) ∧ (∀ q, q < j → v q = 0) ∨ ∃ f, f < j ∧ b = (lN (v f), nI f) ∧ 0 < v f ∧ (∀ q, q < j → v q ≤ v f) ∧ ∀ q, q < f → v q < v f
theorem b6_f (hG : wfG signs lengths len sn) (hW : wfW weights start move sho W) {r : Nat} (hr : r < 4) (h0 : 0 < len r) : f_X6_bestPathOf (nI r) start move sho signs lengths = some (if bV W (wM W) (wG W sn r (len r)) (len r) = 0 then (-1) else nI (bP W (wM W) (wG W sn r (len r)) (len r))) := by
  have hF := FU_ge
  obtain ⟨k1, k2⟩ := hG.1 r hr
  have h4 : 4 ^ len r ≤ 4 ^ 5 := Nat.pow_le_pow_right (by decide) k2
  obtain ⟨P1, P2, P3, P4⟩ := bP_all W (wM W) (wG W sn r (len r)) (len r) h0
  have hbv := bV_le hG hW hr h0
  generalize hv : PW W (wM W) (wG W sn r (len r)) (len r) = v at *
  generalize bV W (wM W) (wG W sn r (len r)) (len r) = T at *
  generalize bP W (wM W) (wG W sn r (len r)) (len r) = P at *
  have hv63 : ∀ q, q < 4 ^ len r → v q < 2 ^ 63 := fun q hq => by have := P1 q hq; omega
  obtain ⟨⟨x, y⟩, h1, h2⟩ := loop_inv (fun fu j (b : Int64 × Int32) => f_X6_bestPathOf_L7 (nI r) start move sho signs lengths fu j b.1 b.2) (4 ^ len r) (sofar v) (fun fu b _ => by
    show f_X6_bestPathOf_L7 _ _ _ _ _ _ (fu + 1) _ _ _ = _
    rw [f_X6_bestPathOf_L7.eq_2, pa_f hr k1 k2 h0, Option.bind_some, if_pos (nI_le (Nat.le_refl _) (by omega))]) (fun fu j b hj hb => by
    have hvj := hv63 j hj
    show ∃ b' : Int64 × Int32, _ ∧ f_X6_bestPathOf_L7 _ _ _ _ _ _ (fu + 1) _ b.1 b.2 = f_X6_bestPathOf_L7 _ _ _ _ _ _ fu _ b'.1 b'.2
    rw [f_X6_bestPathOf_L7.eq_2, pa_f hr k1 k2 h0, Option.bind_some, if_neg (nI_ge hj (by omega)), wp_f hG hW hr (by omega), hv, Option.bind_some]
    simp only [nm, nI_1]
    rcases hb with ⟨rfl, hz⟩ | ⟨f, hf, rfl, hp, hl, hs⟩
    · simp only [c_le, pk_lLE hvj (show 0 < 2 ^ 63 by decide)]
      by_cases c : v j ≤ 0
      · rw [if_pos c, if_pos c]
        exact ⟨(lN 0, (-1)), Or.inl ⟨rfl, fun q hq => by
          by_cases e : q = j
          · rw [e]; omega
          · exact hz q (by omega)⟩, rfl⟩
      · rw [if_neg c, if_neg c]
        exact ⟨(lN (v j), nI j), Or.inr ⟨j, by omega, rfl, by omega, fun q hq => by
          by_cases e : q = j
          · rw [e]; exact Nat.le_refl _
          · rw [hz q (by omega)]; exact Nat.zero_le _, fun q hq => by rw [hz q hq]; omega⟩, rfl⟩
    · have hvf := hv63 f (by omega)
      simp only [c_le, pk_lLE hvj hvf]
      by_cases c : v j ≤ v f
      · rw [if_pos c, if_pos c]
        exact ⟨(lN (v f), nI f), Or.inr ⟨f, by omega, rfl, hp, fun q hq => by
          by_cases e : q = j
          · rw [e]; exact c
          · exact hl q (by omega), hs⟩, rfl⟩
      · rw [if_neg c, if_neg c]
        exact ⟨(lN (v j), nI j), Or.inr ⟨j, by omega, rfl, by omega, fun q hq => by
          by_cases e : q = j
          · rw [e]; exact Nat.le_refl _
          · have := hl q (by omega); omega, fun q hq => by have := hl q hq; omega⟩, rfl⟩) (4 ^ len r) 0 FU (lN 0, (-1)) (by omega) (by omega) (Or.inl ⟨rfl, fun q hq => absurd hq (Nat.not_lt_zero q)⟩)
  unfold f_X6_bestPathOf
  simp only [nm]
  rw [l0, i0, show f_X6_bestPathOf_L7 (nI r) start move sho signs lengths FU (nI 0) (lN 0) (-1) = _ from h2]
  simp only [Option.bind_some, Option.some.injEq]
  rcases h1 with ⟨e, hz⟩ | ⟨f, hf, e, hp, hl, hs⟩
  · have e := (Prod.mk.inj e).2
    rw [if_pos (by rw [← P3]; exact hz P P2), e]
  · have e := (Prod.mk.inj e).2
    have q1 := P1 f hf
    have q2 := hl P P2
    rw [if_neg (by omega), e]
    have : f = P := by
      rcases Nat.lt_trichotomy f P with c | c | c
      · have := P4 f c (by omega); omega
      · exact c
      · have := hs P c; omega
    rw [this]
theorem b6_0 (hG : wfG signs lengths len sn) {r : Nat} (hr : r < 4) (h0 : len r = 0) : f_X6_bestPathOf (nI r) start move sho signs lengths = some (-1) := by
  have hF := FU_ge
  obtain ⟨k1, k2⟩ := hG.1 r hr
  rw [h0] at k1
  obtain ⟨q, hq⟩ : ∃ q, FU = q + 1 := ⟨FU - 1, by omega⟩
  unfold f_X6_bestPathOf
  simp only [nm]
  rw [hq, f_X6_bestPathOf_L7.eq_2, pa_0 hr k1, Option.bind_some, if_pos (show nI 0 ≤ (0 : Int32) by decide)]
  rfl
end P0
theorem st_path (i1 i2 : Int32) {weights1 signs1 lengths1 start6 move6 show6 signs6 many6 : Nat → Int32} (hI : INVs weights1 signs1 lengths1 start6 move6 show6 signs6 many6) (thrown6 : Int32) (bestFrom1 : Nat → Int64) (bestPath1 : Nat → Int32) :
    ∃ r bestFrom1' bestPath1', f_X5_path i1 i2 weights1 signs1 lengths1 bestFrom1 bestPath1 = some (r, bestFrom1', bestPath1') ∧ f_X6_path i1 i2 thrown6 start6 move6 show6 signs6 many6 = some (r, 0) := by
  obtain ⟨rfl, rfl, len, sn, W, hG, hW⟩ := hI
  unfold f_X5_path f_X6_path
  simp only [nm, isRow1, within6, Option.bind_some]
  rcases wb_d i1 3 (m := 3) rfl with c1 | ⟨c1, x, hx, rfl⟩
  · rw [if_pos c1, if_pos c1]; exact ⟨_, _, _, rfl, rfl⟩
  · rw [c1, if_neg b10, if_neg b10]
    obtain ⟨k1, k2⟩ := hG.1 x (by omega)
    simp only [gA_n (show x < 4 by omega) (show 4 < 2 ^ 31 by decide), k1]
    rcases place_d (show x < 4 by omega) k1 k2 i2 with ⟨p1, p2⟩ | ⟨p1, p2, a, ha, rfl⟩
    · simp only [p1, p2, Option.bind_some, if_true, ite_self]
      rcases Nat.eq_zero_or_pos (len x) with h0 | h0
      · rw [b6_0 hG (by omega) h0]
        exact ⟨_, _, _, rfl, rfl⟩
      · rw [b6_f hG hW (by omega) h0]
        exact ⟨_, _, _, rfl, rfl⟩
    · simp only [p1, p2, Option.bind_some, if_neg b10]
      rw [b6_f hG hW (by omega) (by omega)]
      obtain ⟨bf, bp', e1, e2⟩ := fb_f hG hW (show x < 4 by omega) (show 0 < len x by omega) bestFrom1 bestPath1
      rw [e1]
      simp only [Option.bind_some]
      by_cases c : bV W (wM W) (wG W sn x (len x)) (len x) = 0
      · rw [if_pos c, if_pos c, if_pos rfl, if_pos rfl]
        exact ⟨_, _, _, rfl, rfl⟩
      · have hP := (bP_all W (wM W) (wG W sn x (len x)) (len x) (by omega)).2.1
        have h4 : 4 ^ len x ≤ 4 ^ 5 := Nat.pow_le_pow_right (by decide) k2
        have hd := (bp_all W (wM W) (wG W sn x (len x)) (len x) (by omega) a ha).1
        rw [if_neg c, if_neg c, if_neg b10, if_neg (nI_nm1 (by omega)), so_f (show x < 4 by omega) k1 k2 ha (by omega), hd]
        unfold f_X1_stateOnBestPath
        rw [gA_n (by omega) (by decide), e2 a ha]
        exact ⟨_, _, _, rfl, rfl⟩
