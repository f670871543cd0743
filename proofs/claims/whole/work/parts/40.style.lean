/-! ===== PURE 14: the styles ===== -/
def ml (l m : Nat) : Nat := match m with
  | 1 => 31 | 2 => 28 + l | 3 => 31 | 4 => 30 | 5 => 31 | 6 => 30 | 7 => 31 | 8 => 31 | 9 => 30 | 10 => 31 | 11 => 30 | _ => 31
def sm (l : Nat) : Nat → Nat
  | 0 => 0
  | 1 => 0
  | m + 2 => sm l (m + 1) + ml l (m + 1)
theorem c12 {m : Nat} (h1 : 1 ≤ m) (h2 : m ≤ 12) : m = 1 ∨ m = 2 ∨ m = 3 ∨ m = 4 ∨ m = 5 ∨ m = 6 ∨ m = 7 ∨ m = 8 ∨ m = 9 ∨ m = 10 ∨ m = 11 ∨ m = 12 := by omega
theorem ml_le (l m : Nat) (hl : l ≤ 1) : 28 ≤ ml l m ∧ ml l m ≤ 31 := by
  unfold ml
  split <;> omega
theorem md6 {l m : Nat} (hl : l ≤ 1) (h1 : 1 ≤ m) (h2 : m ≤ 12) {post : Int32 → Prop} (h : post (nI (ml l m))) : pX6_monthDays (nI m) (nI l) post := by
  refine in6_t 1 12 m rfl h1 h2 (by decide) (b_n1 ?_)
  rcases c12 h1 h2 with rfl | rfl | rfl | rfl | rfl | rfl | rfl | rfl | rfl | rfl | rfl | rfl
  · exact ⟨fun _ => ⟨vpc rfl, h⟩, fun q => absurd q (by decide)⟩
  · refine ⟨fun q => absurd rfl q, fun _ => ?_⟩
    rcases (show l = 0 ∨ l = 1 by omega) with rfl | rfl
    · exact ⟨fun _ => ⟨vpc rfl, h⟩, fun q => absurd rfl q⟩
    · exact ⟨fun q => absurd q (by decide), fun _ => ⟨vpc rfl, h⟩⟩
  all_goals exact ⟨fun _ => ⟨vpc rfl, h⟩, fun q => absurd q (by decide)⟩
def oLp (y : Nat) : Nat := if y % 4 = 0 then 1 else 0
def nLp (y : Nat) : Nat := if y % 4 = 0 ∧ (y % 100 ≠ 0 ∨ y % 400 = 0) then 1 else 0
theorem oLp_le (y : Nat) : oLp y ≤ 1 := by unfold oLp; split <;> omega
theorem nLp_le (y : Nat) : nLp y ≤ 1 := by unfold nLp; split <;> omega
theorem r_n0 {y d : Nat} (hy : y ≤ 4000) (hd : 0 < d) (hd2 : d ≤ 400) : (nI y - nI y / nI d * nI d = 0) ↔ y % d = 0 := by
  rw [pk_rem (d := d) (by omega) hd (by omega)]
  have := Nat.mod_lt y hd
  exact ⟨fun q => (nI_eq (b := 0) (by omega) (by decide)).mp q, fun q => by rw [q]; rfl⟩
theorem ol6 {y : Nat} (hy : y ≤ 4000) {post : Int32 → Prop} (h : post (nI (oLp y))) : pX6_isOldLeap (nI y) post := by
  have e := r_n0 (d := 4) hy (by decide) (by decide)
  unfold oLp at h
  by_cases h1 : y % 4 = 0
  · rw [if_pos h1] at h; exact ⟨fun q => absurd (e.mpr h1) q, fun _ => h⟩
  · rw [if_neg h1] at h; exact ⟨fun _ => h, fun q => absurd (e.mp q) h1⟩
theorem nl6 {y : Nat} (hy : y ≤ 4000) {post : Int32 → Prop} (h : post (nI (nLp y))) : pX6_isNewLeap (nI y) post := by
  have e4 := r_n0 (d := 4) hy (by decide) (by decide)
  have e1 := r_n0 (d := 100) hy (by decide) (by decide)
  have e9 := r_n0 (d := 400) hy (by decide) (by decide)
  unfold nLp at h
  by_cases h1 : y % 4 = 0
  · refine ⟨fun q => absurd (e4.mpr h1) q, fun _ => ?_⟩
    by_cases h2 : y % 100 = 0
    · refine ⟨fun q => absurd (e1.mpr h2) q, fun _ => ?_⟩
      by_cases h3 : y % 400 = 0
      · rw [if_pos ⟨h1, Or.inr h3⟩] at h; exact ⟨fun q => absurd (e9.mpr h3) q, fun _ => h⟩
      · rw [if_neg (fun z => z.2.elim (fun q => q h2) h3)] at h; exact ⟨fun _ => h, fun q => absurd (e9.mp q) h3⟩
    · rw [if_pos ⟨h1, Or.inl h2⟩] at h; exact ⟨fun _ => h, fun q => absurd (e1.mp q) h2⟩
  · rw [if_neg (fun z => h1 z.1)] at h; exact ⟨fun _ => h, fun q => absurd (e4.mp q) h1⟩
theorem lo7 {y m : Nat} (hy : y ≤ 4000) (h1 : 1 ≤ m) (h2 : m ≤ 12) {post : Int32 → Prop} (h : post (nI (ml (oLp y) m))) : pX7_long1 (nI y) (nI m) post := by
  have e := r_n0 (d := 4) hy (by decide) (by decide)
  have no : ∀ a b : Nat, decide (¬ nI a = nI b) = true → ¬ nI a = nI b := fun a b h => of_decide_eq_true h
  rcases c12 h1 h2 with rfl | rfl | rfl | rfl | rfl | rfl | rfl | rfl | rfl | rfl | rfl | rfl
  rotate_left
  · refine ⟨fun q => absurd rfl q, fun _ => ?_⟩
    unfold oLp at h
    by_cases h1 : y % 4 = 0
    · rw [if_pos h1] at h; exact ⟨fun q => absurd (e.mpr h1) q, fun _ => h⟩
    · rw [if_neg h1] at h; exact ⟨fun _ => h, fun q => absurd (e.mp q) h1⟩
  all_goals
    refine ⟨fun _ => ⟨fun q => ?_, fun q1 => ⟨fun q => ?_, fun q2 => ⟨fun q => ?_, fun q3 => ⟨fun q => ?_, fun q => ?_⟩⟩⟩⟩, fun q => absurd q (by decide)⟩
    all_goals first | exact h | exact absurd q (by decide) | exact absurd rfl q | exact absurd rfl q1 | exact absurd rfl q2 | exact absurd rfl q3
def cF (m : Nat) : Nat := (153 * ((m + 9) % 12) + 2) / 5
def cS (y m : Nat) : Nat := if 3 ≤ m then y else y - 1
def cO (y m d : Nat) : Nat := 365 * cS y m + cS y m / 4 + cF m + d
def cN (y m d : Nat) : Nat := cO y m d - cS y m / 100 + cS y m / 400
theorem cnt12 {s m d : Nat} (hs : s ≤ 4000) (hm : m ≤ 12) (hd : d ≤ 31) (a1 a4 : Int32) {post : Int32 → Prop} (h0 : a4 = 0 → post (nI (365 * s + s / 4 + cF m + d))) (h1 : ¬ a4 = 0 → post (nI (365 * s + s / 4 + cF m + d - s / 100 + s / 400))) : pX7_count_b12 a1 (nI m) (nI d) a4 post (nI s) := by
  have cf : cF m ≤ 400 := by unfold cF; omega
  intro v1 e1 v2 e2
  rw [show nI m + 9 = nI (m + 9) from nI_add m 9, show nI (m + 9) - nI (m + 9) / 12 * 12 = nI ((m + 9) % 12) from pk_rem (d := 12) (by omega) (by decide) (by decide)] at e1
  rw [e1, show (365 : Int32) * nI s = nI (365 * s) from pk_mul 365 s, show nI s / 4 = nI (s / 4) from pk_div (d := 4) (by omega) (by decide) (by decide), nI_add,
    show (153 : Int32) * nI ((m + 9) % 12) = nI (153 * ((m + 9) % 12)) from pk_mul 153 _, show nI (153 * ((m + 9) % 12)) + 2 = nI (153 * ((m + 9) % 12) + 2) from nI_add _ 2,
    show nI (153 * ((m + 9) % 12) + 2) / 5 = nI ((153 * ((m + 9) % 12) + 2) / 5) from pk_div (d := 5) (by omega) (by decide) (by decide), nI_add, nI_add] at e2
  change v2 = nI (365 * s + s / 4 + cF m + d) at e2
  rw [e2]
  refine ⟨h0, fun q => ?_⟩
  rw [show nI s / 100 = nI (s / 100) from pk_div (d := 100) (by omega) (by decide) (by decide), show nI s / 400 = nI (s / 400) from pk_div (d := 400) (by omega) (by decide) (by decide), pk_sub (by omega), nI_add]
  exact h1 q
theorem cntO {y m d : Nat} (hy : 1 ≤ y) (hy2 : y ≤ 4000) (hm : m ≤ 12) (hd : d ≤ 31) {post : Int32 → Prop} (h : post (nI (cO y m d))) : pX7_count (nI y) (nI m) (nI d) 0 post := by
  unfold cO cS at h
  by_cases h3 : 3 ≤ m
  · simp only [if_pos h3] at h
    exact ⟨fun _ => cnt12 hy2 hm hd _ _ (fun _ => h) (fun q => absurd rfl q), fun q => absurd (nI_le (a := 3) h3 (by omega)) q⟩
  · simp only [if_neg h3] at h
    refine ⟨fun q => absurd q (nI_ge (b := 3) (by omega) (by decide)), fun _ => ?_⟩
    rw [show nI y - 1 = nI (y - 1) from pk_sub (b := 1) hy]
    exact cnt12 (by omega) hm hd _ _ (fun _ => h) (fun q => absurd rfl q)
theorem cntN {y m d : Nat} (hy : 1 ≤ y) (hy2 : y ≤ 4000) (hm : m ≤ 12) (hd : d ≤ 31) {post : Int32 → Prop} (h : post (nI (cN y m d))) : pX7_count (nI y) (nI m) (nI d) 1 post := by
  unfold cN cO cS at h
  by_cases h3 : 3 ≤ m
  · simp only [if_pos h3] at h
    exact ⟨fun _ => cnt12 hy2 hm hd _ _ (fun q => absurd q (by decide)) (fun _ => h), fun q => absurd (nI_le (a := 3) h3 (by omega)) q⟩
  · simp only [if_neg h3] at h
    refine ⟨fun q => absurd q (nI_ge (b := 3) (by omega) (by decide)), fun _ => ?_⟩
    rw [show nI y - 1 = nI (y - 1) from pk_sub (b := 1) hy]
    exact cnt12 (by omega) hm hd _ _ (fun q => absurd q (by decide)) (fun _ => h)
def oB (y d : Nat) : Nat := 365 * (y - 1) + (y - 1) / 4 + d - 2
def oN (y m d : Nat) : Nat := oB y d + sm (oLp y) m
def nD (y : Nat) : Nat := 365 * (y - 1) + (y - 1) / 4 - (y - 1) / 100 + (y - 1) / 400
theorem sm_s (l k : Nat) (h : 1 ≤ k) : sm l (k + 1) = sm l k + ml l k := by
  obtain ⟨j, rfl⟩ : ∃ j, k = j + 1 := ⟨k - 1, by omega⟩
  rfl
theorem on6 {y m d : Nat} (hy : 1000 ≤ y) (hy2 : y ≤ 3000) (h1 : 1 ≤ m) (h2 : m ≤ 12) (hd : d ≤ 31) {post : Int32 → Prop} (h : post (nI (oN y m d))) : pX6_oldDayNumber (nI y) (nI m) (nI d) post := by
  intro v ev
  rw [show nI y - 1 = nI (y - 1) from pk_sub (b := 1) (by omega), show (365 : Int32) * nI (y - 1) = nI (365 * (y - 1)) from pk_mul 365 _, show nI (y - 1) / 4 = nI ((y - 1) / 4) from pk_div (d := 4) (by omega) (by decide) (by decide), nI_add, nI_add, show nI (365 * (y - 1) + (y - 1) / 4 + d) - 2 = nI (365 * (y - 1) + (y - 1) / 4 + d - 2) from pk_sub (b := 2) (by omega)] at ev
  change v = nI (oB y d) at ev
  have key : ∀ e k, k + e = m → 1 ≤ k → pX6_oldDayNumber_b21 (nI y) (nI m) (nI d) post (e + 1) (nI (oB y d + sm (oLp y) k)) (nI k) := by
    intro e
    induction e with
    | zero =>
      intro k hk _
      have ek : k = m := by omega
      subst ek
      exact ⟨fun _ => h, fun q => absurd (Int32.le_refl _) q⟩
    | succ e ih =>
      intro k hk hk1
      have c1 : ¬ nI m ≤ nI k := nI_ge (by omega) (by omega)
      refine ⟨fun q => absurd q c1, fun _ => ol6 (by omega) (md6 (oLp_le y) hk1 (by omega) (fun v4 e4 v5 e5 => ?_))⟩
      rw [e4, e5, nI_1, nI_add]
      have := ih (k + 1) (by omega) (by omega)
      rw [sm_s _ _ hk1, ← Nat.add_assoc] at this
      exact this
  refine ⟨m - 1 + 1, ?_⟩
  rw [ev]
  exact key (m - 1) 1 (by omega) (by omega)
theorem nd6 {y : Nat} (hy : 1 ≤ y) (hy2 : y ≤ 4000) {post : Int32 → Prop} (h : post (nI (nD y))) : pX6_newDaysAhead (nI y) post := by
  unfold pX6_newDaysAhead
  rw [show nI y - 1 = nI (y - 1) from pk_sub (b := 1) hy, show (365 : Int32) * nI (y - 1) = nI (365 * (y - 1)) from pk_mul 365 _, show nI (y - 1) / 4 = nI ((y - 1) / 4) from pk_div (d := 4) (by omega) (by decide) (by decide), show nI (y - 1) / 100 = nI ((y - 1) / 100) from pk_div (d := 100) (by omega) (by decide) (by decide), show nI (y - 1) / 400 = nI ((y - 1) / 400) from pk_div (d := 400) (by omega) (by decide) (by decide), nI_add, pk_sub (by omega), nI_add]
  exact h
def nsV (l : Nat) : Nat → Nat → Nat → Nat
  | 0, mo, day => 100 * mo + day
  | d + 1, mo, day => if day ≤ ml l mo then 100 * mo + day else nsV l d (mo + 1) (day - ml l mo)
theorem ns6 {y D : Nat} (hy2 : y ≤ 4000) (hD : D ≤ 400) {post : Int32 → Prop} (h : post (nI (10000 * y + nsV (nLp y) 11 1 D))) : pX6_newStyleDay (nI y) (nI D) post := by
  refine nl6 hy2 ⟨12, ?_⟩
  have en : ∀ mo day : Nat, 10000 * nI y + 100 * nI mo + nI day = nI (10000 * y + (100 * mo + day)) := fun mo day => by
    rw [show (10000 : Int32) * nI y = nI (10000 * y) from pk_mul 10000 y, show (100 : Int32) * nI mo = nI (100 * mo) from pk_mul 100 mo, nI_add, nI_add, Nat.add_assoc]
  have key : ∀ e mo day, mo + e = 12 → 1 ≤ mo → day ≤ 400 → post (nI (10000 * y + nsV (nLp y) e mo day)) → pX6_newStyleDay_b10 (nI y) (nI D) post (e + 1) (nI (nLp y)) (nI mo) (nI day) := by
    intro e
    induction e with
    | zero =>
      intro mo day h1 h2 h3 hp
      have e : mo = 12 := by omega
      subst e
      refine ⟨fun _ => ?_, fun q => absurd (Int32.le_refl _) q⟩
      unfold pX6_newStyleDay_b42
      rw [en]; exact hp
    | succ e ih =>
      intro mo day h1 h2 h3 hp
      have c1 : ¬ (12 : Int32) ≤ nI mo := nI_ge (b := 12) (by omega) (by decide)
      have b := ml_le (nLp y) mo (nLp_le y)
      rw [nsV] at hp
      refine ⟨fun q => absurd q c1, fun _ => md6 (nLp_le y) h2 (by omega) ?_⟩
      by_cases hc : day ≤ ml (nLp y) mo
      · rw [if_pos hc] at hp
        refine ⟨fun _ => ?_, fun q => absurd (nI_le hc (by omega)) q⟩
        unfold pX6_newStyleDay_b42
        rw [en]; exact hp
      · rw [if_neg hc] at hp
        refine ⟨fun q => absurd q (nI_ge (by omega) (by omega)), fun _ => md6 (nLp_le y) h2 (by omega) (fun v5 e5 v6 e6 => ?_)⟩
        rw [e5, e6, nI_1, pk_sub (by omega)]
        exact ih (mo + 1) _ (by omega) (by omega) (by omega) hp
  exact key 11 1 D (by omega) (by omega) hD h
def rfV (l D : Nat) : Nat → Nat
  | 0 => 0
  | mo + 1 => if sm l (mo + 1) + 1 ≤ D then 100 * (mo + 1) + (D - sm l (mo + 1)) else rfV l D mo
theorem ns_rf0 : ∀ D, D < 366 → 1 ≤ D → nsV 0 11 1 D = rfV 0 D 12 := by decide +kernel
theorem ns_rf1 : ∀ D, D < 367 → 1 ≤ D → nsV 1 11 1 D = rfV 1 D 12 := by decide +kernel
theorem lp_eq {y : Nat} (hy : 1 ≤ y) : y / 4 + (y - 1) / 100 + y / 400 = (y - 1) / 4 + y / 100 + (y - 1) / 400 + nLp y ∧ y / 100 ≤ y / 4 ∧ (y - 1) / 100 ≤ (y - 1) / 4 := by
  have a1 : y / 4 = (y - 1) / 4 + (if y % 4 = 0 then 1 else 0) := by split <;> omega
  have a2 : y / 100 = (y - 1) / 100 + (if y % 100 = 0 then 1 else 0) := by split <;> omega
  have a3 : y / 400 = (y - 1) / 400 + (if y % 400 = 0 then 1 else 0) := by split <;> omega
  have q1 : y % 400 = 0 → y % 100 = 0 := by omega
  have q2 : y % 100 = 0 → y % 4 = 0 := by omega
  refine ⟨?_, by omega, by omega⟩
  unfold nLp
  rw [a1, a2, a3]
  generalize (y - 1) / 4 = x1
  generalize (y - 1) / 100 = x2
  generalize (y - 1) / 400 = x3
  by_cases h3 : y % 400 = 0
  · rw [if_pos (q2 (q1 h3)), if_pos (q1 h3), if_pos h3, if_pos ⟨q2 (q1 h3), Or.inr h3⟩]; omega
  · rw [if_neg h3]
    by_cases h2 : y % 100 = 0
    · rw [if_pos (q2 h2), if_pos h2, if_neg (fun z => z.2.elim (fun q => q h2) h3)]; omega
    · rw [if_neg h2]
      by_cases h1 : y % 4 = 0
      · rw [if_pos h1, if_pos ⟨h1, Or.inl h2⟩]; omega
      · rw [if_neg h1, if_neg (fun z => h1 z.1)]; omega
theorem sm_F (l : Nat) {m : Nat} (h1 : 3 ≤ m) (h2 : m ≤ 12) : sm l m = 59 + l + cF m := by
  rcases (show m = 3 ∨ m = 4 ∨ m = 5 ∨ m = 6 ∨ m = 7 ∨ m = 8 ∨ m = 9 ∨ m = 10 ∨ m = 11 ∨ m = 12 by omega) with rfl | rfl | rfl | rfl | rfl | rfl | rfl | rfl | rfl | rfl <;> simp only [sm, ml, cF] <;> omega
theorem sm_G (l : Nat) {m : Nat} (h1 : 1 ≤ m) (h2 : m < 3) : sm l m + 306 = cF m := by
  rcases (show m = 1 ∨ m = 2 by omega) with rfl | rfl
  · simp only [sm, cF]
  · simp only [sm, ml, cF]
theorem cN_sm {y m : Nat} (hy : 1 ≤ y) (h1 : 1 ≤ m) (h2 : m ≤ 12) : cN y m 1 = nD y + 307 + sm (nLp y) m := by
  obtain ⟨e, l1, l2⟩ := lp_eq hy
  unfold cN cO cS nD
  by_cases h3 : 3 ≤ m
  · simp only [if_pos h3]
    rw [sm_F _ h3 h2]
    generalize nLp y = l at *
    generalize y / 4 = a1 at *
    generalize y / 100 = a2 at *
    generalize y / 400 = a3 at *
    generalize (y - 1) / 4 = b1 at *
    generalize (y - 1) / 100 = b2 at *
    generalize (y - 1) / 400 = b3 at *
    omega
  · simp only [if_neg h3]
    have := sm_G (nLp y) h1 (by omega)
    generalize sm (nLp y) m = l at *
    generalize (y - 1) / 4 = b1 at *
    generalize (y - 1) / 100 = b2 at *
    generalize (y - 1) / 400 = b3 at *
    omega
theorem cO_oN {y m d : Nat} (hy : 1000 ≤ y) (h1 : 1 ≤ m) (h2 : m ≤ 12) : cO y m d = oN y m d + 308 := by
  have a1 : y / 4 = (y - 1) / 4 + oLp y := by unfold oLp; split <;> omega
  unfold cO cS oN oB
  by_cases h3 : 3 ≤ m
  · simp only [if_pos h3]
    rw [sm_F _ h3 h2, a1]
    generalize oLp y = l at *
    generalize (y - 1) / 4 = b1 at *
    omega
  · simp only [if_neg h3]
    have := sm_G (oLp y) h1 (by omega)
    generalize sm (oLp y) m = l at *
    generalize (y - 1) / 4 = b1 at *
    omega
theorem oN_lo {y m d : Nat} (hy : 1000 ≤ y) (hd : 1 ≤ d) : nD y < oN y m d := by
  unfold nD oN oB
  generalize sm (oLp y) m = l
  have : (y - 1) / 400 + 2 ≤ (y - 1) / 100 := by omega
  have : (y - 1) / 100 ≤ (y - 1) / 4 := by omega
  generalize (y - 1) / 4 = b1 at *
  generalize (y - 1) / 100 = b2 at *
  generalize (y - 1) / 400 = b3 at *
  omega
theorem nD_s {y : Nat} (hy : 1 ≤ y) : nD (y + 1) = nD y + 365 + nLp y := by
  obtain ⟨e, l1, l2⟩ := lp_eq hy
  unfold nD
  rw [show y + 1 - 1 = y by omega]
  generalize nLp y = l at *
  generalize y / 4 = a1 at *
  generalize y / 100 = a2 at *
  generalize y / 400 = a3 at *
  generalize (y - 1) / 4 = b1 at *
  generalize (y - 1) / 100 = b2 at *
  generalize (y - 1) / 400 = b3 at *
  omega
theorem sm_hi (l m : Nat) (hl : l ≤ 1) (h2 : m ≤ 12) (h1 : 1 ≤ m) : sm l m + ml l m ≤ 365 + l := by
  rcases c12 h1 h2 with rfl | rfl | rfl | rfl | rfl | rfl | rfl | rfl | rfl | rfl | rfl | rfl <;> simp only [sm, ml] <;> omega
theorem oN_hi {y m d : Nat} (hy : 1000 ≤ y) (hy2 : y ≤ 3000) (h1 : 1 ≤ m) (h2 : m ≤ 12) (hd : d ≤ ml (oLp y) m) : oN y m d ≤ nD (y + 1) + 30 := by
  have a := sm_hi (oLp y) m (oLp_le y) h2 h1
  have b := oLp_le y
  unfold oN oB nD
  rw [show y + 1 - 1 = y by omega]
  have a1 : (y - 1) / 4 ≤ y / 4 := by omega
  have a2 : y / 100 ≤ 30 := by omega
  generalize sm (oLp y) m = l at *
  generalize ml (oLp y) m = l2 at *
  generalize oLp y = l3 at *
  generalize y / 4 = c1 at *
  generalize y / 100 = c2 at *
  generalize y / 400 = c3 at *
  generalize (y - 1) / 4 = b1 at *
  omega
