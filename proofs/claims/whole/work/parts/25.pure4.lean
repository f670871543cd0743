/-! ===== PURE 4: rounds, ask ===== -/
def ftS (q : Nat → Bool) : Nat → Bool
  | 0 => true
  | n + 1 => ftS q n && q n
theorem ftS_f {q : Nat → Bool} : ∀ {c j : Nat}, j < c → q j = false → ftS q c = false
  | 0, j, h, _ => absurd h (Nat.not_lt_zero j)
  | c + 1, j, h, e => by
    rw [ftS]
    rcases Nat.lt_or_ge j c with z | z
    · rw [ftS_f z e]; rfl
    · have : j = c := by omega
      subst this
      rw [e, Bool.and_false]
def rbS (rg : Nat → Int32) (j : Nat) : Bool := decide (rg j = 1)
def qS (hh : Nat → Nat) (rg : Nat → Int32) (p r : Nat) (j : Nat) : Bool := rbS rg j == decide (hh j % p = r)
theorem fit3 {c : Nat} (hc : c ≤ 8) {hs rg : Nat → Int32} {hh : Nat → Nat} (h1 : ∀ j, j < c → hh j < 100 ∧ hs j = nI (hh j)) (h2 : ∀ j, j < c → rg j = 0 ∨ rg j = 1) {p r : Nat} (hp : 1 ≤ p) (hp2 : p ≤ 100) (hr : r < 2 ^ 31) {post : Int32 → Prop} (h : post (b2i (ftS (qS hh rg p r) c))) : pX3_fits (nI c) hs rg (nI p) (nI r) post := by
  have p0 : (0 : Int32) < nI p := nI_lt (a := 0) (by omega) (by omega)
  refine ⟨fun _ => ?_, fun z => absurd p0 z⟩
  have key : ∀ d j, j + d = c → ftS (qS hh rg p r) j = true → pX3_fits_b8 (nI c) hs rg (nI p) (nI r) post (d + 1) (nI j) := by
    intro d
    induction d with
    | zero =>
      intro j hj hf
      have e : j = c := by omega
      subst e
      rw [hf] at h
      exact ⟨fun _ => h, fun z => absurd (Int32.le_refl _) z⟩
    | succ d ih =>
      intro j hj hf
      have c1 : ¬ nI c ≤ nI j := nI_ge (by omega) (by omega)
      have c2 : ¬ (8 : Int32) ≤ nI j := nI_ge (b := 8) (by omega) (by decide)
      have v8 : vp_in (nI j) 8 := vp_in_nI (by omega) (by decide)
      obtain ⟨a1, a2⟩ := h1 j (by omega)
      have er : nI (hh j) - nI (hh j) / nI p * nI p = nI (hh j % p) := pk_rem (by omega) (by omega) (by omega)
      have hm : hh j % p < p := Nat.mod_lt _ (by omega)
      have bad : qS hh rg p r j = false → post 0 := fun z => by
        rw [ftS_f (show j < c by omega) z] at h
        exact h
      have good : qS hh rg p r j = true → pX3_fits_b8 (nI c) hs rg (nI p) (nI r) post (d + 1) (nI (j + 1)) := fun z => ih (j + 1) (by omega) (by rw [ftS, hf, z]; rfl)
      refine ⟨fun z => absurd z c1, fun _ => ⟨fun z => absurd z c2, fun _ => ⟨v8, v8, nI_ne0 (by omega) (by omega), ?_⟩⟩⟩
      rw [nI_clamp (by omega), a2, er]
      unfold pX3_fits_b45
      by_cases hq : hh j % p = r
      · have e : nI (hh j % p) = nI r := by rw [hq]
        refine ⟨fun z => absurd e z, fun _ => ⟨fun z v ev => ?_, fun z => ?_⟩⟩
        · rw [ev, nI_1]
          exact good (by simp [qS, rbS, z, hq])
        · exact bad (by simp [qS, rbS, z, hq])
      · have e : ¬ nI (hh j % p) = nI r := by rw [nI_eq (by omega) hr]; exact hq
        refine ⟨fun _ => ⟨fun z v ev => ?_, fun z => ?_⟩, fun z => absurd z e⟩
        · rw [ev, nI_1]
          exact good (by simp [qS, rbS, z, hq])
        · have z1 : rg j = 1 := by rcases h2 j (by omega) with w | w; exact absurd w z; exact w
          exact bad (by simp [qS, rbS, z1, hq])
  exact ⟨c + 1, key c 0 (by omega) rfl⟩
theorem rings7 {code hr : Nat} (h1 : 100 ≤ code) (h2 : code < 2100) (h3 : hr < 100) {post : Int32 → Prop} (h : post (b2i (decide (hr % (code / 100) = code % 100)))) : pX7_rings (nI code) (nI hr) post := by
  have ed : nI code / 100 = nI (code / 100) := pk_div (d := 100) (by omega) (by decide) (by decide)
  have em : nI code - nI code / 100 * 100 = nI (code % 100) := pk_rem (d := 100) (by omega) (by decide) (by decide)
  have hp : 1 ≤ code / 100 := by omega
  have er : nI hr - nI hr / nI (code / 100) * nI (code / 100) = nI (hr % (code / 100)) := pk_rem (by omega) (by omega) (by omega)
  have hm : hr % (code / 100) < code / 100 := Nat.mod_lt _ (by omega)
  unfold pX7_rings
  rw [em, ed, er]
  refine ⟨nI_ne0 (by omega) (by omega), ?_⟩
  by_cases hq : hr % (code / 100) = code % 100
  · have e : nI (hr % (code / 100)) = nI (code % 100) := by rw [hq]
    rw [decide_eq_true hq] at h
    exact ⟨fun z => absurd e z, fun _ => h⟩
  · have e : ¬ nI (hr % (code / 100)) = nI (code % 100) := by rw [nI_eq (by omega) (by omega)]; exact hq
    rw [decide_eq_false hq] at h
    exact ⟨fun _ => h, fun z => absurd z e⟩
def fcS (hh : Nat → Nat) (rg : Nat → Int32) (c code : Nat) : Bool := decide (code % 100 < code / 100) && ftS (qS hh rg (code / 100) (code % 100)) c
theorem isf7 {c : Nat} (hc : c ≤ 8) {st rg : Nat → Int32} {hh : Nat → Nat} (h1 : ∀ j, j < c → hh j < 100 ∧ st (2 * j) = nI (hh j)) (h2 : ∀ j, j < c → st (2 * j + 1) = rg j ∧ (rg j = 0 ∨ rg j = 1)) {code : Nat} (hk : 200 ≤ code) (hk2 : code < 2100) {post : Int32 → Prop} (h : post (b2i (fcS hh rg c code))) : pX7_isFit (nI c) st (nI code) post := by
  have ed : nI code / 100 = nI (code / 100) := pk_div (d := 100) (by omega) (by decide) (by decide)
  have em : nI code - nI code / 100 * 100 = nI (code % 100) := pk_rem (d := 100) (by omega) (by decide) (by decide)
  have stop : ∀ (b : Bool) d j, j ≤ c → (c ≤ j ∨ b = false) → post (b2i b) → pX7_isFit_b19 (nI c) st (nI code) post (d + 1) (b2i b) (nI j) := by
    intro b d j hj hor hp
    refine ⟨fun _ => ⟨b2i_zb b, hp⟩, fun z => ⟨fun _ => ⟨b2i_zb b, hp⟩, fun z2 => ?_⟩⟩
    rcases hor with w | w
    · exact absurd (nI_le w (by omega)) z
    · subst w; exact absurd rfl z2
  unfold pX7_isFit
  rw [em, ed]
  by_cases hr : code % 100 < code / 100
  · have c1 : ¬ nI (code / 100) ≤ nI (code % 100) := nI_ge hr (by omega)
    refine ⟨fun z => absurd z c1, fun _ => ?_⟩
    have hfc : fcS hh rg c code = ftS (qS hh rg (code / 100) (code % 100)) c := by simp [fcS, hr]
    rw [hfc] at h
    have key : ∀ d j, j + d = c → ftS (qS hh rg (code / 100) (code % 100)) j = true → pX7_isFit_b19 (nI c) st (nI code) post (d + 1 + 1) (b2i true) (nI j) := by
      intro d
      induction d with
      | zero =>
        intro j hj hf
        have e : j = c := by omega
        subst e
        rw [hf] at h
        exact stop true 1 j (Nat.le_refl _) (Or.inl (Nat.le_refl _)) h
      | succ d ih =>
        intro j hj hf
        have c2 : ¬ nI c ≤ nI j := nI_ge (by omega) (by omega)
        have e2 : (2 : Int32) * nI j = nI (2 * j) := pk_mul 2 j
        obtain ⟨a1, a2⟩ := h1 j (by omega)
        obtain ⟨b1, b2⟩ := h2 j (by omega)
        refine ⟨fun z => absurd z c2, fun _ => ⟨fun z => absurd z (by decide), fun _ => ?_⟩⟩
        rw [e2, nI_1, nI_clamp (by omega), nI_clamp (by omega), a2, b1]
        refine ⟨vp_in_nI (by omega) (by decide), ?_⟩
        refine rings7 (by omega) hk2 a1 ⟨vp_in_nI (by omega) (by decide), ?_⟩
        have good : qS hh rg (code / 100) (code % 100) j = true → pX7_isFit_b19 (nI c) st (nI code) post (d + 1 + 1) 1 (nI (j + 1)) := fun z => ih (j + 1) (by omega) (by rw [ftS, hf, z]; rfl)
        have bad : qS hh rg (code / 100) (code % 100) j = false → pX7_isFit_b19 (nI c) st (nI code) post (d + 1 + 1) 0 (nI (j + 1)) := fun z => by
          rw [ftS_f (show j < c by omega) z] at h
          exact stop false (d + 1) (j + 1) (by omega) (Or.inr rfl) h
        unfold pX7_isFit_b62
        by_cases hq : hh j % (code / 100) = code % 100
        · rw [decide_eq_true hq]
          refine ⟨fun z => ⟨fun _ v ev => ?_, fun z2 => absurd z2 (by decide)⟩, fun z => ⟨fun z2 => absurd rfl z2, fun _ v ev => ?_⟩⟩
          · rw [ev, nI_1]; exact bad (by simp [qS, rbS, z, hq])
          · rw [ev, nI_1]; exact good (by simp [qS, rbS, z, hq])
        · rw [decide_eq_false hq]
          refine ⟨fun z => ⟨fun z2 => absurd rfl z2, fun _ v ev => ?_⟩, fun z => ⟨fun _ v ev => ?_, fun z2 => absurd z2 (by decide)⟩⟩
          · rw [ev, nI_1]; exact good (by simp [qS, rbS, z, hq])
          · rw [ev, nI_1]; exact bad (by simp [qS, rbS, z, hq])
    exact ⟨c + 1 + 1, key c 0 (by omega) rfl⟩
  · have c1 : nI (code / 100) ≤ nI (code % 100) := nI_le (by omega) (by omega)
    refine ⟨fun _ => ⟨1, ?_⟩, fun z => absurd c1 z⟩
    have hfc : fcS hh rg c code = false := by simp [fcS, hr]
    rw [hfc] at h
    exact stop false 0 0 (by omega) (Or.inr rfl) h
/-- how many -/
def ct (f : Nat → Bool) : Nat → Nat
  | 0 => 0
  | n + 1 => ct f n + (if f n then 1 else 0)
theorem ct_le_of {f g : Nat → Bool} : ∀ {n : Nat}, (∀ k, k < n → f k = true → g k = true) → ct f n ≤ ct g n
  | 0, _ => Nat.le_refl _
  | n + 1, h => by
    have h1 := ct_le_of (n := n) (fun k hk => h k (by omega))
    have h2 := h n (by omega)
    rw [ct, ct]
    cases hf : f n with
    | false => simp; omega
    | true => rw [h2 hf]; simp; omega
theorem ct_mono {f : Nat → Bool} {a b : Nat} (h : a ≤ b) : ct f a ≤ ct f b := by
  induction b with
  | zero => have : a = 0 := by omega
            subst this; exact Nat.le_refl _
  | succ b ih =>
    by_cases e : a = b + 1
    · subst e; exact Nat.le_refl _
    · rw [ct]
      have := ih (by omega)
      omega
theorem ct_flat {f : Nat → Bool} {a : Nat} : ∀ b, a ≤ b → (∀ k, a ≤ k → k < b → f k = false) → ct f b = ct f a := by
  intro b
  induction b with
  | zero => intro h _; have : a = 0 := by omega
            subst this; rfl
  | succ b ih =>
    intro h hf
    by_cases e : a = b + 1
    · subst e; rfl
    · rw [ct, hf b (by omega) (by omega), ih (by omega) (fun k h1 h2 => hf k h1 (by omega))]
      simp
theorem ct_s1 {f : Nat → Bool} {n : Nat} (h : f n = true) : ct f (n + 1) = ct f n + 1 := by rw [ct, h]; rfl
theorem ct_s0 {f : Nat → Bool} {n : Nat} (h : f n = false) : ct f (n + 1) = ct f n := by rw [ct, h]; rfl
def baseS (k : Nat) : Bool := decide ((200 + k) % 100 < (200 + k) / 100)
theorem base_209 : ct baseS 1900 = 209 := by decide +kernel
def gS (hh : Nat → Nat) (rg : Nat → Int32) (c k : Nat) : Bool := fcS hh rg c (200 + k)
theorem gS_le (hh : Nat → Nat) (rg : Nat → Int32) (c k : Nat) (hk : k ≤ 1900) : ct (gS hh rg c) k ≤ 209 := by
  refine Nat.le_trans (ct_le_of (g := baseS) (fun j _ hj => ?_)) (Nat.le_trans (ct_mono hk) (Nat.le_of_eq base_209))
  simp only [gS, fcS, Bool.and_eq_true] at hj
  exact hj.1
theorem gS_out {hh : Nat → Nat} {rg : Nat → Int32} {c k : Nat} (h : ¬ (200 + k) % 100 < (200 + k) / 100) : gS hh rg c k = false := by simp [gS, fcS, h]
theorem gS_in {hh : Nat → Nat} {rg : Nat → Int32} {c p r : Nat} (hp : 2 ≤ p) (hr : r < p) (hp2 : p ≤ 20) : gS hh rg c (100 * p + r - 200) = ftS (qS hh rg p r) c := by
  have e1 : 200 + (100 * p + r - 200) = 100 * p + r := by omega
  have e2 : (100 * p + r) / 100 = p := by omega
  have e3 : (100 * p + r) % 100 = r := by omega
  simp only [gS, fcS]
  rw [e1, e2, e3, decide_eq_true hr, Bool.true_and]
/-- the value of a scan over the codes -/
def vS (g : Nat → Bool) (a z : Int32) : Nat → Nat → Int32
  | 0, _ => z
  | d + 1, k => if g k = true ∧ nI (ct g k) = a then nI (200 + k) else vS g a z d (k + 1)
theorem vS_skip {g : Nat → Bool} {a z : Int32} : ∀ (m d k : Nat), (∀ j, k ≤ j → j < k + m → g j = false) → vS g a z (m + d) k = vS g a z d (k + m)
  | 0, d, k, _ => by rw [Nat.zero_add, Nat.add_zero]
  | m + 1, d, k, h => by
    rw [show m + 1 + d = (m + d) + 1 by omega, vS, if_neg (by rw [h k (Nat.le_refl _) (by omega)]; simp), vS_skip m d (k + 1) (fun j h1 h2 => h j (by omega) (by omega)), show k + 1 + m = k + (m + 1) by omega]
theorem vS_m1 {g : Nat → Bool} {z : Int32} : ∀ (d k : Nat), k + d ≤ 1900 → (∀ j, j ≤ 1900 → ct g j ≤ 209) → vS g (-1) z d k = z
  | 0, _, _, _ => rfl
  | d + 1, k, h, hb => by
    rw [vS, if_neg, vS_m1 d (k + 1) (by omega) hb]
    intro q
    exact nI_nm (a := ct g k) (k := 1) (by have := hb k (by omega); omega) (by decide) (by decide) q.2
section Rounds
variable {c : Nat} {hs rg st : Nat → Int32} {hh : Nat → Nat}
theorem frs3 (hc : c ≤ 8) (h1 : ∀ j, j < c → hh j < 100 ∧ hs j = nI (hh j)) (h2 : ∀ j, j < c → rg j = 0 ∨ rg j = 1) {post : Int32 → Prop} (h : post (nI (ct (gS hh rg c) 1900))) : pX3_fittingRounds (nI c) hs rg post := by
  have outer : ∀ d p, p + d = 21 → 2 ≤ p → pX3_fittingRounds_b4 (nI c) hs rg post (d + 1) (nI (ct (gS hh rg c) (100 * p - 200))) (nI p) := by
    intro d
    induction d with
    | zero =>
      intro p hp hp2
      have e : p = 21 := by omega
      subst e
      exact ⟨fun _ => h, fun z => absurd (by decide) z⟩
    | succ d ih =>
      intro p hp hp2
      have c1 : ¬ (20 : Int32) < nI p := nI_nlt (a := 20) (by omega) (by decide)
      refine ⟨fun z => absurd z c1, fun _ => ⟨p + 1, ?_⟩⟩
      have inner : ∀ d2 r, r + d2 = p → pX3_fittingRounds_b12 (nI c) hs rg post (fun x1 x2 => pX3_fittingRounds_b4 (nI c) hs rg post (d + 1) x1 x2) (d2 + 1) (nI (ct (gS hh rg c) (100 * p + r - 200))) (nI p) (nI r) := by
        intro d2
        induction d2 with
        | zero =>
          intro r hr
          have e : r = p := by omega
          subst e
          refine ⟨fun _ v ev => ?_, fun z => absurd (Int32.le_refl _) z⟩
          rw [ev, nI_1]
          have := ih (r + 1) (by omega) (by omega)
          rw [ct_flat (f := gS hh rg c) (a := 100 * r + r - 200) (100 * (r + 1) - 200) (by omega) (fun k h1 h2 => gS_out (by omega))] at this
          exact this
        | succ d2 ih2 =>
          intro r hr
          have c2 : ¬ nI p ≤ nI r := nI_ge (by omega) (by omega)
          refine ⟨fun z => absurd z c2, fun _ => ?_⟩
          refine fit3 hc h1 h2 (by omega) (by omega) (by omega) ?_
          have hg := gS_in (hh := hh) (rg := rg) (c := c) hp2 (show r < p by omega) (by omega)
          have := ih2 (r + 1) (by omega)
          rw [show 100 * p + (r + 1) - 200 = (100 * p + r - 200) + 1 by omega] at this
          cases hq : ftS (qS hh rg p r) c with
          | false =>
            rw [ct_s0 (hg.trans hq)] at this
            exact b_e0 (fun v ev => by rw [ev, nI_1]; exact this)
          | true =>
            rw [ct_s1 (hg.trans hq)] at this
            exact b_e1 (fun v ev v2 ev2 => by rw [ev, ev2, nI_1, nI_1]; exact this)
      exact inner p 0 (by omega)
  exact ⟨20, outer 19 2 (by omega) (by omega)⟩
theorem fr3 (hc : c ≤ 8) (h1 : ∀ j, j < c → hh j < 100 ∧ hs j = nI (hh j)) (h2 : ∀ j, j < c → rg j = 0 ∨ rg j = 1) (a : Int32) {post : Int32 → Prop} (h : post (vS (gS hh rg c) a (-6) 1900 0)) : pX3_fittingRound (nI c) hs rg a post := by
  have outer : ∀ d p, p + d = 21 → 2 ≤ p → post (vS (gS hh rg c) a (-6) (2100 - 100 * p) (100 * p - 200)) → pX3_fittingRound_b4 (nI c) hs rg a post (d + 1) (nI (ct (gS hh rg c) (100 * p - 200))) (nI p) := by
    intro d
    induction d with
    | zero =>
      intro p hp hp2 hv
      have e : p = 21 := by omega
      subst e
      exact ⟨fun _ => hv, fun z => absurd (by decide) z⟩
    | succ d ih =>
      intro p hp hp2 hv
      have c1 : ¬ (20 : Int32) < nI p := nI_nlt (a := 20) (by omega) (by decide)
      refine ⟨fun z => absurd z c1, fun _ => ⟨p + 1, ?_⟩⟩
      have inner : ∀ d2 r, r + d2 = p → post (vS (gS hh rg c) a (-6) (2100 - (100 * p + r)) (100 * p + r - 200)) → pX3_fittingRound_b13 (nI c) hs rg a post (fun x1 x2 => pX3_fittingRound_b4 (nI c) hs rg a post (d + 1) x1 x2) (d2 + 1) (nI (ct (gS hh rg c) (100 * p + r - 200))) (nI p) (nI r) := by
        intro d2
        induction d2 with
        | zero =>
          intro r hr hv
          have e : r = p := by omega
          subst e
          refine ⟨fun _ v ev => ?_, fun z => absurd (Int32.le_refl _) z⟩
          rw [ev, nI_1]
          have hv2 := hv
          rw [show 2100 - (100 * r + r) = (100 - r) + (2100 - 100 * (r + 1)) by omega, vS_skip (100 - r) _ _ (fun j h1 h2 => gS_out (by omega)), show 100 * r + r - 200 + (100 - r) = 100 * (r + 1) - 200 by omega] at hv2
          have := ih (r + 1) (by omega) (by omega) hv2
          rw [ct_flat (f := gS hh rg c) (a := 100 * r + r - 200) (100 * (r + 1) - 200) (by omega) (fun k h1 h2 => gS_out (by omega))] at this
          exact this
        | succ d2 ih2 =>
          intro r hr hv
          have c2 : ¬ nI p ≤ nI r := nI_ge (by omega) (by omega)
          refine ⟨fun z => absurd z c2, fun _ => ?_⟩
          refine fit3 hc h1 h2 (by omega) (by omega) (by omega) ?_
          have hg := gS_in (hh := hh) (rg := rg) (c := c) hp2 (show r < p by omega) (by omega)
          have ih3 := ih2 (r + 1) (by omega)
          rw [show 2100 - (100 * p + r) = (2100 - (100 * p + (r + 1))) + 1 by omega, vS, show 100 * p + r - 200 + 1 = 100 * p + (r + 1) - 200 by omega] at hv
          have ec : ct (gS hh rg c) (100 * p + (r + 1) - 200) = ct (gS hh rg c) ((100 * p + r - 200) + 1) := by rw [show 100 * p + (r + 1) - 200 = (100 * p + r - 200) + 1 by omega]
          cases hq : ftS (qS hh rg p r) c with
          | false =>
            rw [if_neg (by rw [hg.trans hq]; simp)] at hv
            have this := ih3 hv
            rw [ec, ct_s0 (hg.trans hq)] at this
            exact b_e0 (fun v ev => by rw [ev, nI_1]; exact this)
          | true =>
            refine b_e1 ⟨fun z v ev v2 ev2 => ?_, fun z => ?_⟩
            · rw [if_neg (fun w => z w.2)] at hv
              have this := ih3 hv
              rw [ec, ct_s1 (hg.trans hq)] at this
              rw [ev, ev2, nI_1, nI_1]
              exact this
            · rw [if_pos ⟨hg.trans hq, z⟩] at hv
              have e100 : (100 : Int32) * nI p + nI r = nI (100 * p + r) := by rw [show (100 : Int32) * nI p = nI (100 * p) from pk_mul 100 p, nI_add]
              rw [e100]
              rw [show 200 + (100 * p + r - 200) = 100 * p + r by omega] at hv
              exact hv
      exact inner p 0 (by omega) hv
  exact ⟨20, outer 19 2 (by omega) (by omega) h⟩
theorem rds7 (hc : c ≤ 8) (h1 : ∀ j, j < c → hh j < 100 ∧ st (2 * j) = nI (hh j)) (h2 : ∀ j, j < c → st (2 * j + 1) = rg j ∧ (rg j = 0 ∨ rg j = 1)) (a : Int32) {post : Int32 → Prop} (h : post (vS (gS hh rg c) a (if a = -1 then nI (ct (gS hh rg c) 1900) else -6) 1900 0)) : pX7_rounds (nI c) st a post := by
  have key : ∀ d k, k + d = 1900 → post (vS (gS hh rg c) a (if a = -1 then nI (ct (gS hh rg c) 1900) else -6) d k) → pX7_rounds_b6 (nI c) st a post (d + 1) (nI (ct (gS hh rg c) k)) (nI (200 + k)) := by
    intro d
    induction d with
    | zero =>
      intro k hk hv
      have e : k = 1900 := by omega
      subst e
      refine ⟨fun _ => ⟨fun z => ?_, fun z => ?_⟩, fun z => absurd (by decide) z⟩
      · rw [vS, if_neg z] at hv; exact hv
      · rw [vS, if_pos z] at hv; exact hv
    | succ d ih =>
      intro k hk hv
      have c1 : ¬ (2100 : Int32) ≤ nI (200 + k) := nI_ge (b := 2100) (by omega) (by decide)
      refine ⟨fun z => absurd z c1, fun _ => ?_⟩
      refine isf7 hc h1 h2 (by omega) (by omega) ?_
      have ih2 := ih (k + 1) (by omega)
      rw [vS] at hv
      cases hq : fcS hh rg c (200 + k) with
      | false =>
        rw [if_neg (by rw [show gS hh rg c k = false from hq]; simp)] at hv
        have this := ih2 hv
        rw [ct_s0 (show gS hh rg c k = false from hq)] at this
        exact b_e0 (fun v ev => by rw [ev, nI_1]; exact this)
      | true =>
        refine b_e1 ⟨fun z v ev v2 ev2 => ?_, fun z => ?_⟩
        · rw [if_neg (fun w => z w.2)] at hv
          have this := ih2 hv
          rw [ct_s1 (show gS hh rg c k = true from hq)] at this
          rw [ev, ev2, nI_1, nI_1]
          exact this
        · rw [if_pos ⟨hq, z⟩] at hv
          exact hv
  exact ⟨1901, key 1900 0 (by omega) h⟩
end Rounds
