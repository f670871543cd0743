/-! ===== PURE 5: rounds and ask, the calls ===== -/
section Ask
variable {c : Nat} {hs rg st : Nat → Int32} {hh : Nat → Nat}
def rrS (hh : Nat → Nat) (rg : Nat → Int32) (c hour k : Nat) : Bool := ftS (qS hh rg (k + 2) (hour % (k + 2))) c
theorem rra3 (hc : c ≤ 8) (h1 : ∀ j, j < c → hh j < 100 ∧ hs j = nI (hh j)) (h2 : ∀ j, j < c → rg j = 0 ∨ rg j = 1) {hour : Nat} (hh2 : hour < 100) {post : Int32 → Prop} (h : post (nI (ct (rrS hh rg c hour) 19))) : pX3_roundsRingingAt (nI c) hs rg (nI hour) post := by
  have key : ∀ d k, k + d = 19 → pX3_roundsRingingAt_b4 (nI c) hs rg (nI hour) post (d + 1) (nI (ct (rrS hh rg c hour) k)) (nI (k + 2)) := by
    intro d
    induction d with
    | zero =>
      intro k hk
      have e : k = 19 := by omega
      subst e
      exact ⟨fun _ => h, fun z => absurd (by decide) z⟩
    | succ d ih =>
      intro k hk
      have c1 : ¬ (20 : Int32) < nI (k + 2) := nI_nlt (a := 20) (by omega) (by decide)
      have er : nI hour - nI hour / nI (k + 2) * nI (k + 2) = nI (hour % (k + 2)) := pk_rem (by omega) (by omega) (by omega)
      have hm : hour % (k + 2) < k + 2 := Nat.mod_lt _ (by omega)
      refine ⟨fun z => absurd z c1, fun _ => ⟨nI_ne0 (by omega) (by omega), ?_⟩⟩
      rw [er]
      refine fit3 hc h1 h2 (by omega) (by omega) (by omega) ?_
      have this := ih (k + 1) (by omega)
      cases hq : ftS (qS hh rg (k + 2) (hour % (k + 2))) c with
      | false =>
        rw [ct_s0 (show rrS hh rg c hour k = false from hq)] at this
        exact b_e0 (fun v ev => by rw [ev, nI_1]; exact this)
      | true =>
        rw [ct_s1 (show rrS hh rg c hour k = true from hq)] at this
        exact b_e1 (fun v ev v2 ev2 => by rw [ev, ev2, nI_1, nI_1]; exact this)
  exact ⟨20, key 19 0 (by omega)⟩
def RS (hour k : Nat) : Bool := decide (hour % ((200 + k) / 100) = (200 + k) % 100)
theorem yes_eq (hour : Nat) : ∀ m, m ≤ 19 → ct (fun k => gS hh rg c k && RS hour k) (100 * m) = ct (rrS hh rg c hour) m := by
  intro m
  induction m with
  | zero => intro _; rfl
  | succ m ih =>
    intro hm
    have ih := ih (by omega)
    have hp : hour % (m + 2) < m + 2 := Nat.mod_lt _ (by omega)
    have f1 : ct (fun k => gS hh rg c k && RS hour k) (100 * m + hour % (m + 2)) = ct (fun k => gS hh rg c k && RS hour k) (100 * m) := by
      refine ct_flat _ (by omega) (fun k a b => ?_)
      have e1 : (200 + k) / 100 = m + 2 := by omega
      have e2 : (200 + k) % 100 = k - 100 * m := by omega
      have : RS hour k = false := by
        simp only [RS, decide_eq_false_iff_not]
        rw [e1, e2]
        omega
      rw [this, Bool.and_false]
    have e0 : gS hh rg c (100 * m + hour % (m + 2)) = rrS hh rg c hour m := by
      have := gS_in (hh := hh) (rg := rg) (c := c) (p := m + 2) (r := hour % (m + 2)) (by omega) hp (by omega)
      rw [show 100 * (m + 2) + hour % (m + 2) - 200 = 100 * m + hour % (m + 2) by omega] at this
      exact this
    have e1 : RS hour (100 * m + hour % (m + 2)) = true := by
      simp only [RS, decide_eq_true_eq]
      rw [show (200 + (100 * m + hour % (m + 2))) / 100 = m + 2 by omega]
      omega
    have f2 : ct (fun k => gS hh rg c k && RS hour k) (100 * (m + 1)) = ct (fun k => gS hh rg c k && RS hour k) (100 * m + hour % (m + 2) + 1) := by
      refine ct_flat _ (by omega) (fun k a b => ?_)
      have e1 : (200 + k) / 100 = m + 2 := by omega
      have e2 : (200 + k) % 100 = k - 100 * m := by omega
      have : RS hour k = false := by
        simp only [RS, decide_eq_false_iff_not]
        rw [e1, e2]
        omega
      rw [this, Bool.and_false]
    rw [f2, ct, f1, ih, e0, e1, Bool.and_true, ct]
theorem ct_pos0 {f : Nat → Bool} {n : Nat} : ct f n ≤ n := by
  induction n with
  | zero => exact Nat.le_refl _
  | succ n ih => rw [ct]; cases f n <;> simp <;> omega
/-- the list of the codes that fit: how many of it are of a kind -/
def LsF (g : Nat → Bool) (k : Nat) (f : Nat → Int32) : Prop := ∃ F : Nat → Nat, (∀ j, j < ct g k → f j = nI (200 + F j) ∧ F j < 1900) ∧ ∀ R : Nat → Bool, ct (fun j => R (F j)) (ct g k) = ct (fun q => g q && R q) k
theorem ct_cong {f g : Nat → Bool} : ∀ {n : Nat}, (∀ k, k < n → f k = g k) → ct f n = ct g n
  | 0, _ => rfl
  | n + 1, h => by rw [ct, ct, ct_cong (fun k hk => h k (by omega)), h n (by omega)]
theorem LsF_0 (g : Nat → Bool) (f : Nat → Int32) : LsF g 0 f := ⟨fun _ => 0, fun j hj => absurd hj (Nat.not_lt_zero j), fun _ => rfl⟩
theorem LsF_f {g : Nat → Bool} {k : Nat} {f : Nat → Int32} (h : LsF g k f) (hg : g k = false) : LsF g (k + 1) f := by
  obtain ⟨F, a, b⟩ := h
  refine ⟨F, fun j hj => a j (by rw [ct_s0 hg] at hj; exact hj), fun R => ?_⟩
  rw [ct_s0 hg, b R, ct_s0 (by rw [hg, Bool.false_and])]
theorem LsF_t {g : Nat → Bool} {k : Nat} {f : Nat → Int32} (h : LsF g k f) (hg : g k = true) (hk : k < 1900) : LsF g (k + 1) (upd f (ct g k) (nI (200 + k))) := by
  obtain ⟨F, a, b⟩ := h
  refine ⟨fun j => if j = ct g k then k else F j, fun j hj => ?_, fun R => ?_⟩
  · rw [ct_s1 hg] at hj
    by_cases e : j = ct g k
    · subst e
      dsimp only
      rw [pk_us, if_pos rfl]
      exact ⟨rfl, hk⟩
    · dsimp only
      rw [pk_un e, if_neg e]
      exact a j (by omega)
  · dsimp only
    rw [ct_s1 hg, ct, ct, if_pos rfl, ct_cong (g := fun j => R (F j)) (fun j hj => by rw [if_neg (by omega)]), b R, hg, Bool.true_and]
/-- the least of the hours -/
def mnS (N : Nat) (Wf : Nat → Nat) : Nat → Nat × Nat
  | 0 => (0, N + 1)
  | h + 1 => if Wf h < (mnS N Wf h).2 then (h, Wf h) else mnS N Wf h
theorem mnS_b (N : Nat) (Wf : Nat → Nat) (hW : ∀ k, Wf k ≤ N) : ∀ h, (mnS N Wf h).1 ≤ h ∧ (mnS N Wf h).2 ≤ N + 1
  | 0 => ⟨Nat.le_refl _, Nat.le_refl _⟩
  | h + 1 => by
    have ih := mnS_b N Wf hW h
    rw [mnS]
    by_cases c : Wf h < (mnS N Wf h).2
    · rw [if_pos c]
      have := hW h
      exact ⟨by show h ≤ h + 1; omega, by show Wf h ≤ N + 1; omega⟩
    · rw [if_neg c]
      exact ⟨by omega, ih.2⟩
theorem mnS_1 (N : Nat) (Wf : Nat → Nat) (hW : ∀ k, Wf k ≤ N) : mnS N Wf 1 = (0, Wf 0) := by
  rw [mnS, mnS, if_pos]
  have := hW 0
  show Wf 0 < N + 1
  omega
def wS (N : Nat) (Y : Nat → Nat) (h : Nat) : Nat := if Y h < N - Y h then N - Y h else Y h
theorem ask6 (hc : c ≤ 8) (h1 : ∀ j, j < c → hh j < 100 ∧ hs j = nI (hh j)) (h2 : ∀ j, j < c → rg j = 0 ∨ rg j = 1) (a : Int32) (N : Nat) (hN : N ≤ 209) (hY : ∀ h, ct (rrS hh rg c h) 19 ≤ N) {post : Int32 → Prop}
    (h : post (if a = 0 then nI (mnS N (wS N (fun h => ct (rrS hh rg c h) 19)) 100).1 else nI (mnS N (wS N (fun h => ct (rrS hh rg c h) 19)) 100).2)) : ∃ n1, pX6_ask_b37 (nI c) hs rg a post n1 (nI N) 0 (nI (N + 1)) 0 := by
  have hW : ∀ k, wS N (fun h => ct (rrS hh rg c h) 19) k ≤ N := fun k => by
    have := hY k
    simp only [wS]
    by_cases q : ct (rrS hh rg c k) 19 < N - ct (rrS hh rg c k) 19
    · rw [if_pos q]; omega
    · rw [if_neg q]; omega
  generalize hM : mnS N (wS N (fun h => ct (rrS hh rg c h) 19)) = mn at h
  have key : ∀ d k, k + d = 100 → pX6_ask_b37 (nI c) hs rg a post (d + 1) (nI N) (nI (mn k).1) (nI (mn k).2) (nI k) := by
    intro d
    induction d with
    | zero =>
      intro k hk
      have e : k = 100 := by omega
      subst e
      refine ⟨fun _ => ⟨fun z => ?_, fun z => ?_⟩, fun z => absurd (by decide) z⟩
      · rw [if_neg z] at h; exact h
      · rw [if_pos z] at h; exact h
    | succ d ih =>
      intro k hk
      have c1 : ¬ (100 : Int32) ≤ nI k := nI_ge (b := 100) (by omega) (by decide)
      refine ⟨fun z => absurd z c1, fun _ => ?_⟩
      refine rra3 hc h1 h2 (by omega) (fun v ev => ?_)
      have hy := hY k
      have b := mnS_b N (wS N (fun h => ct (rrS hh rg c h) 19)) hW k
      rw [hM] at b
      have eW : v = nI (wS N (fun h => ct (rrS hh rg c h) 19) k) := by
        rw [ev, pk_sub hy]
        simp only [wS]
        by_cases q : ct (rrS hh rg c k) 19 < N - ct (rrS hh rg c k) 19
        · rw [if_pos q, if_pos (nI_lt q (by omega))]
        · rw [if_neg q, if_neg (nI_nlt (by omega) (by omega))]
      have hwk := hW k
      rw [eW]
      have this := ih (k + 1) (by omega)
      have es : mn (k + 1) = if wS N (fun h => ct (rrS hh rg c h) 19) k < (mn k).2 then (k, wS N (fun h => ct (rrS hh rg c h) 19) k) else mn k := by rw [← hM, mnS]
      rw [es] at this
      by_cases q : wS N (fun h => ct (rrS hh rg c h) 19) k < (mn k).2
      · rw [if_pos q] at this
        refine ⟨fun z => absurd z (nI_ge q (by omega)), fun _ v2 ev2 => ?_⟩
        rw [ev2, nI_1]; exact this
      · rw [if_neg q] at this
        refine ⟨fun _ v2 ev2 => ?_, fun z => absurd (nI_le (by omega) (by omega)) z⟩
        rw [ev2, nI_1]; exact this
  have := key 100 0 (by omega)
  rw [← hM] at this
  exact ⟨101, this⟩
theorem ask7 (hc : c ≤ 8) (h1 : ∀ j, j < c → hh j < 100 ∧ st (2 * j) = nI (hh j)) (h2 : ∀ j, j < c → st (2 * j + 1) = rg j ∧ (rg j = 0 ∨ rg j = 1)) (a : Int32) (N : Nat) (eN : N = ct (gS hh rg c) 1900) (hY : ∀ h, ct (rrS hh rg c h) 19 ≤ N) (fi : Nat → Int32) {post : Int32 → (Nat → Int32) → Prop}
    (h : ∀ f, post (if N = 0 then -6 else if a = 0 then nI (mnS N (wS N (fun h => ct (rrS hh rg c h) 19)) 100).1 else nI (mnS N (wS N (fun h => ct (rrS hh rg c h) 19)) 100).2) f) : ∃ n1, pX7_ask_b18 (nI c) st a post n1 0 200 fi := by
  have hN : N ≤ 209 := by rw [eN]; exact gS_le _ _ _ _ (Nat.le_refl _)
  have hW : ∀ k, wS N (fun h => ct (rrS hh rg c h) 19) k ≤ N := fun k => by
    have := hY k
    simp only [wS]
    by_cases q : ct (rrS hh rg c k) 19 < N - ct (rrS hh rg c k) 19
    · rw [if_pos q]; omega
    · rw [if_neg q]; omega
  -- the end
  have fin : ∀ f, N ≠ 0 → pX7_ask_b169 (nI c) st a post (nI (mnS N (wS N (fun h => ct (rrS hh rg c h) 19)) 100).1) (nI (mnS N (wS N (fun h => ct (rrS hh rg c h) 19)) 100).2) f := by
    intro f h0
    have hp := h f
    rw [if_neg h0] at hp
    have b := mnS_b N (wS N (fun h => ct (rrS hh rg c h) 19)) hW 100
    refine ⟨fun z => absurd z (nI_pos (by omega)), fun _ => ⟨fun z => ?_, fun z => ?_⟩⟩
    · rw [if_neg z] at hp; exact hp
    · rw [if_pos z] at hp; exact hp
  -- one hour
  have one : ∀ f, LsF (gS hh rg c) 1900 f → ∀ k, k < 100 → ∀ (fo : Int32) (l : Nat), l ≤ 1000000 → ∀ (K : Int32 → Int32 → Int32 → Int32 → (Nat → Int32) → Prop), K (nI N) (if wS N (fun h => ct (rrS hh rg c h) 19) k < l then nI k else fo) (nI (if wS N (fun h => ct (rrS hh rg c h) 19) k < l then wS N (fun h => ct (rrS hh rg c h) 19) k else l)) (nI (k + 1)) f → ∃ n1, pX7_ask_b76 (nI c) st a post K n1 (nI N) fo (nI l) (nI k) 0 0 f := by
    intro f hf k hk fo l hl K hK
    obtain ⟨F, hF, hcount⟩ := hf
    have hYk := hcount (RS k)
    rw [← eN, show (1900 : Nat) = 100 * 19 from rfl, yes_eq (hh := hh) (rg := rg) (c := c) k 19 (Nat.le_refl _)] at hYk
    have hy := hY k
    have hwk := hW k
    have key : ∀ d j, j + d = N → pX7_ask_b76 (nI c) st a post K (d + 1) (nI N) fo (nI l) (nI k) (nI (ct (fun j => RS k (F j)) j)) (nI j) f := by
      intro d
      induction d with
      | zero =>
        intro j hj
        have e : j = N := by omega
        subst e
        rw [hYk]
        refine ⟨fun _ => ?_, fun z => absurd (Int32.le_refl _) z⟩
        rw [pk_sub hy]
        have last : ∀ s0 : Int32, s0 = nI (wS j (fun h => ct (rrS hh rg c h) 19) k) → pX7_ask_b131 (nI c) st a post K (nI j) fo (nI l) (nI k) s0 f := by
          intro s0 e0
          subst e0
          by_cases q : wS j (fun h => ct (rrS hh rg c h) 19) k < l
          · rw [if_pos q, if_pos q] at hK
            have z : ¬ nI l ≤ nI (wS j (fun h => ct (rrS hh rg c h) 19) k) := nI_ge q (by omega)
            exact ⟨fun w => absurd w z, fun _ => ⟨fun w => absurd w z, fun _ v ev => by rw [ev, nI_1]; exact hK⟩⟩
          · rw [if_neg q, if_neg q] at hK
            have z : nI l ≤ nI (wS j (fun h => ct (rrS hh rg c h) 19) k) := nI_le (by omega) (by omega)
            exact ⟨fun _ => ⟨fun _ v ev => by rw [ev, nI_1]; exact hK, fun w => absurd z w⟩, fun w => absurd z w⟩
        refine ⟨fun z => last _ ?_, fun z => last _ ?_⟩
        · have z2 : ct (rrS hh rg c k) 19 ≤ j - ct (rrS hh rg c k) 19 := (nI_leI (by omega) (by omega)).mp z
          simp only [wS]
          by_cases q : ct (rrS hh rg c k) 19 < j - ct (rrS hh rg c k) 19
          · rw [if_pos q]
          · rw [if_neg q]; congr 1; omega
        · have z2 : ¬ ct (rrS hh rg c k) 19 ≤ j - ct (rrS hh rg c k) 19 := fun w => z (nI_le w (by omega))
          simp only [wS]
          rw [if_neg (by omega)]
      | succ d ih =>
        intro j hj
        have c1 : ¬ nI N ≤ nI j := nI_ge (by omega) (by omega)
        obtain ⟨a1, a2⟩ := hF j (by omega)
        refine ⟨fun z => absurd z c1, fun _ => ⟨vp_in_nI (by omega) (by decide), ?_⟩⟩
        rw [nI_clamp (by omega), a1]
        refine rings7 (by omega) (by omega) hk ?_
        have this := ih (j + 1) (by omega)
        cases hq : decide (k % ((200 + F j) / 100) = (200 + F j) % 100) with
        | false =>
          rw [ct_s0 (f := fun j => RS k (F j)) (show RS k (F j) = false from hq)] at this
          exact b_e0 (fun v ev v2 ev2 => by rw [ev, ev2, nI_1, show nI (ct (fun j => RS k (F j)) j) + 0 = nI (ct (fun j => RS k (F j)) j + 0) from nI_add _ 0]; exact this)
        | true =>
          rw [ct_s1 (f := fun j => RS k (F j)) (show RS k (F j) = true from hq)] at this
          exact b_e1 (fun v ev v2 ev2 => by rw [ev, ev2, nI_1, nI_1]; exact this)
    exact ⟨N + 1, key N 0 (by omega)⟩
  -- the hours
  have hours : ∀ f, LsF (gS hh rg c) 1900 f → N ≠ 0 → ∀ d k, k + d = 100 → 1 ≤ k → pX7_ask_b59 (nI c) st a post (d + 1) (nI N) (nI (mnS N (wS N (fun h => ct (rrS hh rg c h) 19)) k).1) (nI (mnS N (wS N (fun h => ct (rrS hh rg c h) 19)) k).2) (nI k) f := by
    intro f hf h0 d
    induction d with
    | zero =>
      intro k hk h1k
      have e : k = 100 := by omega
      subst e
      exact ⟨fun _ => fin f h0, fun z => absurd (by decide) z⟩
    | succ d ih =>
      intro k hk h1k
      have c1 : ¬ (100 : Int32) ≤ nI k := nI_ge (b := 100) (by omega) (by decide)
      have c2 : ¬ nI N ≤ 0 := nI_nle (by omega) (by omega)
      have b := mnS_b N (wS N (fun h => ct (rrS hh rg c h) 19)) hW k
      refine ⟨fun z => absurd z c1, fun _ => ⟨fun z => absurd z c2, fun _ => ?_⟩⟩
      refine one f hf k (by omega) _ _ (by omega) _ ?_
      have this := ih (k + 1) (by omega) (by omega)
      rw [mnS] at this
      by_cases q : wS N (fun h => ct (rrS hh rg c h) 19) k < (mnS N (wS N (fun h => ct (rrS hh rg c h) 19)) k).2
      · rw [if_pos q] at this
        rw [if_pos q, if_pos q]
        exact this
      · rw [if_neg q] at this
        rw [if_neg q, if_neg q]
        exact this
  have start : ∀ f, LsF (gS hh rg c) 1900 f → ∃ n1, pX7_ask_b59 (nI c) st a post n1 (nI N) (-6) 1000000 0 f := by
    intro f hf
    by_cases h0 : N = 0
    · refine ⟨1, fun z => absurd z (by decide), fun _ => ⟨fun _ => ?_, fun z => ?_⟩⟩
      · have hp := h f
        rw [if_pos h0] at hp
        exact ⟨fun _ => hp, fun z => absurd (by decide) z⟩
      · rw [h0] at z; exact absurd (Int32.le_refl _) z
    · have c2 : ¬ nI N ≤ 0 := nI_nle (by omega) (by omega)
      refine ⟨101, fun z => absurd z (by decide), fun _ => ⟨fun z => absurd z c2, fun _ => ?_⟩⟩
      refine one f hf 0 (by omega) (-6) 1000000 (Nat.le_refl _) _ ?_
      have this := hours f hf h0 99 1 (by omega) (by omega)
      rw [mnS_1 N _ hW] at this
      have q : wS N (fun h => ct (rrS hh rg c h) 19) 0 < 1000000 := by have := hW 0; omega
      rw [if_pos q, if_pos q]
      exact this
  have codes : ∀ d k f, k + d = 1900 → LsF (gS hh rg c) k f → pX7_ask_b18 (nI c) st a post (d + 1) (nI (ct (gS hh rg c) k)) (nI (200 + k)) f := by
    intro d
    induction d with
    | zero =>
      intro k f hk hf
      have e : k = 1900 := by omega
      subst e
      refine ⟨fun _ => ?_, fun z => absurd (by decide) z⟩
      rw [← eN]
      exact start f hf
    | succ d ih =>
      intro k f hk hf
      have c1 : ¬ (2100 : Int32) ≤ nI (200 + k) := nI_ge (b := 2100) (by omega) (by decide)
      have hb := gS_le hh rg c k (by omega)
      refine ⟨fun z => absurd z c1, fun _ => ?_⟩
      refine isf7 hc h1 h2 (by omega) (by omega) ?_
      cases hq : fcS hh rg c (200 + k) with
      | false =>
        have hg : gS hh rg c k = false := hq
        have this := ih (k + 1) f (by omega) (LsF_f hf hg)
        rw [ct_s0 hg] at this
        exact b_e0 (fun v ev => by rw [ev, nI_1]; exact this)
      | true =>
        have hg : gS hh rg c k = true := hq
        have this := ih (k + 1) _ (by omega) (LsF_t hf hg (by omega))
        rw [ct_s1 hg] at this
        refine b_e1 ⟨vp_in_nI (by omega) (by decide), fun v ev v2 ev2 => ?_⟩
        rw [ev, ev2, nI_1, nI_1, nI_clamp (by omega)]
        exact this
  exact ⟨1901, codes 1900 0 fi (by omega) (LsF_0 _ _)⟩
end Ask

theorem case17 {n : Nat} {xs : Nat → Int32} {i : Nat} {X : XT} {M : MT} {K : XT → MT → Prop} (hI : Inv n X M) (hK : ∀ X M, Inv (n + 1) X M → K X M) : lc17 xs i X M K := by
  obtain ⟨w, sg, pd, tl, i0, i1⟩ := X
  obtain ⟨bk, nw, sh, kn, sgs, sgt, sns, pad, mA, mW, rs, ac, hd, tk, wo, fi, wi, wy, im, ik⟩ := M
  have hI1 := Inv.up hI
  obtain ⟨hR, hO, hS, hP, h0, h1, hw⟩ := hI
  dsimp only at hR hO hS hP h0 h1 hw
  unfold lc17 pX6_rounds
  dsimp only
  obtain ⟨sc, hrs, rgs⟩ := sg
  obtain ⟨hp1, c, hc, hp2, hp3⟩ := hS
  dsimp only at hp1 hp3 ⊢
  subst hp1
  have g1 : ∀ j, j < c → (hrs j).toNatClampNeg < 100 ∧ hrs j = nI ((hrs j).toNatClampNeg) := fun j hj => by
    obtain ⟨⟨a, ha, e⟩, -⟩ := hp3 j hj
    rw [e, nI_clamp (by omega)]
    exact ⟨ha, rfl⟩
  have g2 : ∀ j, j < c → rgs j = 0 ∨ rgs j = 1 := fun j hj => (hp3 j hj).2.2.2
  have g3 : ∀ j, j < c → (hrs j).toNatClampNeg < 100 ∧ sgt (2 * j) = nI ((hrs j).toNatClampNeg) := fun j hj => ⟨(g1 j hj).1, by rw [← (hp3 j hj).2.1]; exact (g1 j hj).2⟩
  have g4 : ∀ j, j < c → sgt (2 * j + 1) = rgs j ∧ (rgs j = 0 ∨ rgs j = 1) := fun j hj => ⟨(hp3 j hj).2.2.1.symm, g2 j hj⟩
  generalize hh : (fun j => (hrs j).toNatClampNeg) = H at *
  have g1 : ∀ j, j < c → H j < 100 ∧ hrs j = nI (H j) := fun j hj => by rw [← hh]; exact g1 j hj
  have g3 : ∀ j, j < c → H j < 100 ∧ sgt (2 * j) = nI (H j) := fun j hj => by rw [← hh]; exact g3 j hj
  subst hp2
  refine ⟨fun z => fr3 hc g1 g2 _ (rds7 hc g3 g4 _ ⟨?_, hK _ _ hI1⟩), fun z => frs3 hc g1 g2 (rds7 hc g3 g4 _ ⟨?_, hK _ _ hI1⟩)⟩
  · rw [if_neg z]
  · rw [if_pos z, z, vS_m1 1900 0 (by omega) (fun j hj => gS_le _ _ _ j hj)]

theorem case18 {n : Nat} {xs : Nat → Int32} {i : Nat} {X : XT} {M : MT} {K : XT → MT → Prop} (hI : Inv n X M) (hK : ∀ X M, Inv (n + 1) X M → K X M) : lc18 xs i X M K := by
  obtain ⟨w, sg, pd, tl, i0, i1⟩ := X
  obtain ⟨bk, nw, sh, kn, sgs, sgt, sns, pad, mA, mW, rs, ac, hd, tk, wo, fi, wi, wy, im, ik⟩ := M
  have hI1 := Inv.up hI
  obtain ⟨hR, hO, hS, hP, h0, h1, hw⟩ := hI
  dsimp only at hR hO hS hP h0 h1 hw
  unfold lc18 pX6_ask pX7_ask
  dsimp only
  obtain ⟨sc, hrs, rgs⟩ := sg
  obtain ⟨hp1, c, hc, hp2, hp3⟩ := hS
  dsimp only at hp1 hp3 ⊢
  subst hp1
  have g1 : ∀ j, j < c → (hrs j).toNatClampNeg < 100 ∧ hrs j = nI ((hrs j).toNatClampNeg) := fun j hj => by
    obtain ⟨⟨a, ha, e⟩, -⟩ := hp3 j hj
    rw [e, nI_clamp (by omega)]
    exact ⟨ha, rfl⟩
  have g2 : ∀ j, j < c → rgs j = 0 ∨ rgs j = 1 := fun j hj => (hp3 j hj).2.2.2
  have g3 : ∀ j, j < c → (hrs j).toNatClampNeg < 100 ∧ sgt (2 * j) = nI ((hrs j).toNatClampNeg) := fun j hj => ⟨(g1 j hj).1, by rw [← (hp3 j hj).2.1]; exact (g1 j hj).2⟩
  have g4 : ∀ j, j < c → sgt (2 * j + 1) = rgs j ∧ (rgs j = 0 ∨ rgs j = 1) := fun j hj => ⟨(hp3 j hj).2.2.1.symm, g2 j hj⟩
  generalize hh : (fun j => (hrs j).toNatClampNeg) = H at *
  have g1 : ∀ j, j < c → H j < 100 ∧ hrs j = nI (H j) := fun j hj => by rw [← hh]; exact g1 j hj
  have g3 : ∀ j, j < c → H j < 100 ∧ sgt (2 * j) = nI (H j) := fun j hj => by rw [← hh]; exact g3 j hj
  subst hp2
  obtain ⟨k1, k2, k3, k4, k5, k6, k7⟩ := id hI1
  dsimp only at k1 k2 k3 k4 k5 k6 k7
  rcases rng (xs (i + 1)) 0 1 with ⟨j, hj1, hj2, e⟩ | hne
  · refine in6_t 0 1 j e hj1 hj2 (by decide) (b_n1 ?_)
    refine frs3 hc g1 g2 ?_
    have hb := gS_le H rgs c 1900 (Nat.le_refl _)
    have hY : ∀ h, ct (rrS H rgs c h) 19 ≤ ct (gS H rgs c) 1900 := fun h => by
      rw [← yes_eq (hh := H) (rg := rgs) (c := c) h 19 (Nat.le_refl _)]
      exact ct_le_of (fun k _ q => by simp only [Bool.and_eq_true] at q; exact q.1)
    generalize hNe : ct (gS H rgs c) 1900 = N at *
    refine ⟨fun z v ev => ?_, fun z => ?_⟩
    · have h0 : N ≠ 0 := fun q => z (by rw [q]; rfl)
      rw [ev, nI_1]
      refine ask6 hc g1 g2 _ N hb hY ?_
      refine in7_t 0 1 j e hj1 hj2 (by decide) (b_n1 ?_)
      refine ask7 hc g3 g4 _ N hNe.symm hY fi (fun f => ⟨?_, hK _ _ (inv_mk k1 k2 k3 k4 k5 k6 k7)⟩)
      rw [if_neg h0]
    · have h0 : N = 0 := by
        have := (nI_eq (a := N) (b := 0) (by omega) (by decide)).mp z
        exact this
      refine in7_t 0 1 j e hj1 hj2 (by decide) (b_n1 ?_)
      refine ask7 hc g3 g4 _ N hNe.symm hY fi (fun f => ⟨?_, hK _ _ (inv_mk k1 k2 k3 k4 k5 k6 k7)⟩)
      rw [if_pos h0]
  · refine in6_f 0 1 hne (by decide) (by decide) (b_n0 ?_)
    refine in7_f 0 1 hne (by decide) (by decide) (b_n0 ?_)
    exact ⟨rfl, hK _ _ hI1⟩
