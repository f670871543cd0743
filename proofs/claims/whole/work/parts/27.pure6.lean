/-! ===== PURE 6: the fault ===== -/
def stp (s x : Nat) : Nat :=
  if s = 0 then (if 65 ≤ x ∧ x ≤ 70 then 1 else if x = 104 ∨ x = 100 then 2 else if x = 107 then 0 else 3)
  else if s = 1 then (if x = 40 ∨ x = 41 ∨ x = 62 ∨ x = 60 ∨ x = 37 then 0 else if x = 36 then 2 else 3)
  else (if 49 ≤ x ∧ x ≤ 57 then 0 else 3)
def flV (P : Nat → Nat) (c : Nat) : Nat → Nat → Nat → Int32
  | 0, _, s => if s = 0 then -6 else nI c
  | d + 1, i, s => if stp s (P i) = 3 then nI i else flV P c d (i + 1) (stp s (P i))
theorem stp_le (s x : Nat) : stp s x ≤ 3 := by
  unfold stp
  repeat' split
  all_goals omega
theorem lit_ne {a b : Nat} (ha : a < 2 ^ 31) (hb : b < 2 ^ 31) (h : a ≠ b) : ¬ nI a = nI b := fun q => h ((nI_eq ha hb).mp q)
theorem stp7 {s x : Nat} (hs : s ≤ 2) (hx : x ≤ 126) {post : Int32 → Prop} (h : post (if stp s x = 3 then -6 else nI (stp s x))) : pX7_step (nI s) (nI x) post := by
  have ne : ∀ k, k < 2 ^ 31 → x ≠ k → ¬ nI x = nI k := fun k hk hq => lit_ne (by omega) hk hq
  rcases (show s = 0 ∨ s = 1 ∨ s = 2 by omega) with rfl | rfl | rfl
  · refine ⟨fun _ => ?_, fun q => absurd q (by decide), fun q _ => absurd rfl q⟩
    by_cases h1 : 65 ≤ x ∧ x ≤ 70
    · refine in7_t 65 70 x rfl h1.1 h1.2 (by decide) (b_e1 ?_)
      simp only [stp, if_pos h1] at h
      exact h
    · refine in7_f 65 70 (fun j a b => ne j (by omega) (by omega)) (by decide) (by decide) (b_e0 ?_)
      by_cases h2 : x = 104
      · subst h2; exact ⟨fun _ => h, fun q => absurd rfl q⟩
      · refine ⟨fun q => absurd q (ne 104 (by decide) h2), fun _ => ?_⟩
        by_cases h3 : x = 100
        · subst h3; exact ⟨fun q => absurd rfl q, fun _ => h⟩
        · refine ⟨fun _ => ?_, fun q => absurd q (ne 100 (by decide) h3)⟩
          by_cases h4 : x = 107
          · subst h4; exact ⟨fun q => absurd rfl q, fun _ => h⟩
          · refine ⟨fun _ => ?_, fun q => absurd q (ne 107 (by decide) h4)⟩
            have e : stp 0 x = 3 := by unfold stp; rw [if_pos rfl, if_neg h1, if_neg (by omega), if_neg h4]
            rw [e, if_pos rfl] at h
            exact h
  · refine ⟨fun q => absurd q (by decide), fun _ => ?_, fun _ q => absurd rfl q⟩
    by_cases h1 : x = 40
    · subst h1; exact ⟨fun _ => h, fun q => absurd rfl q⟩
    · refine ⟨fun q => absurd q (ne 40 (by decide) h1), fun _ => ?_⟩
      by_cases h2 : x = 41
      · subst h2; exact ⟨fun _ => h, fun q => absurd rfl q⟩
      · refine ⟨fun q => absurd q (ne 41 (by decide) h2), fun _ => ?_⟩
        by_cases h3 : x = 62
        · subst h3; exact ⟨fun _ => h, fun q => absurd rfl q⟩
        · refine ⟨fun q => absurd q (ne 62 (by decide) h3), fun _ => ?_⟩
          by_cases h4 : x = 60
          · subst h4; exact ⟨fun _ => h, fun q => absurd rfl q⟩
          · refine ⟨fun q => absurd q (ne 60 (by decide) h4), fun _ => ?_⟩
            by_cases h5 : x = 37
            · subst h5; exact ⟨fun q => absurd rfl q, fun _ => h⟩
            · refine ⟨fun _ => ?_, fun q => absurd q (ne 37 (by decide) h5)⟩
              by_cases h6 : x = 36
              · subst h6; exact ⟨fun q => absurd rfl q, fun _ => h⟩
              · refine ⟨fun _ => ?_, fun q => absurd q (ne 36 (by decide) h6)⟩
                have e : stp 1 x = 3 := by unfold stp; rw [if_neg (by omega), if_pos rfl, if_neg (by omega), if_neg h6]
                rw [e, if_pos rfl] at h
                exact h
  · refine ⟨fun q => absurd q (by decide), fun q => absurd q (by decide), fun _ _ => ?_⟩
    by_cases h1 : 49 ≤ x ∧ x ≤ 57
    · refine in7_t 49 57 x rfl h1.1 h1.2 (by decide) (b_e1 ?_)
      simp only [stp, if_pos h1] at h
      exact h
    · refine in7_f 49 57 (fun j a b => ne j (by omega) (by omega)) (by decide) (by decide) (b_e0 ?_)
      simp only [stp, if_neg h1] at h
      exact h
theorem flt7 {c : Nat} (hc : c ≤ 60) {pd : Nat → Int32} {P : Nat → Nat} (hP : ∀ j, j < c → pd j = nI (P j) ∧ P j ≤ 126) {post : Int32 → Prop} (h : post (flV P c c 0 0)) : pX7_faultOf (nI c) pd post := by
  have key : ∀ d i s, i + d = c → s ≤ 2 → post (flV P c d i s) → pX7_faultOf_b4 (nI c) pd post (d + 1) (nI s) (nI i) := by
    intro d
    induction d with
    | zero =>
      intro i s hi hs hp
      have e : i = c := by omega
      subst e
      rw [flV] at hp
      refine ⟨fun _ => ⟨fun q => ?_, fun q => ?_⟩, fun q => absurd (Int32.le_refl _) q⟩
      · rw [if_neg (fun z => q (by rw [z]; rfl))] at hp; exact hp
      · rw [if_pos ((nI_eq (a := s) (b := 0) (by omega) (by decide)).mp q)] at hp; exact hp
    | succ d ih =>
      intro i s hi hs hp
      have c1 : ¬ nI c ≤ nI i := nI_ge (by omega) (by omega)
      obtain ⟨e1, e2⟩ := hP i (by omega)
      refine ⟨fun q => absurd q c1, fun _ => ⟨vp_in_nI (by omega) (by decide), ?_⟩⟩
      rw [nI_clamp (by omega), e1]
      refine stp7 hs e2 ?_
      rw [flV] at hp
      by_cases h3 : stp s (P i) = 3
      · rw [if_pos h3] at hp ⊢
        exact ⟨fun q => absurd q (by decide), fun _ => hp⟩
      · rw [if_neg h3] at hp ⊢
        have := stp_le s (P i)
        refine ⟨fun _ v ev => ?_, fun q => absurd (nI_pos' (by omega)) q⟩
        rw [ev, nI_1]
        exact ih (i + 1) _ (by omega) (by omega) hp
  exact ⟨c + 1, key c 0 0 (by omega) (by omega) h⟩
theorem sgn2 {c i : Nat} (hc : c ≤ 60) (hi : i < c) {sg : Nat → Int32} {post : Int32 → Prop} (h : post (sg i)) : pX2_signAt (nI c) sg (nI i) post := by
  intro v ev
  have e : v = nI c := by
    rw [ev, if_neg]
    exact nI_nlt (a := 60) hc (by omega)
  rw [e, show nI c - 1 = nI (c - 1) from pk_sub (b := 1) (by omega)]
  refine in6_t 0 (c - 1) i rfl (by omega) (by omega) (by omega) (b_e1 ⟨vp_in_nI (by omega) (by decide), ?_⟩)
  rw [nI_clamp (by omega)]
  exact h
theorem let2 {x : Nat} (hx : x ≤ 126) {post : Int32 → Prop} (h : post (b2i (decide (65 ≤ x ∧ x ≤ 70)))) : pX2_isLetter (nI x) post := by
  by_cases h1 : 65 ≤ x ∧ x ≤ 70
  · rw [decide_eq_true h1] at h
    exact in6_t 65 70 x rfl h1.1 h1.2 (by decide) ⟨zb_1, h⟩
  · rw [decide_eq_false h1] at h
    exact in6_f 65 70 (fun j a b => lit_ne (by omega) (by omega) (by omega)) (by decide) (by decide) ⟨zb_0, h⟩
theorem dee2 {x : Nat} (hx : x ≤ 126) {post : Int32 → Prop} (h : post (b2i (decide (x = 40 ∨ x = 41 ∨ x = 62 ∨ x = 60 ∨ x = 36 ∨ x = 37)))) : pX2_isDeed (nI x) post := by
  have ne : ∀ k, k < 2 ^ 31 → x ≠ k → ¬ nI x = nI k := fun k hk hq => lit_ne (by omega) hk hq
  by_cases h1 : x = 40
  · subst h1; exact ⟨fun _ => h, fun q => absurd rfl q⟩
  · refine ⟨fun q => absurd q (ne 40 (by decide) h1), fun _ => ?_⟩
    by_cases h2 : x = 41
    · subst h2; exact ⟨fun _ => h, fun q => absurd rfl q⟩
    · refine ⟨fun q => absurd q (ne 41 (by decide) h2), fun _ => ?_⟩
      by_cases h3 : x = 62
      · subst h3; exact ⟨fun _ => h, fun q => absurd rfl q⟩
      · refine ⟨fun q => absurd q (ne 62 (by decide) h3), fun _ => ?_⟩
        by_cases h4 : x = 60
        · subst h4; exact ⟨fun _ => h, fun q => absurd rfl q⟩
        · refine ⟨fun q => absurd q (ne 60 (by decide) h4), fun _ => ?_⟩
          by_cases h5 : x = 36
          · subst h5; exact ⟨fun _ => h, fun q => absurd rfl q⟩
          · refine ⟨fun q => absurd q (ne 36 (by decide) h5), fun _ => ?_⟩
            by_cases h6 : x = 37
            · subst h6; exact ⟨fun q => absurd rfl q, fun _ => h⟩
            · refine ⟨fun _ => ?_, fun q => absurd q (ne 37 (by decide) h6)⟩
              rw [decide_eq_false (by omega)] at h
              exact h
theorem ff2 {c : Nat} (hc : c ≤ 60) {sg : Nat → Int32} {P : Nat → Nat} (hP : ∀ j, j < c → sg j = nI (P j) ∧ P j ≤ 126) {post : Int32 → Prop} (h : post (flV P c c 0 0)) : pX2_firstFault (nI c) sg post := by
  have key : ∀ d i s, i + d = c → s ≤ 2 → post (flV P c d i s) → pX2_firstFault_b6 (nI c) sg post (d + 1) (b2i (decide (s = 1))) (b2i (decide (s = 2))) (nI i) := by
    intro d
    induction d with
    | zero =>
      intro i s hi hs hp
      have e : i = c := by omega
      subst e
      rw [flV] at hp
      refine ⟨fun _ => ?_, fun q => absurd (Int32.le_refl _) q⟩
      rcases (show s = 0 ∨ s = 1 ∨ s = 2 by omega) with rfl | rfl | rfl
      · exact b_n0 (b_e0 hp)
      · exact b_n1 hp
      · exact b_n0 (b_e1 hp)
    | succ d ih =>
      intro i s hi hs hp
      have c1 : ¬ nI c ≤ nI i := nI_ge (by omega) (by omega)
      obtain ⟨e1, e2⟩ := hP i (by omega)
      refine ⟨fun q => absurd q c1, fun _ => ?_⟩
      refine sgn2 hc (by omega) ?_
      rw [e1]
      rw [flV] at hp
      generalize P i = x at *
      have ne : ∀ k, k < 2 ^ 31 → x ≠ k → ¬ nI x = nI k := fun k hk hq => lit_ne (by omega) hk hq
      have go : ∀ t, t ≤ 2 → stp s x = t → pX2_firstFault_b6 (nI c) sg post (d + 1) (b2i (decide (t = 1))) (b2i (decide (t = 2))) (nI (i + 1)) := by
        intro t ht et
        rw [et, if_neg (by omega)] at hp
        exact ih (i + 1) t (by omega) ht hp
      have no : stp s x = 3 → post (nI i) := fun q => by rw [if_pos q] at hp; exact hp
      rcases (show s = 0 ∨ s = 1 ∨ s = 2 by omega) with rfl | rfl | rfl
      · refine b_e0 (b_e0 (let2 e2 ?_))
        by_cases h1 : 65 ≤ x ∧ x ≤ 70
        · rw [decide_eq_true h1]
          have g := go 1 (by omega) (by unfold stp; rw [if_pos rfl, if_pos h1])
          refine ⟨fun q => absurd q (ne 104 (by decide) (by omega)), fun _ => ⟨fun _ => ?_, fun q => absurd q (ne 100 (by decide) (by omega))⟩⟩
          exact ⟨fun _ v ev => by rw [ev, nI_1]; exact g, fun q => absurd q (by decide)⟩
        · rw [decide_eq_false h1]
          by_cases h2 : x = 104
          · have g := go 2 (by omega) (by unfold stp; rw [if_pos rfl, if_neg h1, if_pos (Or.inl h2)])
            refine ⟨fun _ => ?_, fun q => absurd (by rw [h2]; rfl) q⟩
            exact ⟨fun q => absurd rfl q, fun _ => ⟨fun _ v ev => by rw [ev, nI_1]; exact g, fun q => absurd q (by decide)⟩⟩
          · refine ⟨fun q => absurd q (ne 104 (by decide) h2), fun _ => ?_⟩
            by_cases h3 : x = 100
            · have g := go 2 (by omega) (by unfold stp; rw [if_pos rfl, if_neg h1, if_pos (Or.inr h3)])
              refine ⟨fun q => absurd (by rw [h3]; rfl) q, fun _ => ?_⟩
              exact ⟨fun q => absurd rfl q, fun _ => ⟨fun _ v ev => by rw [ev, nI_1]; exact g, fun q => absurd q (by decide)⟩⟩
            · refine ⟨fun _ => ?_, fun q => absurd q (ne 100 (by decide) h3)⟩
              refine ⟨fun q => absurd rfl q, fun _ => ⟨fun q => absurd rfl q, fun _ => ?_⟩⟩
              by_cases h4 : x = 107
              · have g := go 0 (by omega) (by unfold stp; rw [if_pos rfl, if_neg h1, if_neg (by omega), if_pos h4])
                exact ⟨fun _ v ev => by rw [ev, nI_1]; exact g, fun q => absurd (by rw [h4]; rfl) q⟩
              · exact ⟨fun q => absurd q (ne 107 (by decide) h4), fun _ => no (by unfold stp; rw [if_pos rfl, if_neg h1, if_neg (by omega), if_neg h4])⟩
      · refine b_e0 (b_e1 (dee2 e2 ?_))
        by_cases h1 : x = 40 ∨ x = 41 ∨ x = 62 ∨ x = 60 ∨ x = 36 ∨ x = 37
        · rw [decide_eq_true h1]
          refine b_n1 ?_
          by_cases h2 : x = 36
          · have g := go 2 (by omega) (by unfold stp; rw [if_neg (by omega), if_pos rfl, if_neg (by omega), if_pos h2])
            exact ⟨fun q => absurd (by rw [h2]; rfl) q, fun _ v ev => by rw [ev, nI_1]; exact g⟩
          · have g := go 0 (by omega) (by unfold stp; rw [if_neg (by omega), if_pos rfl, if_pos (by omega)])
            exact ⟨fun _ v ev => by rw [ev, nI_1]; exact g, fun q => absurd q (ne 36 (by decide) h2)⟩
        · rw [decide_eq_false h1]
          exact b_n0 (no (by unfold stp; rw [if_neg (by omega), if_pos rfl, if_neg (by omega), if_neg (by omega)]))
      · refine b_e1 ?_
        by_cases h1 : 49 ≤ x ∧ x ≤ 57
        · have g := go 0 (by omega) (by unfold stp; rw [if_neg (by omega), if_neg (by omega), if_pos h1])
          exact in6_t 49 57 x rfl h1.1 h1.2 (by decide) (b_n1 (fun v ev => by rw [ev, nI_1]; exact g))
        · refine in6_f 49 57 (fun j a b => ne j (by omega) (by omega)) (by decide) (by decide) (b_n0 (no ?_))
          unfold stp; rw [if_neg (by omega), if_neg (by omega), if_neg h1]
  exact ⟨c + 1, key c 0 0 (by omega) (by omega) h⟩
