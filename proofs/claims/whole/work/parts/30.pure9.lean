/-! ===== PURE 9: walking, leaving, finding; who met ===== -/
theorem m1_ne (q : Nat) (hq : q < 2 ^ 31) : (-1 : Int32) ≠ nI q := fun e => nI_nm (a := q) (k := 1) hq (by decide) (by decide) e.symm
theorem act_walk {B : Nat} {w : WT} {nw : Nat → Int32} (hR : Rw w w.2.2.2.1 w.2.2.2.2.1 nw) (hO : Ow B w) (j : Nat) (hj : j ≤ 5) (nu sg by_ : Int32) (hs : (sg = 62 ∧ by_ = 1) ∨ (sg = 60 ∧ by_ = -1)) : ActOk B w nw sg (nI j) nu (fun post => pX7_walk w.2.2.2.1 nw (nI j) by_ post) := by
  obtain ⟨d, h, y, s, k, pl, co, ly⟩ := w
  obtain ⟨-, -, -, -, ⟨S, hS, eS, hpl⟩, -⟩ := id hO
  dsimp only at eS hpl hR ⊢
  have v45 : vp_in (nI j) 45 := vp_in_nI (by omega) (by decide)
  have ej : pl j = nw j := hR.2.2.2.2.2.1 j (by omega)
  have hsg : sg = 36 ∨ sg = 41 ∨ sg = 60 ∨ sg = 62 ∨ sg = 37 := by rcases hs with ⟨e, -⟩ | ⟨e, -⟩ <;> simp [e]
  have hmv : sg = 40 ∨ sg = 62 ∨ sg = 60 := by rcases hs with ⟨e, -⟩ | ⟨e, -⟩ <;> simp [e]
  rcases hpl j (by omega) with em | ⟨a, ha, ea⟩
  · have m0 : ¬ 0 ≤ nw j := by rw [← ej, em]; decide
    refine ⟨1, (d, h, y, s, k, pl, co, ly), nw, by omega, rea_in hj hsg (fun post hp => in_out hj em hp), fun q => absurd q (by decide), fun post hp => ⟨v45, ?_⟩, fun q => absurd q (by decide), fun _ => rfl⟩
    rw [nI_clamp (by omega)]
    exact ⟨fun q => absurd q m0, fun _ => hp⟩
  · have m0 : 0 ≤ nw j := by rw [← ej, ea]; exact nI_pos' (by omega)
    have ea7 : nw j = nI a := by rw [← ej]; exact ea
    have es1 : s - 1 = nI (S - 1) := by rw [eS]; exact pk_sub (b := 1) (by omega)
    -- to a place b
    have yes : ∀ b : Nat, b < S → b ≠ a → nI a + by_ = nI b → (sg = 62 → pl j + 1 = nI b) → (sg = 60 → pl j - 1 = nI b) → (sg = 62 → ¬ s ≤ nI a + 1) → (sg = 60 → ¬ nI a ≤ 0) → ActOk B (d, h, y, s, k, pl, co, ly) nw sg (nI j) nu (fun post => pX7_walk s nw (nI j) by_ post) := by
      intro b hb hba eb e62 e60 n62 n60
      refine ⟨0, (d, h, y, s, k, upd pl j (nI b), co, ly), upd nw j (nI b), by omega, rea_in hj hsg (fun post hp => in_at hj (by omega) ea ⟨fun q => ?_, fun q => ?_, fun q => ⟨fun z => absurd z (n60 q), fun _ => hp⟩, fun q => ⟨fun z => absurd z (n62 q), fun _ => hp⟩, fun _ _ q1 q2 => ?_⟩), fun _ post hp => per_by hj hsg ⟨fun q => ?_, fun q => ?_, fun q => by rw [e60 q]; exact hp, fun q => by rw [e62 q]; exact hp, fun q => ?_⟩, fun post hp => ⟨v45, ?_⟩, fun _ => ⟨updRw hR j hj _, updOw hO j _ (Or.inr ⟨b, S, hb, eS, hS, rfl⟩), Or.inl ⟨hmv, j, hj, rfl, fun q _ hq => pk_un hq, ?_, ?_⟩⟩, fun q => absurd rfl q⟩
      · rcases hs with ⟨e, -⟩ | ⟨e, -⟩ <;> (rw [e] at q; exact absurd q (by decide))
      · rcases hs with ⟨e, -⟩ | ⟨e, -⟩ <;> (rw [e] at q; exact absurd q (by decide))
      · rcases hs with ⟨e, -⟩ | ⟨e, -⟩
        · exact absurd e q2
        · exact absurd e q1
      · rcases hs with ⟨e, -⟩ | ⟨e, -⟩ <;> (rw [e] at q; exact absurd q (by decide))
      · rcases hs with ⟨e, -⟩ | ⟨e, -⟩ <;> (rw [e] at q; exact absurd q (by decide))
      · rcases hs with ⟨e, -⟩ | ⟨e, -⟩ <;> (rw [e] at q; exact absurd q (by decide))
      · rw [nI_clamp (by omega)]
        refine ⟨fun _ => ⟨v45, ?_⟩, fun q => absurd m0 q⟩
        rw [es1, ea7, eb]
        exact in7_t 0 (S - 1) b rfl (by omega) (by omega) (by omega) (b_n1 ⟨v45, fun v ev => ⟨v45, by rw [ev]; exact hp⟩⟩)
      · rw [pk_us, ea7, nI_eq (by omega) (by omega)]; exact hba
      · rw [pk_us]; exact nI_pos (by omega)
    have no : (∀ q, 0 ≤ q → q ≤ S - 1 → nI a + by_ ≠ nI q) → (sg = 62 → s ≤ nI a + 1) → (sg = 60 → nI a ≤ 0) → ActOk B (d, h, y, s, k, pl, co, ly) nw sg (nI j) nu (fun post => pX7_walk s nw (nI j) by_ post) := by
      intro hne n62 n60
      refine ⟨4, (d, h, y, s, k, pl, co, ly), nw, by omega, rea_in hj hsg (fun post hp => in_at hj (by omega) ea ⟨fun q => ?_, fun q => ?_, fun q => ⟨fun _ => hp, fun z => absurd (n60 q) z⟩, fun q => ⟨fun _ => hp, fun z => absurd (n62 q) z⟩, fun _ _ q1 q2 => ?_⟩), fun q => absurd q (by decide), fun post hp => ⟨v45, ?_⟩, fun q => absurd q (by decide), fun _ => rfl⟩
      · rcases hs with ⟨e, -⟩ | ⟨e, -⟩ <;> (rw [e] at q; exact absurd q (by decide))
      · rcases hs with ⟨e, -⟩ | ⟨e, -⟩ <;> (rw [e] at q; exact absurd q (by decide))
      · rcases hs with ⟨e, -⟩ | ⟨e, -⟩
        · exact absurd e q2
        · exact absurd e q1
      · rw [nI_clamp (by omega)]
        refine ⟨fun _ => ⟨v45, ?_⟩, fun q => absurd m0 q⟩
        rw [es1, ea7]
        exact in7_f 0 (S - 1) hne (by omega) (by decide) (b_n0 hp)
    rcases hs with ⟨e, eb⟩ | ⟨e, eb⟩
    · have e1 : nI a + by_ = nI (a + 1) := by rw [eb]; exact nI_1 a
      by_cases hc : a + 1 < S
      · exact yes (a + 1) hc (by omega) e1 (fun _ => by rw [ea]; exact nI_1 a) (fun q => by rw [e] at q; exact absurd q (by decide)) (fun _ => by rw [eS, nI_1]; exact nI_ge hc (by omega)) (fun q => by rw [e] at q; exact absurd q (by decide))
      · exact no (fun q _ hq z => by rw [e1, nI_eq (by omega) (by omega)] at z; omega) (fun _ => by rw [eS, nI_1]; exact nI_le (by omega) (by omega)) (fun q => by rw [e] at q; exact absurd q (by decide))
    · by_cases hc : 0 < a
      · have e1 : nI a + by_ = nI (a - 1) := by rw [eb]; exact sb_m1 hc
        exact yes (a - 1) (by omega) (by omega) e1 (fun q => by rw [e] at q; exact absurd q (by decide)) (fun _ => by rw [ea]; exact pk_sub (b := 1) (by omega)) (fun q => by rw [e] at q; exact absurd q (by decide)) (fun _ => nI_nle hc (by omega))
      · have ha0 : a = 0 := by omega
        subst ha0
        have e1 : nI 0 + by_ = -1 := by rw [eb]; decide
        exact no (fun q _ hq z => m1_ne q (by omega) (e1.symm.trans z)) (fun q => by rw [e] at q; exact absurd q (by decide)) (fun _ => Int32.le_refl _)
theorem act_leave {B : Nat} {w : WT} {nw : Nat → Int32} (hR : Rw w w.2.2.2.1 w.2.2.2.2.1 nw) (hO : Ow B w) (j : Nat) (hj : j ≤ 5) (m : Nat) (hm : m ≤ 9) (hB : B ≤ 1000000) : ActOk B w nw 36 (nI j) (nI m) (fun post => pX7_leave nw (nI j) (nI m) post) := by
  obtain ⟨d, h, y, s, k, pl, co, ly⟩ := w
  obtain ⟨f1, f2, f3, f4, ⟨S, hS, eS, hpl⟩, f6⟩ := id hO
  obtain ⟨g1, g2, g3, g4, g5, g6, g7, g8⟩ := id hR
  dsimp only at eS hpl hR f1 f2 f3 f4 f6 g1 g2 g3 g6 g7 g8 ⊢
  have v45 : vp_in (nI j) 45 := vp_in_nI (by omega) (by decide)
  have ej : pl j = nw j := g6 j (by omega)
  have ec : co j = nw (6 + j) := g7 j (by omega)
  have e6 : (6 : Int32) + nI j = nI (6 + j) := nI_add 6 j
  have v6j : vp_in (nI (6 + j)) 45 := vp_in_nI (by omega) (by decide)
  have hsg : (36 : Int32) = 36 ∨ (36 : Int32) = 41 ∨ (36 : Int32) = 60 ∨ (36 : Int32) = 62 ∨ (36 : Int32) = 37 := Or.inl rfl
  rcases hpl j (by omega) with em | ⟨a, ha, ea⟩
  · have m0 : ¬ 0 ≤ nw j := by rw [← ej, em]; decide
    refine ⟨1, (d, h, y, s, k, pl, co, ly), nw, by omega, rea_in hj hsg (fun post hp => in_out hj em hp), fun q => absurd q (by decide), fun post hp => ⟨v45, ?_⟩, fun q => absurd q (by decide), fun _ => rfl⟩
    rw [nI_clamp (by omega)]
    exact ⟨fun q => absurd q m0, fun _ => hp⟩
  · have m0 : 0 ≤ nw j := by rw [← ej, ea]; exact nI_pos' (by omega)
    have ea7 : nw j = nI a := by rw [← ej]; exact ea
    by_cases hc : co j < nI m
    · refine ⟨5, (d, h, y, s, k, pl, co, ly), nw, by omega, rea_in hj hsg (fun post hp => in_at hj (by omega) ea ⟨fun _ => ⟨fun _ => hp, fun q => absurd hc q⟩, fun q => absurd q (by decide), fun q => absurd q (by decide), fun q => absurd q (by decide), fun q _ _ _ => absurd rfl q⟩), fun q => absurd q (by decide), fun post hp => ⟨v45, ?_⟩, fun q => absurd q (by decide), fun _ => rfl⟩
      have hc7 : ¬ nI m ≤ nw (6 + j) := by rw [← ec]; exact Int32.not_le.mpr hc
      rw [e6, nI_clamp (by omega), nI_clamp (by omega)]
      exact ⟨fun _ => ⟨v6j, fun q => absurd q hc7, fun _ => hp⟩, fun q => absurd m0 q⟩
    · have hc7 : nI m ≤ nw (6 + j) := by rw [← ec]; exact Int32.not_lt.mp hc
      obtain ⟨b, hb, eb⟩ := f6 a (by omega)
      have eb7 : nw (12 + a) = nI b := by rw [← g8 a (by omega)]; exact eb
      have e12 : (12 : Int32) + nI a = nI (12 + a) := nI_add 12 a
      have v12 : vp_in (nI (12 + a)) 45 := vp_in_nI (by omega) (by decide)
      refine ⟨0, (d, h, y, s, k, pl, upd co j (co j - nI m), upd ly a (ly a + nI m)), upd (upd nw (6 + j) (nw (6 + j) - nI m)) (12 + a) (nw (12 + a) + nI m), by omega, rea_in hj hsg (fun post hp => in_at hj (by omega) ea ⟨fun _ => ⟨fun q => absurd q hc, fun _ => hp⟩, fun q => absurd q (by decide), fun q => absurd q (by decide), fun q => absurd q (by decide), fun q _ _ _ => absurd rfl q⟩), fun _ post hp => per_by hj hsg ⟨fun _ => mvc5 hj (by omega) ea _ hp, fun q => absurd q (by decide), fun q => absurd q (by decide), fun q => absurd q (by decide), fun q => absurd q (by decide)⟩, fun post hp => ⟨v45, ?_⟩, fun _ => ⟨⟨?_, ?_, ?_, rfl, rfl, fun q hq => ?_, fun q hq => ?_, fun q hq => ?_⟩, ⟨f1, f2, f3, f4, ⟨S, hS, eS, hpl⟩, fun q hq => ?_⟩, Or.inr ⟨by decide, by decide, by decide, fun a' b' ha' hb' q1 q2 => ?_⟩⟩, fun q => absurd rfl q⟩
      · rw [e6, nI_clamp (by omega), nI_clamp (by omega)]
        refine ⟨fun _ => ⟨v6j, fun _ => ⟨v6j, fun v ev => ⟨v6j, v45, ?_⟩⟩, fun q => absurd hc7 q⟩, fun q => absurd m0 q⟩
        rw [pk_un (show j ≠ 6 + j by omega), ea7, e12, nI_clamp (by omega), pk_un (show 12 + a ≠ 6 + j by omega)]
        refine ⟨v12, fun v2 ev2 => ⟨v12, ?_⟩⟩
        rw [ev, ev2]
        exact hp
      · dsimp only; rw [pk_un (by omega), pk_un (by omega)]; exact g1
      · dsimp only; rw [pk_un (by omega), pk_un (by omega)]; exact g2
      · dsimp only; rw [pk_un (by omega), pk_un (by omega)]; exact g3
      · dsimp only; rw [pk_un (by omega), pk_un (by omega)]; exact g6 q hq
      · dsimp only
        rw [pk_un (show 6 + q ≠ 12 + a by omega)]
        by_cases z : q = j
        · subst z; rw [pk_us, pk_us, ec]
        · rw [pk_un z, pk_un (by omega)]; exact g7 q hq
      · dsimp only
        by_cases z : q = a
        · subst z; rw [pk_us, pk_us, g8 q hq]
        · rw [pk_un z, pk_un (by omega), pk_un (by omega)]; exact g8 q hq
      · dsimp only
        by_cases z : q = a
        · subst z; rw [pk_us, eb, nI_add]; exact ⟨b + m, by omega, rfl⟩
        · rw [pk_un z]
          obtain ⟨z1, z2, z3⟩ := f6 q hq
          exact ⟨z1, by omega, z3⟩
      · rw [pk_un (show a' ≠ 12 + a by omega), pk_un (show a' ≠ 6 + j by omega)] at q1 q2
        rw [pk_un (show b' ≠ 12 + a by omega), pk_un (show b' ≠ 6 + j by omega)] at q2
        exact ⟨q1, q2⟩
theorem sub_neg_i (c x : Int32) : c - -x = c + x := by rw [Int32.sub_eq_add_neg, Int32.neg_neg]
theorem add_neg_i (x : Int32) : x + -x = 0 := Int32.add_right_neg x
theorem act_find {B : Nat} {w : WT} {nw : Nat → Int32} (hR : Rw w w.2.2.2.1 w.2.2.2.2.1 nw) (hO : Ow B w) (j : Nat) (hj : j ≤ 5) (nu : Int32) (hB : B ≤ 1000000) : ActOk B w nw 37 (nI j) nu (fun post => pX7_find nw (nI j) post) := by
  obtain ⟨d, h, y, s, k, pl, co, ly⟩ := w
  obtain ⟨f1, f2, f3, f4, ⟨S, hS, eS, hpl⟩, f6⟩ := id hO
  obtain ⟨g1, g2, g3, g4, g5, g6, g7, g8⟩ := id hR
  dsimp only at eS hpl hR f1 f2 f3 f4 f6 g1 g2 g3 g6 g7 g8 ⊢
  have v45 : vp_in (nI j) 45 := vp_in_nI (by omega) (by decide)
  have ej : pl j = nw j := g6 j (by omega)
  have ec : co j = nw (6 + j) := g7 j (by omega)
  have e6 : (6 : Int32) + nI j = nI (6 + j) := nI_add 6 j
  have v6j : vp_in (nI (6 + j)) 45 := vp_in_nI (by omega) (by decide)
  have hsg : (37 : Int32) = 36 ∨ (37 : Int32) = 41 ∨ (37 : Int32) = 60 ∨ (37 : Int32) = 62 ∨ (37 : Int32) = 37 := Or.inr (Or.inr (Or.inr (Or.inr rfl)))
  rcases hpl j (by omega) with em | ⟨a, ha, ea⟩
  · have m0 : ¬ 0 ≤ nw j := by rw [← ej, em]; decide
    refine ⟨1, (d, h, y, s, k, pl, co, ly), nw, by omega, rea_in hj hsg (fun post hp => in_out hj em hp), fun q => absurd q (by decide), fun post hp => ⟨v45, ?_⟩, fun q => absurd q (by decide), fun _ => rfl⟩
    rw [nI_clamp (by omega)]
    exact ⟨fun q => absurd q m0, fun _ => hp⟩
  · have m0 : 0 ≤ nw j := by rw [← ej, ea]; exact nI_pos' (by omega)
    have ea7 : nw j = nI a := by rw [← ej]; exact ea
    obtain ⟨b, hb, eb⟩ := f6 a (by omega)
    have eb7 : nw (12 + a) = nI b := by rw [← g8 a (by omega)]; exact eb
    have e12 : (12 : Int32) + nI a = nI (12 + a) := nI_add 12 a
    have v12 : vp_in (nI (12 + a)) 45 := vp_in_nI (by omega) (by decide)
    by_cases hc : b = 0
    · have z5 : ly a ≤ 0 := by rw [eb, hc]; exact Int32.le_refl _
      have z7 : nw (12 + a) = 0 := by rw [eb7, hc]; rfl
      refine ⟨6, (d, h, y, s, k, pl, co, ly), nw, by omega, rea_in hj hsg (fun post hp => in_at hj (by omega) ea ⟨fun q => absurd q (by decide), fun q => absurd q (by decide), fun q => absurd q (by decide), fun q => absurd q (by decide), fun _ _ _ _ => ⟨fun _ => hp, fun q => absurd z5 q⟩⟩), fun q => absurd q (by decide), fun post hp => ⟨v45, ?_⟩, fun q => absurd q (by decide), fun _ => rfl⟩
      rw [nI_clamp (by omega), ea7, e12]
      refine ⟨fun _ => ⟨v45, fun v ev => ?_⟩, fun q => absurd (by rw [← ea7]; exact m0) q⟩
      rw [ev, nI_clamp (by omega)]
      exact ⟨v12, fun q => absurd z7 q, fun _ => hp⟩
    · have z5 : ¬ ly a ≤ 0 := by rw [eb]; exact nI_nle (by omega) (by omega)
      have z7 : ¬ nw (12 + a) = 0 := by rw [eb7]; exact nI_ne0 (by omega) (by omega)
      refine ⟨0, (d, h, y, s, k, pl, upd co j (co j + ly a), upd ly a 0), upd (upd nw (6 + j) (nw (6 + j) + nw (12 + a))) (12 + a) 0, by omega, rea_in hj hsg (fun post hp => in_at hj (by omega) ea ⟨fun q => absurd q (by decide), fun q => absurd q (by decide), fun q => absurd q (by decide), fun q => absurd q (by decide), fun _ _ _ _ => ⟨fun q => absurd q z5, fun _ => hp⟩⟩), fun _ post hp => per_by hj hsg ⟨fun q => absurd q (by decide), fun q => absurd q (by decide), fun q => absurd q (by decide), fun q => absurd q (by decide), fun _ => lby5 hj (by omega) ea (mvc5 hj (by omega) ea _ ?_)⟩, fun post hp => ⟨v45, ?_⟩, fun _ => ⟨⟨?_, ?_, ?_, rfl, rfl, fun q hq => ?_, fun q hq => ?_, fun q hq => ?_⟩, ⟨f1, f2, f3, f4, ⟨S, hS, eS, hpl⟩, fun q hq => ?_⟩, Or.inr ⟨by decide, by decide, by decide, fun a' b' ha' hb' q1 q2 => ?_⟩⟩, fun q => absurd rfl q⟩
      · rw [sub_neg_i, add_neg_i]; exact hp
      · rw [nI_clamp (by omega), ea7, e12, e6]
        refine ⟨fun _ => ⟨v45, fun v ev => ?_⟩, fun q => absurd (by rw [← ea7]; exact m0) q⟩
        rw [ev, nI_clamp (by omega), nI_clamp (by omega)]
        exact ⟨v12, fun _ => ⟨v6j, v12, fun v2 ev2 => ⟨v6j, v12, by rw [ev2]; exact hp⟩⟩, fun q => absurd q z7⟩
      · dsimp only; rw [pk_un (by omega), pk_un (by omega)]; exact g1
      · dsimp only; rw [pk_un (by omega), pk_un (by omega)]; exact g2
      · dsimp only; rw [pk_un (by omega), pk_un (by omega)]; exact g3
      · dsimp only; rw [pk_un (by omega), pk_un (by omega)]; exact g6 q hq
      · dsimp only
        rw [pk_un (show 6 + q ≠ 12 + a by omega)]
        by_cases z : q = j
        · subst z; rw [pk_us, pk_us, ec, g8 a (by omega)]
        · rw [pk_un z, pk_un (by omega)]; exact g7 q hq
      · dsimp only
        by_cases z : q = a
        · subst z; rw [pk_us, pk_us]
        · rw [pk_un z, pk_un (by omega), pk_un (by omega)]; exact g8 q hq
      · dsimp only
        by_cases z : q = a
        · subst z; rw [pk_us]; exact ⟨0, by omega, rfl⟩
        · rw [pk_un z]
          obtain ⟨z1, z2, z3⟩ := f6 q hq
          exact ⟨z1, by omega, z3⟩
      · rw [pk_un (show a' ≠ 12 + a by omega), pk_un (show a' ≠ 6 + j by omega)] at q1 q2
        rw [pk_un (show b' ≠ 12 + a by omega), pk_un (show b' ≠ 6 + j by omega)] at q2
        exact ⟨q1, q2⟩
