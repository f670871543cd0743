/-! ===== PURE 8: the acts of persons ===== -/
theorem knl5 (d h k : Int32) {post : Int32 → Prop} (hp : post (b2i (decide (d = k ∧ h = 0)))) : pX5_kneelNow d h k post := by
  by_cases h1 : d = k
  · by_cases h2 : h = 0
    · rw [decide_eq_true ⟨h1, h2⟩] at hp
      exact ⟨fun q => absurd h1 q, fun _ => ⟨fun q => absurd h2 q, fun _ => hp⟩⟩
    · rw [decide_eq_false (fun q => h2 q.2)] at hp
      exact ⟨fun q => absurd h1 q, fun _ => ⟨fun _ => hp, fun q => absurd q h2⟩⟩
  · rw [decide_eq_false (fun q => h1 q.1)] at hp
    exact ⟨fun _ => hp, fun q => absurd q h1⟩
theorem knl7 (k : Int32) (nw : Nat → Int32) {post : Int32 → Prop} (hp : post (b2i (decide (nw 42 = k ∧ nw 43 = 0)))) : pX7_isKneeling k nw post := by
  by_cases h1 : nw 42 = k
  · by_cases h2 : nw 43 = 0
    · rw [decide_eq_true ⟨h1, h2⟩] at hp
      exact ⟨fun q => absurd h1 q, fun _ => ⟨fun q => absurd h2 q, fun _ => hp⟩⟩
    · rw [decide_eq_false (fun q => h2 q.2)] at hp
      exact ⟨fun q => absurd h1 q, fun _ => ⟨fun _ => hp, fun q => absurd q h2⟩⟩
  · rw [decide_eq_false (fun q => h1 q.1)] at hp
    exact ⟨fun _ => hp, fun q => absurd q h1⟩
theorem updRw {d h y s k : Int32} {pl co ly nw : Nat → Int32} (hR : Rw (d, h, y, s, k, pl, co, ly) s k nw) (j : Nat) (hj : j ≤ 5) (v : Int32) : Rw (d, h, y, s, k, upd pl j v, co, ly) s k (upd nw j v) := by
  obtain ⟨g1, g2, g3, g4, g5, g6, g7, g8⟩ := hR
  dsimp only at g1 g2 g3 g6 g7 g8
  refine ⟨?_, ?_, ?_, rfl, rfl, fun q hq => ?_, fun q hq => ?_, fun q hq => ?_⟩
  · dsimp only; rw [pk_un (by omega)]; exact g1
  · dsimp only; rw [pk_un (by omega)]; exact g2
  · dsimp only; rw [pk_un (by omega)]; exact g3
  · dsimp only
    by_cases e : q = j
    · subst e; rw [pk_us, pk_us]
    · rw [pk_un e, pk_un e]; exact g6 q hq
  · dsimp only; rw [pk_un (by omega)]; exact g7 q hq
  · dsimp only; rw [pk_un (by omega)]; exact g8 q hq
theorem updOw {B : Nat} {d h y s k : Int32} {pl co ly : Nat → Int32} (hO : Ow B (d, h, y, s, k, pl, co, ly)) (j : Nat) (v : Int32) (hv : v = -6 ∨ ∃ a S, a < S ∧ s = nI S ∧ S ≤ 30 ∧ v = nI a) : Ow (B + 9) (d, h, y, s, k, upd pl j v, co, ly) := by
  obtain ⟨f1, f2, f3, f4, ⟨S, hS, eS, f5⟩, f6⟩ := hO
  dsimp only at f1 f2 f3 f4 eS f5 f6
  refine ⟨f1, f2, f3, f4, ⟨S, hS, eS, fun q hq => ?_⟩, fun q hq => ?_⟩
  · dsimp only
    by_cases e : q = j
    · subst e
      rw [pk_us]
      rcases hv with hv | ⟨a, S', ha, eS', hS', ea⟩
      · exact Or.inl hv
      · have : S = S' := (nI_eq (by omega) (by omega)).mp (eS.symm.trans eS')
        subst this
        exact Or.inr ⟨a, ha, ea⟩
    · rw [pk_un e]; exact f5 q hq
  · obtain ⟨z, hz, ez⟩ := f6 q hq
    exact ⟨z, by omega, ez⟩
theorem act_over {B : Nat} {w : WT} {nw : Nat → Int32} (hR : Rw w w.2.2.2.1 w.2.2.2.2.1 nw) (hO : Ow B w) (j : Nat) (hj : j ≤ 5) (nu : Int32) : ActOk B w nw 40 (nI j) nu (fun post => pX7_stepOver w.2.2.2.1 w.2.2.2.2.1 nw (nI j) post) := by
  obtain ⟨d, h, y, s, k, pl, co, ly⟩ := w
  obtain ⟨-, -, -, -, ⟨S, hS, eS, hpl⟩, -⟩ := id hO
  dsimp only at eS hpl hR ⊢
  have v6 : vp_in (nI j) 6 := vp_in_nI (by omega) (by decide)
  have v45 : vp_in (nI j) 45 := vp_in_nI (by omega) (by decide)
  have ej : pl j = nw j := hR.2.2.2.2.2.1 j (by omega)
  have e42 : d = nw 42 := hR.1
  have e43 : h = nw 43 := hR.2.1
  -- the class's reason and the reference's, at a reason r
  have rea : ∀ r : Nat, (∀ post : Int32 → Prop, post (nI r) → pX5_reasonAgainstSteppingOver d h s k pl (nI j) post) → ∀ post : Int32 → Prop, post (nI r) → pX5_reasonAgainst d h y s k pl co ly 40 (nI j) nu post := fun r hh post hp => ⟨fun _ => hh _ hp, fun q => absurd q (by decide), fun q => absurd q (by decide), fun q => absurd q (by decide), fun q _ _ _ => absurd rfl q⟩
  rcases hpl j (by omega) with em | ⟨a, ha, ea⟩
  · have m0 : nw j < 0 := by rw [← ej, em]; decide
    by_cases hk : d = k ∧ h = 0
    · have hk7 : nw 42 = k ∧ nw 43 = 0 := ⟨e42.symm.trans hk.1, e43.symm.trans hk.2⟩
      by_cases hs0 : S = 0
      · refine ⟨3, (d, h, y, s, k, pl, co, ly), nw, by omega, rea 3 (fun post hp => ?_), fun q => absurd q (by decide), fun post hp => ?_, fun q => absurd q (by decide), fun _ => rfl⟩
        · refine per_t j rfl hj (b_e1 ⟨v6, ?_⟩)
          rw [nI_clamp (by omega)]
          refine ⟨fun _ => knl5 d h k ?_, fun q => absurd em q⟩
          rw [decide_eq_true hk]
          refine b_n1 ⟨fun _ => hp, fun q => absurd (by rw [eS, hs0]; exact Int32.le_refl _) q⟩
        · refine ⟨v45, ?_⟩
          rw [nI_clamp (by omega)]
          refine ⟨fun _ => knl7 k nw ?_, fun q => absurd m0 q⟩
          rw [decide_eq_true hk7]
          exact b_n1 ⟨fun q => absurd (by rw [eS, hs0]; rfl) q, fun _ => hp⟩
      · refine ⟨0, (d, h, y, s, k, upd pl j 0, co, ly), upd nw j 0, by omega, rea 0 (fun post hp => ?_), fun _ post hp => ?_, fun post hp => ?_, fun _ => ⟨updRw hR j hj 0, updOw hO j 0 (Or.inr ⟨0, S, by omega, eS, hS, rfl⟩), Or.inl ⟨Or.inl rfl, j, hj, rfl, fun q _ hq => pk_un hq, ?_, ?_⟩⟩, fun q => absurd rfl q⟩
        · refine per_t j rfl hj (b_e1 ⟨v6, ?_⟩)
          rw [nI_clamp (by omega)]
          refine ⟨fun _ => knl5 d h k ?_, fun q => absurd em q⟩
          rw [decide_eq_true hk]
          exact b_n1 ⟨fun q => absurd q (by rw [eS]; exact nI_nle (by omega) (by omega)), fun _ => hp⟩
        · refine ⟨fun q => absurd q (by decide), fun q => absurd q (by decide), fun q => absurd q (by decide), fun _ _ _ => ?_⟩
          refine per_t j rfl hj (b_n1 ?_)
          refine ⟨fun q => absurd q (by decide), fun _ => ⟨v6, ?_⟩, fun q => absurd q (by decide), fun q => absurd q (by decide), fun q => absurd q (by decide), fun _ q _ _ _ => absurd rfl q⟩
          rw [nI_clamp (by omega)]
          exact hp
        · refine ⟨v45, ?_⟩
          rw [nI_clamp (by omega)]
          refine ⟨fun _ => knl7 k nw ?_, fun q => absurd m0 q⟩
          rw [decide_eq_true hk7]
          refine b_n1 ⟨fun _ => ⟨v45, hp⟩, fun q => absurd q (by rw [eS]; exact nI_ne0 (by omega) (by omega))⟩
        · rw [pk_us, ← ej, em]; decide
        · rw [pk_us]; decide
    · have hk7 : ¬ (nw 42 = k ∧ nw 43 = 0) := fun q => hk ⟨e42.trans q.1, e43.trans q.2⟩
      refine ⟨2, (d, h, y, s, k, pl, co, ly), nw, by omega, rea 2 (fun post hp => ?_), fun q => absurd q (by decide), fun post hp => ?_, fun q => absurd q (by decide), fun _ => rfl⟩
      · refine per_t j rfl hj (b_e1 ⟨v6, ?_⟩)
        rw [nI_clamp (by omega)]
        refine ⟨fun _ => knl5 d h k ?_, fun q => absurd em q⟩
        rw [decide_eq_false hk]
        exact b_n0 hp
      · refine ⟨v45, ?_⟩
        rw [nI_clamp (by omega)]
        refine ⟨fun _ => knl7 k nw ?_, fun q => absurd m0 q⟩
        rw [decide_eq_false hk7]
        exact b_n0 hp
  · have nm : ¬ pl j = -6 := by rw [ea]; exact nI_nm (k := 6) (by omega) (by decide) (by decide)
    have m0 : ¬ nw j < 0 := by rw [← ej, ea]; exact nI_pos (by omega)
    refine ⟨1, (d, h, y, s, k, pl, co, ly), nw, by omega, rea 1 (fun post hp => ?_), fun q => absurd q (by decide), fun post hp => ?_, fun q => absurd q (by decide), fun _ => rfl⟩
    · refine per_t j rfl hj (b_e1 ⟨v6, ?_⟩)
      rw [nI_clamp (by omega)]
      exact ⟨fun q => absurd q nm, fun _ => hp⟩
    · refine ⟨v45, ?_⟩
      rw [nI_clamp (by omega)]
      exact ⟨fun q => absurd q m0, fun _ => hp⟩
/-- an act of one who is within: the class's reason -/
theorem rea_in {d h y s k : Int32} {pl co ly : Nat → Int32} {sg nu : Int32} {j : Nat} (hj : j ≤ 5) (hsg : sg = 36 ∨ sg = 41 ∨ sg = 60 ∨ sg = 62 ∨ sg = 37) {r : Nat}
    (hh : ∀ post : Int32 → Prop, post (nI r) → pX5_reasonAgainstActWithin d h s k pl co ly sg (nI j) nu post) : ∀ post : Int32 → Prop, post (nI r) → pX5_reasonAgainst d h y s k pl co ly sg (nI j) nu post := by
  intro post hp
  refine ⟨fun q => ?_, fun q => ?_, fun q => ?_, fun q => ?_, fun _ _ _ _ => hh _ hp⟩ <;> (rcases hsg with rfl | rfl | rfl | rfl | rfl <;> exact absurd q (by decide))
theorem in_out {d h s k : Int32} {pl co ly : Nat → Int32} {sg nu : Int32} {j : Nat} (hj : j ≤ 5) (em : pl j = -6) {post : Int32 → Prop} (hp : post 1) : pX5_reasonAgainstActWithin d h s k pl co ly sg (nI j) nu post := by
  refine per_t j rfl hj (b_e1 ⟨vp_in_nI (by omega) (by decide), ?_⟩)
  rw [nI_clamp (by omega), em]
  refine in6_f 0 29 (fun q _ hq e => nI_nm (a := q) (k := 6) (by omega) (by decide) (by decide) e.symm) (by decide) (by decide) (b_n0 hp)
theorem in_at {d h s k : Int32} {pl co ly : Nat → Int32} {sg nu : Int32} {j a : Nat} (hj : j ≤ 5) (ha : a < 30) (ea : pl j = nI a) {post : Int32 → Prop}
    (hp : (sg = 36 → (co j < nu → post 5) ∧ (¬ co j < nu → post 0)) ∧ (sg = 41 → pX5_kneelNow d h k (fun r12 => (r12 = 0 → post 2) ∧ (¬ r12 = 0 → post 0))) ∧ (sg = 60 → (nI a ≤ 0 → post 4) ∧ (¬ nI a ≤ 0 → post 0)) ∧ (sg = 62 → (s ≤ nI a + 1 → post 4) ∧ (¬ s ≤ nI a + 1 → post 0)) ∧ (¬ sg = 36 → ¬ sg = 41 → ¬ sg = 60 → ¬ sg = 62 → (ly a ≤ 0 → post 6) ∧ (¬ ly a ≤ 0 → post 0))) : pX5_reasonAgainstActWithin d h s k pl co ly sg (nI j) nu post := by
  have v6 : vp_in (nI j) 6 := vp_in_nI (by omega) (by decide)
  refine per_t j rfl hj (b_e1 ⟨v6, ?_⟩)
  rw [nI_clamp (by omega), ea]
  refine in6_t 0 29 a rfl (by omega) (by omega) (by decide) (b_n1 ⟨v6, fun v ev => ?_⟩)
  rw [ev, nI_clamp (by omega)]
  exact ⟨fun q => ⟨v6, hp.1 q⟩, hp.2.1, hp.2.2.1, hp.2.2.2.1, fun q1 q2 q3 q4 => ⟨vp_in_nI ha (by decide), hp.2.2.2.2 q1 q2 q3 q4⟩⟩
/-- what the class does by a person -/
theorem per_by {d h y k : Int32} {pl co ly : Nat → Int32} {sg nu : Int32} {j : Nat} (hj : j ≤ 5) (hsg : sg = 36 ∨ sg = 41 ∨ sg = 60 ∨ sg = 62 ∨ sg = 37) {post : (Int32 × Int32 × Int32 × (Nat → Int32) × (Nat → Int32) × (Nat → Int32)) → Prop}
    (hp : (sg = 36 → pX5_moveCoin pl co ly (nI j) nu (fun u => post (d, h, y, pl, u.1, u.2))) ∧ (sg = 41 → post (d, h, y, upd pl j (-6), co, ly)) ∧ (sg = 60 → post (d, h, y, upd pl j (pl j - 1), co, ly)) ∧ (sg = 62 → post (d, h, y, upd pl j (pl j + 1), co, ly)) ∧ (sg = 37 → pX5_liesBy pl ly (nI j) (fun r18 => pX5_moveCoin pl co ly (nI j) (-r18) (fun u => post (d, h, y, pl, u.1, u.2))))) : pX5_perform d h y k pl co ly sg (nI j) nu post := by
  have v6 : vp_in (nI j) 6 := vp_in_nI (by omega) (by decide)
  have ec : (nI j).toNatClampNeg = j := nI_clamp (by omega)
  refine ⟨fun q => ?_, fun q => ?_, fun q => ?_, fun _ _ _ => ?_⟩
  · rcases hsg with rfl | rfl | rfl | rfl | rfl <;> exact absurd q (by decide)
  · rcases hsg with rfl | rfl | rfl | rfl | rfl <;> exact absurd q (by decide)
  · rcases hsg with rfl | rfl | rfl | rfl | rfl <;> exact absurd q (by decide)
  · refine per_t j rfl hj (b_n1 ?_)
    rw [ec]
    obtain ⟨p1, p2, p3, p4, p5⟩ := hp
    rcases hsg with rfl | rfl | rfl | rfl | rfl
    · exact ⟨fun _ => p1 rfl, fun q => absurd q (by decide), fun q => absurd q (by decide), fun q => absurd q (by decide), fun q => absurd q (by decide), fun q _ _ _ _ => absurd rfl q⟩
    · exact ⟨fun q => absurd q (by decide), fun q => absurd q (by decide), fun _ => ⟨v6, p2 rfl⟩, fun q => absurd q (by decide), fun q => absurd q (by decide), fun _ _ q _ _ => absurd rfl q⟩
    · exact ⟨fun q => absurd q (by decide), fun q => absurd q (by decide), fun q => absurd q (by decide), fun _ => ⟨v6, fun v ev => ⟨v6, by rw [ev]; exact p3 rfl⟩⟩, fun q => absurd q (by decide), fun _ _ _ q _ => absurd rfl q⟩
    · exact ⟨fun q => absurd q (by decide), fun q => absurd q (by decide), fun q => absurd q (by decide), fun q => absurd q (by decide), fun _ => ⟨v6, fun v ev => ⟨v6, by rw [ev]; exact p4 rfl⟩⟩, fun _ _ _ _ q => absurd rfl q⟩
    · exact ⟨fun q => absurd q (by decide), fun q => absurd q (by decide), fun q => absurd q (by decide), fun q => absurd q (by decide), fun q => absurd q (by decide), fun _ _ _ _ _ => p5 rfl⟩
theorem mvc5 {pl co ly : Nat → Int32} {j a : Nat} (hj : j ≤ 5) (ha : a < 30) (ea : pl j = nI a) (nu : Int32) {post : ((Nat → Int32) × (Nat → Int32)) → Prop} (hp : post (upd co j (co j - nu), upd ly a (ly a + nu))) : pX5_moveCoin pl co ly (nI j) nu post := by
  have v6 : vp_in (nI j) 6 := vp_in_nI (by omega) (by decide)
  refine ⟨v6, fun v ev => ?_⟩
  rw [nI_clamp (by omega), ea] at ev
  rw [ev, nI_clamp (by omega), nI_clamp (by omega)]
  have v30 : vp_in (nI a) 30 := vp_in_nI ha (by decide)
  refine in6_t 0 29 a rfl (by omega) (by omega) (by decide) (b_e1 ⟨v6, fun v1 e1 => ⟨v6, v30, fun v2 e2 => ⟨v30, ?_⟩⟩⟩)
  rw [e1, e2]
  exact hp
theorem lby5 {pl ly : Nat → Int32} {j a : Nat} (hj : j ≤ 5) (ha : a < 30) (ea : pl j = nI a) {post : Int32 → Prop} (hp : post (ly a)) : pX5_liesBy pl ly (nI j) post := by
  refine ⟨vp_in_nI (by omega) (by decide), fun v ev => ?_⟩
  rw [nI_clamp (by omega), ea] at ev
  rw [ev, nI_clamp (by omega)]
  exact in6_t 0 29 a rfl (by omega) (by omega) (by decide) (b_e1 ⟨vp_in_nI ha (by decide), hp⟩)
theorem act_out {B : Nat} {w : WT} {nw : Nat → Int32} (hR : Rw w w.2.2.2.1 w.2.2.2.2.1 nw) (hO : Ow B w) (j : Nat) (hj : j ≤ 5) (nu : Int32) : ActOk B w nw 41 (nI j) nu (fun post => pX7_comeOut w.2.2.2.2.1 nw (nI j) post) := by
  obtain ⟨d, h, y, s, k, pl, co, ly⟩ := w
  obtain ⟨-, -, -, -, ⟨S, hS, eS, hpl⟩, -⟩ := id hO
  dsimp only at eS hpl hR ⊢
  have v45 : vp_in (nI j) 45 := vp_in_nI (by omega) (by decide)
  have ej : pl j = nw j := hR.2.2.2.2.2.1 j (by omega)
  have e42 : d = nw 42 := hR.1
  have e43 : h = nw 43 := hR.2.1
  have hsg : (41 : Int32) = 36 ∨ (41 : Int32) = 41 ∨ (41 : Int32) = 60 ∨ (41 : Int32) = 62 ∨ (41 : Int32) = 37 := Or.inr (Or.inl rfl)
  rcases hpl j (by omega) with em | ⟨a, ha, ea⟩
  · have m0 : ¬ 0 ≤ nw j := by rw [← ej, em]; decide
    refine ⟨1, (d, h, y, s, k, pl, co, ly), nw, by omega, rea_in hj hsg (fun post hp => in_out hj em hp), fun q => absurd q (by decide), fun post hp => ⟨v45, ?_⟩, fun q => absurd q (by decide), fun _ => rfl⟩
    rw [nI_clamp (by omega)]
    exact ⟨fun q => absurd q m0, fun _ => hp⟩
  · have m0 : 0 ≤ nw j := by rw [← ej, ea]; exact nI_pos' (by omega)
    by_cases hk : d = k ∧ h = 0
    · have hk7 : nw 42 = k ∧ nw 43 = 0 := ⟨e42.symm.trans hk.1, e43.symm.trans hk.2⟩
      refine ⟨0, (d, h, y, s, k, upd pl j (-6), co, ly), upd nw j (-6), by omega, rea_in hj hsg (fun post hp => in_at hj (by omega) ea ⟨fun q => absurd q (by decide), fun _ => knl5 d h k ?_, fun q => absurd q (by decide), fun q => absurd q (by decide), fun _ q _ _ => absurd rfl q⟩), fun _ post hp => per_by hj hsg ⟨fun q => absurd q (by decide), fun _ => hp, fun q => absurd q (by decide), fun q => absurd q (by decide), fun q => absurd q (by decide)⟩, fun post hp => ⟨v45, ?_⟩, fun _ => ⟨updRw hR j hj _, updOw hO j _ (Or.inl rfl), Or.inr ⟨by decide, by decide, by decide, fun a' b' ha' hb' q1 q2 => ?_⟩⟩, fun q => absurd rfl q⟩
      · rw [decide_eq_true hk]; exact b_e1 hp
      · rw [nI_clamp (by omega)]
        refine ⟨fun _ => knl7 k nw ?_, fun q => absurd m0 q⟩
        rw [decide_eq_true hk7]
        exact b_n1 ⟨v45, hp⟩
      · by_cases z1 : a' = j
        · subst z1; rw [pk_us] at q1; exact absurd (by decide) q1
        · rw [pk_un z1] at q1 q2
          by_cases z2 : b' = j
          · subst z2; rw [pk_us] at q2; rw [q2] at q1; exact absurd (by decide) q1
          · rw [pk_un z2] at q2
            exact ⟨q1, q2⟩
    · have hk7 : ¬ (nw 42 = k ∧ nw 43 = 0) := fun q => hk ⟨e42.trans q.1, e43.trans q.2⟩
      refine ⟨2, (d, h, y, s, k, pl, co, ly), nw, by omega, rea_in hj hsg (fun post hp => in_at hj (by omega) ea ⟨fun q => absurd q (by decide), fun _ => knl5 d h k ?_, fun q => absurd q (by decide), fun q => absurd q (by decide), fun _ q _ _ => absurd rfl q⟩), fun q => absurd q (by decide), fun post hp => ⟨v45, ?_⟩, fun q => absurd q (by decide), fun _ => rfl⟩
      · rw [decide_eq_false hk]; exact b_e0 hp
      · rw [nI_clamp (by omega)]
        refine ⟨fun _ => knl7 k nw ?_, fun q => absurd m0 q⟩
        rw [decide_eq_false hk7]
        exact b_n0 hp
