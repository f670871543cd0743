/-! ===== PURE 7: an act, by the class and by the reference ===== -/
def MvOk (sg pe : Int32) (nw nw' : Nat → Int32) : Prop :=
  ((sg = 40 ∨ sg = 62 ∨ sg = 60) ∧ ∃ j, j ≤ 5 ∧ pe = nI j ∧ (∀ k, k < 6 → k ≠ j → nw' k = nw k) ∧ ¬ nw' j = nw j ∧ ¬ nw' j < 0) ∨
  (¬ sg = 40 ∧ ¬ sg = 62 ∧ ¬ sg = 60 ∧ ∀ a b, a < 6 → b < 6 → ¬ nw' a < 0 → nw' a = nw' b → ¬ nw a < 0 ∧ nw a = nw b)
def ActOk (B : Nat) (w : WT) (nw : Nat → Int32) (sg pe nu : Int32) (PM : (Int32 → (Nat → Int32) → Prop) → Prop) : Prop :=
  ∃ (r : Nat) (w' : WT) (nw' : Nat → Int32), r ≤ 7 ∧
   (∀ post : Int32 → Prop, post (nI r) → pX5_reasonAgainst w.1 w.2.1 w.2.2.1 w.2.2.2.1 w.2.2.2.2.1 w.2.2.2.2.2.1 w.2.2.2.2.2.2.1 w.2.2.2.2.2.2.2 sg pe nu post) ∧
   (r = 0 → ∀ post : (Int32 × Int32 × Int32 × (Nat → Int32) × (Nat → Int32) × (Nat → Int32)) → Prop, post (w'.1, w'.2.1, w'.2.2.1, w'.2.2.2.2.2.1, w'.2.2.2.2.2.2.1, w'.2.2.2.2.2.2.2) → pX5_perform w.1 w.2.1 w.2.2.1 w.2.2.2.2.1 w.2.2.2.2.2.1 w.2.2.2.2.2.2.1 w.2.2.2.2.2.2.2 sg pe nu post) ∧
   (∀ post : Int32 → (Nat → Int32) → Prop, post (nI r) nw' → PM post) ∧
   (r = 0 → Rw w' w.2.2.2.1 w.2.2.2.2.1 nw' ∧ Ow (B + 9) w' ∧ MvOk sg pe nw nw') ∧ (r ≠ 0 → nw' = nw)
theorem Rw.shift {w : WT} {sh kn : Int32} {bk : Nat → Int32} (h : Rw w sh kn bk) : w.2.2.2.1 = sh ∧ w.2.2.2.2.1 = kn := ⟨h.2.2.2.1, h.2.2.2.2.1⟩
/-- the time, by hours -/
theorem act_time {B : Nat} {w : WT} {nw : Nat → Int32} (hR : Rw w w.2.2.2.1 w.2.2.2.2.1 nw) (hO : Ow B w) (sg pe nu : Int32) (T : Nat) (hT : T < 2000000)
    (PM : (Int32 → (Nat → Int32) → Prop) → Prop) (nw' : Nat → Int32)
    (hsg : sg = 104 ∨ sg = 100 ∨ sg = 107)
    (h1 : ∀ post : Int32 → Prop, post (nI T) → pX5_timeBehind w.1 w.2.1 w.2.2.1 w.2.2.2.2.1 sg nu post)
    (h2 : ∀ post : Int32 → (Nat → Int32) → Prop, (876000 ≤ T → post 7 nw) → (T < 876000 → post 0 nw') → PM post)
    (h3 : T < 876000 → nw' 42 = nI (T / 24 % 365) ∧ nw' 43 = nI (T % 24) ∧ nw' 44 = nI (T / 24 / 365) ∧ ∀ k, k < 42 → nw' k = nw k) : ActOk B w nw sg pe nu PM := by
  obtain ⟨d, h, y, s, k, pl, co, ly⟩ := w
  have e1 : nI T - nI T / 24 * 24 = nI (T % 24) := pk_rem (d := 24) (by omega) (by decide) (by decide)
  have e2 : nI T / 24 = nI (T / 24) := pk_div (d := 24) (by omega) (by decide) (by decide)
  have e3 : nI (T / 24) - nI (T / 24) / 365 * 365 = nI (T / 24 % 365) := pk_rem (d := 365) (by omega) (by decide) (by decide)
  have e4 : nI (T / 24) / 365 = nI (T / 24 / 365) := pk_div (d := 365) (by omega) (by decide) (by decide)
  have rea : ∀ post : Int32 → Prop, post (nI (if 876000 ≤ T then 7 else 0)) → pX5_reasonAgainst_b48 d h y s k pl co ly sg pe nu post := by
    intro post hp
    refine h1 _ ?_
    by_cases hc : 876000 ≤ T
    · rw [if_pos hc] at hp
      exact ⟨fun _ => hp, fun q => absurd (nI_le (a := 876000) hc (by omega)) q⟩
    · rw [if_neg hc] at hp
      exact ⟨fun q => absurd q (nI_ge (b := 876000) (by omega) (by decide)), fun _ => hp⟩
  have per : ∀ post : (Int32 × Int32 × Int32 × (Nat → Int32) × (Nat → Int32) × (Nat → Int32)) → Prop, post (nI (T / 24 % 365), nI (T % 24), nI (T / 24 / 365), pl, co, ly) → pX5_perform_b40 k sg pe nu post d h y pl co ly := by
    intro post hp
    refine h1 _ ?_
    intro v1 ev1 v2 ev2 v3 ev3
    rw [e1] at ev1
    rw [e2, e3] at ev2
    rw [e2, e4] at ev3
    rw [ev1, ev2, ev3]
    exact hp
  refine ⟨if 876000 ≤ T then 7 else 0, (nI (T / 24 % 365), nI (T % 24), nI (T / 24 / 365), s, k, pl, co, ly), if 876000 ≤ T then nw else nw', ?_, ?_, ?_, ?_, ?_, ?_⟩
  · by_cases hc : 876000 ≤ T
    · rw [if_pos hc]; exact Nat.le_refl _
    · rw [if_neg hc]; omega
  · intro post hp
    rcases hsg with rfl | rfl | rfl
    · exact ⟨fun q => absurd q (by decide), fun q => absurd q (by decide), fun _ => rea post hp, fun q => absurd q (by decide), fun _ _ q _ => absurd rfl q⟩
    · exact ⟨fun q => absurd q (by decide), fun _ => rea post hp, fun q => absurd q (by decide), fun q => absurd q (by decide), fun _ q _ _ => absurd rfl q⟩
    · exact ⟨fun q => absurd q (by decide), fun q => absurd q (by decide), fun q => absurd q (by decide), fun _ => rea post hp, fun _ _ _ q => absurd rfl q⟩
  · intro _ post hp
    rcases hsg with rfl | rfl | rfl
    · exact ⟨fun q => absurd q (by decide), fun _ => per post hp, fun q => absurd q (by decide), fun _ q _ => absurd rfl q⟩
    · exact ⟨fun _ => per post hp, fun q => absurd q (by decide), fun q => absurd q (by decide), fun q _ _ => absurd rfl q⟩
    · exact ⟨fun q => absurd q (by decide), fun q => absurd q (by decide), fun _ => per post hp, fun _ _ q => absurd rfl q⟩
  · intro post hp
    refine h2 post (fun hc => ?_) (fun hc => ?_)
    · rw [if_pos hc, if_pos hc] at hp; exact hp
    · rw [if_neg (by omega), if_neg (by omega)] at hp; exact hp
  · intro hr
    have hc : T < 876000 := by
      by_cases hc : 876000 ≤ T
      · rw [if_pos hc] at hr; exact absurd hr (by decide)
      · omega
    rw [if_neg (by omega)]
    obtain ⟨a1, a2, a3, a4⟩ := h3 hc
    obtain ⟨g1, g2, g3, g4, g5, g6, g7, g8⟩ := hR
    obtain ⟨f1, f2, f3, f4, f5, f6⟩ := hO
    refine ⟨⟨a1.symm, a2.symm, a3.symm, rfl, rfl, fun q hq => ?_, fun q hq => ?_, fun q hq => ?_⟩, ⟨⟨_, by omega, rfl⟩, ⟨_, by omega, rfl⟩, ⟨T / 24 / 365, by omega, rfl⟩, f4, f5, fun q hq => ?_⟩, Or.inr ⟨?_, ?_, ?_, ?_⟩⟩
    · rw [a4 q (by omega)]; exact g6 q hq
    · rw [a4 _ (by omega)]; exact g7 q hq
    · rw [a4 _ (by omega)]; exact g8 q hq
    · obtain ⟨z, hz, ez⟩ := f6 q hq
      exact ⟨z, by omega, ez⟩
    · rcases hsg with rfl | rfl | rfl <;> decide
    · rcases hsg with rfl | rfl | rfl <;> decide
    · rcases hsg with rfl | rfl | rfl <;> decide
    · intro a b ha hb q1 q2
      rw [a4 a (by omega)] at q1 q2
      rw [a4 b (by omega)] at q2
      exact ⟨q1, q2⟩
  · intro hr
    by_cases hc : 876000 ≤ T
    · rw [if_pos hc]
    · rw [if_neg hc] at hr; exact absurd rfl hr
theorem act_pass {B : Nat} {w : WT} {nw : Nat → Int32} (hR : Rw w w.2.2.2.1 w.2.2.2.2.1 nw) (hO : Ow B w) (pe : Int32) (sg m H : Nat) (hm : m ≤ 9) (hs : (sg = 104 ∧ H = m) ∨ (sg = 100 ∧ H = m * 24)) : ActOk B w nw (nI sg) pe (nI m) (fun post => pX7_pass nw (nI H) post) := by
  obtain ⟨d, h, y, s, k, pl, co, ly⟩ := w
  obtain ⟨⟨D, hD, eD⟩, ⟨Hh, hH, eH⟩, ⟨Y, hY, eY⟩, ⟨Kk, hKk, eK⟩, -⟩ := id hO
  dsimp only at eD eH eY eK hR
  have q1 : nw 42 = nI D := by rw [← hR.1]; exact eD
  have q2 : nw 43 = nI Hh := by rw [← hR.2.1]; exact eH
  have q3 : nw 44 = nI Y := by rw [← hR.2.2.1]; exact eY
  have hHm : H ≤ 216 := by rcases hs with ⟨-, e⟩ | ⟨-, e⟩ <;> omega
  have et : ((y * 365 + d) * 24 + h) = nI ((Y * 365 + D) * 24 + Hh) := by
    rw [eY, eD, eH, show nI Y * 365 = nI (Y * 365) from pk_mul Y 365, nI_add, show nI (Y * 365 + D) * 24 = nI ((Y * 365 + D) * 24) from pk_mul _ 24, nI_add]
  refine act_time hR hO (nI sg) pe (nI m) ((Y * 365 + D) * 24 + Hh + H) (by omega) _ (upd (upd (upd nw 43 (nI ((Hh + H) % 24))) 42 (nI ((D + (Hh + H) / 24) % 365))) 44 (nI (Y + (D + (Hh + H) / 24) / 365))) ?_ ?_ ?_ ?_
  · rcases hs with ⟨e, -⟩ | ⟨e, -⟩
    · exact Or.inl (by rw [e]; rfl)
    · exact Or.inr (Or.inl (by rw [e]; rfl))
  · intro post hp
    dsimp only
    rcases hs with ⟨rfl, rfl⟩ | ⟨rfl, rfl⟩
    · refine ⟨fun q => absurd q (by decide), fun _ => ?_, fun _ q => absurd rfl q⟩
      unfold pX5_timeOf
      dsimp only
      rw [et, nI_add]
      exact hp
    · refine ⟨fun _ => ?_, fun q => absurd q (by decide), fun q _ => absurd rfl q⟩
      unfold pX5_timeOf
      dsimp only
      rw [et, show nI m * 24 = nI (m * 24) from pk_mul m 24, nI_add]
      exact hp
  · intro post h7 h0 v1 ev1 v2 ev2 v3 ev3
    rw [q2, nI_add] at ev1
    rw [ev1, q1, show nI (Hh + H) / 24 = nI ((Hh + H) / 24) from pk_div (d := 24) (by omega) (by decide) (by decide), nI_add] at ev2
    rw [ev2, q3, show nI (D + (Hh + H) / 24) / 365 = nI ((D + (Hh + H) / 24) / 365) from pk_div (d := 365) (by omega) (by decide) (by decide), nI_add] at ev3
    rw [ev3]
    refine ⟨fun q v5 ev5 v6 ev6 => ?_, fun q => ?_⟩
    · have q' : Y + (D + (Hh + H) / 24) / 365 ≤ 99 := (nI_leI (b := 99) (by omega) (by decide)).mp q
      rw [ev1, show nI (Hh + H) - nI (Hh + H) / 24 * 24 = nI ((Hh + H) % 24) from pk_rem (d := 24) (by omega) (by decide) (by decide)] at ev5
      rw [ev2, show nI (D + (Hh + H) / 24) - nI (D + (Hh + H) / 24) / 365 * 365 = nI ((D + (Hh + H) / 24) % 365) from pk_rem (d := 365) (by omega) (by decide) (by decide)] at ev6
      rw [ev5, ev6]
      exact h0 (by omega)
    · have q' : ¬ Y + (D + (Hh + H) / 24) / 365 ≤ 99 := fun z => q (nI_le (b := 99) z (by decide))
      exact h7 (by omega)
  · intro hc
    refine ⟨?_, ?_, ?_, fun j hj => ?_⟩
    · rw [pk_un (by omega), pk_us]; congr 1; omega
    · rw [pk_un (by omega), pk_un (by omega), pk_us]; congr 1; omega
    · rw [pk_us]; congr 1; omega
    · rw [pk_un (by omega), pk_un (by omega), pk_un (by omega)]
theorem act_next {B : Nat} {w : WT} {nw : Nat → Int32} (hR : Rw w w.2.2.2.1 w.2.2.2.2.1 nw) (hO : Ow B w) (pe nu : Int32) : ActOk B w nw 107 pe nu (fun post => pX7_nextTime w.2.2.2.2.1 nw post) := by
  obtain ⟨d, h, y, s, k, pl, co, ly⟩ := w
  obtain ⟨⟨D, hD, eD⟩, ⟨Hh, hH, eH⟩, ⟨Y, hY, eY⟩, ⟨Kk, hKk, eK⟩, -⟩ := id hO
  dsimp only at eD eH eY eK hR ⊢
  have q1 : nw 42 = nI D := by rw [← hR.1]; exact eD
  have q3 : nw 44 = nI Y := by rw [← hR.2.2.1]; exact eY
  refine act_time hR hO 107 pe nu (((if D < Kk then Y else Y + 1) * 365 + Kk) * 24) (by split <;> omega) _ (upd (upd (upd nw 44 (nI (if D < Kk then Y else Y + 1))) 42 (nI Kk)) 43 0) (Or.inr (Or.inr rfl)) ?_ ?_ ?_
  · intro post hp
    dsimp only
    have eT : ∀ Z : Nat, ((nI Z * 365 + nI Kk) * 24 + 0) = nI ((Z * 365 + Kk) * 24) := fun Z => by
      rw [show nI Z * 365 = nI (Z * 365) from pk_mul Z 365, nI_add, show nI (Z * 365 + Kk) * 24 = nI ((Z * 365 + Kk) * 24) from pk_mul _ 24, show nI ((Z * 365 + Kk) * 24) + 0 = nI ((Z * 365 + Kk) * 24 + 0) from nI_add _ 0, Nat.add_zero]
    refine ⟨fun q => absurd q (by decide), fun q => absurd q (by decide), fun _ _ => ?_⟩
    rw [eD, eK, eY]
    by_cases hc : D < Kk
    · rw [if_pos hc] at hp
      refine ⟨fun q => absurd q (nI_ge hc (by omega)), fun _ => ?_⟩
      unfold pX5_timeBehind_b101 pX5_timeOf
      rw [eT]; exact hp
    · rw [if_neg hc] at hp
      refine ⟨fun _ => ?_, fun q => absurd (nI_le (by omega) (by omega)) q⟩
      unfold pX5_timeBehind_b101 pX5_timeOf
      rw [nI_1, eT]; exact hp
  · intro post h7 h0
    rw [eK]
    unfold pX7_nextTime pX7_nextTime_b19 pX7_nextTime_b39 pX7_nextTime_b56
    rw [q1, q3]
    by_cases hc : D < Kk
    · rw [if_pos hc] at h0
      refine ⟨fun q => absurd q (nI_ge hc (by omega)), fun _ => ⟨fun _ => ⟨fun q => absurd q (by decide), fun _ v ev => ?_⟩, fun q => absurd q (by decide)⟩⟩
      rw [ev, show nI Y + 0 = nI (Y + 0) from nI_add Y 0]
      exact ⟨vpc rfl, h0 (by omega)⟩
    · rw [if_neg hc] at h0 h7
      refine ⟨fun _ => ⟨fun q => absurd rfl q, fun _ => ⟨fun q => ⟨fun _ v ev => ?_, fun q => absurd rfl q⟩, fun q => ?_⟩⟩, fun q => absurd (nI_le (by omega) (by omega)) q⟩
      · rw [ev, nI_1]
        have : Y ≠ 99 := fun z => q (by rw [z]; rfl)
        exact ⟨vpc rfl, h0 (by omega)⟩
      · have : Y = 99 := (nI_eq (b := 99) (by omega) (by decide)).mp q
        exact h7 (by omega)
  · intro hc
    refine ⟨?_, ?_, ?_, fun j hj => ?_⟩
    · rw [pk_un (by omega), pk_us]; congr 1; split <;> omega
    · rw [pk_us]; show nI 0 = _; congr 1; omega
    · rw [pk_un (by omega), pk_un (by omega), pk_us]; congr 1; split <;> omega
    · rw [pk_un (by omega), pk_un (by omega), pk_un (by omega)]
