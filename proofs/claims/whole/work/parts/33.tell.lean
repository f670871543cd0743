/-! ===== PURE 11: the telling ===== -/
def Good (P : Nat → Nat) (c i s : Nat) : Prop := flV P c (c - i) i s = -6
theorem good_next {P : Nat → Nat} {c i s : Nat} (hc : c ≤ 60) (hi : i < c) (hg : Good P c i s) : stp s (P i) ≠ 3 ∧ Good P c (i + 1) (stp s (P i)) := by
  unfold Good at hg ⊢
  rw [show c - i = (c - (i + 1)) + 1 by omega, flV] at hg
  by_cases h : stp s (P i) = 3
  · rw [if_pos h] at hg
    exact absurd hg (nI_nm (k := 6) (by omega) (by decide) (by decide))
  · rw [if_neg h] at hg
    exact ⟨h, hg⟩
theorem good_lt {P : Nat → Nat} {c i s : Nat} (hc : c ≤ 60) (hi : i ≤ c) (hg : Good P c i s) (hs : s ≠ 0) : i < c := by
  rcases Nat.lt_or_ge i c with h | h
  · exact h
  · exfalso
    have e : c = i := by omega
    subst e
    unfold Good at hg
    rw [Nat.sub_self, flV, if_neg hs] at hg
    exact absurd hg (nI_nm (k := 6) (by omega) (by decide) (by decide))
theorem stp0 {x : Nat} (h : stp 0 x ≠ 3) : (65 ≤ x ∧ x ≤ 70 ∧ stp 0 x = 1) ∨ ((x = 104 ∨ x = 100) ∧ stp 0 x = 2) ∨ (x = 107 ∧ stp 0 x = 0) := by
  unfold stp at h ⊢
  rw [if_pos rfl] at h ⊢
  by_cases h1 : 65 ≤ x ∧ x ≤ 70
  · rw [if_pos h1]; exact Or.inl ⟨h1.1, h1.2, rfl⟩
  · rw [if_neg h1] at h ⊢
    by_cases h2 : x = 104 ∨ x = 100
    · rw [if_pos h2]; exact Or.inr (Or.inl ⟨h2, rfl⟩)
    · rw [if_neg h2] at h ⊢
      by_cases h3 : x = 107
      · rw [if_pos h3]; exact Or.inr (Or.inr ⟨h3, rfl⟩)
      · rw [if_neg h3] at h; exact absurd rfl h
theorem stp1 {x : Nat} (h : stp 1 x ≠ 3) : ((x = 40 ∨ x = 41 ∨ x = 62 ∨ x = 60 ∨ x = 37) ∧ stp 1 x = 0) ∨ (x = 36 ∧ stp 1 x = 2) := by
  unfold stp at h ⊢
  rw [if_neg (by omega), if_pos rfl] at h ⊢
  by_cases h1 : x = 40 ∨ x = 41 ∨ x = 62 ∨ x = 60 ∨ x = 37
  · rw [if_pos h1]; exact Or.inl ⟨h1, rfl⟩
  · rw [if_neg h1] at h ⊢
    by_cases h3 : x = 36
    · rw [if_pos h3]; exact Or.inr ⟨h3, rfl⟩
    · rw [if_neg h3] at h; exact absurd rfl h
theorem stp2 {x : Nat} (h : stp 2 x ≠ 3) : (49 ≤ x ∧ x ≤ 57) ∧ stp 2 x = 0 := by
  unfold stp at h ⊢
  rw [if_neg (by omega), if_neg (by omega)] at h ⊢
  by_cases h1 : 49 ≤ x ∧ x ≤ 57
  · rw [if_pos h1]; exact ⟨h1, rfl⟩
  · rw [if_neg h1] at h; exact absurd rfl h
/-! the class reads an act -/
theorem dig2 {c i : Nat} (hc : c ≤ 60) (hi : i < c) {sg : Nat → Int32} {x : Nat} (e : sg i = nI x) (h1 : 49 ≤ x) (h2 : x ≤ 57) {post : Int32 → Prop} (h : post (nI (x - 48))) : pX2_digitAt (nI c) sg (nI i) post := by
  refine sgn2 hc hi ?_
  rw [e, show nI x - 48 = nI (x - 48) from pk_sub (b := 48) (by omega)]
  exact h
theorem rd_b28 {c i : Nat} (hc : c ≤ 60) (hi : i < c) {sg : Nat → Int32} {x : Nat} (e : sg i = nI x) (hx : x ≤ 126) (a1 s p q : Int32) {post : Int32 → (Int32 × Int32 × Int32) → Prop}
    (h : x ≠ 36 → x ≠ 104 → x ≠ 100 → post (nI (i + 1)) (nI x, p, q)) (hd : x = 36 ∨ x = 104 ∨ x = 100 → ∃ y, i + 1 < c ∧ sg (i + 1) = nI y ∧ 49 ≤ y ∧ y ≤ 57 ∧ post (nI (i + 2)) (nI x, p, nI (y - 48))) : pX2_readAct_b28 (nI c) sg a1 post (nI i) s p q := by
  refine sgn2 hc hi ?_
  rw [e]
  intro v ev
  rw [nI_1] at ev
  rw [ev]
  have dg : x = 36 ∨ x = 104 ∨ x = 100 → pX2_readAct_b67 (nI c) sg a1 post (nI (i + 1)) (nI x) p q := fun z => by
    obtain ⟨y, q1, q2, q3, q4, q5⟩ := hd z
    refine dig2 hc q1 q2 q3 q4 (fun v2 ev2 => ?_)
    rw [ev2, nI_1]
    exact q5
  have ne : ∀ k, k < 2 ^ 31 → x ≠ k → ¬ nI x = nI k := fun k hk hq => lit_ne (by omega) hk hq
  by_cases h1 : x = 36
  · exact ⟨fun _ => dg (Or.inl h1), fun z => absurd (by rw [h1]; rfl) z⟩
  · refine ⟨fun z => absurd z (ne 36 (by decide) h1), fun _ => ?_⟩
    by_cases h2 : x = 104
    · exact ⟨fun _ => dg (Or.inr (Or.inl h2)), fun z => absurd (by rw [h2]; rfl) z⟩
    · refine ⟨fun z => absurd z (ne 104 (by decide) h2), fun _ => ?_⟩
      by_cases h3 : x = 100
      · exact ⟨fun z => absurd (by rw [h3]; rfl) z, fun _ => dg (Or.inr (Or.inr h3))⟩
      · exact ⟨fun _ => h h1 h2 h3, fun z => absurd z (ne 100 (by decide) h3)⟩
theorem rd_time {c i : Nat} (hc : c ≤ 60) (hi : i < c) {sg : Nat → Int32} {x : Nat} (e : sg i = nI x) (hx : 71 ≤ x) (hx2 : x ≤ 126) (s p q : Int32) {post : Int32 → (Int32 × Int32 × Int32) → Prop}
    (h : x ≠ 36 → x ≠ 104 → x ≠ 100 → post (nI (i + 1)) (nI x, p, q)) (hd : x = 36 ∨ x = 104 ∨ x = 100 → ∃ y, i + 1 < c ∧ sg (i + 1) = nI y ∧ 49 ≤ y ∧ y ≤ 57 ∧ post (nI (i + 2)) (nI x, p, nI (y - 48))) : pX2_readAct (nI c) sg s p q (nI i) post := by
  refine sgn2 hc hi ?_
  rw [e]
  refine let2 hx2 ?_
  rw [decide_eq_false (by omega)]
  exact ⟨fun _ => rd_b28 hc hi e hx2 _ _ _ _ h hd, fun z => absurd rfl z⟩
theorem rd_per {c i : Nat} (hc : c ≤ 60) (hi : i + 1 < c) {sg : Nat → Int32} {a x : Nat} (e0 : sg i = nI a) (ha : 65 ≤ a ∧ a ≤ 70) (e : sg (i + 1) = nI x) (hx2 : x ≤ 126) (s p q : Int32) {post : Int32 → (Int32 × Int32 × Int32) → Prop}
    (h : x ≠ 36 → x ≠ 104 → x ≠ 100 → post (nI (i + 2)) (nI x, nI (a - 65), q)) (hd : x = 36 ∨ x = 104 ∨ x = 100 → ∃ y, i + 2 < c ∧ sg (i + 2) = nI y ∧ 49 ≤ y ∧ y ≤ 57 ∧ post (nI (i + 3)) (nI x, nI (a - 65), nI (y - 48))) : pX2_readAct (nI c) sg s p q (nI i) post := by
  refine sgn2 hc (by omega) ?_
  rw [e0]
  refine let2 (by omega) ?_
  rw [decide_eq_true ha]
  refine ⟨fun z => absurd z (by decide), fun _ => sgn2 hc (by omega) ?_⟩
  rw [e0]
  intro v ev v2 ev2
  rw [show nI a - 65 = nI (a - 65) from pk_sub (b := 65) (by omega)] at ev
  rw [nI_1] at ev2
  rw [ev, ev2]
  exact rd_b28 hc hi e hx2 _ _ _ _ h hd
/-! the telling, jointly -/
def TellOk (B c : Nat) (sgn : Nat → Int32) (aw : WT) (bk pd : Nat → Int32) (i t : Nat) (w : WT) (nw : Nat → Int32) (mA mT s p q rsn : Int32) (had : Nat → Int32) : Prop :=
  ∃ (T rs : Nat) (f : Bool) (mA' mT' s' p' q' rsn' : Int32) (w' : WT) (nw' had' : Nat → Int32), T ≤ 60 ∧ rs ≤ 7 ∧ (f = true → rsn' = nI rs) ∧ (f = false → Rw w' w.2.2.2.1 w.2.2.2.2.1 nw' ∧ Ow (B + 9 * (c - i)) w') ∧
   (∀ n, c - i < n → ∀ post : (Int32 × Int32 × Int32 × Int32 × Int32 × Int32 × Int32 × Int32 × Int32 × Int32 × (Nat → Int32) × (Nat → Int32) × (Nat → Int32) × Int32 × Int32 × Int32) → Prop, post (nI T, (if f then nI T else -6), (if f then nI rs else -6), mA', mT', w'.1, w'.2.1, w'.2.2.1, w'.2.2.2.1, w'.2.2.2.2.1, w'.2.2.2.2.2.1, w'.2.2.2.2.2.2.1, w'.2.2.2.2.2.2.2, s', p', q') → pX4_tell_b39 aw.1 aw.2.1 aw.2.2.1 aw.2.2.2.1 aw.2.2.2.2.1 aw.2.2.2.2.2.1 aw.2.2.2.2.2.2.1 aw.2.2.2.2.2.2.2 (nI c) sgn post n (nI i) (nI t) (-6) (-6) mA mT w.1 w.2.1 w.2.2.1 w.2.2.2.1 w.2.2.2.2.1 w.2.2.2.2.2.1 w.2.2.2.2.2.2.1 w.2.2.2.2.2.2.2 s p q) ∧
   (∀ n, c - i < n → ∀ post : Int32 → (Int32 × Int32 × Int32 × Int32 × (Nat → Int32) × (Nat → Int32)) → Prop, post (if f then nI T else -6) (mA', mT', rsn', nI T, nw', had') → pX7_goYears_b11 w.2.2.2.1 w.2.2.2.2.1 (nI c) bk pd post n (nI i) mA mT rsn (nI t) nw had)
theorem cp_had {sh kn sgs : Int32} {bk pd : Nat → Int32} {post : Int32 → (Int32 × Int32 × Int32 × Int32 × (Nat → Int32) × (Nat → Int32)) → Prop} {k11 : Int32 → Int32 → Int32 → Int32 → Int32 → (Nat → Int32) → (Nat → Int32) → Prop} {x1 x2 mA mT rs t : Int32} {nw had : Nat → Int32}
    (h : pX7_goYears_b28 sh kn sgs bk pd post k11 1 x1 x2 6 mA mT rs t nw (cpS had nw 6)) : pX7_goYears_b28 sh kn sgs bk pd post k11 7 x1 x2 0 mA mT rs t nw had := by
  have key : ∀ d i, i + d = 6 → pX7_goYears_b28 sh kn sgs bk pd post k11 (d + 1) x1 x2 (nI i) mA mT rs t nw (cpS had nw i) := by
    intro d
    induction d with
    | zero =>
      intro i hi
      have e : i = 6 := by omega
      subst e
      exact h
    | succ d ih =>
      intro i hi
      have c1 : ¬ (6 : Int32) ≤ nI i := nI_ge (b := 6) (by omega) (by decide)
      refine ⟨fun z => absurd z c1, fun _ => ⟨vp_in_nI (by omega) (by decide), fun v ev => ⟨vp_in_nI (by omega) (by decide), fun v2 ev2 => ?_⟩⟩⟩
      rw [ev, ev2, nI_1, nI_clamp (by omega), cpS_s]
      exact ih (i + 1) (by omega)
  have := key 6 0 rfl
  rw [cpS_0] at this
  exact this
theorem act_step {B c i i' t : Nat} {sgn : Nat → Int32} {aw : WT} {bk pd : Nat → Int32} {w : WT} {nw : Nat → Int32} {mA mT s p q sg pe nu rsn : Int32} {had : Nat → Int32} {PM : (Int32 → (Nat → Int32) → Prop) → Prop}
    (hc : c ≤ 60) (hi : i < c) (hii : i < i') (hic : i' ≤ c) (ht : t ≤ i)
    (hA : ActOk B w nw sg pe nu PM)
    (hread : ∀ post : Int32 → (Int32 × Int32 × Int32) → Prop, post (nI i') (sg, pe, nu) → pX2_readAct (nI c) sgn s p q (nI i) post)
    (href : ∀ (post : Int32 → (Int32 × Int32 × Int32 × Int32 × (Nat → Int32) × (Nat → Int32)) → Prop) (k11 : Int32 → Int32 → Int32 → Int32 → Int32 → (Nat → Int32) → (Nat → Int32) → Prop) (had' : Nat → Int32) (r : Int32) (u : Nat → Int32), (∀ po : Int32 → (Nat → Int32) → Prop, po r u → PM po) → pX7_goYears_b152 w.2.2.2.1 w.2.2.2.2.1 (nI c) bk pd post k11 (nI i') mA mT r (nI t) u had' → pX7_goYears_b28 w.2.2.2.1 w.2.2.2.2.1 (nI c) bk pd post k11 1 (nI i) (pd i) 6 mA mT rsn (nI t) nw had')
    (hm : (mA = -6 ∧ mT = -6) ∨ ∃ q, q < 100 ∧ mA = nI q)
    (ih : ∀ (w' : WT) (nw' : Nat → Int32) (mA' mT' rsn' : Int32) (had' : Nat → Int32), Rw w' w.2.2.2.1 w.2.2.2.2.1 nw' → Ow (B + 9) w' → ((mA' = -6 ∧ mT' = -6) ∨ ∃ q, q < 100 ∧ mA' = nI q) → TellOk (B + 9) c sgn aw bk pd i' (t + 1) w' nw' mA' mT' sg pe nu rsn' had') :
    TellOk B c sgn aw bk pd i t w nw mA mT s p q rsn had := by
  obtain ⟨d, h, y, s0, k0, pl, co, ly⟩ := w
  obtain ⟨r, ⟨d', h', y', s', k', pl', co', ly'⟩, nw', hr, cR, cP, rM, g0, g1⟩ := hA
  dsimp only at cR cP g0 ih href
  have c1 : ¬ nI c ≤ nI i := nI_ge (by omega) (by omega)
  have c2 : ¬ (60 : Int32) ≤ nI t := nI_ge (b := 60) (by omega) (by decide)
  have vi : vp_in (nI i) 60 := vp_in_nI (by omega) (by decide)
  by_cases hz : r = 0
  · subst hz
    obtain ⟨hR', hO', hM⟩ := g0 rfl
    obtain ⟨mA', mT', hm', m5, m7⟩ := meet_ok nw nw' (cpS had nw 6) pl' sg pe mA mT t (by omega) hM (fun k hk => cpS_in hk) (fun k hk => hR'.2.2.2.2.2.1 k hk) hm
    obtain ⟨T, rs, f, mA2, mT2, s2, p2, q2, rsn2, w2, nw2, had2, hT, hrs, e1, e2, X5, X7⟩ := ih _ nw' mA' mT' 0 (cpS had nw 6) hR' hO' hm'
    have es : s' = s0 := hR'.2.2.2.1
    have ek : k' = k0 := hR'.2.2.2.2.1
    subst es
    subst ek
    refine ⟨T, rs, f, mA2, mT2, s2, p2, q2, rsn2, w2, nw2, had2, hT, hrs, e1, fun z => ⟨(e2 z).1, (e2 z).2.mono (by omega)⟩, fun n hn post hp => ?_, fun n hn post hp => ?_⟩
    · obtain ⟨m, rfl⟩ : ∃ m, n = m + 1 := ⟨n - 1, by omega⟩
      refine ⟨fun z => absurd z c1, fun _ => ⟨fun z => absurd z c2, fun _ => hread _ (cR _ ⟨fun _ => cP rfl _ (m5 _ (fun v ev => ?_)), fun z => absurd rfl z⟩)⟩⟩
      rw [ev, nI_1]
      exact X5 m (by omega) post hp
    · obtain ⟨m, rfl⟩ : ∃ m, n = m + 1 := ⟨n - 1, by omega⟩
      refine ⟨fun z => absurd z c1, fun _ => ⟨vi, fun v ev => ⟨7, cp_had ?_⟩⟩⟩
      rw [ev, nI_clamp (by omega)]
      refine href post _ _ _ _ rM ⟨fun _ => m7 (fun a b => pX7_goYears_b193 s' k' (nI c) bk pd post (fun x1 t_metAt t_metWho t_reason t_acts t_now t_had => pX7_goYears_b11 s' k' (nI c) bk pd post m x1 t_metAt t_metWho t_reason t_acts t_now t_had) (nI i') a b (nI 0) (nI t) nw' (cpS had nw 6)) (fun v2 ev2 => ?_), fun z => absurd (Int32.le_refl _) z⟩
      rw [ev2, nI_1]
      exact X7 m (by omega) post hp
  · have en := g1 hz
    subst en
    refine ⟨t, r, true, mA, mT, sg, pe, nu, nI r, (d, h, y, s0, k0, pl, co, ly), nw', cpS had nw' 6, by omega, hr, fun _ => rfl, fun z => Bool.noConfusion z, fun n hn post hp => ?_, fun n hn post hp => ?_⟩
    · obtain ⟨m, rfl⟩ : ∃ m, n = m + 1 := ⟨n - 1, by omega⟩
      exact ⟨fun z => absurd z c1, fun _ => ⟨fun z => absurd z c2, fun _ => hread _ (cR _ ⟨fun z => absurd z (nI_ne0 (by omega) (by omega)), fun _ => hp⟩)⟩⟩
    · obtain ⟨m, rfl⟩ : ∃ m, n = m + 1 := ⟨n - 1, by omega⟩
      refine ⟨fun z => absurd z c1, fun _ => ⟨vi, fun v ev => ⟨7, cp_had ?_⟩⟩⟩
      rw [ev, nI_clamp (by omega)]
      exact href post _ _ _ _ rM ⟨fun z => absurd z (nI_nle (by omega) (by omega)), fun _ => hp⟩
theorem per7 {i : Nat} (hi : i + 1 < 60) {sh kn : Int32} {nw pd : Nat → Int32} {a x : Nat} (e0 : pd i = nI a) (ha : 65 ≤ a ∧ a ≤ 70) (e1 : pd (i + 1) = nI x) (hx : (x = 40 ∨ x = 41 ∨ x = 62 ∨ x = 60 ∨ x = 37) ∨ x = 36) {post : Int32 → (Nat → Int32) → Prop}
    (h36 : x = 36 → vp_in (nI (i + 2)) 60 ∧ pX7_leave nw (nI (a - 65)) (pd (i + 2) - 48) post) (h40 : x = 40 → pX7_stepOver sh kn nw (nI (a - 65)) post) (h41 : x = 41 → pX7_comeOut kn nw (nI (a - 65)) post) (h60 : x = 60 → pX7_walk sh nw (nI (a - 65)) (-1) post) (h62 : x = 62 → pX7_walk sh nw (nI (a - 65)) 1 post) (h37 : x = 37 → pX7_find nw (nI (a - 65)) post) : pX7_personAct sh kn nw pd (nI i) post := by
  have en : ∀ k, k < 2 ^ 31 → nI x = nI k → x = k := fun k hk z => (nI_eq (by omega) hk).mp z
  unfold pX7_personAct
  rw [nI_1, show nI i + 2 = nI (i + 2) from nI_add i 2, nI_clamp (by omega), nI_clamp (by omega), nI_clamp (by omega), e0, e1]
  refine ⟨vp_in_nI (by omega) (by decide), fun v2 e2 => ⟨vp_in_nI (by omega) (by decide), fun v4 e4 => ?_⟩⟩
  rw [show nI a - 65 = nI (a - 65) from pk_sub (b := 65) (by omega)] at e2
  rw [e2, e4]
  exact ⟨fun z => h36 (en 36 (by decide) z), fun z => h40 (en 40 (by decide) z), fun z => h41 (en 41 (by decide) z), fun z => h60 (en 60 (by decide) z), fun z => h62 (en 62 (by decide) z), fun z1 z2 z3 z4 z5 => h37 (by
    rcases hx with (rfl | rfl | rfl | rfl | rfl) | rfl
    · exact absurd rfl z2
    · exact absurd rfl z3
    · exact absurd rfl z5
    · exact absurd rfl z4
    · rfl
    · exact absurd rfl z1)⟩
/-- the reference at a person's act -/
theorem ref_per {i i' c : Nat} (hc : c ≤ 60) (hi : i + 1 < c) {sh kn : Int32} {bk nw pd : Nat → Int32} {a x : Nat} (e0 : pd i = nI a) (ha : 65 ≤ a ∧ a ≤ 70) (e1 : pd (i + 1) = nI x) (hx : ((x = 40 ∨ x = 41 ∨ x = 62 ∨ x = 60 ∨ x = 37) ∧ i' = i + 2) ∨ (x = 36 ∧ i' = i + 3)) {post : Int32 → (Int32 × Int32 × Int32 × Int32 × (Nat → Int32) × (Nat → Int32)) → Prop} {k11 : Int32 → Int32 → Int32 → Int32 → Int32 → (Nat → Int32) → (Nat → Int32) → Prop} {mA mT rsn t : Int32} {had : Nat → Int32}
    {r : Int32} {u : Nat → Int32} (hp : pX7_goYears_b152 sh kn (nI c) bk pd post k11 (nI i') mA mT r t u had) (h : ∀ po : Int32 → (Nat → Int32) → Prop, po r u → pX7_personAct sh kn nw pd (nI i) po) : pX7_goYears_b28 sh kn (nI c) bk pd post k11 1 (nI i) (pd i) 6 mA mT rsn t nw had := by
  have ne : ∀ k, k < 2 ^ 31 → a ≠ k → ¬ pd i = nI k := fun k hk hq => by rw [e0]; exact lit_ne (by omega) hk hq
  refine ⟨fun _ => ⟨fun _ => ⟨fun z => absurd z (ne 104 (by decide) (by omega)), fun _ => ⟨fun _ => h _ ?_, fun z => absurd z (ne 100 (by decide) (by omega))⟩⟩, fun z => absurd z (ne 107 (by decide) (by omega))⟩, fun z => absurd (Int32.le_refl _) z⟩
  rw [nI_1, nI_clamp (by omega), e1]
  refine ⟨vp_in_nI (by omega) (by decide), ?_, ?_⟩
  · intro z v ev
    rw [show nI i + 2 = nI (i + 2) from nI_add i 2] at ev
    rcases hx with ⟨-, e⟩ | ⟨e, -⟩
    · subst e; rw [ev]; exact hp
    · exact absurd (by rw [e]; rfl) z
  · intro z v ev
    rw [show nI i + 3 = nI (i + 3) from nI_add i 3] at ev
    rcases hx with ⟨e, -⟩ | ⟨-, e⟩
    · exact absurd z (lit_ne (b := 36) (by omega) (by decide) (by omega))
    · subst e; rw [ev]; exact hp
theorem tell_ok {c : Nat} (hc : c ≤ 60) {sgn bk pd : Nat → Int32} {aw : WT} {P : Nat → Nat} (h1 : ∀ j, j < c → sgn j = nI (P j) ∧ P j ≤ 126) (h2 : ∀ j, j < c → pd j = nI (P j)) :
    ∀ (d i t B : Nat), c - i ≤ d → i ≤ c → t ≤ i → B + 9 * (c - i) ≤ 1000000 → Good P c i 0 → ∀ (w : WT) (nw : Nat → Int32) (mA mT s p q rsn : Int32) (had : Nat → Int32), Rw w w.2.2.2.1 w.2.2.2.2.1 nw → Ow B w → ((mA = -6 ∧ mT = -6) ∨ ∃ q, q < 100 ∧ mA = nI q) → TellOk B c sgn aw bk pd i t w nw mA mT s p q rsn had := by
  intro d
  induction d with
  | zero =>
    intro i t B hd hi ht hB hg w nw mA mT s p q rsn had hR hO hm
    have e : i = c := by omega
    subst e
    refine ⟨t, 0, false, mA, mT, s, p, q, rsn, w, nw, had, by omega, by omega, fun z => Bool.noConfusion z, fun _ => ⟨hR, hO.mono (by omega)⟩, fun n hn post hp => ?_, fun n hn post hp => ?_⟩
    · obtain ⟨m, rfl⟩ : ∃ m, n = m + 1 := ⟨n - 1, by omega⟩
      exact ⟨fun _ => hp, fun z => absurd (Int32.le_refl _) z⟩
    · obtain ⟨m, rfl⟩ : ∃ m, n = m + 1 := ⟨n - 1, by omega⟩
      exact ⟨fun _ => hp, fun z => absurd (Int32.le_refl _) z⟩
  | succ d ihd =>
    intro i t B hd hi ht hB hg w nw mA mT s p q rsn had hR hO hm
    by_cases hge : c ≤ i
    · have e : i = c := by omega
      subst e
      refine ⟨t, 0, false, mA, mT, s, p, q, rsn, w, nw, had, by omega, by omega, fun z => Bool.noConfusion z, fun _ => ⟨hR, hO.mono (by omega)⟩, fun n hn post hp => ?_, fun n hn post hp => ?_⟩
      · obtain ⟨m, rfl⟩ : ∃ m, n = m + 1 := ⟨n - 1, by omega⟩
        exact ⟨fun _ => hp, fun z => absurd (Int32.le_refl _) z⟩
      · obtain ⟨m, rfl⟩ : ∃ m, n = m + 1 := ⟨n - 1, by omega⟩
        exact ⟨fun _ => hp, fun z => absurd (Int32.le_refl _) z⟩
    have hlt : i < c := Nat.lt_of_not_le hge
    have IH : ∀ i', i < i' → i' ≤ c → Good P c i' 0 → ∀ (sg pe nu : Int32) (w' : WT) (nw' : Nat → Int32) (mA' mT' rsn' : Int32) (had' : Nat → Int32), Rw w' w.2.2.2.1 w.2.2.2.2.1 nw' → Ow (B + 9) w' → ((mA' = -6 ∧ mT' = -6) ∨ ∃ q, q < 100 ∧ mA' = nI q) → TellOk (B + 9) c sgn aw bk pd i' (t + 1) w' nw' mA' mT' sg pe nu rsn' had' := by
      intro i' q1 q2 q3 sg pe nu w' nw' mA' mT' rsn' had' hR' hO' hm'
      refine ihd i' (t + 1) (B + 9) (by omega) q2 (by omega) (by omega) q3 w' nw' mA' mT' sg pe nu rsn' had' ?_ hO' hm'
      have es := hR'.2.2.2.1
      have ek := hR'.2.2.2.2.1
      rw [es, ek]; exact hR'
    obtain ⟨g1, g2⟩ := good_next hc hlt hg
    obtain ⟨s1, s1b⟩ := h1 i hlt
    have r1 := h2 i hlt
    rcases stp0 g1 with ⟨k1, k2, k3⟩ | ⟨k1, k3⟩ | ⟨k1, k3⟩
    · -- a person
      rw [k3] at g2
      have hlt2 := good_lt hc (by omega) g2 (by decide)
      obtain ⟨g3, g4⟩ := good_next hc hlt2 g2
      obtain ⟨s2, s2b⟩ := h1 (i + 1) hlt2
      have r2 := h2 (i + 1) hlt2
      have hj : P i - 65 ≤ 5 := by omega
      rcases stp1 g3 with ⟨k4, k5⟩ | ⟨k4, k5⟩
      · rw [k5] at g4
        have rd : ∀ post : Int32 → (Int32 × Int32 × Int32) → Prop, post (nI (i + 2)) (nI (P (i + 1)), nI (P i - 65), q) → pX2_readAct (nI c) sgn s p q (nI i) post := fun post hp => rd_per hc hlt2 s1 ⟨k1, k2⟩ s2 s2b s p q (fun _ _ _ => hp) (fun z => by omega)
        have no : ∀ k, P (i + 1) = k → ∀ l, k ≠ l → P (i + 1) = l → False := fun k z1 l z2 z3 => z2 (z1.symm.trans z3)
        rcases k4 with k | k | k | k | k
        · rw [k] at rd
          exact act_step hc hlt (i' := i + 2) (by omega) (by omega) ht (act_over hR hO (P i - 65) hj q) rd (fun post k11 had' r u hM hp => ref_per hc hlt2 r1 ⟨k1, k2⟩ r2 (Or.inl ⟨Or.inl k, rfl⟩) hp (fun po hpo => per7 (by omega) r1 ⟨k1, k2⟩ r2 (Or.inl (Or.inl k)) (fun z => (no _ k 36 (by decide) z).elim) (fun _ => hM po hpo) (fun z => (no _ k 41 (by decide) z).elim) (fun z => (no _ k 60 (by decide) z).elim) (fun z => (no _ k 62 (by decide) z).elim) (fun z => (no _ k 37 (by decide) z).elim))) hm (IH _ (by omega) (by omega) g4 _ _ _)
        · rw [k] at rd
          exact act_step hc hlt (i' := i + 2) (by omega) (by omega) ht (act_out hR hO (P i - 65) hj q) rd (fun post k11 had' r u hM hp => ref_per hc hlt2 r1 ⟨k1, k2⟩ r2 (Or.inl ⟨Or.inr (Or.inl k), rfl⟩) hp (fun po hpo => per7 (by omega) r1 ⟨k1, k2⟩ r2 (Or.inl (Or.inr (Or.inl k))) (fun z => (no _ k 36 (by decide) z).elim) (fun z => (no _ k 40 (by decide) z).elim) (fun _ => hM po hpo) (fun z => (no _ k 60 (by decide) z).elim) (fun z => (no _ k 62 (by decide) z).elim) (fun z => (no _ k 37 (by decide) z).elim))) hm (IH _ (by omega) (by omega) g4 _ _ _)
        · rw [k] at rd
          exact act_step hc hlt (i' := i + 2) (by omega) (by omega) ht (act_walk hR hO (P i - 65) hj q 62 1 (Or.inl ⟨rfl, rfl⟩)) rd (fun post k11 had' r u hM hp => ref_per hc hlt2 r1 ⟨k1, k2⟩ r2 (Or.inl ⟨Or.inr (Or.inr (Or.inl k)), rfl⟩) hp (fun po hpo => per7 (by omega) r1 ⟨k1, k2⟩ r2 (Or.inl (Or.inr (Or.inr (Or.inl k)))) (fun z => (no _ k 36 (by decide) z).elim) (fun z => (no _ k 40 (by decide) z).elim) (fun z => (no _ k 41 (by decide) z).elim) (fun z => (no _ k 60 (by decide) z).elim) (fun _ => hM po hpo) (fun z => (no _ k 37 (by decide) z).elim))) hm (IH _ (by omega) (by omega) g4 _ _ _)
        · rw [k] at rd
          exact act_step hc hlt (i' := i + 2) (by omega) (by omega) ht (act_walk hR hO (P i - 65) hj q 60 (-1) (Or.inr ⟨rfl, rfl⟩)) rd (fun post k11 had' r u hM hp => ref_per hc hlt2 r1 ⟨k1, k2⟩ r2 (Or.inl ⟨Or.inr (Or.inr (Or.inr (Or.inl k))), rfl⟩) hp (fun po hpo => per7 (by omega) r1 ⟨k1, k2⟩ r2 (Or.inl (Or.inr (Or.inr (Or.inr (Or.inl k))))) (fun z => (no _ k 36 (by decide) z).elim) (fun z => (no _ k 40 (by decide) z).elim) (fun z => (no _ k 41 (by decide) z).elim) (fun _ => hM po hpo) (fun z => (no _ k 62 (by decide) z).elim) (fun z => (no _ k 37 (by decide) z).elim))) hm (IH _ (by omega) (by omega) g4 _ _ _)
        · rw [k] at rd
          exact act_step hc hlt (i' := i + 2) (by omega) (by omega) ht (act_find hR hO (P i - 65) hj q (by omega)) rd (fun post k11 had' r u hM hp => ref_per hc hlt2 r1 ⟨k1, k2⟩ r2 (Or.inl ⟨Or.inr (Or.inr (Or.inr (Or.inr k))), rfl⟩) hp (fun po hpo => per7 (by omega) r1 ⟨k1, k2⟩ r2 (Or.inl (Or.inr (Or.inr (Or.inr (Or.inr k))))) (fun z => (no _ k 36 (by decide) z).elim) (fun z => (no _ k 40 (by decide) z).elim) (fun z => (no _ k 41 (by decide) z).elim) (fun z => (no _ k 60 (by decide) z).elim) (fun z => (no _ k 62 (by decide) z).elim) (fun _ => hM po hpo))) hm (IH _ (by omega) (by omega) g4 _ _ _)
      · rw [k5, show i + 1 + 1 = i + 2 from rfl] at g4
        have hlt3 := good_lt hc (by omega) g4 (by decide)
        obtain ⟨g5, g6⟩ := good_next hc hlt3 g4
        obtain ⟨s3, s3b⟩ := h1 (i + 2) hlt3
        have r3 := h2 (i + 2) hlt3
        obtain ⟨⟨k6, k7⟩, k8⟩ := stp2 g5
        rw [k8] at g6
        have rd : ∀ post : Int32 → (Int32 × Int32 × Int32) → Prop, post (nI (i + 3)) (nI (P (i + 1)), nI (P i - 65), nI (P (i + 2) - 48)) → pX2_readAct (nI c) sgn s p q (nI i) post := fun post hp => rd_per hc hlt2 s1 ⟨k1, k2⟩ s2 s2b s p q (fun z _ _ => absurd k4 z) (fun _ => ⟨P (i + 2), hlt3, s3, k6, k7, hp⟩)
        rw [k4] at rd
        have no : ∀ l, 36 ≠ l → P (i + 1) = l → False := fun l z2 z3 => z2 (k4.symm.trans z3)
        have e48 : pd (i + 2) - 48 = nI (P (i + 2) - 48) := by rw [r3]; exact pk_sub (b := 48) (by omega)
        exact act_step hc hlt (i' := i + 3) (by omega) (by omega) ht (act_leave hR hO (P i - 65) hj (P (i + 2) - 48) (by omega) (by omega)) rd (fun post k11 had' r u hM hp => ref_per hc hlt2 r1 ⟨k1, k2⟩ r2 (Or.inr ⟨k4, rfl⟩) hp (fun po hpo => per7 (by omega) r1 ⟨k1, k2⟩ r2 (Or.inr k4) (fun _ => ⟨vp_in_nI (by omega) (by decide), by rw [e48]; exact hM po hpo⟩) (fun z => (no 40 (by decide) z).elim) (fun z => (no 41 (by decide) z).elim) (fun z => (no 60 (by decide) z).elim) (fun z => (no 62 (by decide) z).elim) (fun z => (no 37 (by decide) z).elim))) hm (IH _ (by omega) (by omega) g6 _ _ _)
    · -- hours, days
      rw [k3] at g2
      have hlt2 := good_lt hc (by omega) g2 (by decide)
      obtain ⟨g3, g4⟩ := good_next hc hlt2 g2
      obtain ⟨s2, s2b⟩ := h1 (i + 1) hlt2
      have r2 := h2 (i + 1) hlt2
      obtain ⟨⟨k4, k5⟩, k6⟩ := stp2 g3
      rw [k6] at g4
      have rd : ∀ post : Int32 → (Int32 × Int32 × Int32) → Prop, post (nI (i + 2)) (nI (P i), p, nI (P (i + 1) - 48)) → pX2_readAct (nI c) sgn s p q (nI i) post := fun post hp => rd_time hc hlt s1 (by omega) s1b s p q (fun _ z1 z2 => by omega) (fun _ => ⟨P (i + 1), hlt2, s2, k4, k5, hp⟩)
      have e48 : pd (i + 1) - 48 = nI (P (i + 1) - 48) := by rw [r2]; exact pk_sub (b := 48) (by omega)
      have e2 : nI i + 2 = nI (i + 2) := nI_add i 2
      have b84 : ∀ (H : Nat), ((P i = 104 ∧ H = P (i + 1) - 48) ∨ (P i = 100 ∧ H = (P (i + 1) - 48) * 24)) → ∀ (post : Int32 → (Int32 × Int32 × Int32 × Int32 × (Nat → Int32) × (Nat → Int32)) → Prop) (k11 : Int32 → Int32 → Int32 → Int32 → Int32 → (Nat → Int32) → (Nat → Int32) → Prop) (had' : Nat → Int32) (r : Int32) (u : Nat → Int32), (∀ po : Int32 → (Nat → Int32) → Prop, po r u → pX7_pass nw (nI H) po) → pX7_goYears_b152 w.2.2.2.1 w.2.2.2.2.1 (nI c) bk pd post k11 (nI (i + 2)) mA mT r (nI t) u had' → pX7_goYears_b84 w.2.2.2.1 w.2.2.2.2.1 (nI c) bk pd post k11 (nI i) (nI (P i)) mA mT rsn (nI t) nw had' := by
        intro H hH post k11 had' r u hM hp
        unfold pX7_goYears_b84
        rw [nI_1, nI_clamp (by omega), e48]
        refine ⟨vp_in_nI (by omega) (by decide), fun z => ?_, fun z => ?_⟩
        · rcases hH with ⟨q1, q2⟩ | ⟨q1, q2⟩
          · exact absurd (by rw [q1]; rfl) z
          · unfold pX7_goYears_b109
            rw [show nI (P (i + 1) - 48) * 24 = nI ((P (i + 1) - 48) * 24) from pk_mul _ 24, ← q2]
            refine hM _ (fun v ev => ?_)
            rw [ev, e2]; exact hp
        · rcases hH with ⟨q1, q2⟩ | ⟨q1, q2⟩
          · unfold pX7_goYears_b109
            rw [show nI (P (i + 1) - 48) * 1 = nI ((P (i + 1) - 48) * 1) from pk_mul _ 1, Nat.mul_one, ← q2]
            refine hM _ (fun v ev => ?_)
            rw [ev, e2]; exact hp
          · rw [q1] at z; exact absurd z (by decide)
      rcases k1 with k | k
      · refine act_step hc hlt (i' := i + 2) (by omega) (by omega) ht (act_pass hR hO p (P i) (P (i + 1) - 48) (P (i + 1) - 48) (by omega) (Or.inl ⟨k, rfl⟩)) rd (fun post k11 had' r u hM hp => ?_) hm (IH _ (by omega) (by omega) g4 _ _ _)
        have b := b84 _ (Or.inl ⟨k, rfl⟩) post k11 had' r u hM hp
        rw [r1]
        refine ⟨fun _ => ⟨fun _ => ⟨fun _ => b, fun z => absurd (by rw [k]; rfl) z⟩, fun z => absurd z (by rw [k]; decide)⟩, fun z => absurd (Int32.le_refl _) z⟩
      · refine act_step hc hlt (i' := i + 2) (by omega) (by omega) ht (act_pass hR hO p (P i) (P (i + 1) - 48) ((P (i + 1) - 48) * 24) (by omega) (Or.inr ⟨k, rfl⟩)) rd (fun post k11 had' r u hM hp => ?_) hm (IH _ (by omega) (by omega) g4 _ _ _)
        have b := b84 _ (Or.inr ⟨k, rfl⟩) post k11 had' r u hM hp
        rw [r1]
        refine ⟨fun _ => ⟨fun _ => ⟨fun z => absurd z (by rw [k]; decide), fun _ => ⟨fun z => absurd (by rw [k]; rfl) z, fun _ => b⟩⟩, fun z => absurd z (by rw [k]; decide)⟩, fun z => absurd (Int32.le_refl _) z⟩
    · -- the next time
      rw [k3] at g2
      have rd : ∀ post : Int32 → (Int32 × Int32 × Int32) → Prop, post (nI (i + 1)) (nI (P i), p, q) → pX2_readAct (nI c) sgn s p q (nI i) post := fun post hp => rd_time hc hlt s1 (by omega) s1b s p q (fun _ _ _ => hp) (fun z => by omega)
      rw [k1] at rd
      refine act_step hc hlt (i' := i + 1) (by omega) (by omega) ht (act_next hR hO p q) rd (fun post k11 had' r u hM hp => ?_) hm (IH _ (by omega) (by omega) g2 _ _ _)
      rw [r1]
      refine ⟨fun _ => ⟨fun z => absurd (by rw [k1]; rfl) z, fun _ => hM _ (fun v ev => ?_)⟩, fun z => absurd (Int32.le_refl _) z⟩
      rw [ev, nI_1]; exact hp
