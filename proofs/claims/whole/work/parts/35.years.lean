/-! ===== PURE 13: the calls that tell years ===== -/
theorem flV_val (P : Nat → Nat) (c : Nat) : ∀ d i s, i + d = c → flV P c d i s = -6 ∨ ∃ k, k ≤ c ∧ flV P c d i s = nI k := by
  intro d
  induction d with
  | zero =>
    intro i s hi
    rw [flV]
    by_cases h : s = 0
    · rw [if_pos h]; exact Or.inl rfl
    · rw [if_neg h]; exact Or.inr ⟨c, Nat.le_refl _, rfl⟩
  | succ d ih =>
    intro i s hi
    rw [flV]
    by_cases h : stp s (P i) = 3
    · rw [if_pos h]; exact Or.inr ⟨i, by omega, rfl⟩
    · rw [if_neg h]; exact ih (i + 1) _ (by omega)
theorem Rw.cps {w : WT} {sh kn : Int32} {bk : Nat → Int32} (h : Rw w sh kn bk) (nw : Nat → Int32) : Rw w sh kn (cpS nw bk 45) := by
  obtain ⟨g1, g2, g3, g4, g5, g6, g7, g8⟩ := h
  refine ⟨?_, ?_, ?_, g4, g5, fun q hq => ?_, fun q hq => ?_, fun q hq => ?_⟩
  · rw [cpS_in (by omega)]; exact g1
  · rw [cpS_in (by omega)]; exact g2
  · rw [cpS_in (by omega)]; exact g3
  · rw [cpS_in (by omega)]; exact g6 q hq
  · rw [cpS_in (by omega)]; exact g7 q hq
  · rw [cpS_in (by omega)]; exact g8 q hq
theorem tells {B c : Nat} (hc : c ≤ 60) (hB : B + 540 ≤ 1000000) {P : Nat → Nat} {d h y s k : Int32} {pl co ly bk nw pad hd ps : Nat → Int32} (hR : Rw (d, h, y, s, k, pl, co, ly) s k bk) (hO : Ow B (d, h, y, s, k, pl, co, ly)) (hP : ∀ j, j < c → ps j = nI (P j) ∧ P j ≤ 126) (hP2 : ∀ j, j < c → pad j = nI (P j)) (hg : flV P c c 0 0 = -6)
    (ta tf tw tm tt td th ty ts tk : Int32) (tpl tco tly : Nat → Int32) (t1 t2 t3 mA mW rs0 ac : Int32) :
    ∃ (T rs : Nat) (f : Bool) (mA' mT' s' p' q' rsn' : Int32) (w' : WT) (nw' had' : Nat → Int32), T ≤ 60 ∧ rs ≤ 7 ∧ (f = true → rsn' = nI rs) ∧ (f = false → Rw w' s k nw' ∧ Ow (B + 540) w') ∧
     (∀ post : (Int32 × Int32 × Int32 × Int32 × Int32 × Int32 × Int32 × Int32 × Int32 × Int32 × (Nat → Int32) × (Nat → Int32) × (Nat → Int32) × Int32 × Int32 × Int32) → Prop, post (nI T, (if f then nI T else -6), (if f then nI rs else -6), mA', mT', w'.1, w'.2.1, w'.2.2.1, w'.2.2.2.1, w'.2.2.2.2.1, w'.2.2.2.2.2.1, w'.2.2.2.2.2.2.1, w'.2.2.2.2.2.2.2, s', p', q') → pX4_tell ta tf tw tm tt td th ty ts tk tpl tco tly t1 t2 t3 d h y s k pl co ly (nI c) ps post) ∧
     (∀ post : Int32 → (Int32 × Int32 × Int32 × Int32 × (Nat → Int32) × (Nat → Int32)) → Prop, post (if f then nI T else -6) (mA', mT', rsn', nI T, nw', had') → pX7_goYears s k (nI c) mA mW rs0 ac bk nw pad hd post) := by
  obtain ⟨T, rs, f, mA', mT', s', p', q', rsn', w', nw', had', a1, a2, a3, a4, a5, a6⟩ := tell_ok (bk := bk) (aw := (d, h, y, s, k, pl, co, ly)) hc hP hP2 c 0 0 B (Nat.le_refl _) (Nat.zero_le _) (Nat.le_refl _) (by omega) hg (d, h, y, s, k, va_cpy pl tpl 0 0 6, va_cpy co tco 0 0 6, va_cpy ly tly 0 0 30) (cpS nw bk 45) (-6) (-6) t1 t2 t3 rs0 hd ((hR.cpy tpl tco tly).cps nw) (hO.cpy tpl tco tly) (Or.inl ⟨rfl, rfl⟩)
  refine ⟨T, rs, f, mA', mT', s', p', q', rsn', w', nw', had', a1, a2, a3, fun z => ⟨(a4 z).1, (a4 z).2.mono (by omega)⟩, fun post hp => ⟨c + 1, a5 (c + 1) (by omega) post hp⟩, fun post hp => asn7 _ _ _ _ ⟨c + 1, a6 (c + 1) (by omega) post hp⟩⟩
theorem told {B c : Nat} (hc : c ≤ 60) (hB : B + 540 ≤ 1000000) {P : Nat → Nat} {d h y s k : Int32} {pl co ly bk nw pad hd ps : Nat → Int32} (hR : Rw (d, h, y, s, k, pl, co, ly) s k bk) (hO : Ow B (d, h, y, s, k, pl, co, ly)) (hP : ∀ j, j < c → ps j = nI (P j) ∧ P j ≤ 126) (hP2 : ∀ j, j < c → pad j = nI (P j))
    (ta tf tw tm tt td th ty ts tk : Int32) (tpl tco tly : Nat → Int32) (t1 t2 t3 mA mW rs0 ac : Int32) :
    ∃ (b : Bool) (acts m1 m2 x1 x2 s' p' q' y1 y2 y3 rsn' : Int32) (w' : WT) (nw' had' : Nat → Int32), (b = true → y1 = m1 ∧ y2 = m2 ∧ y3 = acts ∧ Rw w' s k nw' ∧ Ow (B + 540) w') ∧
     (∀ post : Int32 → (Int32 × Int32 × Int32 × Int32 × Int32 × Int32 × Int32 × Int32 × Int32 × Int32 × (Nat → Int32) × (Nat → Int32) × (Nat → Int32) × Int32 × Int32 × Int32) → Prop, post (b2i b) (acts, x1, x2, m1, m2, w'.1, w'.2.1, w'.2.2.1, w'.2.2.2.1, w'.2.2.2.2.1, w'.2.2.2.2.2.1, w'.2.2.2.2.2.2.1, w'.2.2.2.2.2.2.2, s', p', q') → pX6_canBeTold d h y s k pl co ly (nI c) ps ta tf tw tm tt td th ty ts tk tpl tco tly t1 t2 t3 post) ∧
     (∀ post : Int32 → (Int32 × Int32 × Int32 × Int32 × (Nat → Int32) × (Nat → Int32)) → Prop, post (if b then 0 else -5) (y1, y2, rsn', y3, nw', had') → pX7_barOfYears s k (nI c) mA mW rs0 ac bk nw pad hd post) := by
  have hP' : ∀ j, j < c → pad j = nI (P j) ∧ P j ≤ 126 := fun j hj => ⟨hP2 j hj, (hP j hj).2⟩
  rcases flV_val P c c 0 0 (by omega) with hg | ⟨j, hj, hg⟩
  · obtain ⟨T, rs, f, mA', mT', s', p', q', rsn', w', nw', had', a1, a2, a3, a4, a5, a6⟩ := tells (nw := nw) (hd := hd) hc hB hR hO hP hP2 hg ta tf tw tm tt td th ty ts tk tpl tco tly t1 t2 t3 mA mW rs0 ac
    cases f with
    | false =>
      obtain ⟨g1, g2⟩ := a4 rfl
      refine ⟨true, nI T, mA', mT', -6, -6, s', p', q', mA', mT', nI T, rsn', w', nw', had', fun _ => ⟨rfl, rfl, rfl, g1, g2⟩, fun post hp => ff2 hc hP ?_, fun post hp => flt7 hc hP' ?_⟩
      · rw [hg]
        exact ⟨fun _ => a5 _ ⟨fun z => absurd rfl z, fun _ => hp⟩, fun z => absurd rfl z⟩
      · rw [hg]
        exact ⟨fun z => absurd z (by decide), fun _ => a6 _ ⟨fun _ => hp, fun z => absurd (show (-6 : Int32) < 0 by decide) z⟩⟩
    | true =>
      have z1 : ¬ nI T = -6 := nI_nm (k := 6) (by omega) (by decide) (by decide)
      have z2 : ¬ nI T < 0 := nI_pos (by omega)
      refine ⟨false, nI T, mA', mT', nI T, nI rs, s', p', q', mA', mT', nI T, rsn', w', nw', had', fun z => Bool.noConfusion z, fun post hp => ff2 hc hP ?_, fun post hp => flt7 hc hP' ?_⟩
      · rw [hg]
        exact ⟨fun _ => a5 _ ⟨fun _ => hp, fun z => absurd z z1⟩, fun z => absurd rfl z⟩
      · rw [hg]
        exact ⟨fun z => absurd z (by decide), fun _ => a6 _ ⟨fun z => absurd z z2, fun _ => hp⟩⟩
  · have z1 : ¬ nI j = -6 := nI_nm (k := 6) (by omega) (by decide) (by decide)
    refine ⟨false, ta, tm, tt, tf, tw, t1, t2, t3, mA, mW, ac, rs0, (td, th, ty, ts, tk, tpl, tco, tly), nw, hd, fun z => Bool.noConfusion z, fun post hp => ff2 hc hP ?_, fun post hp => flt7 hc hP' ?_⟩
    · rw [hg]
      exact ⟨fun z => absurd z z1, fun _ => hp⟩
    · rw [hg]
      exact ⟨fun _ => hp, fun z => absurd (nI_pos' (by omega)) z⟩
theorem pads {pd : PDT} {sns : Int32} {pad : Nat → Int32} (h : Rp pd sns pad) : ∃ (c : Nat) (P : Nat → Nat), c ≤ 60 ∧ pd.1 = nI c ∧ sns = nI c ∧ (∀ j, j < c → pd.2 j = nI (P j) ∧ P j ≤ 126) ∧ (∀ j, j < c → pad j = nI (P j)) := by
  obtain ⟨h1, c, hc, h2, h3⟩ := h
  refine ⟨c, fun j => (pad j).toNatClampNeg, hc, by rw [h1, h2], h2, fun j hj => ?_, fun j hj => ?_⟩
  · obtain ⟨g1, a, g2, g3, g4⟩ := h3 j hj
    rw [g1, g4]
    dsimp only
    rw [g4, nI_clamp (by omega)]
    exact ⟨rfl, g3⟩
  · obtain ⟨g1, a, g2, g3, g4⟩ := h3 j hj
    dsimp only
    rw [g4, nI_clamp (by omega)]
theorem case6 {n : Nat} {xs : Nat → Int32} {i : Nat} {X : XT} {M : MT} {K : XT → MT → Prop} (hI : Inv n X M) (hK : ∀ X M, Inv (n + 1) X M → K X M) : lc6 xs i X M K := by
  have hI1 := Inv.up hI
  obtain ⟨c, P, hc, e1, e2, p1, p2⟩ := pads hI.2.2.2.1
  unfold lc6 pX6_fault pX7_fault
  rw [e1, e2]
  exact ff2 hc p1 (flt7 hc (fun j hj => ⟨p2 j hj, (p1 j hj).2⟩) ⟨rfl, hK _ _ hI1⟩)
theorem case7 {n : Nat} (hn : n < 512) {xs : Nat → Int32} {i : Nat} {X : XT} {M : MT} {K : XT → MT → Prop} (hI : Inv n X M) (hK : ∀ X M, Inv (n + 1) X M → K X M) : lc7 xs i X M K := by
  obtain ⟨⟨d, h, y, s, k, pl, co, ly⟩, sg, ⟨pc, ps⟩, ⟨⟨td, th, ty, ts, tk, tpl, tco, tly⟩, ta, tf, tw, tm, tt, t1, t2, t3⟩, i0, i1⟩ := X
  obtain ⟨bk, nw, sh, kn, sgs, sgt, sns, pad, mA, mW, rs, ac, hd, tk', wo, fi, wi, wy, im, ik⟩ := M
  have hI1 := Inv.up hI
  obtain ⟨k1, k2, k3, k4, k5, k6, k7⟩ := hI1
  obtain ⟨hR, hO, hS, hP, h0, h1, hw⟩ := hI
  dsimp only at hR hO hS hP h0 h1 hw k1 k2 k3 k4 k5 k6 k7
  have es : s = sh := hR.2.2.2.1
  have ek : k = kn := hR.2.2.2.2.1
  subst es
  subst ek
  obtain ⟨c, P, hc, e1, e2, p1, p2⟩ := pads hP
  dsimp only at e1 p1
  subst e1
  subst e2
  unfold lc7 pX6_judge
  dsimp only
  have hP' : ∀ j, j < c → pad j = nI (P j) ∧ P j ≤ 126 := fun j hj => ⟨p2 j hj, (p1 j hj).2⟩
  rcases rng (xs (i + 1)) 0 1 with ⟨j, hj1, hj2, e⟩ | hne
  · refine in6_t 0 1 j e hj1 hj2 (by decide) (b_n1 (ff2 hc p1 ?_))
    rcases flV_val P c c 0 0 (by omega) with hg | ⟨v, hv, hg⟩
    · rw [hg]
      refine ⟨fun _ => ?_, fun z => absurd rfl z⟩
      obtain ⟨T, rr, f, mA', mT', s', p', q', rsn', w', nw', had', a1, a2, a3, a4, a5, a6⟩ := tells (nw := nw) (hd := hd) hc (show 540 * n + 540 ≤ 1000000 by omega) hR hO p1 p2 hg ta tf tw tm tt td th ty ts tk tpl tco tly t1 t2 t3 mA mW rs ac
      refine a5 _ ?_
      have seven : ∀ (po : Int32 → (Int32 × Int32 × Int32 × Int32 × (Nat → Int32) × (Nat → Int32)) → Prop), (∀ r5, r5 = (if f then (if xs (i + 1) = 0 then nI T else nI rr) else -6) → po r5 (mA', mT', rsn', nI T, nw', had')) → pX7_judge s k (nI c) mA mW rs ac bk nw pad hd (xs (i + 1)) po := by
        intro po hpo
        refine in7_t 0 1 j e hj1 hj2 (by decide) (b_n1 (flt7 hc hP' ?_))
        rw [hg]
        refine ⟨fun _ => a6 _ ?_, fun z => absurd (show (-6 : Int32) < 0 by decide) z⟩
        cases f with
        | false => exact ⟨fun _ => hpo _ rfl, fun z => absurd (show (-6 : Int32) < 0 by decide) z⟩
        | true =>
          refine ⟨fun z => absurd z (nI_pos (by omega)), fun _ => ⟨fun z => hpo _ ?_, fun z => hpo _ ?_⟩⟩
          · rw [if_pos rfl, if_neg z]; exact a3 rfl
          · rw [if_pos rfl, if_pos z, if_pos rfl]
      refine ⟨fun z => seven _ (fun r5 e5 => ⟨?_, hK _ _ (inv_mk k1 k2 k3 k4 k5 k6 k7)⟩), fun z => seven _ (fun r5 e5 => ⟨?_, hK _ _ (inv_mk k1 k2 k3 k4 k5 k6 k7)⟩)⟩
      · rw [e5, if_neg z]
      · rw [e5, if_pos z]
    · rw [hg]
      have z1 : ¬ nI v = -6 := nI_nm (k := 6) (by omega) (by decide) (by decide)
      refine ⟨fun z => absurd z z1, fun _ => in7_t 0 1 j e hj1 hj2 (by decide) (b_n1 (flt7 hc hP' ?_))⟩
      rw [hg]
      exact ⟨fun z => absurd z (nI_pos (by omega)), fun _ => ⟨rfl, hK _ _ (inv_mk k1 k2 k3 k4 k5 k6 k7)⟩⟩
  · exact in6_f 0 1 hne (by decide) (by decide) (b_n0 (in7_f 0 1 hne (by decide) (by decide) (b_n0 ⟨rfl, hK _ _ (inv_mk k1 k2 k3 k4 k5 k6 k7)⟩)))
theorem done_cp {sh kn : Int32} {pad : Nat → Int32} {post : Int32 → (Int32 × Int32 × Int32 × Int32 × Int32 × (Nat → Int32) × (Nat → Int32) × (Nat → Int32)) → Prop} {sgs mA mW rs ac : Int32} {bk nw hd : Nat → Int32} (h : post ac (0, mA, mW, rs, ac, cpS bk nw 45, nw, hd)) : pX7_done_b12 sh kn pad post 46 0 sgs mA mW rs ac bk nw hd := by
  have key : ∀ d i, i + d = 45 → pX7_done_b12 sh kn pad post (d + 1) (nI i) sgs mA mW rs ac (cpS bk nw i) nw hd := by
    intro d
    induction d with
    | zero =>
      intro i hi
      have e : i = 45 := by omega
      subst e
      exact ⟨fun _ => h, fun q => absurd (Int32.le_refl _) q⟩
    | succ d ih =>
      intro i hi
      have h6 : ¬ (45 : Int32) ≤ nI i := nI_ge (b := 45) (by omega) (by decide)
      refine ⟨fun q => absurd q h6, fun _ => ⟨vp_in_nI (by omega) (by decide), fun v e => ⟨vp_in_nI (by omega) (by decide), fun v2 e2 => ?_⟩⟩⟩
      rw [e, e2, nI_1, nI_clamp (by omega), cpS_s]
      exact ih (i + 1) (by omega)
  have := key 45 0 rfl
  rw [cpS_0] at this
  exact this
theorem case8 {n : Nat} (hn : n < 512) {xs : Nat → Int32} {i : Nat} {X : XT} {M : MT} {K : XT → MT → Prop} (hI : Inv n X M) (hK : ∀ X M, Inv (n + 1) X M → K X M) : lc8 xs i X M K := by
  obtain ⟨⟨d, h, y, s, k, pl, co, ly⟩, sg, ⟨pc, ps⟩, ⟨⟨td, th, ty, ts, tk, tpl, tco, tly⟩, ta, tf, tw, tm, tt, t1, t2, t3⟩, i0, i1⟩ := X
  obtain ⟨bk, nw, sh, kn, sgs, sgt, sns, pad, mA, mW, rs, ac, hd, tk', wo, fi, wi, wy, im, ik⟩ := M
  have hI1 := Inv.up hI
  obtain ⟨k1, k2, k3, k4, k5, k6, k7⟩ := hI1
  obtain ⟨hR, hO, hS, hP, h0, h1, hw⟩ := hI
  dsimp only at hR hO hS hP h0 h1 hw k1 k2 k3 k4 k5 k6 k7
  have es : s = sh := hR.2.2.2.1
  have ek : k = kn := hR.2.2.2.2.1
  subst es
  subst ek
  obtain ⟨c, P, hc, e1, e2, p1, p2⟩ := pads hP
  dsimp only at e1 p1
  subst e1
  subst e2
  unfold lc8 pX6_done pX7_done pX5_become
  dsimp only
  obtain ⟨b, acts, m1, m2, x1, x2, s', p', q', y1, y2, y3, rsn', w', nw', had', g, a5, a6⟩ := told (nw := nw) (hd := hd) hc (show 540 * n + 540 ≤ 1000000 by omega) hR hO p1 p2 ta tf tw tm tt td th ty ts tk tpl tco tly t1 t2 t3 mA mW rs ac
  refine a5 _ ?_
  cases b with
  | false => exact b_n0 (a6 _ ⟨fun z => absurd z (by decide), fun _ => ⟨rfl, hK _ _ (inv_mk k1 k2 k3 k4 k5 k6 k7)⟩⟩)
  | true =>
    obtain ⟨f1, f2, f3, f4, f5⟩ := g rfl
    obtain ⟨wd, wh, wy', ws, wk, wpl, wco, wly⟩ := w'
    have ws' : ws = s := f4.2.2.2.1
    have wk' : wk = k := f4.2.2.2.2.1
    subst ws'
    subst wk'
    refine b_n1 (a6 _ ⟨fun _ => ⟨46, done_cp ⟨f3.symm, hK _ _ (inv_mk ((f4.cpy pl co ly).cps bk) ((f5.cpy pl co ly).mono (by omega)) k3 ⟨rfl, 0, by omega, rfl, fun j hj => absurd hj (Nat.not_lt_zero j)⟩ k5 k6 k7)⟩⟩, fun z => absurd (show (0 : Int32) ≤ 0 by decide) z⟩)
theorem case9 {n : Nat} (hn : n < 512) {xs : Nat → Int32} {i : Nat} {X : XT} {M : MT} {K : XT → MT → Prop} (hI : Inv n X M) (hK : ∀ X M, Inv (n + 1) X M → K X M) : lc9 xs i X M K := by
  obtain ⟨⟨d, h, y, s, k, pl, co, ly⟩, sg, ⟨pc, ps⟩, ⟨⟨td, th, ty, ts, tk, tpl, tco, tly⟩, ta, tf, tw, tm, tt, t1, t2, t3⟩, i0, i1⟩ := X
  obtain ⟨bk, nw, sh, kn, sgs, sgt, sns, pad, mA, mW, rs, ac, hd, tk', wo, fi, wi, wy, im, ik⟩ := M
  have hI1 := Inv.up hI
  obtain ⟨k1, k2, k3, k4, k5, k6, k7⟩ := hI1
  obtain ⟨hR, hO, hS, hP, h0, h1, hw⟩ := hI
  dsimp only at hR hO hS hP h0 h1 hw k1 k2 k3 k4 k5 k6 k7
  have es : s = sh := hR.2.2.2.1
  have ek : k = kn := hR.2.2.2.2.1
  subst es
  subst ek
  obtain ⟨c, P, hc, e1, e2, p1, p2⟩ := pads hP
  dsimp only at e1 p1
  subst e1
  subst e2
  unfold lc9 pX6_behind
  dsimp only
  rcases rng (xs (i + 1)) 0 5 with ⟨j, hj1, hj2, e⟩ | hne
  · refine per_t j e hj2 (b_n1 ?_)
    rcases rng (xs (i + 2)) 0 1 with ⟨l, hl1, hl2, el⟩ | hnl
    · refine in6_t 0 1 l el hl1 hl2 (by decide) (b_n1 ?_)
      obtain ⟨b, acts, m1, m2, x1, x2, s', p', q', y1, y2, y3, rsn', w', nw', had', g, a5, a6⟩ := told (nw := nw) (hd := hd) hc (show 540 * n + 540 ≤ 1000000 by omega) hR hO p1 p2 ta tf tw tm tt td th ty ts tk tpl tco tly t1 t2 t3 mA mW rs ac
      have ix : (6 : Int32) * nI l + nI j = nI (6 * l + j) := by rw [show (6 : Int32) * nI l = nI (6 * l) from pk_mul 6 l, nI_add]
      refine a5 _ ?_
      cases b with
      | false => exact b_n0 (in7_t 0 5 j e hj1 hj2 (by decide) (b_n1 (in7_t 0 1 l el hl1 hl2 (by decide) (b_n1 (a6 _ ⟨fun z => absurd z (by decide), fun _ => ⟨rfl, hK _ _ (inv_mk k1 k2 k3 k4 k5 k6 k7)⟩⟩)))))
      | true =>
        obtain ⟨f1, f2, f3, f4, f5⟩ := g rfl
        have seven : ∀ (po : Int32 → (Int32 × Int32 × Int32 × Int32 × (Nat → Int32) × (Nat → Int32)) → Prop), po (nw' (6 * l + j)) (y1, y2, rsn', y3, nw', had') → pX7_behind s k (nI c) mA mW rs ac bk nw pad hd (xs (i + 1)) (xs (i + 2)) po := by
          intro po hpo
          refine in7_t 0 5 j e hj1 hj2 (by decide) (b_n1 (in7_t 0 1 l el hl1 hl2 (by decide) (b_n1 (a6 _ ⟨fun _ => ?_, fun z => absurd (show (0 : Int32) ≤ 0 by decide) z⟩))))
          rw [el, e, ix, nI_clamp (by omega)]
          exact ⟨vp_in_nI (by omega) (by decide), hpo⟩
        refine b_n1 ⟨fun z => ⟨by rw [e]; exact vp_in_nI (by omega) (by decide), seven _ ⟨?_, hK _ _ (inv_mk k1 k2 k3 k4 k5 k6 k7)⟩⟩, fun z => ⟨by rw [e]; exact vp_in_nI (by omega) (by decide), seven _ ⟨?_, hK _ _ (inv_mk k1 k2 k3 k4 k5 k6 k7)⟩⟩⟩
        · have : l = 1 := by
            rcases (show l = 0 ∨ l = 1 by omega) with rfl | rfl
            · exact absurd el z
            · rfl
          subst this
          rw [e, nI_clamp (by omega)]
          exact f4.2.2.2.2.2.2.1 j (by omega)
        · have : l = 0 := (nI_eq (b := 0) (by omega) (by decide)).mp (el.symm.trans z)
          subst this
          rw [e, nI_clamp (by omega), show 6 * 0 + j = j by omega]
          exact f4.2.2.2.2.2.1 j (by omega)
    · exact in6_f 0 1 hnl (by decide) (by decide) (b_n0 (in7_t 0 5 j e hj1 hj2 (by decide) (b_n1 (in7_f 0 1 hnl (by decide) (by decide) (b_n0 ⟨rfl, hK _ _ (inv_mk k1 k2 k3 k4 k5 k6 k7)⟩)))))
  · exact per_f hne (b_n0 (in7_f 0 5 hne (by decide) (by decide) (b_n0 ⟨rfl, hK _ _ (inv_mk k1 k2 k3 k4 k5 k6 k7)⟩)))
theorem case10 {n : Nat} (hn : n < 512) {xs : Nat → Int32} {i : Nat} {X : XT} {M : MT} {K : XT → MT → Prop} (hI : Inv n X M) (hK : ∀ X M, Inv (n + 1) X M → K X M) : lc10 xs i X M K := by
  obtain ⟨⟨d, h, y, s, k, pl, co, ly⟩, sg, ⟨pc, ps⟩, ⟨⟨td, th, ty, ts, tk, tpl, tco, tly⟩, ta, tf, tw, tm, tt, t1, t2, t3⟩, i0, i1⟩ := X
  obtain ⟨bk, nw, sh, kn, sgs, sgt, sns, pad, mA, mW, rs, ac, hd, tk', wo, fi, wi, wy, im, ik⟩ := M
  have hI1 := Inv.up hI
  obtain ⟨k1, k2, k3, k4, k5, k6, k7⟩ := hI1
  obtain ⟨hR, hO, hS, hP, h0, h1, hw⟩ := hI
  dsimp only at hR hO hS hP h0 h1 hw k1 k2 k3 k4 k5 k6 k7
  have es : s = sh := hR.2.2.2.1
  have ek : k = kn := hR.2.2.2.2.1
  subst es
  subst ek
  obtain ⟨c, P, hc, e1, e2, p1, p2⟩ := pads hP
  dsimp only at e1 p1
  subst e1
  subst e2
  unfold lc10 pX6_lies pX7_lies
  dsimp only
  rcases rng (xs (i + 1)) 0 29 with ⟨j, hj1, hj2, e⟩ | hne
  · refine in6_t 0 29 j e hj1 hj2 (by decide) (b_n1 ?_)
    obtain ⟨b, acts, m1, m2, x1, x2, s', p', q', y1, y2, y3, rsn', w', nw', had', g, a5, a6⟩ := told (nw := nw) (hd := hd) hc (show 540 * n + 540 ≤ 1000000 by omega) hR hO p1 p2 ta tf tw tm tt td th ty ts tk tpl tco tly t1 t2 t3 mA mW rs ac
    have ix : (12 : Int32) + nI j = nI (12 + j) := nI_add 12 j
    refine a5 _ ?_
    cases b with
    | false => exact b_e0 (in7_t 0 29 j e hj1 hj2 (by decide) (b_n1 (a6 _ ⟨fun z => absurd z (by decide), fun _ => ⟨rfl, hK _ _ (inv_mk k1 k2 k3 k4 k5 k6 k7)⟩⟩)))
    | true =>
      obtain ⟨f1, f2, f3, f4, f5⟩ := g rfl
      rw [e, ix, nI_clamp (by omega), nI_clamp (by omega)]
      exact b_e1 ⟨vp_in_nI (by omega) (by decide), in7_t 0 29 j rfl hj1 hj2 (by decide) (b_n1 (a6 _ ⟨fun _ => ⟨vp_in_nI (by omega) (by decide), f4.2.2.2.2.2.2.2 j (by omega), hK _ _ (inv_mk k1 k2 k3 k4 k5 k6 k7)⟩, fun z => absurd (show (0 : Int32) ≤ 0 by decide) z⟩))⟩
  · exact in6_f 0 29 hne (by decide) (by decide) (b_n0 (in7_f 0 29 hne (by decide) (by decide) (b_n0 ⟨rfl, hK _ _ (inv_mk k1 k2 k3 k4 k5 k6 k7)⟩)))
theorem case11 {n : Nat} (hn : n < 512) {xs : Nat → Int32} {i : Nat} {X : XT} {M : MT} {K : XT → MT → Prop} (hI : Inv n X M) (hK : ∀ X M, Inv (n + 1) X M → K X M) : lc11 xs i X M K := by
  obtain ⟨⟨d, h, y, s, k, pl, co, ly⟩, sg, ⟨pc, ps⟩, ⟨⟨td, th, ty, ts, tk, tpl, tco, tly⟩, ta, tf, tw, tm, tt, t1, t2, t3⟩, i0, i1⟩ := X
  obtain ⟨bk, nw, sh, kn, sgs, sgt, sns, pad, mA, mW, rs, ac, hd, tk', wo, fi, wi, wy, im, ik⟩ := M
  have hI1 := Inv.up hI
  obtain ⟨k1, k2, k3, k4, k5, k6, k7⟩ := hI1
  obtain ⟨hR, hO, hS, hP, h0, h1, hw⟩ := hI
  dsimp only at hR hO hS hP h0 h1 hw k1 k2 k3 k4 k5 k6 k7
  have es : s = sh := hR.2.2.2.1
  have ek : k = kn := hR.2.2.2.2.1
  subst es
  subst ek
  obtain ⟨c, P, hc, e1, e2, p1, p2⟩ := pads hP
  dsimp only at e1 p1
  subst e1
  subst e2
  unfold lc11 pX6_then pX7_then pX5_dateByNewCount
  dsimp only
  rcases rng (xs (i + 1)) 0 7 with ⟨j, hj1, hj2, e⟩ | hne
  · refine in6_t 0 7 j e hj1 hj2 (by decide) (b_n1 ?_)
    obtain ⟨b, acts, m1, m2, x1, x2, s', p', q', y1, y2, y3, rsn', w', nw', had', g, a5, a6⟩ := told (nw := nw) (hd := hd) hc (show 540 * n + 540 ≤ 1000000 by omega) hR hO p1 p2 ta tf tw tm tt td th ty ts tk tpl tco tly t1 t2 t3 mA mW rs ac
    refine a5 _ ?_
    cases b with
    | false => exact b_n0 (in7_t 0 7 j e hj1 hj2 (by decide) (b_n1 (a6 _ ⟨fun z => absurd z (by decide), fun _ => ⟨rfl, hK _ _ (inv_mk k1 k2 k3 k4 k5 k6 k7)⟩⟩)))
    | true =>
      obtain ⟨f1, f2, f3, f4, f5⟩ := g rfl
      refine b_n1 ?_
      rw [e]
      have o0 : (0 : Int32) ≤ 0 := by decide
      rcases (show j = 0 ∨ j = 1 ∨ j = 2 ∨ j = 3 ∨ j = 4 ∨ j = 5 ∨ j = 6 ∨ j = 7 by omega) with rfl | rfl | rfl | rfl | rfl | rfl | rfl | rfl
      · exact ⟨fun _ => (in7_t 0 7 0 rfl (by omega) (by omega) (by decide) (b_n1 (a6 _ ⟨fun _ => ⟨fun _ => ⟨f4.1, hK _ _ (inv_mk k1 k2 k3 k4 k5 k6 k7)⟩, fun z => absurd z (by decide), fun z => absurd z (by decide), fun z => absurd z (by decide), fun z => absurd z (by decide), fun z => absurd z (by decide), fun z _ _ _ _ _ => absurd rfl z⟩, fun z => absurd o0 z⟩))), fun z => absurd z (by decide), fun z => absurd z (by decide), fun z => absurd z (by decide), fun z => absurd z (by decide), fun z => absurd z (by decide), fun z => absurd z (by decide), fun z _ _ _ _ _ _ => absurd rfl z⟩
      · exact ⟨fun z => absurd z (by decide), fun _ => (in7_t 0 7 1 rfl (by omega) (by omega) (by decide) (b_n1 (a6 _ ⟨fun _ => ⟨fun z => absurd z (by decide), fun _ => ⟨by rw [f4.1, f4.2.2.2.1], hK _ _ (inv_mk k1 k2 k3 k4 k5 k6 k7)⟩, fun z => absurd z (by decide), fun z => absurd z (by decide), fun z => absurd z (by decide), fun z => absurd z (by decide), fun _ z _ _ _ _ => absurd rfl z⟩, fun z => absurd o0 z⟩))), fun z => absurd z (by decide), fun z => absurd z (by decide), fun z => absurd z (by decide), fun z => absurd z (by decide), fun z => absurd z (by decide), fun _ z _ _ _ _ _ => absurd rfl z⟩
      · exact ⟨fun z => absurd z (by decide), fun z => absurd z (by decide), fun _ => (in7_t 0 7 2 rfl (by omega) (by omega) (by decide) (b_n1 (a6 _ ⟨fun _ => ⟨fun z => absurd z (by decide), fun z => absurd z (by decide), fun _ => ⟨vpc rfl, f4.2.1, hK _ _ (inv_mk k1 k2 k3 k4 k5 k6 k7)⟩, fun z => absurd z (by decide), fun z => absurd z (by decide), fun z => absurd z (by decide), fun _ _ z _ _ _ => absurd rfl z⟩, fun z => absurd o0 z⟩))), fun z => absurd z (by decide), fun z => absurd z (by decide), fun z => absurd z (by decide), fun z => absurd z (by decide), fun _ _ z _ _ _ _ => absurd rfl z⟩
      · exact ⟨fun z => absurd z (by decide), fun z => absurd z (by decide), fun z => absurd z (by decide), fun _ => (in7_t 0 7 3 rfl (by omega) (by omega) (by decide) (b_n1 (a6 _ ⟨fun _ => ⟨fun z => absurd z (by decide), fun z => absurd z (by decide), fun z => absurd z (by decide), fun _ => ⟨vpc rfl, f4.2.2.1, hK _ _ (inv_mk k1 k2 k3 k4 k5 k6 k7)⟩, fun z => absurd z (by decide), fun z => absurd z (by decide), fun _ _ _ z _ _ => absurd rfl z⟩, fun z => absurd o0 z⟩))), fun z => absurd z (by decide), fun z => absurd z (by decide), fun z => absurd z (by decide), fun _ _ _ z _ _ _ => absurd rfl z⟩
      · exact ⟨fun z => absurd z (by decide), fun z => absurd z (by decide), fun z => absurd z (by decide), fun z => absurd z (by decide), fun _ => (who5 _ (in7_t 0 7 4 rfl (by omega) (by omega) (by decide) (b_n1 (a6 _ ⟨fun _ => ⟨fun z => absurd z (by decide), fun z => absurd z (by decide), fun z => absurd z (by decide), fun z => absurd z (by decide), fun _ => (who7 _ ⟨wb_eq f4 f5, hK _ _ (inv_mk k1 k2 k3 k4 k5 k6 k7)⟩), fun z => absurd z (by decide), fun _ _ _ _ z _ => absurd rfl z⟩, fun z => absurd o0 z⟩)))), fun z => absurd z (by decide), fun z => absurd z (by decide), fun _ _ _ _ z _ _ => absurd rfl z⟩
      · exact ⟨fun z => absurd z (by decide), fun z => absurd z (by decide), fun z => absurd z (by decide), fun z => absurd z (by decide), fun z => absurd z (by decide), fun _ => (lie5 _ (in7_t 0 7 5 rfl (by omega) (by omega) (by decide) (b_n1 (a6 _ ⟨fun _ => ⟨fun z => absurd z (by decide), fun z => absurd z (by decide), fun z => absurd z (by decide), fun z => absurd z (by decide), fun z => absurd z (by decide), fun _ => (lie7 _ ⟨sm_eq f4, hK _ _ (inv_mk k1 k2 k3 k4 k5 k6 k7)⟩), fun _ _ _ _ _ z => absurd rfl z⟩, fun z => absurd o0 z⟩)))), fun z => absurd z (by decide), fun _ _ _ _ _ z _ => absurd rfl z⟩
      · exact ⟨fun z => absurd z (by decide), fun z => absurd z (by decide), fun z => absurd z (by decide), fun z => absurd z (by decide), fun z => absurd z (by decide), fun z => absurd z (by decide), fun _ => (in7_t 0 7 6 rfl (by omega) (by omega) (by decide) (b_n1 (a6 _ ⟨fun _ => ⟨fun z => absurd z (by decide), fun z => absurd z (by decide), fun z => absurd z (by decide), fun z => absurd z (by decide), fun z => absurd z (by decide), fun z => absurd z (by decide), fun _ _ _ _ _ _ => ⟨fun z => absurd rfl z, fun _ => ⟨f1.symm, hK _ _ (inv_mk k1 k2 k3 k4 k5 k6 k7)⟩⟩⟩, fun z => absurd o0 z⟩))), fun _ _ _ _ _ _ z => absurd rfl z⟩
      · exact ⟨fun z => absurd z (by decide), fun z => absurd z (by decide), fun z => absurd z (by decide), fun z => absurd z (by decide), fun z => absurd z (by decide), fun z => absurd z (by decide), fun z => absurd z (by decide), fun _ _ _ _ _ _ _ => (in7_t 0 7 7 rfl (by omega) (by omega) (by decide) (b_n1 (a6 _ ⟨fun _ => ⟨fun z => absurd z (by decide), fun z => absurd z (by decide), fun z => absurd z (by decide), fun z => absurd z (by decide), fun z => absurd z (by decide), fun z => absurd z (by decide), fun _ _ _ _ _ _ => ⟨fun _ => ⟨f2.symm, hK _ _ (inv_mk k1 k2 k3 k4 k5 k6 k7)⟩, fun z => absurd z (by decide)⟩⟩, fun z => absurd o0 z⟩)))⟩
  · exact in6_f 0 7 hne (by decide) (by decide) (b_n0 (in7_f 0 7 hne (by decide) (by decide) (b_n0 ⟨rfl, hK _ _ (inv_mk k1 k2 k3 k4 k5 k6 k7)⟩)))
theorem case21 {n : Nat} (hn : n < 512) {xs : Nat → Int32} {i : Nat} {X : XT} {M : MT} {K : XT → MT → Prop} (hI : Inv n X M) (hK : ∀ X M, Inv (n + 1) X M → K X M) : lc21 xs i X M K := by
  obtain ⟨⟨d, h, y, s, k, pl, co, ly⟩, sg, ⟨pc, ps⟩, ⟨⟨td, th, ty, ts, tk, tpl, tco, tly⟩, ta, tf, tw, tm, tt, t1, t2, t3⟩, i0, i1⟩ := X
  obtain ⟨bk, nw, sh, kn, sgs, sgt, sns, pad, mA, mW, rs, ac, hd, tk', wo, fi, wi, wy, im, ik⟩ := M
  have hI1 := Inv.up hI
  obtain ⟨k1, k2, k3, k4, k5, k6, k7⟩ := hI1
  obtain ⟨hR, hO, hS, hP, h0, h1, hw⟩ := hI
  dsimp only at hR hO hS hP h0 h1 hw k1 k2 k3 k4 k5 k6 k7
  have es : s = sh := hR.2.2.2.1
  have ek : k = kn := hR.2.2.2.2.1
  subst es
  subst ek
  obtain ⟨c, P, hc, e1, e2, p1, p2⟩ := pads hP
  dsimp only at e1 p1
  subst e1
  subst e2
  unfold lc21 pX6_year pX4_tellByDraws pX5_become
  dsimp only
  rcases rng (xs (i + 1)) 0 9999 with ⟨j, hj1, hj2, e⟩ | hne
  · refine in6_t 0 9999 j e hj1 hj2 (by decide) (b_e1 ?_)
    rcases rng (xs (i + 2)) 1 99 with ⟨m, hm1, hm2, em⟩ | hnm
    · refine in6_t 1 99 m em hm1 hm2 (by decide) (b_e1 ?_)
      rcases rng (xs (i + 3)) 0 2 with ⟨l, hl1, hl2, el⟩ | hnl
      · refine in6_t 0 2 l el hl1 hl2 (by decide) (b_n1 ?_)
        obtain ⟨w', nw', s', p', q', x', rsn', g1, g2, g3, g4⟩ := draw_ok (aw := (d, h, y, s, k, pl, co, ly)) (bk := bk) (a1 := xs (i + 1)) (a3 := xs (i + 3)) (a2 := xs (i + 1)) hm2 m 0 j (540 * n) (by omega) (by omega) (by omega) (d, h, y, s, k, va_cpy pl tpl 0 0 6, va_cpy co tco 0 0 6, va_cpy ly tly 0 0 30) (cpS nw bk 45) (-6) (-6) t1 t2 t3 rs ((hR.cpy tpl tco tly).cps nw) (hO.cpy tpl tco tly)
        rw [← em, ← e] at g3 g4
        refine ⟨m + 1, g3 _ ?_⟩
        have o : ∀ po : Int32 → (Int32 × Int32 × Int32 × (Nat → Int32)) → Prop, pX7_year_b43 s k bk (xs (i + 1)) (xs (i + 2)) (xs (i + 3)) po 1 x' (xs (i + 2)) (-6) (-6) rsn' nw' → pX7_year s k mA mW rs bk nw (xs (i + 1)) (xs (i + 2)) (xs (i + 3)) po := fun po hpo => in7_t 0 9999 j e hj1 hj2 (by decide) (b_e1 (in7_t 1 99 m em hm1 hm2 (by decide) (b_e1 (in7_t 0 2 l el hl1 hl2 (by decide) (b_n1 (asn7 _ _ _ _ ⟨m + 1, g4 po hpo⟩))))))
        have le : xs (i + 2) ≤ xs (i + 2) := Int32.le_refl _
        rcases (show l = 0 ∨ l = 1 ∨ l = 2 by omega) with rfl | rfl | rfl
        · have e0 : xs (i + 3) = 0 := el
          refine ⟨fun _ => who5 _ (bc6 _ (o _ ⟨fun _ => ⟨fun z => absurd e0 z, fun _ => who7 _ (bt7 _ ⟨?_, hK _ _ (inv_mk k1 k2 k3 k4 k5 k6 k7)⟩)⟩, fun z => absurd le z⟩)), fun z => absurd (e0.symm.trans z) (by decide), fun z _ => absurd e0 z⟩
          rw [bc_bt, wb_eq g1 g2]
        · have e0 : xs (i + 3) = 1 := el
          exact ⟨fun z => absurd (e0.symm.trans z) (by decide), fun _ => lie5 _ (o _ ⟨fun _ => ⟨fun _ => ⟨fun z => absurd e0 z, fun _ => lie7 _ ⟨sm_eq g1, hK _ _ (inv_mk k1 k2 k3 k4 k5 k6 k7)⟩⟩, fun z => absurd (e0.symm.trans z) (by decide)⟩, fun z => absurd le z⟩), fun _ z => absurd e0 z⟩
        · have e0 : xs (i + 3) = 2 := el
          exact ⟨fun z => absurd (e0.symm.trans z) (by decide), fun z => absurd (e0.symm.trans z) (by decide), fun _ _ => o _ ⟨fun _ => ⟨fun _ => ⟨fun _ => ⟨g1.2.2.1, hK _ _ (inv_mk k1 k2 k3 k4 k5 k6 k7)⟩, fun z => absurd (e0.symm.trans z) (by decide)⟩, fun z => absurd (e0.symm.trans z) (by decide)⟩, fun z => absurd le z⟩⟩
      · exact in6_f 0 2 hnl (by decide) (by decide) (b_n0 (in7_t 0 9999 j e hj1 hj2 (by decide) (b_e1 (in7_t 1 99 m em hm1 hm2 (by decide) (b_e1 (in7_f 0 2 hnl (by decide) (by decide) (b_n0 ⟨rfl, hK _ _ (inv_mk k1 k2 k3 k4 k5 k6 k7)⟩)))))))
    · exact in6_f 1 99 hnm (by decide) (by decide) (b_e0 (in7_t 0 9999 j e hj1 hj2 (by decide) (b_e1 (in7_f 1 99 hnm (by decide) (by decide) (b_e0 ⟨rfl, hK _ _ (inv_mk k1 k2 k3 k4 k5 k6 k7)⟩)))))
  · exact in6_f 0 9999 hne (by decide) (by decide) (b_e0 (in7_f 0 9999 hne (by decide) (by decide) (b_e0 ⟨rfl, hK _ _ (inv_mk k1 k2 k3 k4 k5 k6 k7)⟩)))
