/-! ===== PURE 10: who met first ===== -/
def scB (q : Nat → Nat → Bool) (a : Nat) : Nat → Nat → Int32 → Int32
  | 0, _, z => z
  | d + 1, b, z => if q a b then nI (10 * a + b) else scB q a d (b + 1) z
def nmV (q : Nat → Nat → Bool) : Int32 := scB q 0 5 1 (scB q 1 4 2 (scB q 2 3 3 (scB q 3 2 4 (scB q 4 1 5 (scB q 5 0 6 (-6))))))
theorem scB_cong {q r : Nat → Nat → Bool} {a : Nat} : ∀ (d b : Nat) (z : Int32), (∀ c, b ≤ c → c < b + d → q a c = r a c) → scB q a d b z = scB r a d b z
  | 0, _, _, _ => rfl
  | d + 1, b, z, h => by rw [scB, scB, h b (Nat.le_refl _) (by omega), scB_cong d (b + 1) z (fun c h1 h2 => h c (by omega) (by omega))]
theorem nmV_cong {q r : Nat → Nat → Bool} (h : ∀ a b, a < b → b < 6 → q a b = r a b) : nmV q = nmV r := by
  unfold nmV
  rw [scB_cong (q := q) (r := r) (a := 5) 0 6 _ (fun c h1 h2 => h 5 c (by omega) (by omega)), scB_cong (q := q) (r := r) (a := 4) 1 5 _ (fun c h1 h2 => h 4 c (by omega) (by omega)), scB_cong (q := q) (r := r) (a := 3) 2 4 _ (fun c h1 h2 => h 3 c (by omega) (by omega)), scB_cong (q := q) (r := r) (a := 2) 3 3 _ (fun c h1 h2 => h 2 c (by omega) (by omega)), scB_cong (q := q) (r := r) (a := 1) 4 2 _ (fun c h1 h2 => h 1 c (by omega) (by omega)), scB_cong (q := q) (r := r) (a := 0) 5 1 _ (fun c h1 h2 => h 0 c (by omega) (by omega))]
def ltS (e : Nat → Bool) (j : Nat) : Nat → Nat → Int32
  | 0, _ => -6
  | d + 1, o => if o ≠ j ∧ e o = true then nI (10 * (if j < o then j else o) + (if o < j then j else o)) else ltS e j d (o + 1)
def qeS (j : Nat) (e : Nat → Bool) (a b : Nat) : Bool := if a = j then e b else if b = j then e a else false
def eB (b0 b1 b2 b3 b4 b5 : Bool) : Nat → Bool := fun o => match o with
  | 0 => b0 | 1 => b1 | 2 => b2 | 3 => b3 | 4 => b4 | _ => b5
theorem nm_lt0 : ∀ b0 b1 b2 b3 b4 b5 : Bool, nmV (qeS 0 (eB b0 b1 b2 b3 b4 b5)) = ltS (eB b0 b1 b2 b3 b4 b5) 0 6 0 := by decide +kernel
theorem nm_lt1 : ∀ b0 b1 b2 b3 b4 b5 : Bool, nmV (qeS 1 (eB b0 b1 b2 b3 b4 b5)) = ltS (eB b0 b1 b2 b3 b4 b5) 1 6 0 := by decide +kernel
theorem nm_lt2 : ∀ b0 b1 b2 b3 b4 b5 : Bool, nmV (qeS 2 (eB b0 b1 b2 b3 b4 b5)) = ltS (eB b0 b1 b2 b3 b4 b5) 2 6 0 := by decide +kernel
theorem nm_lt3 : ∀ b0 b1 b2 b3 b4 b5 : Bool, nmV (qeS 3 (eB b0 b1 b2 b3 b4 b5)) = ltS (eB b0 b1 b2 b3 b4 b5) 3 6 0 := by decide +kernel
theorem nm_lt4 : ∀ b0 b1 b2 b3 b4 b5 : Bool, nmV (qeS 4 (eB b0 b1 b2 b3 b4 b5)) = ltS (eB b0 b1 b2 b3 b4 b5) 4 6 0 := by decide +kernel
theorem nm_lt5 : ∀ b0 b1 b2 b3 b4 b5 : Bool, nmV (qeS 5 (eB b0 b1 b2 b3 b4 b5)) = ltS (eB b0 b1 b2 b3 b4 b5) 5 6 0 := by decide +kernel
theorem ltS_cong {e f : Nat → Bool} {j : Nat} : ∀ (d o : Nat), (∀ c, o ≤ c → c < o + d → e c = f c) → ltS e j d o = ltS f j d o
  | 0, _, _ => rfl
  | d + 1, o, h => by rw [ltS, ltS, h o (Nat.le_refl _) (by omega), ltS_cong d (o + 1) (fun c h1 h2 => h c (by omega) (by omega))]
theorem nm_lt (j : Nat) (hj : j ≤ 5) (e : Nat → Bool) : nmV (qeS j e) = ltS e j 6 0 := by
  have c1 : ∀ o, o < 6 → e o = eB (e 0) (e 1) (e 2) (e 3) (e 4) (e 5) o := fun o ho => by
    rcases (show o = 0 ∨ o = 1 ∨ o = 2 ∨ o = 3 ∨ o = 4 ∨ o = 5 by omega) with rfl | rfl | rfl | rfl | rfl | rfl <;> rfl
  rw [nmV_cong (r := qeS j (eB (e 0) (e 1) (e 2) (e 3) (e 4) (e 5))) (fun a b h1 h2 => by simp only [qeS]; rw [c1 a (by omega), c1 b h2]), ltS_cong (f := eB (e 0) (e 1) (e 2) (e 3) (e 4) (e 5)) 6 0 (fun c _ h2 => c1 c (by omega))]
  rcases (show j = 0 ∨ j = 1 ∨ j = 2 ∨ j = 3 ∨ j = 4 ∨ j = 5 by omega) with rfl | rfl | rfl | rfl | rfl | rfl
  · exact nm_lt0 _ _ _ _ _ _
  · exact nm_lt1 _ _ _ _ _ _
  · exact nm_lt2 _ _ _ _ _ _
  · exact nm_lt3 _ _ _ _ _ _
  · exact nm_lt4 _ _ _ _ _ _
  · exact nm_lt5 _ _ _ _ _ _
def qM (nw had : Nat → Int32) (a b : Nat) : Bool := decide (¬ nw a < 0 ∧ nw a = nw b) && !decide (¬ had a < 0 ∧ had a = had b)
theorem nm7 (nw had : Nat → Int32) {post : Int32 → Prop} (h : post (nmV (qM nw had))) : pX7_newlyMet nw had post := by
  have b77 : ∀ (k2 : Int32 → Prop) (k12 : Int32 → Int32 → Prop) (a b : Nat) (m w : Bool), a < 6 → b < 6 → ((m && !w) = true → post (nI (10 * a + b))) → ((m && !w) = false → k12 (nI a) (nI (b + 1))) → pX7_newlyMet_b77 nw had post k2 k12 (nI a) (nI b) (b2i m) (b2i w) := by
    intro k2 k12 a b m w ha hb hy hn
    have e10 : (10 : Int32) * nI a + nI b = nI (10 * a + b) := by rw [show (10 : Int32) * nI a = nI (10 * a) from pk_mul 10 a, nI_add]
    unfold pX7_newlyMet_b77
    rw [e10]
    cases m with
    | false => exact b_e0 (fun v ev => by rw [ev, nI_1]; exact hn rfl)
    | true =>
      refine b_e1 ?_
      cases w with
      | false => exact b_n0 (hy rfl)
      | true => exact b_n1 (fun v ev => by rw [ev, nI_1]; exact hn rfl)
  have b47 : ∀ (k2 : Int32 → Prop) (k12 : Int32 → Int32 → Prop) (a b : Nat) (m : Bool), a < 6 → b < 6 → ((m && !decide (¬ had a < 0 ∧ had a = had b)) = true → post (nI (10 * a + b))) → ((m && !decide (¬ had a < 0 ∧ had a = had b)) = false → k12 (nI a) (nI (b + 1))) → pX7_newlyMet_b47 nw had post k2 k12 (nI a) (nI b) (b2i m) := by
    intro k2 k12 a b m ha hb hy hn
    have va : vp_in (nI a) 6 := vp_in_nI ha (by decide)
    have vb : vp_in (nI b) 6 := vp_in_nI hb (by decide)
    refine ⟨va, ?_⟩
    rw [nI_clamp (by omega), nI_clamp (by omega)]
    by_cases h1 : had a < 0
    · rw [decide_eq_false (fun q => q.1 h1)] at hy hn
      exact ⟨fun _ => b77 k2 k12 a b m false ha hb hy hn, fun q => absurd h1 q⟩
    · refine ⟨fun q => absurd q h1, fun _ => ⟨va, vb, ?_⟩⟩
      by_cases h2 : had a = had b
      · rw [decide_eq_true ⟨h1, h2⟩] at hy hn
        exact ⟨fun q => absurd h2 q, fun _ => b77 k2 k12 a b m true ha hb hy hn⟩
      · rw [decide_eq_false (fun q => h2 q.2)] at hy hn
        exact ⟨fun _ => b77 k2 k12 a b m false ha hb hy hn, fun q => absurd q h2⟩
  have inner : ∀ (k2 : Int32 → Prop) (a : Nat) (z : Int32), a < 6 → (post z → k2 (nI (a + 1))) → ∀ d b, b + d = 6 → post (scB (qM nw had) a d b z) → pX7_newlyMet_b12 nw had post k2 (d + 1) (nI a) (nI b) := by
    intro k2 a z ha hz d
    induction d with
    | zero =>
      intro b hb hp
      have e : b = 6 := by omega
      subst e
      exact ⟨fun _ v ev => by rw [ev, nI_1]; exact hz hp, fun q => absurd (Int32.le_refl _) q⟩
    | succ d ih =>
      intro b hb hp
      have c1 : ¬ (6 : Int32) ≤ nI b := nI_ge (b := 6) (by omega) (by decide)
      have va : vp_in (nI a) 45 := vp_in_nI (by omega) (by decide)
      have vb : vp_in (nI b) 45 := vp_in_nI (by omega) (by decide)
      refine ⟨fun q => absurd q c1, fun _ => ⟨va, ?_⟩⟩
      rw [nI_clamp (by omega), nI_clamp (by omega)]
      rw [scB] at hp
      have yes : qM nw had a b = true → post (nI (10 * a + b)) := fun q => by rw [if_pos q] at hp; exact hp
      have no : qM nw had a b = false → pX7_newlyMet_b12 nw had post k2 (d + 1) (nI a) (nI (b + 1)) := fun q => by
        rw [if_neg (by rw [q]; decide)] at hp
        exact ih (b + 1) (by omega) hp
      by_cases h1 : nw a < 0
      · refine ⟨fun _ => b47 k2 _ a b false ha (by omega) (fun q => absurd q (by simp)) (fun _ => no (by simp [qM, h1])), fun q => absurd h1 q⟩
      · refine ⟨fun q => absurd q h1, fun _ => ⟨va, vb, ?_⟩⟩
        by_cases h2 : nw a = nw b
        · refine ⟨fun q => absurd h2 q, fun _ => b47 k2 _ a b true ha (by omega) (fun q => yes ?_) (fun q => no ?_)⟩
          · unfold qM; rw [decide_eq_true ⟨h1, h2⟩]; exact q
          · unfold qM; rw [decide_eq_true ⟨h1, h2⟩]; exact q
        · refine ⟨fun _ => b47 k2 _ a b false ha (by omega) (fun q => absurd q (by simp)) (fun _ => no (by simp [qM, h2])), fun q => absurd q h2⟩
  have o6 : ∀ n, post (-6) → pX7_newlyMet_b2 nw had post (n + 1) (nI 6) := fun n hp => ⟨fun _ => hp, fun q => absurd (Int32.le_refl _) q⟩
  have outer : ∀ n a z, a < 6 → (post z → pX7_newlyMet_b2 nw had post n (nI (a + 1))) → post (scB (qM nw had) a (5 - a) (a + 1) z) → pX7_newlyMet_b2 nw had post (n + 1) (nI a) := by
    intro n a z ha hz hp
    have c1 : ¬ (6 : Int32) ≤ nI a := nI_ge (b := 6) (by omega) (by decide)
    refine ⟨fun q => absurd q c1, fun _ v ev => ⟨5 - a + 1, ?_⟩⟩
    rw [ev, nI_1]
    exact inner _ a z ha hz (5 - a) (a + 1) (by omega) hp
  refine ⟨7, ?_⟩
  exact outer 6 0 _ (by omega) (fun p0 => outer 5 1 _ (by omega) (fun p1 => outer 4 2 _ (by omega) (fun p2 => outer 3 3 _ (by omega) (fun p3 => outer 2 4 _ (by omega) (fun p4 => outer 1 5 _ (by omega) (fun p5 => o6 0 p5) p4) p3) p2) p1) p0) h
theorem lt5 (pl : Nat → Int32) (j : Nat) (hj : j ≤ 5) (hn : ¬ pl j = -6) {post : Int32 → Prop} (h : post (ltS (fun o => decide (pl o = pl j)) j 6 0)) : pX5_leastTwoWith pl (nI j) post := by
  have v6 : vp_in (nI j) 6 := vp_in_nI (by omega) (by decide)
  refine per_t j rfl hj (b_e1 ⟨v6, ?_⟩)
  rw [nI_clamp (by omega)]
  refine ⟨fun _ => ⟨7, ?_⟩, fun q => absurd q hn⟩
  have key : ∀ d o, o + d = 6 → post (ltS (fun o => decide (pl o = pl j)) j d o) → pX5_leastTwoWith_b23 pl (nI j) post (d + 1) (nI o) := by
    intro d
    induction d with
    | zero =>
      intro o ho hp
      have e : o = 6 := by omega
      subst e
      exact ⟨fun _ => hp, fun q => absurd (Int32.le_refl _) q⟩
    | succ d ih =>
      intro o ho hp
      have c1 : ¬ (6 : Int32) ≤ nI o := nI_ge (b := 6) (by omega) (by decide)
      refine ⟨fun q => absurd q c1, fun _ => ?_⟩
      rw [ltS] at hp
      by_cases h1 : o = j
      · subst h1
        rw [if_neg (fun q => q.1 rfl)] at hp
        exact ⟨fun _ v ev => by rw [ev, nI_1]; exact ih (o + 1) (by omega) hp, fun q => absurd rfl q⟩
      · refine ⟨fun q => absurd q (lit_ne (by omega) (by omega) h1), fun _ => ⟨vp_in_nI (by omega) (by decide), v6, ?_⟩⟩
        rw [nI_clamp (by omega), nI_clamp (by omega)]
        by_cases h2 : pl o = pl j
        · rw [if_pos ⟨h1, decide_eq_true h2⟩] at hp
          refine ⟨fun q => absurd h2 q, fun _ v ev v2 ev2 => ?_⟩
          have e1 : v = nI (if j < o then j else o) := by
            rw [ev]
            by_cases q : j < o
            · rw [if_pos q, if_pos (nI_lt q (by omega))]
            · rw [if_neg q, if_neg (nI_nlt (by omega) (by omega))]
          have e2 : v2 = nI (if o < j then j else o) := by
            rw [ev2]
            by_cases q : o < j
            · rw [if_pos q, if_pos (nI_lt q (by omega))]
            · rw [if_neg q, if_neg (nI_nlt (by omega) (by omega))]
          rw [e1, e2, show (10 : Int32) * nI (if j < o then j else o) = nI (10 * (if j < o then j else o)) from pk_mul 10 _, nI_add]
          exact hp
        · rw [if_neg (fun q => h2 (of_decide_eq_true q.2))] at hp
          exact ⟨fun _ v ev => by rw [ev, nI_1]; exact ih (o + 1) (by omega) hp, fun q => absurd q h2⟩
  exact key 6 0 (by omega) h
theorem ltS_val (e : Nat → Bool) (j : Nat) (hj : j ≤ 5) : ∀ d o, o + d = 6 → ltS e j d o = -6 ∨ ∃ q, q < 100 ∧ ltS e j d o = nI q := by
  intro d
  induction d with
  | zero => intro o _; exact Or.inl rfl
  | succ d ih =>
    intro o ho
    rw [ltS]
    by_cases h1 : o ≠ j ∧ e o = true
    · rw [if_pos h1]
      refine Or.inr ⟨_, ?_, rfl⟩
      by_cases q1 : j < o
      · rw [if_pos q1, if_neg (by omega)]; omega
      · rw [if_neg q1]
        by_cases q2 : o < j
        · rw [if_pos q2]; omega
        · rw [if_neg q2]; omega
    · rw [if_neg h1]; exact ih (o + 1) (by omega)
theorem nmV_f {q : Nat → Nat → Bool} (h : ∀ a b, a < b → b < 6 → q a b = false) : nmV q = -6 := by
  rw [nmV_cong (r := fun _ _ => false) h]
  decide
theorem meet_ok (nw nw' had pl' : Nat → Int32) (sg pe mA mT : Int32) (t : Nat) (ht : t < 100) (hmv : MvOk sg pe nw nw') (hh : ∀ k, k < 6 → had k = nw k) (hp' : ∀ k, k < 6 → pl' k = nw' k) (hm : (mA = -6 ∧ mT = -6) ∨ ∃ q, q < 100 ∧ mA = nI q) :
    ∃ mA' mT', ((mA' = -6 ∧ mT' = -6) ∨ ∃ q, q < 100 ∧ mA' = nI q) ∧ (∀ post : (Int32 × Int32) → Prop, post (mA', mT') → pX4_noteFirstMeeting (nI t) mA mT pl' sg pe post) ∧ (∀ k : Int32 → Int32 → Prop, k mA' mT' → pX7_newlyMet nw' had (fun r2 => (r2 < 0 → k mA mT) ∧ (¬ r2 < 0 → ((0 ≤ mA → k mA mT) ∧ (¬ 0 ≤ mA → k (nI t) r2))))) := by
  rcases hmv with ⟨hs, j, hj, ej, h1, h2, h3⟩ | ⟨n1, n2, n3, h1⟩
  · -- moved
    have hb41 : ∀ post : (Int32 × Int32) → Prop, pX4_noteFirstMeeting_b41 (nI t) pl' sg pe post 1 mA mT → pX4_noteFirstMeeting (nI t) mA mT pl' sg pe post := by
      intro post hp
      rcases hs with rfl | rfl | rfl
      · exact ⟨fun _ => hp, fun q => absurd rfl q⟩
      · exact ⟨fun q => absurd q (by decide), fun _ => ⟨fun _ => hp, fun q => absurd rfl q⟩⟩
      · exact ⟨fun q => absurd q (by decide), fun _ => ⟨fun q => absurd q (by decide), fun _ => ⟨fun q => absurd rfl q, fun _ => hp⟩⟩⟩
    have hn : ¬ pl' j = -6 := fun q => h3 (by rw [← hp' j (by omega), q]; decide)
    have e0 : (fun o => decide (pl' o = pl' j)) = (fun o => decide (pl' o = pl' j)) := rfl
    have hval : nmV (qM nw' had) = ltS (fun o => decide (pl' o = pl' j)) j 6 0 := by
      rw [← nm_lt j hj]
      refine nmV_cong (fun a b hab hb => ?_)
      simp only [qM, qeS]
      by_cases ea : a = j
      · subst ea
        rw [if_pos rfl, hp' b hb, hp' a (by omega)]
        by_cases q : nw' a = nw' b
        · have w : ¬ (¬ had a < 0 ∧ had a = had b) := fun z => h2 (by
            rw [hh a (by omega), hh b hb] at z
            rw [z.2, ← h1 b hb (by omega)]; exact q)
          rw [decide_eq_true (⟨h3, q⟩ : ¬ nw' a < 0 ∧ nw' a = nw' b), decide_eq_false w, decide_eq_true q.symm]; rfl
        · rw [decide_eq_false (fun z : ¬ nw' a < 0 ∧ nw' a = nw' b => q z.2), decide_eq_false (fun z : nw' b = nw' a => q z.symm)]; rfl
      · rw [if_neg ea]
        by_cases eb : b = j
        · subst eb
          rw [if_pos rfl, hp' a (by omega), hp' b hb]
          by_cases q : nw' a = nw' b
          · have w : ¬ (¬ had a < 0 ∧ had a = had b) := fun z => h2 (by
              rw [hh a (by omega), hh b hb] at z
              rw [← z.2, ← h1 a (by omega) (by omega)]; exact q.symm)
            have h3' : ¬ nw' a < 0 := by rw [q]; exact h3
            rw [decide_eq_true (⟨h3', q⟩ : ¬ nw' a < 0 ∧ nw' a = nw' b), decide_eq_false w, decide_eq_true q]; rfl
          · rw [decide_eq_false (fun z : ¬ nw' a < 0 ∧ nw' a = nw' b => q z.2), decide_eq_false q]; rfl
        · rw [if_neg eb, hh a (by omega), hh b hb, h1 a (by omega) ea, h1 b hb eb]
          cases decide (¬ nw a < 0 ∧ nw a = nw b) <;> rfl
    generalize hL : ltS (fun o => decide (pl' o = pl' j)) j 6 0 = L at hval
    have hLv := ltS_val (fun o => decide (pl' o = pl' j)) j hj 6 0 (by omega)
    rw [hL] at hLv
    rcases hm with ⟨rfl, rfl⟩ | ⟨q, hq, rfl⟩
    · rcases hLv with eL | ⟨z, hz, eL⟩
      · refine ⟨-6, -6, Or.inl ⟨rfl, rfl⟩, fun post hp => hb41 post ⟨fun z => absurd rfl z, fun _ => ⟨fun _ => ?_, fun z => absurd z (by decide)⟩⟩, fun k hk => nm7 _ _ ?_⟩
        · rw [ej]
          refine lt5 pl' j hj hn ?_
          rw [hL, eL]
          exact ⟨fun _ => hp, fun z => absurd rfl z⟩
        · rw [hval, eL]
          exact ⟨fun _ => hk, fun z => absurd (by decide) z⟩
      · have hz1 : ¬ nI z = -6 := nI_nm (k := 6) (by omega) (by decide) (by decide)
        refine ⟨nI t, nI z, Or.inr ⟨t, ht, rfl⟩, fun post hp => hb41 post ⟨fun z => absurd rfl z, fun _ => ⟨fun _ => ?_, fun z => absurd z (by decide)⟩⟩, fun k hk => nm7 _ _ ?_⟩
        · rw [ej]
          refine lt5 pl' j hj hn ?_
          rw [hL, eL]
          exact ⟨fun q => absurd q hz1, fun _ => hp⟩
        · rw [hval, eL]
          exact ⟨fun q => absurd q (nI_pos (by omega)), fun _ => ⟨fun q => absurd q (by decide), fun _ => hk⟩⟩
    · have hq1 : ¬ nI q = -6 := nI_nm (k := 6) (by omega) (by decide) (by decide)
      refine ⟨nI q, mT, Or.inr ⟨q, hq, rfl⟩, fun post hp => hb41 post ⟨fun _ => hp, fun z => absurd z hq1⟩, fun k hk => nm7 _ _ ⟨fun _ => hk, fun _ => ⟨fun _ => hk, fun z => absurd (nI_pos' (by omega)) z⟩⟩⟩
  · have hval : nmV (qM nw' had) = -6 := nmV_f (fun a b hab hb => by
      simp only [qM]
      by_cases q : ¬ nw' a < 0 ∧ nw' a = nw' b
      · have w := h1 a b (by omega) hb q.1 q.2
        rw [← hh a (by omega), ← hh b hb] at w
        rw [decide_eq_true w]; simp
      · rw [decide_eq_false q]; rfl)
    refine ⟨mA, mT, hm, fun post hp => ?_, fun k hk => nm7 _ _ ?_⟩
    · refine ⟨fun q => absurd q n1, fun _ => ⟨fun q => absurd q n2, fun _ => ⟨fun _ => ?_, fun q => absurd q n3⟩⟩⟩
      exact ⟨fun _ => hp, fun _ => ⟨fun z => absurd rfl z, fun _ => hp⟩⟩
    · rw [hval]
      exact ⟨fun _ => hk, fun z => absurd (by decide) z⟩
