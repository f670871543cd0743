/-! ===== PURE 12: years by draws ===== -/
theorem act_weak {B : Nat} {w : WT} {nw : Nat → Int32} {sg pe nu : Int32} {PM : (Int32 → (Nat → Int32) → Prop) → Prop} (hA : ActOk B w nw sg pe nu PM) (hR : Rw w w.2.2.2.1 w.2.2.2.2.1 nw) (hO : Ow B w) :
    ∃ (r : Int32) (w1 : WT) (nw1 : Nat → Int32), Rw w1 w.2.2.2.1 w.2.2.2.2.1 nw1 ∧ Ow (B + 9) w1 ∧ (∀ K : WT → Prop, K w1 → pX5_reasonAgainst w.1 w.2.1 w.2.2.1 w.2.2.2.1 w.2.2.2.2.1 w.2.2.2.2.2.1 w.2.2.2.2.2.2.1 w.2.2.2.2.2.2.2 sg pe nu (fun r5 => (¬ r5 = 0 → K w) ∧ (r5 = 0 → pX5_perform w.1 w.2.1 w.2.2.1 w.2.2.2.2.1 w.2.2.2.2.2.1 w.2.2.2.2.2.2.1 w.2.2.2.2.2.2.2 sg pe nu (fun u9 => K (u9.1, u9.2.1, u9.2.2.1, w.2.2.2.1, w.2.2.2.2.1, u9.2.2.2.1, u9.2.2.2.2.1, u9.2.2.2.2.2))))) ∧ (∀ po : Int32 → (Nat → Int32) → Prop, po r nw1 → PM po) := by
  obtain ⟨r, ⟨d', h', y', s', k', pl', co', ly'⟩, nw', hr, cR, cP, rM, g0, g1⟩ := hA
  by_cases hz : r = 0
  · subst hz
    obtain ⟨hR', hO', hM⟩ := g0 rfl
    have es : s' = w.2.2.2.1 := hR'.2.2.2.1
    have ek : k' = w.2.2.2.2.1 := hR'.2.2.2.2.1
    refine ⟨nI 0, _, nw', hR', hO', fun K hK => cR _ ⟨fun z => absurd rfl z, fun _ => cP rfl _ ?_⟩, rM⟩
    rw [es, ek] at hK
    exact hK
  · have en := g1 hz
    subst en
    exact ⟨nI r, w, nw', hR, hO.mono (by omega), fun K hK => cR _ ⟨fun _ => hK, fun z => absurd z (nI_ne0 (by omega) (by omega))⟩, rM⟩
def bcV (a1 : Int32) : Int32 :=
  let v1 := (a1 - ((a1.toUInt32 >>> ((1 : Int32).toUInt32 &&& Int32.toUInt32 31)).toInt32 &&& 1431655765))
  let v2 := ((v1 &&& 858993459) + ((v1.toUInt32 >>> ((2 : Int32).toUInt32 &&& Int32.toUInt32 31)).toInt32 &&& 858993459))
  let v3 := ((v2 + (v2.toUInt32 >>> ((4 : Int32).toUInt32 &&& Int32.toUInt32 31)).toInt32) &&& 252645135)
  let v4 := (v3 + (v3.toUInt32 >>> ((8 : Int32).toUInt32 &&& Int32.toUInt32 31)).toInt32)
  let v5 := (v4 + (v4.toUInt32 >>> ((16 : Int32).toUInt32 &&& Int32.toUInt32 31)).toInt32)
  v5 &&& 63
theorem bc6 (a : Int32) {post : Int32 → Prop} (h : post (bcV a)) : pJ6_bitCount_0f7a4 a post := by
  intro v1 e1 v2 e2 v3 e3 v4 e4 v5 e5
  subst e1; subst e2; subst e3; subst e4; subst e5
  exact h
def btV (a : Int32) : Nat → Int32
  | 0 => 0
  | n + 1 => btV a n + ((a >>> (nI n &&& 31)) &&& 1)
theorem bt7 (a : Int32) {post : Int32 → Prop} (h : post (btV a 9)) : pX7_bits a post := by
  refine ⟨10, ?_⟩
  have key : ∀ d i, i + d = 9 → pX7_bits_b4 a post (d + 1) (btV a i) (nI i) := by
    intro d
    induction d with
    | zero =>
      intro i hi
      have e : i = 9 := by omega
      subst e
      exact ⟨fun _ => h, fun q => absurd (Int32.le_refl _) q⟩
    | succ d ih =>
      intro i hi
      have h6 : ¬ (9 : Int32) ≤ nI i := nI_ge (b := 9) (by omega) (by decide)
      refine ⟨fun q => absurd q h6, fun _ v e v2 e2 => ?_⟩
      rw [e, e2, nI_1]
      exact ih (i + 1) (by omega)
  exact key 9 0 rfl
theorem bc_bt0 : ∀ b0 b1 b2 b3 b4 b5 : Bool, bcV (wbS (eB b0 b1 b2 b3 b4 b5) 6) = btV (wbS (eB b0 b1 b2 b3 b4 b5) 6) 9 := by decide +kernel
theorem bc_bt (e : Nat → Bool) : bcV (wbS e 6) = btV (wbS e 6) 9 := by
  have c1 : ∀ o, o < 6 → e o = eB (e 0) (e 1) (e 2) (e 3) (e 4) (e 5) o := fun o ho => by
    rcases (show o = 0 ∨ o = 1 ∨ o = 2 ∨ o = 3 ∨ o = 4 ∨ o = 5 by omega) with rfl | rfl | rfl | rfl | rfl | rfl <;> rfl
  rw [wbS_cong c1]
  exact bc_bt0 _ _ _ _ _ _
theorem draw_one {B x1 i : Nat} (hx : x1 < 65537) (hB : B ≤ 1000000) {M : Nat} (hi : i < M) (hM : M ≤ 99) {w : WT} {bk nw : Nat → Int32} {a1 a3 mA mW s p q rsn : Int32} (x0 : Int32) (hR : Rw w w.2.2.2.1 w.2.2.2.2.1 nw) (hO : Ow B w) (ex : 75 * x0 + 74 - (75 * x0 + 74) / 65537 * 65537 = nI x1) :
    ∃ (sg : Int32) (PM : (Int32 → (Nat → Int32) → Prop) → Prop), ActOk B w nw sg (nI (x1 % 6)) (nI (1 + x1 / 48 % 9)) PM ∧ (∀ post : (Int32 × Int32 × Int32) → Prop, post (sg, nI (x1 % 6), nI (1 + x1 / 48 % 9)) → pX0_becomeDrawn s p q (nI x1) post) ∧
      (∀ (post : Int32 → (Int32 × Int32 × Int32 × (Nat → Int32)) → Prop) (n : Nat) (r : Int32) (u : Nat → Int32), (∀ po : Int32 → (Nat → Int32) → Prop, po r u → PM po) → pX7_year_b43 w.2.2.2.1 w.2.2.2.2.1 bk a1 (nI M) a3 post n (nI x1) (nI (i + 1)) mA mW r u → pX7_year_b43 w.2.2.2.1 w.2.2.2.2.1 bk a1 (nI M) a3 post (n + 1) x0 (nI i) mA mW rsn nw) := by
  have c1 : ¬ nI M ≤ nI i := nI_ge (by omega) (by omega)
  have d6 : nI x1 / 6 = nI (x1 / 6) := pk_div (d := 6) (by omega) (by decide) (by decide)
  have d48 : nI x1 / 48 = nI (x1 / 48) := pk_div (d := 48) (by omega) (by decide) (by decide)
  have r6 : nI x1 - nI x1 / 6 * 6 = nI (x1 % 6) := pk_rem (d := 6) (by omega) (by decide) (by decide)
  have r8 : nI (x1 / 6) - nI (x1 / 6) / 8 * 8 = nI (x1 / 6 % 8) := pk_rem (d := 8) (by omega) (by decide) (by decide)
  have r9 : nI (x1 / 48) - nI (x1 / 48) / 9 * 9 = nI (x1 / 48 % 9) := pk_rem (d := 9) (by omega) (by decide) (by decide)
  have r4 : nI (x1 / 48) - nI (x1 / 48) / 4 * 4 = nI (x1 / 48 % 4) := pk_rem (d := 4) (by omega) (by decide) (by decide)
  have n1 : (1 : Int32) + nI (x1 / 48 % 9) = nI (1 + x1 / 48 % 9) := nI_add 1 _
  have hj : x1 % 6 ≤ 5 := by omega
  have cls : ∀ (sg : Int32), (∀ post : (Int32 × Int32 × Int32) → Prop, post (sg, nI (x1 % 6), nI (1 + x1 / 48 % 9)) → (fun v1 v2 v3 v4 : Int32 => ((v4 = 0 → (post (40, v2, v3))) ∧ ((v4 = 1 → ((¬ (v1 - v1 / 4 * 4) = 0 → (post (62, v2, v3))) ∧ ((v1 - v1 / 4 * 4) = 0 → (post (41, v2, v3))))) ∧ ((v4 = 2 → (post (60, v2, v3))) ∧ ((v4 = 3 → (post (36, v2, v3))) ∧ ((v4 = 4 → (post (37, v2, v3))) ∧ ((v4 = 5 → (post (104, v2, v3))) ∧ ((v4 = 6 → (post (100, v2, v3))) ∧ ((¬ v4 = 0 → ¬ v4 = 1 → ¬ v4 = 2 → ¬ v4 = 3 → ¬ v4 = 4 → ¬ v4 = 5 → ¬ v4 = 6 → (post (107, v2, v3)))))))))))) (nI (x1 / 48)) (nI (x1 % 6)) (nI (1 + x1 / 48 % 9)) (nI (x1 / 6 % 8))) → ∀ post : (Int32 × Int32 × Int32) → Prop, post (sg, nI (x1 % 6), nI (1 + x1 / 48 % 9)) → pX0_becomeDrawn s p q (nI x1) post := by
    intro sg hh post hp v1 e1 v2 e2 v3 e3 v4 e4
    rw [d48] at e1
    rw [r6] at e2
    rw [e1, r9, n1] at e3
    rw [d6, r8] at e4
    rw [e1, e2, e3, e4]
    exact hh post hp
  have v1' : ∀ v : Int32, v = nI i + 1 → v = nI (i + 1) := fun v e => by rw [e, nI_1]
  rcases (show x1 / 6 % 8 = 0 ∨ x1 / 6 % 8 = 1 ∨ x1 / 6 % 8 = 2 ∨ x1 / 6 % 8 = 3 ∨ x1 / 6 % 8 = 4 ∨ x1 / 6 % 8 = 5 ∨ x1 / 6 % 8 = 6 ∨ x1 / 6 % 8 = 7 by omega) with hk | hk | hk | hk | hk | hk | hk | hk
  · refine ⟨40, _, act_over hR hO (x1 % 6) hj _, cls 40 (fun post hp => ?_), ?_⟩
    · dsimp only
      rw [hk]
      exact ⟨fun _ => hp, fun z => absurd z (by decide), fun z => absurd z (by decide), fun z => absurd z (by decide), fun z => absurd z (by decide), fun z => absurd z (by decide), fun z => absurd z (by decide), fun z0 _ _ _ _ _ _ => absurd rfl z0⟩
    · intro post n r u hM hp
      refine ⟨fun z => absurd z c1, fun _ v7 e7 v8 e8 v9 e9 v10 e10 => ?_⟩
      rw [ex] at e7
      rw [e7, r6] at e8
      rw [e7, d48] at e9
      rw [e7, d6, r8, hk] at e10
      subst e7; subst e8; subst e9; subst e10
      skip
      exact ⟨fun _ => hM _ (by intro v e; rw [v1' v e]; exact hp), fun z => absurd z (by decide), fun z => absurd z (by decide), fun z => absurd z (by decide), fun z => absurd z (by decide), fun z => absurd z (by decide), fun z => absurd z (by decide), fun z0 _ _ _ _ _ _ => absurd rfl z0⟩
  · by_cases h4 : x1 / 48 % 4 = 0
    · refine ⟨41, _, act_out hR hO (x1 % 6) hj _, cls 41 (fun post hp => ?_), ?_⟩
      · dsimp only
        rw [hk, r4]
        exact ⟨fun z => absurd z (by decide), fun _ => ⟨fun z => absurd (by rw [h4]; rfl) z, fun _ => hp⟩, fun z => absurd z (by decide), fun z => absurd z (by decide), fun z => absurd z (by decide), fun z => absurd z (by decide), fun z => absurd z (by decide), fun _ z1 _ _ _ _ _ => absurd rfl z1⟩
      · intro post n r u hM hp
        refine ⟨fun z => absurd z c1, fun _ v7 e7 v8 e8 v9 e9 v10 e10 => ?_⟩
        rw [ex] at e7
        rw [e7, r6] at e8
        rw [e7, d48] at e9
        rw [e7, d6, r8, hk] at e10
        subst e7; subst e8; subst e9; subst e10
        rw [r4]
        exact ⟨fun z => absurd z (by decide), fun _ => ⟨fun z => absurd (by rw [h4]; rfl) z, fun _ => hM _ (by intro v e; rw [v1' v e]; exact hp)⟩, fun z => absurd z (by decide), fun z => absurd z (by decide), fun z => absurd z (by decide), fun z => absurd z (by decide), fun z => absurd z (by decide), fun _ z1 _ _ _ _ _ => absurd rfl z1⟩
    · refine ⟨62, _, act_walk hR hO (x1 % 6) hj _ 62 1 (Or.inl ⟨rfl, rfl⟩), cls 62 (fun post hp => ?_), ?_⟩
      · dsimp only
        rw [hk, r4]
        exact ⟨fun z => absurd z (by decide), fun _ => ⟨fun _ => hp, fun z => absurd z (nI_ne0 (by omega) (by omega))⟩, fun z => absurd z (by decide), fun z => absurd z (by decide), fun z => absurd z (by decide), fun z => absurd z (by decide), fun z => absurd z (by decide), fun _ z1 _ _ _ _ _ => absurd rfl z1⟩
      · intro post n r u hM hp
        refine ⟨fun z => absurd z c1, fun _ v7 e7 v8 e8 v9 e9 v10 e10 => ?_⟩
        rw [ex] at e7
        rw [e7, r6] at e8
        rw [e7, d48] at e9
        rw [e7, d6, r8, hk] at e10
        subst e7; subst e8; subst e9; subst e10
        rw [r4]
        exact ⟨fun z => absurd z (by decide), fun _ => ⟨fun _ => hM _ (by intro v e; rw [v1' v e]; exact hp), fun z => absurd z (nI_ne0 (by omega) (by omega))⟩, fun z => absurd z (by decide), fun z => absurd z (by decide), fun z => absurd z (by decide), fun z => absurd z (by decide), fun z => absurd z (by decide), fun _ z1 _ _ _ _ _ => absurd rfl z1⟩
  · refine ⟨60, _, act_walk hR hO (x1 % 6) hj _ 60 (-1) (Or.inr ⟨rfl, rfl⟩), cls 60 (fun post hp => ?_), ?_⟩
    · dsimp only
      rw [hk]
      exact ⟨fun z => absurd z (by decide), fun z => absurd z (by decide), fun _ => hp, fun z => absurd z (by decide), fun z => absurd z (by decide), fun z => absurd z (by decide), fun z => absurd z (by decide), fun _ _ z2 _ _ _ _ => absurd rfl z2⟩
    · intro post n r u hM hp
      refine ⟨fun z => absurd z c1, fun _ v7 e7 v8 e8 v9 e9 v10 e10 => ?_⟩
      rw [ex] at e7
      rw [e7, r6] at e8
      rw [e7, d48] at e9
      rw [e7, d6, r8, hk] at e10
      subst e7; subst e8; subst e9; subst e10
      skip
      exact ⟨fun z => absurd z (by decide), fun z => absurd z (by decide), fun _ => hM _ (by intro v e; rw [v1' v e]; exact hp), fun z => absurd z (by decide), fun z => absurd z (by decide), fun z => absurd z (by decide), fun z => absurd z (by decide), fun _ _ z2 _ _ _ _ => absurd rfl z2⟩
  · refine ⟨36, _, act_leave hR hO (x1 % 6) hj (1 + x1 / 48 % 9) (by omega) hB, cls 36 (fun post hp => ?_), ?_⟩
    · dsimp only
      rw [hk]
      exact ⟨fun z => absurd z (by decide), fun z => absurd z (by decide), fun z => absurd z (by decide), fun _ => hp, fun z => absurd z (by decide), fun z => absurd z (by decide), fun z => absurd z (by decide), fun _ _ _ z3 _ _ _ => absurd rfl z3⟩
    · intro post n r u hM hp
      refine ⟨fun z => absurd z c1, fun _ v7 e7 v8 e8 v9 e9 v10 e10 => ?_⟩
      rw [ex] at e7
      rw [e7, r6] at e8
      rw [e7, d48] at e9
      rw [e7, d6, r8, hk] at e10
      subst e7; subst e8; subst e9; subst e10
      rw [r9, n1]
      exact ⟨fun z => absurd z (by decide), fun z => absurd z (by decide), fun z => absurd z (by decide), fun _ => hM _ (by intro v e; rw [v1' v e]; exact hp), fun z => absurd z (by decide), fun z => absurd z (by decide), fun z => absurd z (by decide), fun _ _ _ z3 _ _ _ => absurd rfl z3⟩
  · refine ⟨37, _, act_find hR hO (x1 % 6) hj _ hB, cls 37 (fun post hp => ?_), ?_⟩
    · dsimp only
      rw [hk]
      exact ⟨fun z => absurd z (by decide), fun z => absurd z (by decide), fun z => absurd z (by decide), fun z => absurd z (by decide), fun _ => hp, fun z => absurd z (by decide), fun z => absurd z (by decide), fun _ _ _ _ z4 _ _ => absurd rfl z4⟩
    · intro post n r u hM hp
      refine ⟨fun z => absurd z c1, fun _ v7 e7 v8 e8 v9 e9 v10 e10 => ?_⟩
      rw [ex] at e7
      rw [e7, r6] at e8
      rw [e7, d48] at e9
      rw [e7, d6, r8, hk] at e10
      subst e7; subst e8; subst e9; subst e10
      skip
      exact ⟨fun z => absurd z (by decide), fun z => absurd z (by decide), fun z => absurd z (by decide), fun z => absurd z (by decide), fun _ => hM _ (by intro v e; rw [v1' v e]; exact hp), fun z => absurd z (by decide), fun z => absurd z (by decide), fun _ _ _ _ z4 _ _ => absurd rfl z4⟩
  · refine ⟨nI 104, _, act_pass hR hO (nI (x1 % 6)) 104 (1 + x1 / 48 % 9) (1 + x1 / 48 % 9) (by omega) (Or.inl ⟨rfl, rfl⟩), cls (nI 104) (fun post hp => ?_), ?_⟩
    · dsimp only
      rw [hk]
      exact ⟨fun z => absurd z (by decide), fun z => absurd z (by decide), fun z => absurd z (by decide), fun z => absurd z (by decide), fun z => absurd z (by decide), fun _ => hp, fun z => absurd z (by decide), fun _ _ _ _ _ z5 _ => absurd rfl z5⟩
    · intro post n r u hM hp
      refine ⟨fun z => absurd z c1, fun _ v7 e7 v8 e8 v9 e9 v10 e10 => ?_⟩
      rw [ex] at e7
      rw [e7, r6] at e8
      rw [e7, d48] at e9
      rw [e7, d6, r8, hk] at e10
      subst e7; subst e8; subst e9; subst e10
      have b : pX7_year_b245 w.2.2.2.1 w.2.2.2.2.1 bk a1 (nI M) a3 post (fun x4 x5 t_metAt t_metWho t_reason t_now => pX7_year_b43 w.2.2.2.1 w.2.2.2.2.1 bk a1 (nI M) a3 post n x4 x5 t_metAt t_metWho t_reason t_now) (nI x1) (nI i) 1 (nI (1 + x1 / 48 % 9)) mA mW rsn nw := by
        unfold pX7_year_b245
        rw [show nI (1 + x1 / 48 % 9) * 1 = nI ((1 + x1 / 48 % 9) * 1) from pk_mul _ 1, Nat.mul_one]
        exact hM _ (by intro v e; rw [v1' v e]; exact hp)
      unfold pX7_year_b218
      rw [d6, r8, hk, r9, n1]
      exact ⟨fun z => absurd z (by decide), fun z => absurd z (by decide), fun z => absurd z (by decide), fun z => absurd z (by decide), fun z => absurd z (by decide), fun _ => ⟨fun z => absurd rfl z, fun _ => b⟩, fun z => absurd z (by decide), fun _ _ _ _ _ z5 _ => absurd rfl z5⟩
  · refine ⟨nI 100, _, act_pass hR hO (nI (x1 % 6)) 100 (1 + x1 / 48 % 9) ((1 + x1 / 48 % 9) * 24) (by omega) (Or.inr ⟨rfl, rfl⟩), cls (nI 100) (fun post hp => ?_), ?_⟩
    · dsimp only
      rw [hk]
      exact ⟨fun z => absurd z (by decide), fun z => absurd z (by decide), fun z => absurd z (by decide), fun z => absurd z (by decide), fun z => absurd z (by decide), fun z => absurd z (by decide), fun _ => hp, fun _ _ _ _ _ _ z6 => absurd rfl z6⟩
    · intro post n r u hM hp
      refine ⟨fun z => absurd z c1, fun _ v7 e7 v8 e8 v9 e9 v10 e10 => ?_⟩
      rw [ex] at e7
      rw [e7, r6] at e8
      rw [e7, d48] at e9
      rw [e7, d6, r8, hk] at e10
      subst e7; subst e8; subst e9; subst e10
      have b : pX7_year_b245 w.2.2.2.1 w.2.2.2.2.1 bk a1 (nI M) a3 post (fun x4 x5 t_metAt t_metWho t_reason t_now => pX7_year_b43 w.2.2.2.1 w.2.2.2.2.1 bk a1 (nI M) a3 post n x4 x5 t_metAt t_metWho t_reason t_now) (nI x1) (nI i) 24 (nI (1 + x1 / 48 % 9)) mA mW rsn nw := by
        unfold pX7_year_b245
        rw [show nI (1 + x1 / 48 % 9) * 24 = nI ((1 + x1 / 48 % 9) * 24) from pk_mul _ 24]
        exact hM _ (by intro v e; rw [v1' v e]; exact hp)
      unfold pX7_year_b218
      rw [d6, r8, hk, r9, n1]
      exact ⟨fun z => absurd z (by decide), fun z => absurd z (by decide), fun z => absurd z (by decide), fun z => absurd z (by decide), fun z => absurd z (by decide), fun z => absurd z (by decide), fun _ => ⟨fun _ => b, fun z => absurd z (by decide)⟩, fun _ _ _ _ _ _ z6 => absurd rfl z6⟩
  · refine ⟨107, _, act_next hR hO _ _, cls 107 (fun post hp => ?_), ?_⟩
    · dsimp only
      rw [hk]
      exact ⟨fun z => absurd z (by decide), fun z => absurd z (by decide), fun z => absurd z (by decide), fun z => absurd z (by decide), fun z => absurd z (by decide), fun z => absurd z (by decide), fun z => absurd z (by decide), fun _ _ _ _ _ _ _ => hp⟩
    · intro post n r u hM hp
      refine ⟨fun z => absurd z c1, fun _ v7 e7 v8 e8 v9 e9 v10 e10 => ?_⟩
      rw [ex] at e7
      rw [e7, r6] at e8
      rw [e7, d48] at e9
      rw [e7, d6, r8, hk] at e10
      subst e7; subst e8; subst e9; subst e10
      skip
      exact ⟨fun z => absurd z (by decide), fun z => absurd z (by decide), fun z => absurd z (by decide), fun z => absurd z (by decide), fun z => absurd z (by decide), fun z => absurd z (by decide), fun z => absurd z (by decide), fun _ _ _ _ _ _ _ => hM _ (by intro v e; rw [v1' v e]; exact hp)⟩
theorem draw_ok {M : Nat} (hM : M ≤ 99) {aw : WT} {bk : Nat → Int32} {a1 a3 a2 : Int32} :
    ∀ (d i x B : Nat), i + d = M → x < 65537 → B + 9 * d ≤ 1000000 → ∀ (w : WT) (nw : Nat → Int32) (mA mW s p q rsn : Int32), Rw w w.2.2.2.1 w.2.2.2.2.1 nw → Ow B w →
      ∃ (w' : WT) (nw' : Nat → Int32) (s' p' q' x' rsn' : Int32), Rw w' w.2.2.2.1 w.2.2.2.2.1 nw' ∧ Ow (B + 9 * d) w' ∧
        (∀ post : (Int32 × Int32 × Int32 × Int32 × Int32 × (Nat → Int32) × (Nat → Int32) × (Nat → Int32) × Int32 × Int32 × Int32) → Prop, post (w'.1, w'.2.1, w'.2.2.1, w'.2.2.2.1, w'.2.2.2.2.1, w'.2.2.2.2.2.1, w'.2.2.2.2.2.2.1, w'.2.2.2.2.2.2.2, s', p', q') → pX4_tellByDraws_b14 aw.1 aw.2.1 aw.2.2.1 aw.2.2.2.1 aw.2.2.2.2.1 aw.2.2.2.2.2.1 aw.2.2.2.2.2.2.1 aw.2.2.2.2.2.2.2 a2 (nI M) post (d + 1) (nI x) (nI i) w.1 w.2.1 w.2.2.1 w.2.2.2.1 w.2.2.2.2.1 w.2.2.2.2.2.1 w.2.2.2.2.2.2.1 w.2.2.2.2.2.2.2 s p q) ∧
        (∀ post : Int32 → (Int32 × Int32 × Int32 × (Nat → Int32)) → Prop, pX7_year_b43 w.2.2.2.1 w.2.2.2.2.1 bk a1 (nI M) a3 post 1 x' (nI M) mA mW rsn' nw' → pX7_year_b43 w.2.2.2.1 w.2.2.2.2.1 bk a1 (nI M) a3 post (d + 1) (nI x) (nI i) mA mW rsn nw) := by
  intro d
  induction d with
  | zero =>
    intro i x B hi hx hB w nw mA mW s p q rsn hR hO
    have e : i = M := by omega
    subst e
    exact ⟨w, nw, s, p, q, nI x, rsn, hR, hO.mono (by omega), fun post hp => ⟨fun _ => hp, fun z => absurd (Int32.le_refl _) z⟩, fun post hp => hp⟩
  | succ d ih =>
    intro i x B hi hx hB w nw mA mW s p q rsn hR hO
    have c1 : ¬ nI M ≤ nI i := nI_ge (by omega) (by omega)
    have ex : 75 * nI x + 74 - (75 * nI x + 74) / 65537 * 65537 = nI ((75 * x + 74) % 65537) := by
      rw [show (75 : Int32) * nI x = nI (75 * x) from pk_mul 75 x, show nI (75 * x) + 74 = nI (75 * x + 74) from nI_add _ 74]
      exact pk_rem (d := 65537) (by omega) (by decide) (by decide)
    have hx1 : (75 * x + 74) % 65537 < 65537 := Nat.mod_lt _ (by decide)
    generalize (75 * x + 74) % 65537 = x1 at ex hx1
    obtain ⟨sg, PM, hA, hC, hF⟩ := draw_one (bk := bk) (a1 := a1) (a3 := a3) (mA := mA) (mW := mW) (s := s) (p := p) (q := q) (rsn := rsn) hx1 (show B ≤ 1000000 by omega) (show i < M by omega) hM (nI x) hR hO ex
    obtain ⟨r, w1, nw1, hR1, hO1, cA, rA⟩ := act_weak hA hR hO
    have es : w1.2.2.2.1 = w.2.2.2.1 := hR1.2.2.2.1
    have ek : w1.2.2.2.2.1 = w.2.2.2.2.1 := hR1.2.2.2.2.1
    obtain ⟨w', nw', s', p', q', x', rsn', g1, g2, g3, g4⟩ := ih (i + 1) x1 (B + 9) (by omega) hx1 (by omega) w1 nw1 mA mW sg (nI (x1 % 6)) (nI (1 + x1 / 48 % 9)) r (by rw [es, ek]; exact hR1) hO1
    rw [es, ek] at g1 g4
    refine ⟨w', nw', s', p', q', x', rsn', g1, g2.mono (by omega), fun post hp => ?_, fun post hp => ?_⟩
    · refine ⟨fun z => absurd z c1, fun _ v ev => ?_⟩
      rw [ex] at ev
      subst ev
      refine hC _ ?_
      have := cA (fun w2 => pX4_tellByDraws_b14 aw.1 aw.2.1 aw.2.2.1 aw.2.2.2.1 aw.2.2.2.2.1 aw.2.2.2.2.2.1 aw.2.2.2.2.2.2.1 aw.2.2.2.2.2.2.2 a2 (nI M) post (d + 1) (nI x1) (nI (i + 1)) w2.1 w2.2.1 w2.2.2.1 w2.2.2.2.1 w2.2.2.2.2.1 w2.2.2.2.2.2.1 w2.2.2.2.2.2.2.1 w2.2.2.2.2.2.2.2 sg (nI (x1 % 6)) (nI (1 + x1 / 48 % 9))) (g3 post hp)
      rw [nI_1]
      simp only [forall_eq]
      exact this
    · exact hF post (d + 1) r nw1 rA (g4 post hp)
