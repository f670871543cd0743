/-! ===== PURE 18: whether they knelt, the call ===== -/
theorem wy_sub (n t : Nat) : ∀ k, k ≤ n → wy n t (n + 1 - k) k ≤ wy n t (n + 1) 0 := by
  intro k
  induction k with
  | zero => intro _; exact Nat.le_refl _
  | succ k ih =>
    intro hk
    have := ih (by omega)
    rw [show n + 1 - k = (n + 1 - (k + 1)) + 1 by omega, wy] at this
    omega
def sdp (n t : Nat) : Nat → Nat → Nat
  | 0, _ => 0
  | d + 1, i => dpF n t i + sdp n t d (i + 1)
theorem sdp_0 (n t : Nat) : ∀ d i, n < i → sdp n t d i = 0
  | 0, _, _ => rfl
  | d + 1, i, h => by rw [sdp, sdp_0 n t d (i + 1) (by omega), dpF, if_neg (by omega)]
theorem sdp_wy (n t : Nat) : ∀ e d i, i + e = n + 1 → e ≤ d → sdp n t d i = wy n t e i
  | 0, d, i, h, _ => by rw [sdp_0 n t d i (by omega), wy]
  | e + 1, d, i, h, hd => by
    obtain ⟨d, rfl⟩ : ∃ g, d = g + 1 := ⟨d - 1, by omega⟩
    rw [sdp, wy, sdp_wy n t e d (i + 1) (by omega) (by omega), dpF, if_pos (by omega)]
theorem updL_s (f : Nat → Int64) (k : Nat) (x : Int64) : vp_updL f k x k = x := by simp [vp_updL]
theorem updL_n {f : Nat → Int64} {k j : Nat} {x : Int64} (h : j ≠ k) : vp_updL f k x j = f j := by simp [vp_updL, h]
theorem dp79 {t : Nat} (ht : t ≤ 10) {a1 a2 a3 a4 a5 : Int32} {x6 : Int64} : ∀ d i w, i + d = 18 → (∀ j, j < i → w j = lJ (dpF 0 t j)) → ∃ w', (∀ j, j < 18 → w' j = lJ (dpF 0 t j)) ∧ ∀ post : Int64 → ((Nat → Int64)) → Prop, (∃ n1, pX7_knelt_b112 a1 a2 a3 a4 a5 post n1 x6 0 w') → pX7_knelt_b79 a1 a2 a3 a4 a5 post (d + 1) x6 (nI i) w := by
  intro d
  induction d with
  | zero =>
    intro i w hi hw
    have e : i = 18 := by omega
    subst e
    exact ⟨w, hw, fun post hp => ⟨fun _ => hp, fun z => absurd (Int32.le_refl _) z⟩⟩
  | succ d ih =>
    intro i w hi hw
    have c1 : ¬ (18 : Int32) ≤ nI i := nI_ge (b := 18) (by omega) (by decide)
    have vi : vp_in (nI i) 18 := vp_in_nI (by omega) (by decide)
    by_cases h0 : i = 0
    · subst h0
      obtain ⟨w', g1, g2⟩ := ih 1 (vp_updL w 0 1) (by omega) (fun j hj => by
        have : j = 0 := by omega
        subst this
        rw [updL_s]
        show (1 : Int64) = lJ (if 0 ≤ 0 then chS 0 0 0 * t ^ 0 * (10 - t) ^ (0 - 0) else 0)
        rw [if_pos (Nat.le_refl _), Nat.pow_zero, Nat.sub_self, Nat.pow_zero]
        rfl)
      exact ⟨w', g1, fun post hp => ⟨fun z => absurd z c1, fun _ => ⟨fun z => absurd rfl z, fun _ => ⟨vi, fun v ev => by rw [ev]; exact g2 post hp⟩⟩⟩⟩
    · obtain ⟨w', g1, g2⟩ := ih (i + 1) (vp_updL w i 0) (by omega) (fun j hj => by
        by_cases hji : j = i
        · subst hji
          rw [updL_s, dpF, if_neg (by omega)]
          rfl
        · rw [updL_n hji]; exact hw j (by omega))
      refine ⟨w', g1, fun post hp => ⟨fun z => absurd z c1, fun _ => ⟨fun _ => ⟨vi, fun v ev => ?_⟩, fun z => absurd z (nI_ne0 (by omega) (by omega))⟩⟩⟩
      rw [ev, nI_1, nI_clamp (by omega)]
      exact g2 post hp
theorem dp130 {t r : Nat} (ht : t ≤ 10) (hr : r < 16) {a1 a2 a4 a5 : Int32} {x6 : Int64} : ∀ e w, e ≤ 18 → (∀ j, j < 18 → w j = lJ (if j < e then dpF r t j else dpF (r + 1) t j)) → ∃ w', (∀ j, j < 18 → w' j = lJ (dpF (r + 1) t j)) ∧ ∀ (post : Int64 → ((Nat → Int64)) → Prop) (k112 : Int64 → Int32 → (Nat → Int64) → Prop), k112 x6 (nI (r + 1)) w' → pX7_knelt_b130 a1 a2 (nI t) a4 a5 post k112 (e + 1) x6 (nI r) (nI e - 1) w := by
  intro e
  induction e with
  | zero =>
    intro w _ hw
    refine ⟨w, fun j hj => by rw [hw j hj, if_neg (by omega)], fun post k112 hk => ⟨fun _ v ev => by rw [ev, nI_1]; exact hk, fun z => absurd (show nI 0 - 1 < 0 by decide) z⟩⟩
  | succ e ih =>
    intro w he hw
    have s := dp_s r hr t (by omega) e (by omega)
    have vi : vp_in (nI e) 18 := vp_in_nI (by omega) (by decide)
    have dm : ∀ w : Int32, w = nI e + -1 → w = nI e - 1 := fun w e => by rw [e]; generalize nI _ = z; grind
    have e10 : ((10 : Int32) - nI t).toInt64 = lJ (10 - t) := by rw [show (10 : Int32) - nI t = nI (10 - t) from pk_sub (a := 10) ht, i2j (by omega)]
    obtain ⟨w', g1, g2⟩ := ih (vp_updL w e (lJ (dpF (r + 1) t e))) (by omega) (fun j hj => by
      by_cases hje : j = e
      · subst hje
        rw [updL_s, if_neg (by omega)]
      · rw [updL_n hje, hw j hj]
        by_cases h1 : j < e
        · rw [if_pos h1, if_pos (by omega)]
        · rw [if_neg h1, if_neg (by omega)])
    refine ⟨w', g1, fun post k112 hk => ?_⟩
    have we : w e = lJ (dpF r t e) := by rw [hw e (by omega), if_pos (by omega)]
    rw [dec1]
    refine ⟨fun z => absurd z (nI_pos (by omega)), fun _ => ⟨vi, ?_⟩⟩
    rw [nI_clamp (by omega), we, e10, i2j (by omega)]
    by_cases h0 : e = 0
    · subst h0
      rw [if_pos rfl] at s
      refine ⟨fun _ v5 e5 => ⟨vi, fun v7 e7 => ?_⟩, fun z => absurd (show nI 0 ≤ 0 by decide) z⟩
      rw [lJ_mul, show ∀ z : Nat, lJ z + 0 = lJ (z + 0) from fun z => lJ_add z 0, ← s] at e5
      rw [e5, dm v7 e7]
      exact g2 post k112 hk
    · rw [if_neg h0] at s
      have we1 : w (e - 1) = lJ (dpF r t (e - 1)) := by rw [hw (e - 1) (by omega), if_pos (by omega)]
      rw [show nI e - 1 = nI (e - 1) from pk_sub (b := 1) (by omega), nI_clamp (by omega), we1]
      refine ⟨fun z => absurd z (nI_nle (by omega) (by omega)), fun _ => ⟨vp_in_nI (by omega) (by decide), fun v9 e9 => ⟨vi, fun v11 e11 => ?_⟩⟩⟩
      rw [lJ_mul, lJ_mul, lJ_add, ← s] at e9
      rw [e9, dm v11 e11]
      exact g2 post k112 hk
theorem dp112 {t n : Nat} (ht : t ≤ 10) (hn : n ≤ 16) {a2 a4 a5 : Int32} : ∀ d r w, r + d = n → (∀ j, j < 18 → w j = lJ (dpF r t j)) → ∃ w', (∀ j, j < 18 → w' j = lJ (dpF n t j)) ∧ ∀ post : Int64 → ((Nat → Int64)) → Prop, (∃ n1, pX7_knelt_b195 (nI n) a2 (nI t) a4 a5 post n1 (lJ (10 ^ n)) 0 a2 w') → pX7_knelt_b112 (nI n) a2 (nI t) a4 a5 post (d + 1) (lJ (10 ^ r)) (nI r) w := by
  intro d
  induction d with
  | zero =>
    intro r w hr hw
    have e : r = n := by omega
    subst e
    exact ⟨w, hw, fun post hp => ⟨fun _ => hp, fun z => absurd (Int32.le_refl _) z⟩⟩
  | succ d ih =>
    intro r w hr hw
    have c1 : ¬ nI n ≤ nI r := nI_ge (by omega) (by omega)
    obtain ⟨w1, g1, g2⟩ := dp130 (a1 := nI n) (a2 := a2) (a4 := a4) (a5 := a5) (x6 := lJ (10 ^ (r + 1))) ht (show r < 16 by omega) 18 w (by omega) (fun j hj => by rw [if_pos hj]; exact hw j hj)
    obtain ⟨w', g3, g4⟩ := ih (r + 1) w1 (by omega) g1
    refine ⟨w', g3, fun post hp => ⟨fun z => absurd z c1, fun _ v ev => ⟨19, ?_⟩⟩⟩
    rw [show (10 : Int64) = lJ 10 from rfl, lJ_mul, ← Nat.pow_succ] at ev
    rw [ev]
    exact g2 post _ (g4 post hp)
theorem dp195 {n t k : Nat} (hk : k ≤ n) (hn : n ≤ 16) {w : Nat → Int64} (hw : ∀ j, j < 18 → w j = lJ (dpF n t j)) {a1 a2 a3 a4 a5 : Int32} {x6 : Int64} {post : Int64 → ((Nat → Int64)) → Prop} (h : pX7_lowest (lJ (wy n t (n + 1 - k) k)) x6 a5 (fun r2 => post r2 w)) : pX7_knelt_b195 a1 a2 a3 a4 a5 post (18 - k + 1) x6 0 (nI k) w := by
  have key : ∀ d i acc, i + d = 18 → pX7_lowest (lJ (acc + sdp n t d i)) x6 a5 (fun r2 => post r2 w) → pX7_knelt_b195 a1 a2 a3 a4 a5 post (d + 1) x6 (lJ acc) (nI i) w := by
    intro d
    induction d with
    | zero =>
      intro i acc hi hp
      have e : i = 18 := by omega
      subst e
      exact ⟨fun _ => hp, fun z => absurd (Int32.le_refl _) z⟩
    | succ d ih =>
      intro i acc hi hp
      have c1 : ¬ (18 : Int32) ≤ nI i := nI_ge (b := 18) (by omega) (by decide)
      rw [sdp, ← Nat.add_assoc] at hp
      refine ⟨fun z => absurd z c1, fun _ => ⟨vp_in_nI (by omega) (by decide), fun v ev v2 ev2 => ?_⟩⟩
      rw [nI_clamp (by omega), hw i (by omega), lJ_add] at ev
      rw [ev, ev2, nI_1]
      exact ih (i + 1) _ (by omega) hp
  refine key (18 - k) k 0 (by omega) ?_
  rw [Nat.zero_add, sdp_wy n t (n + 1 - k) (18 - k) k (by omega) (by omega)]
  exact h
theorem p10 {n : Nat} (hn : n ≤ 16) : 0 < 10 ^ n ∧ 10 ^ n ≤ 10000000000000000 := ⟨Nat.pow_pos (by decide), Nat.pow_le_pow_right (n := 10) (i := n) (j := 16) (by decide) hn⟩
theorem b91 {u v : Nat} (hu : u < 2 ^ 63) (hv : v ≤ 10000000000000000) (hv0 : 0 < v) (a1 a2 a3 a4 a5 : Int32) {post : Int64 → Prop} (h1 : ¬ a5 = 0 → post (lJ v / lJ (gcS 100 u v))) (h2 : a5 = 0 → post (lJ u / lJ (gcS 100 u v))) : pX6_knelt_b91 a1 a2 a3 a4 a5 post (lJ u) (lJ v) := by
  have gp : 0 < gcS 100 u v := gcS_pos 100 u v (Or.inr hv0) (fun z => absurd hv0 (by omega)) (en_100 hv)
  have gl : gcS 100 u v < 2 ^ 63 := gcS_lt 100 u v hu (by omega)
  have gn : ¬ lJ (gcS 100 u v) = 0 := lJ_ne0 gl (by omega)
  exact cdv6 hu (by omega) ⟨fun _ => ⟨fun z => ⟨gn, h1 z⟩, fun z => ⟨gn, h2 z⟩⟩, fun z => absurd (cmp_n gl (by omega)).2 z⟩
theorem case20 {n : Nat} {xs : Nat → Int32} {i : Nat} {X : XT} {M : MT} {K : XT → MT → Prop} (hI : Inv n X M) (hK : ∀ X M, Inv (n + 1) X M → K X M) : lc20 xs i X M K := by
  obtain ⟨w, sg, pd, tl, i0, i1⟩ := X
  obtain ⟨bk, nw, sh, kn, sgs, sgt, sns, pad, mA, mW, rs, ac, hd, tk, wo, fi, wi, wys, im, ik⟩ := M
  obtain ⟨k1, k2, k3, k4, k5, k6, k7⟩ := Inv.up hI
  dsimp only at k1 k2 k3 k4 k5 k6 k7
  unfold lc20 pX6_knelt
  dsimp only
  have ok : ∀ wys, K (w, sg, pd, tl, i0, i1) (bk, nw, sh, kn, sgs, sgt, sns, pad, mA, mW, rs, ac, hd, tk, wo, fi, wi, wys, im, ik) := fun wys => hK _ _ (inv_mk k1 k2 k3 k4 k5 k6 k7)
  rcases rng (xs (i + 1)) 0 16 with ⟨N, hN1, hN2, eN⟩ | hne
  · rw [eN]
    refine in6_t 0 16 N rfl hN1 hN2 (by decide) (b_e1 ?_)
    rcases rng (xs (i + 2)) 0 N with ⟨k, hk1, hk2, ek⟩ | hnk
    · rw [ek]
      refine in6_t 0 N k rfl hk1 hk2 (by omega) (b_e1 ?_)
      rcases rng (xs (i + 3)) 0 10 with ⟨t, ht1, ht2, et⟩ | hnt
      · rw [et]
        refine in6_t 0 10 t rfl ht1 ht2 (by decide) (b_e1 ?_)
        rcases rng (xs (i + 4)) 0 1 with ⟨a, ha1, ha2, ea⟩ | hna
        · rw [ea]
          refine in6_t 0 1 a rfl ha1 ha2 (by decide) (b_e1 ?_)
          rcases rng (xs (i + 5)) 0 1 with ⟨b, hb1, hb2, eb⟩ | hnb
          · refine in6_t 0 1 b eb hb1 hb2 (by decide) (b_n1 ?_)
            obtain ⟨q1, q2⟩ := p10 hN2
            have pre : ∀ po : Int64 → ((Nat → Int64)) → Prop, ((¬ nI a = 1 → (∃ n1, pX7_knelt_b79 (nI N) (nI k) (nI t) (nI a) (xs (i + 5)) po n1 1 0 wys)) ∧ (nI a = 1 → (pX7_lowest ((nI N).toInt64 * (nI t).toInt64) 10 (xs (i + 5)) (fun r12 => po r12 wys)))) → pX7_knelt wys (nI N) (nI k) (nI t) (nI a) (xs (i + 5)) po := fun po h => in7_t 0 16 N rfl hN1 hN2 (by decide) (b_e1 (in7_t 0 N k rfl hk1 hk2 (by omega) (b_e1 (in7_t 0 10 t rfl ht1 ht2 (by decide) (b_e1 (in7_t 0 1 a rfl ha1 ha2 (by decide) (b_e1 (in7_t 0 1 b eb hb1 hb2 (by decide) (b_n1 h)))))))))
            rcases (show a = 0 ∨ a = 1 by omega) with rfl | rfl
            · have hu : wy N t (N + 1 - k) k < 2 ^ 63 := by
                have := wy_sub N t k hk2
                have := wy_le N (by omega) t (by omega)
                omega
              obtain ⟨w1, g1, g2⟩ := dp79 (a1 := nI N) (a2 := nI k) (a3 := nI t) (a4 := nI 0) (a5 := xs (i + 5)) (x6 := lJ (10 ^ 0)) ht2 18 0 wys (by omega) (fun j hj => absurd hj (Nat.not_lt_zero j))
              obtain ⟨w2, g3, g4⟩ := dp112 (a2 := nI k) (a4 := nI 0) (a5 := xs (i + 5)) ht2 hN2 N 0 w1 (by omega) g1
              refine ⟨fun z => absurd rfl z, fun _ => wy6 hN2 ht2 hk2 ⟨fun z => absurd rfl z, fun _ => ?_⟩⟩
              show pX6_power (nI 10) (nI N) _
              refine pow6 (by decide) (by omega) (b91 hu q2 q1 _ _ _ _ _ (fun z => ?_) (fun z => ?_))
              · exact pre _ ⟨fun _ => ⟨19, g2 _ ⟨N + 1, g4 _ ⟨_, dp195 hk2 hN2 g3 (low7 hu q2 q1 _ (fun _ => ⟨rfl, ok _⟩) (fun y => absurd y z))⟩⟩⟩, fun y => absurd y (by decide)⟩
              · exact pre _ ⟨fun _ => ⟨19, g2 _ ⟨N + 1, g4 _ ⟨_, dp195 hk2 hN2 g3 (low7 hu q2 q1 _ (fun y => absurd z y) (fun _ => ⟨rfl, ok _⟩))⟩⟩⟩, fun y => absurd y (by decide)⟩
            · have hu : N * t < 2 ^ 63 := by
                have := Nat.mul_le_mul hN2 ht2
                omega
              rw [i2j (by omega), i2j (by omega), lJ_mul] at pre ⊢
              refine ⟨fun _ => ⟨fun _ => ?_, fun z => absurd z (by decide)⟩, fun z => absurd z (by decide)⟩
              refine b91 (v := 10) hu (by decide) (by decide) _ _ _ _ _ (fun z => ?_) (fun z => ?_)
              · exact pre _ ⟨fun y => absurd rfl y, fun _ => low7 (b := 10) hu (by decide) (by decide) _ (fun _ => ⟨rfl, ok _⟩) (fun y => absurd y z)⟩
              · exact pre _ ⟨fun y => absurd rfl y, fun _ => low7 (b := 10) hu (by decide) (by decide) _ (fun y => absurd z y) (fun _ => ⟨rfl, ok _⟩)⟩
          · exact in6_f 0 1 hnb (by decide) (by decide) (b_n0 (in7_t 0 16 N rfl hN1 hN2 (by decide) (b_e1 (in7_t 0 N k rfl hk1 hk2 (by omega) (b_e1 (in7_t 0 10 t rfl ht1 ht2 (by decide) (b_e1 (in7_t 0 1 a rfl ha1 ha2 (by decide) (b_e1 (in7_f 0 1 hnb (by decide) (by decide) (b_n0 ⟨rfl, ok _⟩)))))))))))
        · exact in6_f 0 1 hna (by decide) (by decide) (b_e0 (in7_t 0 16 N rfl hN1 hN2 (by decide) (b_e1 (in7_t 0 N k rfl hk1 hk2 (by omega) (b_e1 (in7_t 0 10 t rfl ht1 ht2 (by decide) (b_e1 (in7_f 0 1 hna (by decide) (by decide) (b_e0 ⟨rfl, ok _⟩)))))))))
      · exact in6_f 0 10 hnt (by decide) (by decide) (b_e0 (in7_t 0 16 N rfl hN1 hN2 (by decide) (b_e1 (in7_t 0 N k rfl hk1 hk2 (by omega) (b_e1 (in7_f 0 10 hnt (by decide) (by decide) (b_e0 ⟨rfl, ok _⟩)))))))
    · exact in6_f 0 N hnk (by omega) (by decide) (b_e0 (in7_t 0 16 N rfl hN1 hN2 (by decide) (b_e1 (in7_f 0 N hnk (by omega) (by decide) (b_e0 ⟨rfl, ok _⟩)))))
  · exact in6_f 0 16 hne (by decide) (by decide) (b_e0 (in7_f 0 16 hne (by decide) (by decide) (b_e0 ⟨rfl, ok _⟩)))
