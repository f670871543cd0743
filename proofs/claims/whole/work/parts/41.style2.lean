/-! ===== PURE 15: the styles, the call ===== -/
theorem ndiv {k : Nat} (hk : k < 2 ^ 31) : (-nI k) / 7 = -nI (k / 7) := by
  apply Int32.toInt_inj.mp
  rw [Int32.toInt_div, sb_negT hk, sb_negT (by omega), show (7 : Int32).toInt = 7 from rfl, Int.neg_tdiv, Int.tdiv_eq_ediv_of_nonneg (by omega)]
  rw [show ((k : Int) / 7) = ((k / 7 : Nat) : Int) from by omega]
  apply Int.bmod_eq_of_le <;> omega
theorem wk7 {N : Nat} (h1 : 1 ≤ N) (h2 : N < 2000000) : (((nI (N + 308) - nI 640104) + 2) - ((nI (N + 308) - nI 640104) + 2) / 7 * 7 + 7) - (((nI (N + 308) - nI 640104) + 2) - ((nI (N + 308) - nI 640104) + 2) / 7 * 7 + 7) / 7 * 7 = nI ((N - 1) % 7) := by
  by_cases hc : 639794 ≤ N
  · have e : nI (N + 308) - nI 640104 + 2 = nI (N - 639794) := by
      rw [show N + 308 = (N - 639794) + 640102 by omega, ← nI_add, show nI 640104 = nI 640102 + 2 from rfl]
      generalize nI 640102 = c
      generalize nI (N - 639794) = d
      grind
    rw [e, show nI (N - 639794) - nI (N - 639794) / 7 * 7 = nI ((N - 639794) % 7) from pk_rem (d := 7) (by omega) (by decide) (by decide), show nI ((N - 639794) % 7) + 7 = nI ((N - 639794) % 7 + 7) from nI_add _ 7, show nI ((N - 639794) % 7 + 7) - nI ((N - 639794) % 7 + 7) / 7 * 7 = nI (((N - 639794) % 7 + 7) % 7) from pk_rem (d := 7) (by omega) (by decide) (by decide)]
    exact congrArg nI (by omega)
  · have e : nI (N + 308) - nI 640104 + 2 = -nI (639794 - N) := by
      have : nI (639794 - N) + nI (N + 308) = nI 640102 := by
        rw [nI_add]
        exact congrArg nI (by omega)
      rw [show nI 640104 = nI 640102 + 2 from rfl, ← this]
      generalize nI (639794 - N) = c
      generalize nI (N + 308) = d
      grind
    have e2 : nI (639794 - N) - nI ((639794 - N) / 7) * 7 = nI ((639794 - N) % 7) := by
      rw [← show nI (639794 - N) / 7 = nI ((639794 - N) / 7) from pk_div (d := 7) (by omega) (by decide) (by decide)]
      exact pk_rem (d := 7) (by omega) (by decide) (by decide)
    have e3 : -nI (639794 - N) - -nI ((639794 - N) / 7) * 7 + 7 = nI (7 - (639794 - N) % 7) := by
      rw [← pk_sub (a := 7) (b := (639794 - N) % 7) (by omega), ← e2, show nI 7 = 7 from rfl]
      generalize nI (639794 - N) = c
      generalize nI ((639794 - N) / 7) = d
      grind
    rw [e, ndiv (by omega), e3, show nI (7 - (639794 - N) % 7) - nI (7 - (639794 - N) % 7) / 7 * 7 = nI ((7 - (639794 - N) % 7) % 7) from pk_rem (d := 7) (by omega) (by decide) (by decide)]
    exact congrArg nI (by omega)
/-- the reference's month, downwards -/
theorem mo7 {Y x D : Nat} (hY : 1 ≤ Y) (hY2 : Y ≤ 3002) (hx : x = nD Y + 306 + D) (hD1 : 1 ≤ D) (hD2 : D ≤ 400) (a1 a2 a3 a4 : Int32) {post : Int32 → Prop} : ∀ mo, mo ≤ 12 → 1 ≤ mo → post (nI (10000 * Y + rfV (nLp Y) D mo)) → pX7_style_b153 a1 a2 a3 a4 post mo (nI x) (nI Y) (nI mo) := by
  have hb : nD Y ≤ 2000000 := by unfold nD; omega
  intro mo
  induction mo with
  | zero => intro _ h; exact absurd h (by omega)
  | succ mo ih =>
    intro h1 h2 hp
    have ec := cN_sm (m := mo + 1) hY h2 h1
    have hs : sm (nLp Y) (mo + 1) ≤ 400 := by
      have := sm_hi (nLp Y) (mo + 1) (nLp_le Y) h1 h2
      have := nLp_le Y
      omega
    rw [rfV] at hp
    refine cntN (m := mo + 1) (d := 1) hY (by omega) h1 (by decide) ?_
    by_cases hc : sm (nLp Y) (mo + 1) + 1 ≤ D
    · rw [if_pos hc] at hp
      refine ⟨fun _ => cntN (m := mo + 1) (d := 1) hY (by omega) h1 (by decide) ?_, fun q => absurd (nI_le (by omega) (by omega)) q⟩
      rw [show (10000 : Int32) * nI Y = nI (10000 * Y) from pk_mul 10000 Y, show (100 : Int32) * nI (mo + 1) = nI (100 * (mo + 1)) from pk_mul 100 _, nI_add, nI_add, pk_sub (by omega), nI_1, show 10000 * Y + 100 * (mo + 1) + x - cN Y (mo + 1) 1 + 1 = 10000 * Y + (100 * (mo + 1) + (D - sm (nLp Y) (mo + 1))) by omega]
      exact hp
    · rw [if_neg hc] at hp
      refine ⟨fun q => absurd q (nI_ge (by omega) (by omega)), fun _ v ev => ?_⟩
      have hm : 1 ≤ mo := by
        rcases Nat.eq_zero_or_pos mo with z | z
        · subst z
          exact absurd hD1 hc
        · exact z
      rw [ev, show nI (mo + 1) + -1 = nI mo from by rw [← nI_1]; generalize nI mo = z; grind]
      exact ih (by omega) hm hp
theorem case13 {n : Nat} {xs : Nat → Int32} {i : Nat} {X : XT} {M : MT} {K : XT → MT → Prop} (hI : Inv n X M) (hK : ∀ X M, Inv (n + 1) X M → K X M) : lc13 xs i X M K := by
  have hI1 := hK _ _ (Inv.up hI)
  unfold lc13 pX6_style pX6_isOldDay
  rcases rng (xs (i + 1)) 1000 3000 with ⟨y, hy1, hy2, ey⟩ | hne
  · rw [ey]
    refine in6_t 1000 3000 y rfl hy1 hy2 (by decide) (b_e1 ?_)
    rcases rng (xs (i + 2)) 1 12 with ⟨m, hm1, hm2, em⟩ | hnm
    · rw [em]
      refine in6_t 1 12 m rfl hm1 hm2 (by decide) (b_e1 (ol6 (by omega) (md6 (oLp_le y) hm1 hm2 ?_)))
      have bl := ml_le (oLp y) m (oLp_le y)
      rcases rng (xs (i + 3)) 1 (ml (oLp y) m) with ⟨d, hd1, hd2, ed⟩ | hnd
      · rw [ed]
        refine in6_t 1 (ml (oLp y) m) d rfl hd1 hd2 (by omega) (b_e1 (b_e1 ?_))
        have pre : ∀ (a4 : Int32) (po : Int32 → Prop), (pX7_in a4 0 2 (fun r8 => (¬ r8 = 0 → (pX7_count (nI y) (nI m) (nI d) 0 (fun r10 => pX7_count 1752 9 2 0 (fun r11 => ∀ v12 : Int32, v12 = (r10 - r11) → ((¬ a4 = 1 → (pX7_count 1752 9 13 1 (fun r14 => ∀ v15 : Int32, v15 = (r14 + v12) → (∀ v16 : Int32, v16 = (nI y + 1) → (∃ n1, pX7_style_b110 (nI y) (nI m) (nI d) a4 po n1 v15 v16))))) ∧ (a4 = 1 → (po ((((v12 + 2) - (v12 + 2) / 7 * 7) + 7) - (((v12 + 2) - (v12 + 2) / 7 * 7) + 7) / 7 * 7)))))))) ∧ (r8 = 0 → (po (-2))))) → pX7_style (nI y) (nI m) (nI d) a4 po := fun a4 po h => in7_t 1000 3000 y rfl hy1 hy2 (by decide) (b_e1 (in7_t 1 12 m rfl hm1 hm2 (by decide) (b_e1 (lo7 (by omega) hm1 hm2 (in7_t 1 (ml (oLp y) m) d rfl hd1 hd2 (by omega) (b_e1 h))))))
        rcases rng (xs (i + 4)) 0 2 with ⟨w, hw1, hw2, ew⟩ | hnw
        · rw [ew]
          refine in6_t 0 2 w rfl hw1 hw2 (by decide) (b_n1 (on6 hy1 hy2 hm1 hm2 (by omega) ?_))
          have lo := oN_lo (m := m) hy1 hd1
          have hi := oN_hi hy1 hy2 hm1 hm2 hd2
          have ds := nD_s (y := y) (by omega)
          have nl := nLp_le y
          have nb : nD (y + 1) ≤ 1500000 := by unfold nD; omega
          have co := cO_oN (d := d) hy1 hm1 hm2
          generalize hN : oN y m d = N at *
          -- the reference's number
          have ref : ∀ (a4 : Int32) (po : Int32 → Prop), (a4 = 1 → po (nI ((N - 1) % 7))) → (¬ a4 = 1 → pX7_style_b110 (nI y) (nI m) (nI d) a4 po 2 (nI (N + 306)) (nI (y + 1))) → ∀ (ha : ∃ w, w ≤ 2 ∧ a4 = nI w), pX7_style (nI y) (nI m) (nI d) a4 po := by
            intro a4 po q1 q2 ⟨w, hw, ea⟩
            refine pre a4 po (in7_t 0 2 w ea (by omega) hw (by decide) (b_n1 (cntO (by omega) (by omega) hm2 (by omega) (cntO (y := 1752) (m := 9) (d := 2) (by decide) (by decide) (by decide) (by decide) (fun v12 e12 => ⟨fun z => cntN (y := 1752) (m := 9) (d := 13) (by decide) (by decide) (by decide) (by decide) (fun v15 e15 v16 e16 => ⟨2, ?_⟩), fun z => ?_⟩)))))
            · rw [co] at e12
              rw [e15, e16, e12, nI_1, show nI (cN 1752 9 13) = nI 640102 from rfl, show nI (cO 1752 9 2) = nI 640102 + 2 from rfl, show N + 308 = N + 306 + 2 from rfl, ← nI_add (N + 306) 2, show nI 2 = 2 from rfl, show nI 640102 + (nI (N + 306) + 2 - (nI 640102 + 2)) = nI (N + 306) from by generalize nI 640102 = c1; generalize nI (N + 306) = c2; grind]
              exact q2 z
            · rw [co] at e12
              rw [e12, show nI (cO 1752 9 2) = nI 640104 from rfl, wk7 (by omega) (by omega)]
              exact q1 z
          -- the year
          have yr : ∀ (a4 : Int32) (Y D : Nat) (po : Int32 → Prop), ((N ≤ nD (y + 1) ∧ Y = y) ∨ (nD (y + 1) < N ∧ Y = y + 1)) → D = N - nD Y → (a4 = 2 → po (nI D)) → (¬ a4 = 2 → po (nI (10000 * Y + nsV (nLp Y) 11 1 D))) → pX7_style_b110 (nI y) (nI m) (nI d) a4 po 2 (nI (N + 306)) (nI (y + 1)) := by
            intro a4 Y D po hY eD q1 q2
            have fin : ∀ f, 1 ≤ D → D ≤ 365 + nLp Y → 1 ≤ Y → Y ≤ 3002 → nD Y ≤ N → pX7_style_b110 (nI y) (nI m) (nI d) a4 po (f + 1) (nI (N + 306)) (nI Y) := by
              intro f d1 d2 y1 y2 hle
              have hnl := nLp_le Y
              have e1 := cN_sm (y := Y) (m := 1) y1 (by decide) (by decide)
              rw [show sm (nLp Y) 1 = 0 from rfl] at e1
              refine cntN (m := 1) (d := 1) y1 (by omega) (by decide) (by decide) ?_
              refine ⟨fun _ => ⟨fun z => ⟨12, ?_⟩, fun z => cntN (m := 1) (d := 1) y1 (by omega) (by decide) (by decide) ?_⟩, fun z => absurd (nI_le (by omega) (by omega)) z⟩
              · refine mo7 (D := D) y1 y2 (by omega) d1 (by omega) _ _ _ _ 12 (by decide) (by decide) ?_
                have := q2 z
                rcases (show nLp Y = 0 ∨ nLp Y = 1 by omega) with e | e
                · rw [e] at this d2 ⊢; rw [← ns_rf0 D (by omega) d1]; exact this
                · rw [e] at this d2 ⊢; rw [← ns_rf1 D (by omega) d1]; exact this
              · rw [pk_sub (by omega), nI_1, show N + 306 - cN Y 1 1 + 1 = D by omega]
                exact q1 z
            rcases hY with ⟨h1, rfl⟩ | ⟨h1, rfl⟩
            · have e1 := cN_sm (y := Y + 1) (m := 1) (by omega) (by decide) (by decide)
              rw [show sm (nLp (Y + 1)) 1 = 0 from rfl] at e1
              refine cntN (m := 1) (d := 1) (by omega) (by omega) (by decide) (by decide) ?_
              refine ⟨fun z => absurd z (nI_ge (by omega) (by omega)), fun _ v ev => ?_⟩
              rw [ev, show nI (Y + 1) + -1 = nI Y from by rw [← nI_1]; generalize nI Y = z; grind]
              exact fin 0 (by omega) (by omega) (by omega) (by omega) (by omega)
            · exact fin 1 (by omega) (by omega) (by omega) (by omega) (by omega)
          have b62 : ∀ (a4 : Int32) (Y : Nat) (po : Int32 → Prop), 1 ≤ Y → Y ≤ 3002 → nD Y ≤ N → N - nD Y ≤ 400 → (a4 = 0 → po (nI (10000 * Y + nsV (nLp Y) 11 1 (N - nD Y)))) → (¬ a4 = 0 → po (nI (N - nD Y))) → pX6_style_b62 (nI y) (nI m) (nI d) a4 po (nI N) (nI Y) := by
            intro a4 Y po y1 y2 hle hD q1 q2
            refine nd6 y1 (by omega) (fun v ev => ?_)
            rw [pk_sub hle] at ev
            rw [ev]
            exact ⟨q2, fun z => ns6 (by omega) hD (q1 z)⟩
          rcases (show w = 0 ∨ w = 1 ∨ w = 2 by omega) with rfl | rfl | rfl
          · refine ⟨fun _ => ?_, fun z => absurd z (by decide)⟩
            rw [nI_1]
            refine nd6 (by omega) (by omega) ⟨fun z => ?_, fun z => ?_⟩
            · have hle : N ≤ nD (y + 1) := (nI_leI (by omega) (by omega)).mp z
              exact b62 _ y _ (by omega) (by omega) (by omega) (by omega) (fun _ => ref _ _ (fun z => absurd z (by decide)) (fun _ => yr _ y _ _ (Or.inl ⟨hle, rfl⟩) rfl (fun z => absurd z (by decide)) (fun _ => ⟨rfl, hI1⟩)) ⟨0, by decide, rfl⟩) (fun z => absurd rfl z)
            · have hle : nD (y + 1) < N := Nat.lt_of_not_le (fun q => z (nI_le q (by omega)))
              exact b62 _ (y + 1) _ (by omega) (by omega) (by omega) (by omega) (fun _ => ref _ _ (fun z => absurd z (by decide)) (fun _ => yr _ (y + 1) _ _ (Or.inr ⟨hle, rfl⟩) rfl (fun z => absurd z (by decide)) (fun _ => ⟨rfl, hI1⟩)) ⟨0, by decide, rfl⟩) (fun z => absurd rfl z)
          · refine ⟨fun z => absurd rfl z, fun _ => ref _ _ (fun _ => ?_) (fun z => absurd rfl z) ⟨1, by decide, rfl⟩⟩
            rw [show nI N - 1 = nI (N - 1) from pk_sub (b := 1) (by omega), show nI (N - 1) - nI (N - 1) / 7 * 7 = nI ((N - 1) % 7) from pk_rem (d := 7) (by omega) (by decide) (by decide)]
            exact ⟨rfl, hI1⟩
          · refine ⟨fun _ => ?_, fun z => absurd z (by decide)⟩
            rw [nI_1]
            refine nd6 (by omega) (by omega) ⟨fun z => ?_, fun z => ?_⟩
            · have hle : N ≤ nD (y + 1) := (nI_leI (by omega) (by omega)).mp z
              exact b62 _ y _ (by omega) (by omega) (by omega) (by omega) (fun z => absurd z (by decide)) (fun _ => ref _ _ (fun z => absurd z (by decide)) (fun _ => yr _ y _ _ (Or.inl ⟨hle, rfl⟩) rfl (fun _ => ⟨rfl, hI1⟩) (fun z => absurd rfl z)) ⟨2, by decide, rfl⟩)
            · have hle : nD (y + 1) < N := Nat.lt_of_not_le (fun q => z (nI_le q (by omega)))
              exact b62 _ (y + 1) _ (by omega) (by omega) (by omega) (by omega) (fun z => absurd z (by decide)) (fun _ => ref _ _ (fun z => absurd z (by decide)) (fun _ => yr _ (y + 1) _ _ (Or.inr ⟨hle, rfl⟩) rfl (fun _ => ⟨rfl, hI1⟩) (fun z => absurd rfl z)) ⟨2, by decide, rfl⟩)
        · exact in6_f 0 2 hnw (by decide) (by decide) (b_n0 (pre _ _ (in7_f 0 2 hnw (by decide) (by decide) (b_n0 ⟨rfl, hI1⟩))))
      · exact in6_f 1 (ml (oLp y) m) hnd (by omega) (by decide) (b_e0 (b_e0 (in7_t 1000 3000 y rfl hy1 hy2 (by decide) (b_e1 (in7_t 1 12 m rfl hm1 hm2 (by decide) (b_e1 (lo7 (by omega) hm1 hm2 (in7_f 1 (ml (oLp y) m) hnd (by omega) (by decide) (b_e0 ⟨rfl, hI1⟩)))))))))
    · exact in6_f 1 12 hnm (by decide) (by decide) (b_e0 (b_e0 (in7_t 1000 3000 y rfl hy1 hy2 (by decide) (b_e1 (in7_f 1 12 hnm (by decide) (by decide) (b_e0 ⟨rfl, hI1⟩))))))
  · exact in6_f 1000 3000 hne (by decide) (by decide) (b_e0 (b_e0 (in7_f 1000 3000 hne (by decide) (by decide) (b_e0 ⟨rfl, hI1⟩))))
