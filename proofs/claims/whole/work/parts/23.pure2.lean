/-! ===== PURE 2: the calls that set, tell, keep ===== -/
theorem or_z {x y : Int32} (h : x ||| y = 0) : x = 0 ∧ y = 0 := by
  have h1 := congrArg Int32.toBitVec h
  rw [Int32.toBitVec_or] at h1
  have h2 : x.toBitVec ||| y.toBitVec = 0#32 := h1
  rw [BitVec.or_eq_zero_iff] at h2
  exact ⟨Int32.toBitVec_inj.mp h2.1, Int32.toBitVec_inj.mp h2.2⟩
theorem wb0 {c : Nat → Bool} : ∀ n, n ≤ 6 → wbS c n = 0 → ∀ k, k < n → c k = false
  | 0, _, _, k, hk => absurd hk (Nat.not_lt_zero k)
  | n + 1, hn, h, k, hk => by
    rw [wbS] at h
    by_cases hc : c n = true
    · rw [if_pos hc] at h
      have h2 := (or_z h).2
      exfalso
      rcases (show n = 0 ∨ n = 1 ∨ n = 2 ∨ n = 3 ∨ n = 4 ∨ n = 5 by omega) with rfl | rfl | rfl | rfl | rfl | rfl <;> exact absurd h2 (by decide)
    · rw [if_neg hc] at h
      rcases Nat.lt_or_ge k n with q | q
      · exact wb0 n (by omega) h k q
      · have e : k = n := by omega
        subst e
        simpa using hc
theorem neg_lit {a : Int32} (h : a < 0) (k : Nat) (hk : k < 2 ^ 31) : ¬ a = nI k := fun e => nI_pos hk (e ▸ h)
theorem neg_lt {a : Int32} (h : a < 0) (k : Nat) (hk : k < 2 ^ 31) : a < nI k := by
  rw [Int32.lt_iff_toInt_lt] at h ⊢
  rw [nI_toInt hk]
  simp at h
  omega

theorem case0 {n : Nat} {xs : Nat → Int32} {i : Nat} {X : XT} {M : MT} {K : XT → MT → Prop} (hI : Inv n X M) (hK : ∀ X M, Inv (n + 1) X M → K X M) : lc0 xs i X M K := by
  obtain ⟨w, sg, pd, tl, i0, i1⟩ := X
  obtain ⟨bk, nw, sh, kn, sgs, sgt, sns, pad, mA, mW, rs, ac, hd, tk, wo, fi, wi, wy, im, ik⟩ := M
  have hI1 := Inv.up hI
  obtain ⟨hR, hO, hS, hP, h0, h1, hw⟩ := hI
  dsimp only at hR hO hS hP h0 h1 hw
  unfold lc0 pX6_shift pX7_shift
  dsimp only
  rcases rng (xs (i + 1)) 0 30 with ⟨j, hj1, hj2, e⟩ | hne
  · refine in6_t 0 30 j e hj1 hj2 (by decide) (b_n1 ?_)
    refine who5 _ ?_
    have ew : wbS (fun k => decide (¬ cpS nw bk 45 k < 0)) 6 = wbS (fun k => decide (¬ bk k < 0)) 6 := wbS_cong (fun k hk => by rw [cpS_in (by omega)])
    have es : smS (fun k => cpS nw bk 45 (12 + k)) 30 = smS (fun k => bk (12 + k)) 30 := smS_cong (fun k hk => by rw [cpS_in (by omega)])
    have ew2 := wb_eq hR hO
    have es2 := sm_eq hR
    refine ⟨fun q => ?_, fun q => ?_⟩
    · refine in7_t 0 30 j e hj1 hj2 (by decide) (b_n1 ?_)
      refine asn7 _ _ _ _ ?_
      refine who7 _ ?_
      refine ⟨fun _ => ⟨rfl, hK _ _ hI1⟩, fun z => absurd (ew2.trans (ew.symm.trans z)) q⟩
    · refine lie5 _ ?_
      refine ⟨fun q2 => ?_, fun q2 => ?_⟩
      · refine in7_t 0 30 j e hj1 hj2 (by decide) (b_n1 ?_)
        refine asn7 _ _ _ _ ?_
        refine who7 _ ?_
        refine ⟨fun z => absurd (ew.trans (ew2.symm.trans q)) z, fun _ => ?_⟩
        refine lie7 _ ?_
        refine ⟨fun _ => ⟨hR.2.2.2.1, hK _ _ ?_⟩, fun z => absurd (es.trans (es2.symm.trans q2)) z⟩
        obtain ⟨g1, g2, g3, g4, g5, g6, g7, g8⟩ := hR
        obtain ⟨f1, f2, f3, f4, f5, f6⟩ := hI1.2.1
        refine ⟨⟨g1, g2, g3, rfl, g5, g6, g7, g8⟩, ⟨f1, f2, f3, f4, ⟨j, hj2, e, fun k hk => Or.inl ?_⟩, f6⟩, hI1.2.2⟩
        have := wb0 6 (by omega) q k hk
        simpa using this
      · refine in7_t 0 30 j e hj1 hj2 (by decide) (b_n1 ?_)
        refine asn7 _ _ _ _ ?_
        refine who7 _ ?_
        refine ⟨fun z => absurd (ew.trans (ew2.symm.trans q)) z, fun _ => ?_⟩
        refine lie7 _ ?_
        exact ⟨fun z => absurd (es2.trans (es.symm.trans z)) q2, fun _ => ⟨rfl, hK _ _ hI1⟩⟩
  · refine in6_f 0 30 hne (by decide) (by decide) (b_n0 ?_)
    refine in7_f 0 30 hne (by decide) (by decide) (b_n0 ?_)
    exact ⟨rfl, hK _ _ hI1⟩

theorem case1 {n : Nat} {xs : Nat → Int32} {i : Nat} {X : XT} {M : MT} {K : XT → MT → Prop} (hI : Inv n X M) (hK : ∀ X M, Inv (n + 1) X M → K X M) : lc1 xs i X M K := by
  obtain ⟨w, sg, pd, tl, i0, i1⟩ := X
  obtain ⟨bk, nw, sh, kn, sgs, sgt, sns, pad, mA, mW, rs, ac, hd, tk, wo, fi, wi, wy, im, ik⟩ := M
  have hI1 := Inv.up hI
  obtain ⟨hR, hO, hS, hP, h0, h1, hw⟩ := hI
  dsimp only at hR hO hS hP h0 h1 hw
  unfold lc1 pX6_kneel pX7_kneel
  dsimp only
  rcases rng (xs (i + 1)) 0 364 with ⟨j, hj1, hj2, e⟩ | hne
  · refine in6_t 0 364 j e hj1 hj2 (by decide) (b_n1 ?_)
    refine in7_t 0 364 j e hj1 hj2 (by decide) (b_n1 ?_)
    obtain ⟨g1, g2, g3, g4, g5, g6, g7, g8⟩ := hR
    obtain ⟨f1, f2, f3, f4, f5, f6⟩ := hI1.2.1
    exact ⟨g5, hK _ _ ⟨⟨g1, g2, g3, g4, rfl, g6, g7, g8⟩, ⟨f1, f2, f3, ⟨j, by omega, e⟩, f5, f6⟩, hI1.2.2⟩⟩
  · refine in6_f 0 364 hne (by decide) (by decide) (b_n0 ?_)
    refine in7_f 0 364 hne (by decide) (by decide) (b_n0 ?_)
    exact ⟨rfl, hK _ _ hI1⟩

theorem case2 {n : Nat} {xs : Nat → Int32} {i : Nat} {X : XT} {M : MT} {K : XT → MT → Prop} (hI : Inv n X M) (hK : ∀ X M, Inv (n + 1) X M → K X M) : lc2 xs i X M K := by
  obtain ⟨w, sg, pd, tl, i0, i1⟩ := X
  obtain ⟨bk, nw, sh, kn, sgs, sgt, sns, pad, mA, mW, rs, ac, hd, tk, wo, fi, wi, wy, im, ik⟩ := M
  have hI1 := Inv.up hI
  obtain ⟨hR, hO, hS, hP, h0, h1, hw⟩ := hI
  dsimp only at hR hO hS hP h0 h1 hw
  unfold lc2 pX6_clock pX7_clock
  dsimp only
  rcases rng (xs (i + 1)) 0 364 with ⟨j, hj1, hj2, e⟩ | hne
  · refine in6_t 0 364 j e hj1 hj2 (by decide) (b_e1 ?_)
    rcases rng (xs (i + 2)) 0 23 with ⟨j2, k1, k2, e2⟩ | hne
    · refine in6_t 0 23 j2 e2 k1 k2 (by decide) (b_e1 ?_)
      rcases rng (xs (i + 3)) 0 99 with ⟨j3, l1, l2, e3⟩ | hne
      · refine in6_t 0 99 j3 e3 l1 l2 (by decide) (b_n1 (fun v ev => ?_))
        refine in7_t 0 364 j e hj1 hj2 (by decide) (b_e1 ?_)
        refine in7_t 0 23 j2 e2 k1 k2 (by decide) (b_e1 ?_)
        refine in7_t 0 99 j3 e3 l1 l2 (by decide) (b_n1 (fun v2 ev2 => ?_))
        obtain ⟨g1, g2, g3, g4, g5, g6, g7, g8⟩ := hR
        obtain ⟨f1, f2, f3, f4, f5, f6⟩ := hI1.2.1
        refine ⟨by rw [ev, ev2, g1, g2, g3], hK _ _ ⟨⟨rfl, rfl, rfl, g4, g5, fun k hk => ?_, fun k hk => ?_, fun k hk => ?_⟩, ⟨⟨j, by omega, e⟩, ⟨j2, by omega, e2⟩, ⟨j3, by omega, e3⟩, f4, f5, f6⟩, hI1.2.2⟩⟩
        · dsimp only; rw [g6 k hk, pk_un (by omega), pk_un (by omega), pk_un (by omega)]
        · dsimp only; rw [g7 k hk, pk_un (by omega), pk_un (by omega), pk_un (by omega)]
        · dsimp only; rw [g8 k hk, pk_un (by omega), pk_un (by omega), pk_un (by omega)]
      · refine in6_f 0 99 hne (by decide) (by decide) (b_n0 ?_)
        refine in7_t 0 364 j e hj1 hj2 (by decide) (b_e1 ?_)
        refine in7_t 0 23 j2 e2 k1 k2 (by decide) (b_e1 ?_)
        refine in7_f 0 99 hne (by decide) (by decide) (b_n0 ?_)
        exact ⟨rfl, hK _ _ hI1⟩
    · refine in6_f 0 23 hne (by decide) (by decide) (b_e0 ?_)
      refine in7_t 0 364 j e hj1 hj2 (by decide) (b_e1 ?_)
      refine in7_f 0 23 hne (by decide) (by decide) (b_e0 ?_)
      exact ⟨rfl, hK _ _ hI1⟩
  · refine in6_f 0 364 hne (by decide) (by decide) (b_e0 ?_)
    refine in7_f 0 364 hne (by decide) (by decide) (b_e0 ?_)
    exact ⟨rfl, hK _ _ hI1⟩

theorem case3 {n : Nat} {xs : Nat → Int32} {i : Nat} {X : XT} {M : MT} {K : XT → MT → Prop} (hI : Inv n X M) (hK : ∀ X M, Inv (n + 1) X M → K X M) : lc3 xs i X M K := by
  obtain ⟨w, sg, pd, tl, i0, i1⟩ := X
  obtain ⟨bk, nw, sh, kn, sgs, sgt, sns, pad, mA, mW, rs, ac, hd, tk, wo, fi, wi, wy, im, ik⟩ := M
  have hI1 := Inv.up hI
  obtain ⟨hR, hO, hS, hP, h0, h1, hw⟩ := hI
  dsimp only at hR hO hS hP h0 h1 hw
  unfold lc3 pX6_person pX7_person
  dsimp only
  rcases rng (xs (i + 1)) 0 5 with ⟨j, hj1, hj2, e⟩ | hne
  · refine per_t j e hj2 (b_n1 ?_)
    rcases rng (xs (i + 2)) 0 99 with ⟨j2, k1, k2, e2⟩ | hne
    · refine in6_t 0 99 j2 e2 k1 k2 (by decide) (b_n1 ?_)
      have e6 : (6 : Int32) + xs (i + 1) = nI (6 + j) := by rw [e]; exact nI_add 6 j
      rw [e6, nI_clamp (by omega), e, nI_clamp (by omega)]
      refine ⟨vp_in_nI (by omega) (by decide), fun v ev => ⟨vp_in_nI (by omega) (by decide), ?_⟩⟩
      refine in7_t 0 5 j rfl hj1 hj2 (by decide) (b_n1 ?_)
      refine in7_t 0 99 j2 e2 k1 k2 (by decide) (b_n1 ?_)
      refine ⟨vp_in_nI (by omega) (by decide), fun v2 ev2 => ⟨vp_in_nI (by omega) (by decide), ?_⟩⟩
      obtain ⟨g1, g2, g3, g4, g5, g6, g7, g8⟩ := hR
      obtain ⟨f1, f2, f3, f4, f5, f6⟩ := hI1.2.1
      refine ⟨by rw [ev, ev2, g7 j (by omega)], hK _ _ ⟨⟨?_, ?_, ?_, g4, g5, fun k hk => ?_, fun k hk => ?_, fun k hk => ?_⟩, ⟨f1, f2, f3, f4, f5, f6⟩, hI1.2.2⟩⟩
      · exact g1.trans (pk_un (by omega)).symm
      · exact g2.trans (pk_un (by omega)).symm
      · exact g3.trans (pk_un (by omega)).symm
      · dsimp only; rw [g6 k hk, pk_un (by omega)]
      · by_cases hkj : k = j
        · subst hkj
          dsimp only; rw [pk_us, pk_us]
        · dsimp only; rw [pk_un hkj, pk_un (by omega), g7 k hk]
      · dsimp only; rw [g8 k hk, pk_un (by omega)]
    · refine in6_f 0 99 hne (by decide) (by decide) (b_n0 ?_)
      refine in7_t 0 5 j e hj1 hj2 (by decide) (b_n1 ?_)
      refine in7_f 0 99 hne (by decide) (by decide) (b_n0 ?_)
      exact ⟨rfl, hK _ _ hI1⟩
  · refine per_f hne (b_n0 ?_)
    refine in7_f 0 5 hne (by decide) (by decide) (b_n0 ?_)
    exact ⟨rfl, hK _ _ hI1⟩

theorem case4 {n : Nat} {xs : Nat → Int32} {i : Nat} {X : XT} {M : MT} {K : XT → MT → Prop} (hI : Inv n X M) (hK : ∀ X M, Inv (n + 1) X M → K X M) : lc4 xs i X M K := by
  obtain ⟨w, sg, pd, tl, i0, i1⟩ := X
  obtain ⟨bk, nw, sh, kn, sgs, sgt, sns, pad, mA, mW, rs, ac, hd, tk, wo, fi, wi, wy, im, ik⟩ := M
  have hI1 := Inv.up hI
  obtain ⟨hR, hO, hS, hP, h0, h1, hw⟩ := hI
  dsimp only at hR hO hS hP h0 h1 hw
  unfold lc4 pX6_say pX7_say pX2_add
  dsimp only
  obtain ⟨pc, ps⟩ := pd
  obtain ⟨hp1, c, hc, hp2, hp3⟩ := hP
  dsimp only at hp1 hp3 ⊢
  subst hp1
  rcases rng (xs (i + 1)) 33 126 with ⟨j, hj1, hj2, e⟩ | hne
  · refine in6_t 33 126 j e hj1 hj2 (by decide) (b_n1 ?_)
    by_cases h60 : c = 60
    · have hf : ∀ k, 0 ≤ k → k ≤ 59 → pc ≠ nI k := fun k _ hk q => by
        rw [hp2, nI_eq (by omega) (by omega)] at q
        omega
      refine in6_f 0 59 hf (by decide) (by decide) (b_n0 (b_e0 ?_))
      refine in7_t 33 126 j e hj1 hj2 (by decide) (b_n1 ?_)
      refine ⟨fun q => absurd (by rw [hp2, h60]; rfl) q, fun _ => ⟨rfl, hK _ _ hI1⟩⟩
    · refine in6_t 0 59 c hp2 (Nat.zero_le _) (by omega) (by decide) (b_n1 ?_)
      have hn : ¬ pc = 60 := fun q => by
        rw [hp2] at q
        exact h60 ((nI_eq (by omega) (by decide)).mp (q.trans (show (60 : Int32) = nI 60 from rfl)))
      rw [hp2, nI_clamp (by omega)]
      refine ⟨vp_in_nI (by omega) (by decide), fun v ev => b_e1 ?_⟩
      refine in7_t 33 126 j e hj1 hj2 (by decide) (b_n1 ?_)
      refine ⟨fun _ => ⟨vp_in_nI (by omega) (by decide), fun v2 ev2 => ?_⟩, fun q => absurd (hp2.trans q) hn⟩
      refine ⟨by rw [ev, ev2], hK _ _ ⟨hI1.1, hI1.2.1, hI1.2.2.1, ⟨by rw [ev, ev2], c + 1, by omega, by rw [ev2, nI_1], fun k hk => ?_⟩, hI1.2.2.2.2⟩⟩
      by_cases hkc : k = c
      · subst hkc
        exact ⟨by dsimp only; rw [pk_us, pk_us], j, hj1, hj2, by dsimp only; rw [pk_us]; exact e⟩
      · obtain ⟨q1, q2⟩ := hp3 k (by omega)
        dsimp only
        rw [pk_un hkc, pk_un hkc]
        exact ⟨q1, q2⟩
  · refine in6_f 33 126 hne (by decide) (by decide) (b_n0 ?_)
    refine in7_f 33 126 hne (by decide) (by decide) (b_n0 ?_)
    exact ⟨rfl, hK _ _ hI1⟩

theorem case5 {n : Nat} {xs : Nat → Int32} {i : Nat} {X : XT} {M : MT} {K : XT → MT → Prop} (hI : Inv n X M) (hK : ∀ X M, Inv (n + 1) X M → K X M) : lc5 xs i X M K := by
  obtain ⟨w, sg, pd, tl, i0, i1⟩ := X
  obtain ⟨bk, nw, sh, kn, sgs, sgt, sns, pad, mA, mW, rs, ac, hd, tk, wo, fi, wi, wy, im, ik⟩ := M
  have hI1 := Inv.up hI
  obtain ⟨hR, hO, hS, hP, h0, h1, hw⟩ := hI
  dsimp only at hR hO hS hP h0 h1 hw
  unfold lc5 pX6_wipe pX7_wipe
  dsimp only
  exact ⟨hP.1, hK _ _ ⟨hI1.1, hI1.2.1, hI1.2.2.1, ⟨rfl, 0, by omega, rfl, fun k hk => absurd hk (Nat.not_lt_zero k)⟩, hI1.2.2.2.2⟩⟩

theorem case16 {n : Nat} {xs : Nat → Int32} {i : Nat} {X : XT} {M : MT} {K : XT → MT → Prop} (hI : Inv n X M) (hK : ∀ X M, Inv (n + 1) X M → K X M) : lc16 xs i X M K := by
  obtain ⟨w, sg, pd, tl, i0, i1⟩ := X
  obtain ⟨bk, nw, sh, kn, sgs, sgt, sns, pad, mA, mW, rs, ac, hd, tk, wo, fi, wi, wy, im, ik⟩ := M
  have hI1 := Inv.up hI
  obtain ⟨hR, hO, hS, hP, h0, h1, hw⟩ := hI
  dsimp only at hR hO hS hP h0 h1 hw
  unfold lc16 pX6_forget pX7_forget
  dsimp only
  exact ⟨hS.1, hK _ _ ⟨hI1.1, hI1.2.1, ⟨rfl, 0, by omega, rfl, fun k hk => absurd hk (Nat.not_lt_zero k)⟩, hI1.2.2.2⟩⟩

theorem case15 {n : Nat} {xs : Nat → Int32} {i : Nat} {X : XT} {M : MT} {K : XT → MT → Prop} (hI : Inv n X M) (hK : ∀ X M, Inv (n + 1) X M → K X M) : lc15 xs i X M K := by
  obtain ⟨w, sg, pd, tl, i0, i1⟩ := X
  obtain ⟨bk, nw, sh, kn, sgs, sgt, sns, pad, mA, mW, rs, ac, hd, tk, wo, fi, wi, wy, im, ik⟩ := M
  have hI1 := Inv.up hI
  obtain ⟨hR, hO, hS, hP, h0, h1, hw⟩ := hI
  dsimp only at hR hO hS hP h0 h1 hw
  unfold lc15 pX6_seen pX7_seen pX3_add
  dsimp only
  obtain ⟨sc, hrs, rgs⟩ := sg
  obtain ⟨hp1, c, hc, hp2, hp3⟩ := hS
  dsimp only at hp1 hp3 ⊢
  subst hp1
  refine ⟨fun z0 => ?_, fun z0 => ?_⟩
  · have hb : vp_nar .boolean 0 = 0 := by decide
    rcases rng (xs (i + 1)) 0 99 with ⟨j, hj1, hj2, e⟩ | hne
    · refine in6_t 0 99 j e hj1 hj2 (by decide) (b_n1 ?_)
      by_cases h8 : c = 8
      · have hf : ∀ k, 0 ≤ k → k ≤ 7 → sc ≠ nI k := fun k _ hk q => by
          rw [hp2, nI_eq (by omega) (by omega)] at q
          omega
        refine in6_f 0 7 hf (by decide) (by decide) (b_n0 (b_e0 ?_))
        refine in7_t 0 99 j e hj1 hj2 (by decide) (b_n1 ?_)
        refine ⟨fun q => absurd (by rw [hp2, h8]; rfl) q, fun _ => ⟨rfl, hK _ _ hI1⟩⟩
      · refine in6_t 0 7 c hp2 (Nat.zero_le _) (by omega) (by decide) (b_n1 ?_)
        have hn : ¬ nI c = 8 := fun q => h8 ((nI_eq (by omega) (by decide)).mp (q.trans (show (8 : Int32) = nI 8 from rfl)))
        have e2 : (2 : Int32) * nI c = nI (2 * c) := pk_mul 2 c
        rw [hp2, nI_clamp (by omega), e2, nI_clamp (by omega)]
        refine ⟨vp_in_nI (by omega) (by decide), vp_in_nI (by omega) (by decide), fun v ev => b_e1 ?_⟩
        refine in7_t 0 99 j e hj1 hj2 (by decide) (b_n1 ?_)
        refine ⟨fun _ => ⟨vp_in_nI (by omega) (by decide), b_e0 ?_⟩, fun q => absurd q hn⟩
        unfold pX7_seen_b58
        rw [nI_1 (2 * c), nI_clamp (by omega)]
        refine ⟨vp_in_nI (by omega) (by decide), fun v2 ev2 => ?_⟩
        refine ⟨by rw [ev, ev2], hK _ _ ⟨hI1.1, hI1.2.1, ⟨by rw [ev, ev2], c + 1, by omega, by rw [ev2, nI_1], fun k hk => ?_⟩, hI1.2.2.2⟩⟩
        by_cases hkc : k = c
        · subst hkc
          refine ⟨⟨j, by omega, by dsimp only; rw [pk_us]; exact e⟩, ?_, ?_, ?_⟩
          · dsimp only; rw [pk_us, pk_un (by omega), pk_us]
          · dsimp only; rw [pk_us, pk_us, hb]
          · dsimp only; rw [pk_us, hb]; exact Or.inl rfl
        · obtain ⟨q1, q2, q3, q4⟩ := hp3 k (by omega)
          refine ⟨?_, ?_, ?_, ?_⟩
          · obtain ⟨a, ha, ea⟩ := q1
            exact ⟨a, ha, by dsimp only; rw [pk_un hkc]; exact ea⟩
          · dsimp only; rw [pk_un hkc, pk_un (by omega), pk_un (by omega)]; exact q2
          · dsimp only; rw [pk_un hkc, pk_un (by omega), pk_un (by omega)]; exact q3
          · dsimp only; rw [pk_un hkc]; exact q4
    · refine in6_f 0 99 hne (by decide) (by decide) (b_n0 ?_)
      refine in7_f 0 99 hne (by decide) (by decide) (b_n0 ?_)
      exact ⟨rfl, hK _ _ hI1⟩
  · have hb : vp_nar .boolean 1 = 1 := by decide
    rcases rng (xs (i + 1)) 0 99 with ⟨j, hj1, hj2, e⟩ | hne
    · refine in6_t 0 99 j e hj1 hj2 (by decide) (b_n1 ?_)
      by_cases h8 : c = 8
      · have hf : ∀ k, 0 ≤ k → k ≤ 7 → sc ≠ nI k := fun k _ hk q => by
          rw [hp2, nI_eq (by omega) (by omega)] at q
          omega
        refine in6_f 0 7 hf (by decide) (by decide) (b_n0 (b_e0 ?_))
        refine in7_t 0 99 j e hj1 hj2 (by decide) (b_n1 ?_)
        refine ⟨fun q => absurd (by rw [hp2, h8]; rfl) q, fun _ => ⟨rfl, hK _ _ hI1⟩⟩
      · refine in6_t 0 7 c hp2 (Nat.zero_le _) (by omega) (by decide) (b_n1 ?_)
        have hn : ¬ nI c = 8 := fun q => h8 ((nI_eq (by omega) (by decide)).mp (q.trans (show (8 : Int32) = nI 8 from rfl)))
        have e2 : (2 : Int32) * nI c = nI (2 * c) := pk_mul 2 c
        rw [hp2, nI_clamp (by omega), e2, nI_clamp (by omega)]
        refine ⟨vp_in_nI (by omega) (by decide), vp_in_nI (by omega) (by decide), fun v ev => b_e1 ?_⟩
        refine in7_t 0 99 j e hj1 hj2 (by decide) (b_n1 ?_)
        refine ⟨fun _ => ⟨vp_in_nI (by omega) (by decide), b_e1 ?_⟩, fun q => absurd q hn⟩
        unfold pX7_seen_b58
        rw [nI_1 (2 * c), nI_clamp (by omega)]
        refine ⟨vp_in_nI (by omega) (by decide), fun v2 ev2 => ?_⟩
        refine ⟨by rw [ev, ev2], hK _ _ ⟨hI1.1, hI1.2.1, ⟨by rw [ev, ev2], c + 1, by omega, by rw [ev2, nI_1], fun k hk => ?_⟩, hI1.2.2.2⟩⟩
        by_cases hkc : k = c
        · subst hkc
          refine ⟨⟨j, by omega, by dsimp only; rw [pk_us]; exact e⟩, ?_, ?_, ?_⟩
          · dsimp only; rw [pk_us, pk_un (by omega), pk_us]
          · dsimp only; rw [pk_us, pk_us, hb]
          · dsimp only; rw [pk_us, hb]; exact Or.inr rfl
        · obtain ⟨q1, q2, q3, q4⟩ := hp3 k (by omega)
          refine ⟨?_, ?_, ?_, ?_⟩
          · obtain ⟨a, ha, ea⟩ := q1
            exact ⟨a, ha, by dsimp only; rw [pk_un hkc]; exact ea⟩
          · dsimp only; rw [pk_un hkc, pk_un (by omega), pk_un (by omega)]; exact q2
          · dsimp only; rw [pk_un hkc, pk_un (by omega), pk_un (by omega)]; exact q3
          · dsimp only; rw [pk_un hkc]; exact q4
    · refine in6_f 0 99 hne (by decide) (by decide) (b_n0 ?_)
      refine in7_f 0 99 hne (by decide) (by decide) (b_n0 ?_)
      exact ⟨rfl, hK _ _ hI1⟩

theorem case24 {n : Nat} {xs : Nat → Int32} {i : Nat} {X : XT} {M : MT} {K : XT → MT → Prop} (hI : Inv n X M) (hK : ∀ X M, Inv (n + 1) X M → K X M) : lc24 xs i X M K := by
  obtain ⟨w, sg, pd, tl, i0, i1⟩ := X
  obtain ⟨bk, nw, sh, kn, sgs, sgt, sns, pad, mA, mW, rs, ac, hd, tk, wo, fi, wi, wy, im, ik⟩ := M
  have hI1 := Inv.up hI
  obtain ⟨hR, hO, hS, hP, h0, h1, hw⟩ := hI
  dsimp only at hR hO hS hP h0 h1 hw
  unfold lc24 pX6_told pX7_told pX7_told_b121
  dsimp only
  by_cases hneg : xs (i + 1) < 0
  · have ng : ∀ k, k < 2 ^ 31 → ¬ xs (i + 1) = nI k := fun k hk => neg_lit hneg k hk
    refine in6_f 10 15 (fun j _ hj => ng j (by omega)) (by decide) (by decide) (b_e0 ?_)
    refine in6_f 20 25 (fun j _ hj => ng j (by omega)) (by decide) (by decide) (b_e0 ?_)
    refine in6_f 30 59 (fun j _ hj => ng j (by omega)) (by decide) (by decide) (b_e0 ?_)
    have g := neg_lt hneg
    refine ⟨fun h => absurd h (ng 0 (by decide)), fun h => absurd h (ng 1 (by decide)), fun h => absurd h (ng 2 (by decide)), fun h => absurd h (ng 3 (by decide)), fun h => absurd h (ng 4 (by decide)), fun h => absurd h (ng 5 (by decide)), fun h => absurd h (ng 6 (by decide)), fun h => absurd h (ng 7 (by decide)), fun _ _ _ _ _ _ _ _ => ?_⟩
    refine ⟨fun _ => ⟨fun _ => ?_, fun q => absurd (g 10 (by decide)) q⟩, fun q => absurd (g 30 (by decide)) q⟩
    refine ⟨fun h => absurd h (ng 0 (by decide)), fun h => absurd h (ng 1 (by decide)), fun h => absurd h (ng 2 (by decide)), fun h => absurd h (ng 3 (by decide)), fun h => absurd h (ng 4 (by decide)), fun h => absurd h (ng 5 (by decide)), fun h => absurd h (ng 6 (by decide)), fun _ _ _ _ _ _ _ => ?_⟩
    refine asn7 _ _ _ _ ?_
    exact ⟨fun _ => ⟨rfl, hK _ _ hI1⟩, fun q => absurd q (ng 7 (by decide))⟩
  · obtain ⟨j, hj, e⟩ := nI_of hneg
    rw [e]
    have ne : ∀ k, k < 2 ^ 31 → j ≠ k → ¬ nI j = nI k := fun k hk h q => h ((nI_eq hj hk).mp q)
    obtain ⟨g1, g2, g3, g4, g5, g6, g7, g8⟩ := id hR
    have ew : wbS (fun k => decide (¬ cpS nw bk 45 k < 0)) 6 = wbS (fun k => decide (¬ bk k < 0)) 6 := wbS_cong (fun k hk => by rw [cpS_in (by omega)])
    have ew2 := wb_eq hR hO
    by_cases h10 : j < 10
    · refine in6_f 10 15 (fun k h1 h2 => ne k (by omega) (by omega)) (by decide) (by decide) (b_e0 ?_)
      refine in6_f 20 25 (fun k h1 h2 => ne k (by omega) (by omega)) (by decide) (by decide) (b_e0 ?_)
      refine in6_f 30 59 (fun k h1 h2 => ne k (by omega) (by omega)) (by decide) (by decide) (b_e0 ?_)
      rcases (show j = 0 ∨ j = 1 ∨ j = 2 ∨ j = 3 ∨ j = 4 ∨ j = 5 ∨ j = 6 ∨ j = 7 ∨ j = 8 ∨ j = 9 by omega) with rfl | rfl | rfl | rfl | rfl | rfl | rfl | rfl | rfl | rfl
      · refine ⟨fun _ => ?_, ⟨fun h => absurd h (by decide), ⟨fun h => absurd h (by decide), ⟨fun h => absurd h (by decide), ⟨fun h => absurd h (by decide), ⟨fun h => absurd h (by decide), ⟨fun h => absurd h (by decide), ⟨fun h => absurd h (by decide), (fun h0 h1 h2 h3 h4 h5 h6 h7 => absurd rfl h0)⟩⟩⟩⟩⟩⟩⟩⟩
        refine ⟨fun _ => ⟨fun _ => ?_, fun q => absurd (by decide) q⟩, fun q => absurd (by decide) q⟩
        refine ⟨fun _ => ?_, ⟨fun h => absurd h (by decide), ⟨fun h => absurd h (by decide), ⟨fun h => absurd h (by decide), ⟨fun h => absurd h (by decide), ⟨fun h => absurd h (by decide), ⟨fun h => absurd h (by decide), (fun h0 h1 h2 h3 h4 h5 h6 => absurd rfl h0)⟩⟩⟩⟩⟩⟩⟩
        exact ⟨hP.1, hK _ _ hI1⟩
      · refine ⟨fun h => absurd h (by decide), ⟨fun _ => ?_, ⟨fun h => absurd h (by decide), ⟨fun h => absurd h (by decide), ⟨fun h => absurd h (by decide), ⟨fun h => absurd h (by decide), ⟨fun h => absurd h (by decide), ⟨fun h => absurd h (by decide), (fun h0 h1 h2 h3 h4 h5 h6 h7 => absurd rfl h1)⟩⟩⟩⟩⟩⟩⟩⟩
        refine ⟨fun _ => ⟨fun _ => ?_, fun q => absurd (by decide) q⟩, fun q => absurd (by decide) q⟩
        refine ⟨fun h => absurd h (by decide), ⟨fun _ => ?_, ⟨fun h => absurd h (by decide), ⟨fun h => absurd h (by decide), ⟨fun h => absurd h (by decide), ⟨fun h => absurd h (by decide), ⟨fun h => absurd h (by decide), (fun h0 h1 h2 h3 h4 h5 h6 => absurd rfl h1)⟩⟩⟩⟩⟩⟩⟩
        exact ⟨vpc rfl, g1, hK _ _ hI1⟩
      · refine ⟨fun h => absurd h (by decide), ⟨fun h => absurd h (by decide), ⟨fun _ => ?_, ⟨fun h => absurd h (by decide), ⟨fun h => absurd h (by decide), ⟨fun h => absurd h (by decide), ⟨fun h => absurd h (by decide), ⟨fun h => absurd h (by decide), (fun h0 h1 h2 h3 h4 h5 h6 h7 => absurd rfl h2)⟩⟩⟩⟩⟩⟩⟩⟩
        refine ⟨fun _ => ⟨fun _ => ?_, fun q => absurd (by decide) q⟩, fun q => absurd (by decide) q⟩
        refine ⟨fun h => absurd h (by decide), ⟨fun h => absurd h (by decide), ⟨fun _ => ?_, ⟨fun h => absurd h (by decide), ⟨fun h => absurd h (by decide), ⟨fun h => absurd h (by decide), ⟨fun h => absurd h (by decide), (fun h0 h1 h2 h3 h4 h5 h6 => absurd rfl h2)⟩⟩⟩⟩⟩⟩⟩
        exact ⟨vpc rfl, g2, hK _ _ hI1⟩
      · refine ⟨fun h => absurd h (by decide), ⟨fun h => absurd h (by decide), ⟨fun h => absurd h (by decide), ⟨fun _ => ?_, ⟨fun h => absurd h (by decide), ⟨fun h => absurd h (by decide), ⟨fun h => absurd h (by decide), ⟨fun h => absurd h (by decide), (fun h0 h1 h2 h3 h4 h5 h6 h7 => absurd rfl h3)⟩⟩⟩⟩⟩⟩⟩⟩
        refine ⟨fun _ => ⟨fun _ => ?_, fun q => absurd (by decide) q⟩, fun q => absurd (by decide) q⟩
        refine ⟨fun h => absurd h (by decide), ⟨fun h => absurd h (by decide), ⟨fun h => absurd h (by decide), ⟨fun _ => ?_, ⟨fun h => absurd h (by decide), ⟨fun h => absurd h (by decide), ⟨fun h => absurd h (by decide), (fun h0 h1 h2 h3 h4 h5 h6 => absurd rfl h3)⟩⟩⟩⟩⟩⟩⟩
        exact ⟨vpc rfl, g3, hK _ _ hI1⟩
      · refine ⟨fun h => absurd h (by decide), ⟨fun h => absurd h (by decide), ⟨fun h => absurd h (by decide), ⟨fun h => absurd h (by decide), ⟨fun _ => ?_, ⟨fun h => absurd h (by decide), ⟨fun h => absurd h (by decide), ⟨fun h => absurd h (by decide), (fun h0 h1 h2 h3 h4 h5 h6 h7 => absurd rfl h4)⟩⟩⟩⟩⟩⟩⟩⟩
        refine ⟨fun _ => ⟨fun _ => ?_, fun q => absurd (by decide) q⟩, fun q => absurd (by decide) q⟩
        refine ⟨fun h => absurd h (by decide), ⟨fun h => absurd h (by decide), ⟨fun h => absurd h (by decide), ⟨fun h => absurd h (by decide), ⟨fun _ => ?_, ⟨fun h => absurd h (by decide), ⟨fun h => absurd h (by decide), (fun h0 h1 h2 h3 h4 h5 h6 => absurd rfl h4)⟩⟩⟩⟩⟩⟩⟩
        exact ⟨g4, hK _ _ hI1⟩
      · refine ⟨fun h => absurd h (by decide), ⟨fun h => absurd h (by decide), ⟨fun h => absurd h (by decide), ⟨fun h => absurd h (by decide), ⟨fun h => absurd h (by decide), ⟨fun _ => ?_, ⟨fun h => absurd h (by decide), ⟨fun h => absurd h (by decide), (fun h0 h1 h2 h3 h4 h5 h6 h7 => absurd rfl h5)⟩⟩⟩⟩⟩⟩⟩⟩
        refine ⟨fun _ => ⟨fun _ => ?_, fun q => absurd (by decide) q⟩, fun q => absurd (by decide) q⟩
        refine ⟨fun h => absurd h (by decide), ⟨fun h => absurd h (by decide), ⟨fun h => absurd h (by decide), ⟨fun h => absurd h (by decide), ⟨fun h => absurd h (by decide), ⟨fun _ => ?_, ⟨fun h => absurd h (by decide), (fun h0 h1 h2 h3 h4 h5 h6 => absurd rfl h5)⟩⟩⟩⟩⟩⟩⟩
        exact ⟨g5, hK _ _ hI1⟩
      · refine ⟨fun h => absurd h (by decide), ⟨fun h => absurd h (by decide), ⟨fun h => absurd h (by decide), ⟨fun h => absurd h (by decide), ⟨fun h => absurd h (by decide), ⟨fun h => absurd h (by decide), ⟨fun _ => ?_, ⟨fun h => absurd h (by decide), (fun h0 h1 h2 h3 h4 h5 h6 h7 => absurd rfl h6)⟩⟩⟩⟩⟩⟩⟩⟩
        refine ⟨fun _ => ⟨fun _ => ?_, fun q => absurd (by decide) q⟩, fun q => absurd (by decide) q⟩
        refine ⟨fun h => absurd h (by decide), ⟨fun h => absurd h (by decide), ⟨fun h => absurd h (by decide), ⟨fun h => absurd h (by decide), ⟨fun h => absurd h (by decide), ⟨fun h => absurd h (by decide), ⟨fun _ => ?_, (fun h0 h1 h2 h3 h4 h5 h6 => absurd rfl h6)⟩⟩⟩⟩⟩⟩⟩
        exact ⟨hS.1, hK _ _ hI1⟩
      · refine ⟨fun h => absurd h (by decide), ⟨fun h => absurd h (by decide), ⟨fun h => absurd h (by decide), ⟨fun h => absurd h (by decide), ⟨fun h => absurd h (by decide), ⟨fun h => absurd h (by decide), ⟨fun h => absurd h (by decide), ⟨fun _ => ?_, (fun h0 h1 h2 h3 h4 h5 h6 h7 => absurd rfl h7)⟩⟩⟩⟩⟩⟩⟩⟩
        refine who5 _ ?_
        refine ⟨fun _ => ⟨fun _ => ?_, fun q => absurd (by decide) q⟩, fun q => absurd (by decide) q⟩
        refine ⟨fun h => absurd h (by decide), ⟨fun h => absurd h (by decide), ⟨fun h => absurd h (by decide), ⟨fun h => absurd h (by decide), ⟨fun h => absurd h (by decide), ⟨fun h => absurd h (by decide), ⟨fun h => absurd h (by decide), (fun h0 h1 h2 h3 h4 h5 h6 => ?_)⟩⟩⟩⟩⟩⟩⟩
        refine asn7 _ _ _ _ ?_
        refine ⟨fun q => absurd rfl q, fun _ => ?_⟩
        refine who7 _ ?_
        exact ⟨ew2.trans ew.symm, hK _ _ hI1⟩
      · refine ⟨fun h => absurd h (by decide), ⟨fun h => absurd h (by decide), ⟨fun h => absurd h (by decide), ⟨fun h => absurd h (by decide), ⟨fun h => absurd h (by decide), ⟨fun h => absurd h (by decide), ⟨fun h => absurd h (by decide), ⟨fun h => absurd h (by decide), (fun h0 h1 h2 h3 h4 h5 h6 h7 => ?_)⟩⟩⟩⟩⟩⟩⟩⟩
        refine ⟨fun _ => ⟨fun _ => ?_, fun q => absurd (by decide) q⟩, fun q => absurd (by decide) q⟩
        refine ⟨fun h => absurd h (by decide), ⟨fun h => absurd h (by decide), ⟨fun h => absurd h (by decide), ⟨fun h => absurd h (by decide), ⟨fun h => absurd h (by decide), ⟨fun h => absurd h (by decide), ⟨fun h => absurd h (by decide), (fun h0 h1 h2 h3 h4 h5 h6 => ?_)⟩⟩⟩⟩⟩⟩⟩
        refine asn7 _ _ _ _ ?_
        exact ⟨fun _ => ⟨rfl, hK _ _ hI1⟩, fun q => absurd q (by decide)⟩
      · refine ⟨fun h => absurd h (by decide), ⟨fun h => absurd h (by decide), ⟨fun h => absurd h (by decide), ⟨fun h => absurd h (by decide), ⟨fun h => absurd h (by decide), ⟨fun h => absurd h (by decide), ⟨fun h => absurd h (by decide), ⟨fun h => absurd h (by decide), (fun h0 h1 h2 h3 h4 h5 h6 h7 => ?_)⟩⟩⟩⟩⟩⟩⟩⟩
        refine ⟨fun _ => ⟨fun _ => ?_, fun q => absurd (by decide) q⟩, fun q => absurd (by decide) q⟩
        refine ⟨fun h => absurd h (by decide), ⟨fun h => absurd h (by decide), ⟨fun h => absurd h (by decide), ⟨fun h => absurd h (by decide), ⟨fun h => absurd h (by decide), ⟨fun h => absurd h (by decide), ⟨fun h => absurd h (by decide), (fun h0 h1 h2 h3 h4 h5 h6 => ?_)⟩⟩⟩⟩⟩⟩⟩
        refine asn7 _ _ _ _ ?_
        exact ⟨fun _ => ⟨rfl, hK _ _ hI1⟩, fun q => absurd q (by decide)⟩
    · by_cases h30 : j < 30
      · have m1 : nI j < 30 := nI_lt (b := 30) h30 (by decide)
        have m2 : ¬ nI j < 10 := nI_nlt (b := 10) (by omega) (by omega)
        have m3 : nI j - nI j / 10 * 10 = nI (j % 10) := pk_rem (d := 10) (by omega) (by decide) (by decide)
        have e6 : (6 : Int32) + nI (j % 10) = nI (6 + j % 10) := nI_add 6 _
        by_cases h20 : j < 20
        · have m4 : ¬ (20 : Int32) ≤ nI j := nI_ge (b := 20) h20 (by decide)
          by_cases h16 : j < 16
          · refine in6_t 10 15 j rfl (by omega) (by omega) (by decide) (b_e1 ?_)
            have e10 : nI j - 10 = nI (j - 10) := pk_sub (b := 10) (by omega)
            rw [e10, nI_clamp (by omega)]
            refine ⟨vp_in_nI (by omega) (by decide), ?_⟩
            refine ⟨fun _ => ⟨fun q => absurd q m2, fun _ v ev => ?_⟩, fun q => absurd m1 q⟩
            rw [ev, m3, e6]
            refine ⟨fun _ => ⟨fun q => absurd q m4, fun _ => ?_⟩, fun q => absurd (nI_le (b := 5) (by omega) (by decide)) q⟩
            rw [nI_clamp (by omega)]
            exact ⟨vp_in_nI (by omega) (by decide), by rw [g6 (j - 10) (by omega), show j % 10 = j - 10 by omega], hK _ _ hI1⟩
          · refine in6_f 10 15 (fun k h1 h2 => ne k (by omega) (by omega)) (by decide) (by decide) (b_e0 ?_)
            refine in6_f 20 25 (fun k h1 h2 => ne k (by omega) (by omega)) (by decide) (by decide) (b_e0 ?_)
            refine in6_f 30 59 (fun k h1 h2 => ne k (by omega) (by omega)) (by decide) (by decide) (b_e0 ?_)
            refine ⟨fun h => absurd h (ne 0 (by decide) (by omega)), fun h => absurd h (ne 1 (by decide) (by omega)), fun h => absurd h (ne 2 (by decide) (by omega)), fun h => absurd h (ne 3 (by decide) (by omega)), fun h => absurd h (ne 4 (by decide) (by omega)), fun h => absurd h (ne 5 (by decide) (by omega)), fun h => absurd h (ne 6 (by decide) (by omega)), fun h => absurd h (ne 7 (by decide) (by omega)), fun _ _ _ _ _ _ _ _ => ?_⟩
            refine ⟨fun _ => ⟨fun q => absurd q m2, fun _ v ev => ?_⟩, fun q => absurd m1 q⟩
            rw [ev, m3]
            refine ⟨fun q => absurd q (nI_ge (a := 5) (by omega) (by omega)), fun _ => ⟨rfl, hK _ _ hI1⟩⟩
        · have m4 : (20 : Int32) ≤ nI j := nI_le (a := 20) (by omega) (by omega)
          refine in6_f 10 15 (fun k h1 h2 => ne k (by omega) (by omega)) (by decide) (by decide) (b_e0 ?_)
          by_cases h26 : j < 26
          · refine in6_t 20 25 j rfl (by omega) (by omega) (by decide) (b_e1 ?_)
            have e10 : nI j - 20 = nI (j - 20) := pk_sub (b := 20) (by omega)
            rw [e10, nI_clamp (by omega)]
            refine ⟨vp_in_nI (by omega) (by decide), ?_⟩
            refine ⟨fun _ => ⟨fun q => absurd q m2, fun _ v ev => ?_⟩, fun q => absurd m1 q⟩
            rw [ev, m3, e6]
            refine ⟨fun _ => ⟨fun _ => ?_, fun q => absurd m4 q⟩, fun q => absurd (nI_le (b := 5) (by omega) (by decide)) q⟩
            rw [nI_clamp (by omega)]
            exact ⟨vp_in_nI (by omega) (by decide), by rw [g7 (j - 20) (by omega), show j % 10 = j - 20 by omega], hK _ _ hI1⟩
          · refine in6_f 20 25 (fun k h1 h2 => ne k (by omega) (by omega)) (by decide) (by decide) (b_e0 ?_)
            refine in6_f 30 59 (fun k h1 h2 => ne k (by omega) (by omega)) (by decide) (by decide) (b_e0 ?_)
            refine ⟨fun h => absurd h (ne 0 (by decide) (by omega)), fun h => absurd h (ne 1 (by decide) (by omega)), fun h => absurd h (ne 2 (by decide) (by omega)), fun h => absurd h (ne 3 (by decide) (by omega)), fun h => absurd h (ne 4 (by decide) (by omega)), fun h => absurd h (ne 5 (by decide) (by omega)), fun h => absurd h (ne 6 (by decide) (by omega)), fun h => absurd h (ne 7 (by decide) (by omega)), fun _ _ _ _ _ _ _ _ => ?_⟩
            refine ⟨fun _ => ⟨fun q => absurd q m2, fun _ v ev => ?_⟩, fun q => absurd m1 q⟩
            rw [ev, m3]
            refine ⟨fun q => absurd q (nI_ge (a := 5) (by omega) (by omega)), fun _ => ⟨rfl, hK _ _ hI1⟩⟩
      · have m1 : ¬ nI j < 30 := nI_nlt (b := 30) (by omega) (by omega)
        refine in6_f 10 15 (fun k h1 h2 => ne k (by omega) (by omega)) (by decide) (by decide) (b_e0 ?_)
        refine in6_f 20 25 (fun k h1 h2 => ne k (by omega) (by omega)) (by decide) (by decide) (b_e0 ?_)
        by_cases h60 : j < 60
        · refine in6_t 30 59 j rfl (by omega) (by omega) (by decide) (b_e1 ?_)
          have e10 : nI j - 30 = nI (j - 30) := pk_sub (b := 30) (by omega)
          have e18 : nI j - 18 = nI (j - 18) := pk_sub (b := 18) (by omega)
          rw [e10, nI_clamp (by omega)]
          refine ⟨vp_in_nI (by omega) (by decide), ?_⟩
          refine ⟨fun q => absurd q m1, fun _ => ⟨fun q => absurd q (nI_ge (b := 60) h60 (by decide)), fun _ => ?_⟩⟩
          rw [e18, nI_clamp (by omega)]
          exact ⟨vp_in_nI (by omega) (by decide), by rw [g8 (j - 30) (by omega), show 12 + (j - 30) = j - 18 by omega], hK _ _ hI1⟩
        · refine in6_f 30 59 (fun k h1 h2 => ne k (by omega) (by omega)) (by decide) (by decide) (b_e0 ?_)
          refine ⟨fun h => absurd h (ne 0 (by decide) (by omega)), fun h => absurd h (ne 1 (by decide) (by omega)), fun h => absurd h (ne 2 (by decide) (by omega)), fun h => absurd h (ne 3 (by decide) (by omega)), fun h => absurd h (ne 4 (by decide) (by omega)), fun h => absurd h (ne 5 (by decide) (by omega)), fun h => absurd h (ne 6 (by decide) (by omega)), fun h => absurd h (ne 7 (by decide) (by omega)), fun _ _ _ _ _ _ _ _ => ?_⟩
          refine ⟨fun q => absurd q m1, fun _ => ⟨fun _ => ⟨rfl, hK _ _ hI1⟩, fun q => absurd (nI_le (a := 60) (by omega) (by omega)) q⟩⟩
