/-! ===== PURE 3: images; agree; halves ===== -/
def cpZ (f g : Nat → Int32) (n : Nat) : Nat → Int32 := fun k => if k < n then vp_nar .boolean (g k) else f k
theorem cpZ_0 (f g : Nat → Int32) : cpZ f g 0 = f := by funext k; simp [cpZ]
theorem cpZ_s (f g : Nat → Int32) (n : Nat) : upd (cpZ f g n) n (vp_nar .boolean (g n)) = cpZ f g (n + 1) := by
  funext k
  simp only [upd, cpZ]
  by_cases h : k = n
  · subst h; simp
  · rw [if_neg h]
    by_cases h2 : k < n
    · rw [if_pos h2, if_pos (by omega)]
    · rw [if_neg h2, if_neg (by omega)]
theorem cpZ_in {f g : Nat → Int32} {n k : Nat} (h : k < n) : cpZ f g n k = vp_nar .boolean (g k) := by simp [cpZ, h]
theorem zb01 {x : Int32} (h : x = 0 ∨ x = 1) : vp_nar .boolean x = x := by rcases h with rfl | rfl <;> decide
theorem sbec3 (tc ac : Int32) (th tr ah ar : Nat → Int32) {post : (Int32 × (Nat → Int32) × (Nat → Int32)) → Prop} (h : post (ac, cpS th ah 8, cpZ tr ar 8)) : pX3_become tc th tr ac ah ar post := by
  refine ⟨9, ?_⟩
  have key : ∀ d i, i + d = 8 → pX3_become_b10 ac ah ar post (d + 1) (nI i) ac (cpS th ah i) (cpZ tr ar i) := by
    intro d
    induction d with
    | zero =>
      intro i hi
      have e : i = 8 := by omega
      subst e
      exact ⟨fun _ => h, fun q => absurd (Int32.le_refl _) q⟩
    | succ d ih =>
      intro i hi
      have h6 : ¬ (8 : Int32) ≤ nI i := nI_ge (a := i) (b := 8) (by omega) (by decide)
      have v8 : vp_in (nI i) 8 := vp_in_nI (by omega) (by decide)
      refine ⟨fun q => absurd q h6, fun _ => ⟨v8, fun v e => ⟨v8, v8, fun v2 e2 => ⟨v8, fun v3 e3 => ?_⟩⟩⟩⟩
      rw [e, e2, e3, nI_1, nI_clamp (by omega), cpS_s, cpZ_s]
      exact ih (i + 1) (by omega)
  have := key 8 0 rfl
  rw [cpS_0, cpZ_0] at this
  exact this
/-- n places of g, from a on -/
def ptS (f g : Nat → Int32) (a n : Nat) : Nat → Int32 := fun k => if a ≤ k ∧ k < a + n then g (k - a) else f k
theorem ptS_0 (f g : Nat → Int32) (a : Nat) : ptS f g a 0 = f := by funext k; simp only [ptS]; rw [if_neg (by omega)]
theorem ptS_s (f g : Nat → Int32) (a n : Nat) : upd (ptS f g a n) (a + n) (g n) = ptS f g a (n + 1) := by
  funext k
  simp only [upd, ptS]
  by_cases h : k = a + n
  · subst h
    rw [if_pos rfl, if_pos (by omega)]
    congr 1
    omega
  · rw [if_neg h]
    by_cases h2 : a ≤ k ∧ k < a + n
    · rw [if_pos h2, if_pos (by omega)]
    · rw [if_neg h2, if_neg (by omega)]
theorem ptS_in {f g : Nat → Int32} {a n k : Nat} (h : k < n) : ptS f g a n (a + k) = g k := by
  simp only [ptS]
  rw [if_pos (by omega)]
  congr 1
  omega
theorem ptS_out {f g : Nat → Int32} {a n k : Nat} (h : k < a ∨ a + n ≤ k) : ptS f g a n k = f k := by
  simp only [ptS]
  rw [if_neg (by omega)]
/-- the reference's image, kept -/
def imgS (im bk st : Nat → Int32) (sh kn sg : Int32) (a : Nat) : Nat → Int32 := upd (upd (upd (ptS (ptS im bk a 45) st (a + 45) 16) (a + 62) sh) (a + 63) kn) (a + 64) sg
theorem img7 (sh kn sg : Int32) (bk st im ik : Nat → Int32) (j a : Nat) (hj : j ≤ 1) (ha : 70 * j = a) {post : Int32 → ((Nat → Int32) × (Nat → Int32)) → Prop} (h : post 1 (imgS im bk st sh kn sg a, upd ik j 1)) : pX7_image sh kn sg bk st im ik (nI j) post := by
  subst ha
  refine in7_t 0 1 j rfl (Nat.zero_le _) hj (by decide) (b_n1 (fun v ev => ?_))
  have e70 : (70 : Int32) * nI j = nI (70 * j) := pk_mul 70 j
  rw [ev, e70]
  have key2 : ∀ d i, i + d = 16 → pX7_image_b47 sh kn sg bk st (nI j) post (d + 1) (nI (70 * j)) (nI i) (ptS (ptS im bk (70 * j) 45) st (70 * j + 45) i) ik := by
    intro d
    induction d with
    | zero =>
      intro i hi
      have e : i = 16 := by omega
      subst e
      have a1 : nI (70 * j) + 62 = nI (70 * j + 62) := nI_add _ 62
      have a2 : nI (70 * j) + 63 = nI (70 * j + 63) := nI_add _ 63
      have a3 : nI (70 * j) + 64 = nI (70 * j + 64) := nI_add _ 64
      refine ⟨fun _ => ?_, fun q => absurd (Int32.le_refl _) q⟩
      rw [a1, a2, a3, nI_clamp (by omega), nI_clamp (by omega), nI_clamp (by omega), nI_clamp (by omega), show vp_nar .boolean 1 = (1 : Int32) from by decide]
      exact ⟨vp_in_nI (by omega) (by decide), vp_in_nI (by omega) (by decide), vp_in_nI (by omega) (by decide), vp_in_nI (by omega) (by decide), h⟩
    | succ d ih =>
      intro i hi
      have h6 : ¬ (16 : Int32) ≤ nI i := nI_ge (a := i) (b := 16) (by omega) (by decide)
      have a1 : nI (70 * j) + 45 + nI i = nI (70 * j + 45 + i) := by rw [show nI (70 * j) + 45 = nI (70 * j + 45) from nI_add _ 45, nI_add]
      refine ⟨fun q => absurd q h6, fun _ => ⟨vp_in_nI (by omega) (by decide), fun v e => ?_⟩⟩
      rw [a1, e, nI_clamp (by omega), nI_clamp (by omega), ptS_s]
      refine ⟨vp_in_nI (by omega) (by decide), fun v2 e2 => ?_⟩
      rw [e2, nI_1]
      exact ih (i + 1) (by omega)
  have key1 : ∀ d i, i + d = 45 → pX7_image_b19 sh kn sg bk st (nI j) post (d + 1) (nI (70 * j)) (nI i) (ptS im bk (70 * j) i) ik := by
    intro d
    induction d with
    | zero =>
      intro i hi
      have e : i = 45 := by omega
      subst e
      refine ⟨fun _ => ⟨17, ?_⟩, fun q => absurd (Int32.le_refl _) q⟩
      have := key2 16 0 rfl
      rw [ptS_0] at this
      exact this
    | succ d ih =>
      intro i hi
      have h6 : ¬ (45 : Int32) ≤ nI i := nI_ge (a := i) (b := 45) (by omega) (by decide)
      refine ⟨fun q => absurd q h6, fun _ => ⟨vp_in_nI (by omega) (by decide), fun v e => ?_⟩⟩
      rw [nI_add, e, nI_clamp (by omega), nI_clamp (by omega), ptS_s]
      refine ⟨vp_in_nI (by omega) (by decide), fun v2 e2 => ?_⟩
      rw [e2, nI_1]
      exact ih (i + 1) (by omega)
  refine ⟨46, ?_⟩
  have := key1 45 0 rfl
  rw [ptS_0] at this
  exact this
theorem rst7 (sh kn sg : Int32) (bk st im ik : Nat → Int32) (j a : Nat) (hj : j ≤ 1) (ha : 70 * j = a) (hk : ¬ ik j = 0) {post : Int32 → (Int32 × Int32 × Int32 × (Nat → Int32) × (Nat → Int32)) → Prop} (h : post 1 (im (a + 62), im (a + 63), im (a + 64), cpS bk (fun k => im (a + k)) 45, cpS st (fun k => im (a + 45 + k)) 16)) : pX7_restore sh kn sg bk st im ik (nI j) post := by
  subst ha
  refine in7_t 0 1 j rfl (Nat.zero_le _) hj (by decide) (b_n1 ⟨vp_in_nI (by omega) (by decide), ?_⟩)
  rw [nI_clamp (by omega)]
  refine ⟨fun _ v ev => ?_, fun q => absurd q hk⟩
  have e70 : (70 : Int32) * nI j = nI (70 * j) := pk_mul 70 j
  rw [ev, e70]
  have key2 : ∀ d i, i + d = 16 → pX7_restore_b59 im ik (nI j) post (d + 1) (nI (70 * j)) (nI i) sh kn sg (cpS bk (fun k => im (70 * j + k)) 45) (cpS st (fun k => im (70 * j + 45 + k)) i) := by
    intro d
    induction d with
    | zero =>
      intro i hi
      have e : i = 16 := by omega
      subst e
      have a1 : nI (70 * j) + 62 = nI (70 * j + 62) := nI_add _ 62
      have a2 : nI (70 * j) + 63 = nI (70 * j + 63) := nI_add _ 63
      have a3 : nI (70 * j) + 64 = nI (70 * j + 64) := nI_add _ 64
      refine ⟨fun _ => ?_, fun q => absurd (Int32.le_refl _) q⟩
      rw [a1, a2, a3, nI_clamp (by omega), nI_clamp (by omega), nI_clamp (by omega)]
      exact ⟨vp_in_nI (by omega) (by decide), fun v1 e1 => ⟨vp_in_nI (by omega) (by decide), fun v2 e2 => ⟨vp_in_nI (by omega) (by decide), fun v3 e3 => by rw [e1, e2, e3]; exact h⟩⟩⟩
    | succ d ih =>
      intro i hi
      have h6 : ¬ (16 : Int32) ≤ nI i := nI_ge (a := i) (b := 16) (by omega) (by decide)
      have a1 : nI (70 * j) + 45 + nI i = nI (70 * j + 45 + i) := by rw [show nI (70 * j) + 45 = nI (70 * j + 45) from nI_add _ 45, nI_add]
      refine ⟨fun q => absurd q h6, fun _ => ?_⟩
      rw [a1, nI_clamp (by omega)]
      refine ⟨vp_in_nI (by omega) (by decide), fun v e => ⟨vp_in_nI (by omega) (by decide), fun v2 e2 => ?_⟩⟩
      rw [e2, nI_1, e, nI_clamp (by omega)]
      have := ih (i + 1) (by omega)
      rw [← cpS_s st (fun k => im (70 * j + 45 + k)) i] at this
      exact this
  have key1 : ∀ d i, i + d = 45 → pX7_restore_b31 im ik (nI j) post (d + 1) (nI (70 * j)) (nI i) sh kn sg (cpS bk (fun k => im (70 * j + k)) i) st := by
    intro d
    induction d with
    | zero =>
      intro i hi
      have e : i = 45 := by omega
      subst e
      refine ⟨fun _ => ⟨17, ?_⟩, fun q => absurd (Int32.le_refl _) q⟩
      have := key2 16 0 rfl
      rw [cpS_0] at this
      exact this
    | succ d ih =>
      intro i hi
      have h6 : ¬ (45 : Int32) ≤ nI i := nI_ge (a := i) (b := 45) (by omega) (by decide)
      refine ⟨fun q => absurd q h6, fun _ => ?_⟩
      rw [nI_add, nI_clamp (by omega)]
      refine ⟨vp_in_nI (by omega) (by decide), fun v e => ⟨vp_in_nI (by omega) (by decide), fun v2 e2 => ?_⟩⟩
      rw [e2, nI_1, e, nI_clamp (by omega)]
      have := ih (i + 1) (by omega)
      rw [← cpS_s bk (fun k => im (70 * j + k)) i] at this
      exact this
  refine ⟨46, ?_⟩
  have := key1 45 0 rfl
  rw [cpS_0] at this
  exact this
theorem Rw.cpy {w : WT} {sh kn : Int32} {bk : Nat → Int32} (h : Rw w sh kn bk) (p0 c0 l0 : Nat → Int32) : Rw (w.1, w.2.1, w.2.2.1, w.2.2.2.1, w.2.2.2.2.1, va_cpy w.2.2.2.2.2.1 p0 0 0 6, va_cpy w.2.2.2.2.2.2.1 c0 0 0 6, va_cpy w.2.2.2.2.2.2.2 l0 0 0 30) sh kn bk := by
  obtain ⟨g1, g2, g3, g4, g5, g6, g7, g8⟩ := h
  refine ⟨g1, g2, g3, g4, g5, fun k hk => ?_, fun k hk => ?_, fun k hk => ?_⟩
  · dsimp only; rw [sb_cpy0 hk]; exact g6 k hk
  · dsimp only; rw [sb_cpy0 hk]; exact g7 k hk
  · dsimp only; rw [sb_cpy0 hk]; exact g8 k hk
theorem Rw.cong {w : WT} {sh kn sh' kn' : Int32} {bk bk' : Nat → Int32} (h : Rw w sh kn bk) (e1 : sh = sh') (e2 : kn = kn') (e : ∀ k, k < 45 → bk k = bk' k) : Rw w sh' kn' bk' := by
  subst e1
  subst e2
  obtain ⟨g1, g2, g3, g4, g5, g6, g7, g8⟩ := h
  exact ⟨g1.trans (e 42 (by omega)), g2.trans (e 43 (by omega)), g3.trans (e 44 (by omega)), g4, g5, fun k hk => (g6 k hk).trans (e k (by omega)), fun k hk => (g7 k hk).trans (e _ (by omega)), fun k hk => (g8 k hk).trans (e _ (by omega))⟩
theorem Ow.cpy {B : Nat} {w : WT} (h : Ow B w) (p0 c0 l0 : Nat → Int32) : Ow B (w.1, w.2.1, w.2.2.1, w.2.2.2.1, w.2.2.2.2.1, va_cpy w.2.2.2.2.2.1 p0 0 0 6, va_cpy w.2.2.2.2.2.2.1 c0 0 0 6, va_cpy w.2.2.2.2.2.2.2 l0 0 0 30) := by
  obtain ⟨f1, f2, f3, f4, ⟨s, hs, es, f5⟩, f6⟩ := h
  refine ⟨f1, f2, f3, f4, ⟨s, hs, es, fun k hk => ?_⟩, fun k hk => ?_⟩
  · dsimp only; rw [sb_cpy0 hk]; exact f5 k hk
  · dsimp only; rw [sb_cpy0 hk]; exact f6 k hk
theorem Rs.cpy {g : SGT} {n n' : Int32} {st st' : Nat → Int32} (h : Rs g n st) (h0 r0 : Nat → Int32) (en : n = n') (e : ∀ k, k < 16 → st k = st' k) : Rs (g.1, cpS h0 g.2.1 8, cpZ r0 g.2.2 8) n' st' := by
  subst en
  obtain ⟨q1, c, hc, q2, q3⟩ := h
  refine ⟨q1, c, hc, q2, fun j hj => ?_⟩
  obtain ⟨a1, a2, a3, a4⟩ := q3 j hj
  dsimp only
  rw [cpS_in (by omega), cpZ_in (by omega), zb01 a4]
  exact ⟨a1, a2.trans (e _ (by omega)), a3.trans (e _ (by omega)), a4⟩
theorem imgS_out {im bk st : Nat → Int32} {sh kn sg : Int32} {a k : Nat} (h : k < a ∨ a + 65 ≤ k) : imgS im bk st sh kn sg a k = im k := by
  simp only [imgS]
  rw [pk_un (by omega), pk_un (by omega), pk_un (by omega), ptS_out (by omega), ptS_out (by omega)]
theorem imgS_bk {im bk st : Nat → Int32} {sh kn sg : Int32} {a k : Nat} (h : k < 45) : imgS im bk st sh kn sg a (a + k) = bk k := by
  simp only [imgS]
  rw [pk_un (by omega), pk_un (by omega), pk_un (by omega), ptS_out (by omega), ptS_in h]
theorem imgS_st {im bk st : Nat → Int32} {sh kn sg : Int32} {a k : Nat} (h : k < 16) : imgS im bk st sh kn sg a (a + 45 + k) = st k := by
  simp only [imgS]
  rw [pk_un (by omega), pk_un (by omega), pk_un (by omega), ptS_in h]
theorem imgS_62 {im bk st : Nat → Int32} {sh kn sg : Int32} {a : Nat} : imgS im bk st sh kn sg a (a + 62) = sh := by
  simp only [imgS]
  rw [pk_un (by omega), pk_un (by omega), pk_us]
theorem imgS_63 {im bk st : Nat → Int32} {sh kn sg : Int32} {a : Nat} : imgS im bk st sh kn sg a (a + 63) = kn := by
  simp only [imgS]
  rw [pk_un (by omega), pk_us]
theorem imgS_64 {im bk st : Nat → Int32} {sh kn sg : Int32} {a : Nat} : imgS im bk st sh kn sg a (a + 64) = sg := by
  simp only [imgS]
  rw [pk_us]
theorem Ri.out {B : Nat} {q : IMT} {kept kept' : Int32} {im im' : Nat → Int32} {off : Nat} (h : Ri B q kept im off) (ek : kept = kept') (e : ∀ k, k < 65 → im (off + k) = im' (off + k)) : Ri B q kept' im' off := by
  subst ek
  refine ⟨h.1, h.2.1, fun z => ?_⟩
  obtain ⟨a, b, c⟩ := h.2.2 z
  refine ⟨a.cong (e 62 (by omega)) (e 63 (by omega)) (fun k hk => e k (by omega)), b, ?_⟩
  obtain ⟨q1, cc, hc, q2, q3⟩ := c
  refine ⟨q1.trans (e 64 (by omega)), cc, hc, (e 64 (by omega)).symm.trans q2, fun j hj => ?_⟩
  obtain ⟨b1, b2, b3, b4⟩ := q3 j hj
  have e1 := e (45 + 2 * j) (by omega)
  have e2 := e (45 + (2 * j + 1)) (by omega)
  rw [← Nat.add_assoc] at e1 e2
  exact ⟨b1, b2.trans e1, b3.trans e2, b4⟩
theorem Ri.kept {B : Nat} {w : WT} {g : SGT} {sh kn sg : Int32} {bk st im : Nat → Int32} {off : Nat} (hR : Rw w sh kn bk) (hO : Ow B w) (hS : Rs g sg st) (p0 c0 l0 h0 r0 : Nat → Int32) : Ri B ((w.1, w.2.1, w.2.2.1, w.2.2.2.1, w.2.2.2.2.1, va_cpy w.2.2.2.2.2.1 p0 0 0 6, va_cpy w.2.2.2.2.2.2.1 c0 0 0 6, va_cpy w.2.2.2.2.2.2.2 l0 0 0 30), (g.1, cpS h0 g.2.1 8, cpZ r0 g.2.2 8), 1) 1 (imgS im bk st sh kn sg off) off :=
  ⟨rfl, Or.inr rfl, fun _ => ⟨(hR.cpy p0 c0 l0).cong imgS_62.symm imgS_63.symm (fun _ hk => (imgS_bk hk).symm), hO.cpy p0 c0 l0, hS.cpy h0 r0 imgS_64.symm (fun _ hk => (imgS_st hk).symm)⟩⟩

theorem inv_mk {n : Nat} {w : WT} {sg : SGT} {pd : PDT} {tl : TLT} {i0 i1 : IMT} {bk nw sgt pad hd tk wo fi wi im ik : Nat → Int32} {wy : Nat → Int64} {sh kn sgs sns mA mW rs ac : Int32} (k1 : Rw w sh kn bk) (k2 : Ow (540 * n) w) (k3 : Rs sg sgs sgt) (k4 : Rp pd sns pad) (k5 : Ri (540 * n) i0 (ik 0) im 0) (k6 : Ri (540 * n) i1 (ik 1) im 70) (k7 : wi 0 = 0) : Inv n (w, sg, pd, tl, i0, i1) (bk, nw, sh, kn, sgs, sgt, sns, pad, mA, mW, rs, ac, hd, tk, wo, fi, wi, wy, im, ik) := ⟨k1, k2, k3, k4, k5, k6, k7⟩

theorem img6_0 (n_d : Int32) (n_h : Int32) (n_y : Int32) (n_s : Int32) (n_k : Int32) (n_pl : (Nat → Int32)) (n_co : (Nat → Int32)) (n_ly : (Nat → Int32)) (n_sc : Int32) (n_sh : (Nat → Int32)) (n_sr : (Nat → Int32)) (e_K : Int32) (e_d : Int32) (e_h : Int32) (e_y : Int32) (e_s : Int32) (e_k : Int32) (e_pl : (Nat → Int32)) (e_co : (Nat → Int32)) (e_ly : (Nat → Int32)) (e_sc : Int32) (e_sh : (Nat → Int32)) (e_sr : (Nat → Int32)) (g_K : Int32) (g_d : Int32) (g_h : Int32) (g_y : Int32) (g_s : Int32) (g_k : Int32) (g_pl : (Nat → Int32)) (g_co : (Nat → Int32)) (g_ly : (Nat → Int32)) (g_sc : Int32) (g_sh : (Nat → Int32)) (g_sr : (Nat → Int32)) {post : Int32 → (Int32 × Int32 × Int32 × Int32 × Int32 × Int32 × (Nat → Int32) × (Nat → Int32) × (Nat → Int32) × Int32 × (Nat → Int32) × (Nat → Int32) × Int32 × Int32 × Int32 × Int32 × Int32 × Int32 × (Nat → Int32) × (Nat → Int32) × (Nat → Int32) × Int32 × (Nat → Int32) × (Nat → Int32)) → Prop} (h : post 1 (1, n_d, n_h, n_y, n_s, n_k, va_cpy n_pl e_pl 0 0 6, va_cpy n_co e_co 0 0 6, va_cpy n_ly e_ly 0 0 30, n_sc, cpS e_sh n_sh 8, cpZ e_sr n_sr 8, g_K, g_d, g_h, g_y, g_s, g_k, g_pl, g_co, g_ly, g_sc, g_sh, g_sr)) : pX6_image n_d n_h n_y n_s n_k n_pl n_co n_ly n_sc n_sh n_sr e_K e_d e_h e_y e_s e_k e_pl e_co e_ly e_sc e_sh e_sr g_K g_d g_h g_y g_s g_k g_pl g_co g_ly g_sc g_sh g_sr (nI 0) post := by
  refine in6_t 0 1 0 rfl (by omega) (by omega) (by decide) (b_n1 ⟨fun _ => ?_, fun q => absurd rfl q⟩)
  unfold pX5_become
  exact sbec3 _ _ _ _ _ _ h
theorem img6_1 (n_d : Int32) (n_h : Int32) (n_y : Int32) (n_s : Int32) (n_k : Int32) (n_pl : (Nat → Int32)) (n_co : (Nat → Int32)) (n_ly : (Nat → Int32)) (n_sc : Int32) (n_sh : (Nat → Int32)) (n_sr : (Nat → Int32)) (e_K : Int32) (e_d : Int32) (e_h : Int32) (e_y : Int32) (e_s : Int32) (e_k : Int32) (e_pl : (Nat → Int32)) (e_co : (Nat → Int32)) (e_ly : (Nat → Int32)) (e_sc : Int32) (e_sh : (Nat → Int32)) (e_sr : (Nat → Int32)) (g_K : Int32) (g_d : Int32) (g_h : Int32) (g_y : Int32) (g_s : Int32) (g_k : Int32) (g_pl : (Nat → Int32)) (g_co : (Nat → Int32)) (g_ly : (Nat → Int32)) (g_sc : Int32) (g_sh : (Nat → Int32)) (g_sr : (Nat → Int32)) {post : Int32 → (Int32 × Int32 × Int32 × Int32 × Int32 × Int32 × (Nat → Int32) × (Nat → Int32) × (Nat → Int32) × Int32 × (Nat → Int32) × (Nat → Int32) × Int32 × Int32 × Int32 × Int32 × Int32 × Int32 × (Nat → Int32) × (Nat → Int32) × (Nat → Int32) × Int32 × (Nat → Int32) × (Nat → Int32)) → Prop} (h : post 1 (e_K, e_d, e_h, e_y, e_s, e_k, e_pl, e_co, e_ly, e_sc, e_sh, e_sr, 1, n_d, n_h, n_y, n_s, n_k, va_cpy n_pl g_pl 0 0 6, va_cpy n_co g_co 0 0 6, va_cpy n_ly g_ly 0 0 30, n_sc, cpS g_sh n_sh 8, cpZ g_sr n_sr 8)) : pX6_image n_d n_h n_y n_s n_k n_pl n_co n_ly n_sc n_sh n_sr e_K e_d e_h e_y e_s e_k e_pl e_co e_ly e_sc e_sh e_sr g_K g_d g_h g_y g_s g_k g_pl g_co g_ly g_sc g_sh g_sr (nI 1) post := by
  refine in6_t 0 1 1 rfl (by omega) (by omega) (by decide) (b_n1 ⟨fun q => absurd q (by decide), fun _ => ⟨rfl, ?_⟩⟩)
  unfold pX5_become
  exact sbec3 _ _ _ _ _ _ h
theorem img6_f (n_d : Int32) (n_h : Int32) (n_y : Int32) (n_s : Int32) (n_k : Int32) (n_pl : (Nat → Int32)) (n_co : (Nat → Int32)) (n_ly : (Nat → Int32)) (n_sc : Int32) (n_sh : (Nat → Int32)) (n_sr : (Nat → Int32)) (e_K : Int32) (e_d : Int32) (e_h : Int32) (e_y : Int32) (e_s : Int32) (e_k : Int32) (e_pl : (Nat → Int32)) (e_co : (Nat → Int32)) (e_ly : (Nat → Int32)) (e_sc : Int32) (e_sh : (Nat → Int32)) (e_sr : (Nat → Int32)) (g_K : Int32) (g_d : Int32) (g_h : Int32) (g_y : Int32) (g_s : Int32) (g_k : Int32) (g_pl : (Nat → Int32)) (g_co : (Nat → Int32)) (g_ly : (Nat → Int32)) (g_sc : Int32) (g_sh : (Nat → Int32)) (g_sr : (Nat → Int32)) {a : Int32} (e : ∀ j, 0 ≤ j → j ≤ 1 → a ≠ nI j) {post : Int32 → (Int32 × Int32 × Int32 × Int32 × Int32 × Int32 × (Nat → Int32) × (Nat → Int32) × (Nat → Int32) × Int32 × (Nat → Int32) × (Nat → Int32) × Int32 × Int32 × Int32 × Int32 × Int32 × Int32 × (Nat → Int32) × (Nat → Int32) × (Nat → Int32) × Int32 × (Nat → Int32) × (Nat → Int32)) → Prop} (h : post (-2) (e_K, e_d, e_h, e_y, e_s, e_k, e_pl, e_co, e_ly, e_sc, e_sh, e_sr, g_K, g_d, g_h, g_y, g_s, g_k, g_pl, g_co, g_ly, g_sc, g_sh, g_sr)) : pX6_image n_d n_h n_y n_s n_k n_pl n_co n_ly n_sc n_sh n_sr e_K e_d e_h e_y e_s e_k e_pl e_co e_ly e_sc e_sh e_sr g_K g_d g_h g_y g_s g_k g_pl g_co g_ly g_sc g_sh g_sr a post := in6_f 0 1 e (by decide) (by decide) (b_n0 h)

theorem case22 {n : Nat} {xs : Nat → Int32} {i : Nat} {X : XT} {M : MT} {K : XT → MT → Prop} (hI : Inv n X M) (hK : ∀ X M, Inv (n + 1) X M → K X M) : lc22 xs i X M K := by
  obtain ⟨w, sg, pd, tl, i0, i1⟩ := X
  obtain ⟨bk, nw, sh, kn, sgs, sgt, sns, pad, mA, mW, rs, ac, hd, tk, wo, fi, wi, wy, im, ik⟩ := M
  have hI1 := Inv.up hI
  obtain ⟨hR, hO, hS, hP, h0, h1, hw⟩ := hI
  dsimp only at hR hO hS hP h0 h1 hw
  unfold lc22
  obtain ⟨⟨ad, ah, ay, ash, ak, apl, aco, aly⟩, ⟨asc, asr, asg⟩, akp⟩ := i0
  obtain ⟨⟨cd, ch, cy, csh, ck, cpl, cco, cly⟩, ⟨csc, csr, csg⟩, ckp⟩ := i1
  obtain ⟨k1, k2, k3, k4, k5, k6, k7⟩ := id hI1
  dsimp only at k1 k2 k3 k4 k5 k6 k7
  rcases rng (xs (i + 1)) 0 1 with ⟨j, hj1, hj2, e⟩ | hne
  · rw [e]
    rcases (show j = 0 ∨ j = 1 by omega) with rfl | rfl
    · refine img6_0 _ _ _ _ _ _ _ _ _ _ _ _ _ _ _ _ _ _ _ _ _ _ _ _ _ _ _ _ _ _ _ _ _ _ _ ?_
      refine img7 _ _ _ _ _ _ _ 0 0 (by omega) rfl ?_
      refine ⟨rfl, hK _ _ (inv_mk k1 k2 k3 k4 ?_ ?_ k7)⟩
      · have := Ri.kept (im := im) (off := 0) k1 k2 k3 apl aco aly asr asg
        exact Ri.out this (pk_us (f := ik) (k := 0) (x := 1)).symm (fun _ _ => rfl)
      · exact Ri.out k6 (pk_un (f := ik) (k := 0) (j := 1) (x := 1) (by omega)).symm (fun k hk => (imgS_out (a := 0) (by omega)).symm)
    · refine img6_1 _ _ _ _ _ _ _ _ _ _ _ _ _ _ _ _ _ _ _ _ _ _ _ _ _ _ _ _ _ _ _ _ _ _ _ ?_
      refine img7 _ _ _ _ _ _ _ 1 70 (by omega) rfl ?_
      refine ⟨rfl, hK _ _ (inv_mk k1 k2 k3 k4 ?_ ?_ k7)⟩
      · exact Ri.out k5 (pk_un (f := ik) (k := 1) (j := 0) (x := 1) (by omega)).symm (fun k hk => (imgS_out (a := 70) (by omega)).symm)
      · have := Ri.kept (im := im) (off := 70) k1 k2 k3 cpl cco cly csr csg
        exact Ri.out this (pk_us (f := ik) (k := 1) (x := 1)).symm (fun _ _ => rfl)
  · refine img6_f _ _ _ _ _ _ _ _ _ _ _ _ _ _ _ _ _ _ _ _ _ _ _ _ _ _ _ _ _ _ _ _ _ _ _ hne ?_
    refine in7_f 0 1 hne (by decide) (by decide) (b_n0 ?_)
    exact ⟨rfl, hK _ _ hI1⟩

theorem case23 {n : Nat} {xs : Nat → Int32} {i : Nat} {X : XT} {M : MT} {K : XT → MT → Prop} (hI : Inv n X M) (hK : ∀ X M, Inv (n + 1) X M → K X M) : lc23 xs i X M K := by
  obtain ⟨w, sg, pd, tl, i0, i1⟩ := X
  obtain ⟨bk, nw, sh, kn, sgs, sgt, sns, pad, mA, mW, rs, ac, hd, tk, wo, fi, wi, wy, im, ik⟩ := M
  have hI1 := Inv.up hI
  obtain ⟨hR, hO, hS, hP, h0, h1, hw⟩ := hI
  dsimp only at hR hO hS hP h0 h1 hw
  unfold lc23 pX6_restore pX5_become
  dsimp only
  rcases rng (xs (i + 1)) 0 1 with ⟨j, hj1, hj2, e⟩ | hne
  · refine in6_t 0 1 j e hj1 hj2 (by decide) (b_n1 ?_)
    rw [e]
    rcases (show j = 0 ∨ j = 1 by omega) with rfl | rfl
    · refine ⟨fun _ => ?_, fun q => absurd rfl q⟩
      by_cases hk : ik 0 = 1
      · have hk0 : ¬ ik 0 = 0 := by rw [hk]; decide
        have hk1 : ¬ i0.2.2 = 0 := by rw [h0.1]; exact hk0
        refine ⟨fun _ => ?_, fun q => absurd q hk1⟩
        refine sbec3 _ _ _ _ _ _ ?_
        refine rst7 _ _ _ _ _ _ _ 0 0 (by omega) rfl hk0 ?_
        dsimp only
        obtain ⟨q1, q2, q3⟩ := h0.2.2 hk
        refine ⟨rfl, hK _ _ ⟨?_, ?_, ?_, hI1.2.2.2.1, hI1.2.2.2.2⟩⟩
        · dsimp only
          exact (q1.cpy _ _ _).cong rfl rfl (fun k hk => by rw [cpS_in hk])
        · exact (q2.mono (by omega)).cpy _ _ _
        · dsimp only
          exact q3.cpy _ _ rfl (fun k hk => by rw [cpS_in hk])
      · have hk0 : ik 0 = 0 := by rcases h0.2.1 with q | q; exact q; exact absurd q hk
        have hk1 : i0.2.2 = 0 := by rw [h0.1]; exact hk0
        refine ⟨fun q => absurd hk1 q, fun _ => ?_⟩
        refine in7_t 0 1 0 rfl (Nat.zero_le _) (by omega) (by decide) (b_n1 ⟨vpc rfl, ?_⟩)
        exact ⟨fun q => absurd hk0 q, fun _ => ⟨rfl, hK _ _ hI1⟩⟩
    · refine ⟨fun q => absurd q (by decide), fun _ => ⟨rfl, ?_⟩⟩
      by_cases hk : ik 1 = 1
      · have hk0 : ¬ ik 1 = 0 := by rw [hk]; decide
        have hk1 : ¬ i1.2.2 = 0 := by rw [h1.1]; exact hk0
        refine ⟨fun _ => ?_, fun q => absurd q hk1⟩
        refine sbec3 _ _ _ _ _ _ ?_
        refine rst7 _ _ _ _ _ _ _ 1 70 (by omega) rfl hk0 ?_
        dsimp only
        obtain ⟨q1, q2, q3⟩ := h1.2.2 hk
        refine ⟨rfl, hK _ _ ⟨?_, ?_, ?_, hI1.2.2.2.1, hI1.2.2.2.2⟩⟩
        · dsimp only
          exact (q1.cpy _ _ _).cong rfl rfl (fun k hk => by rw [cpS_in hk])
        · exact (q2.mono (by omega)).cpy _ _ _
        · dsimp only
          exact q3.cpy _ _ rfl (fun k hk => by rw [cpS_in hk])
      · have hk0 : ik 1 = 0 := by rcases h1.2.1 with q | q; exact q; exact absurd q hk
        have hk1 : i1.2.2 = 0 := by rw [h1.1]; exact hk0
        refine ⟨fun q => absurd hk1 q, fun _ => ?_⟩
        refine in7_t 0 1 1 rfl (Nat.zero_le _) (by omega) (by decide) (b_n1 ⟨vpc rfl, ?_⟩)
        exact ⟨fun q => absurd hk0 q, fun _ => ⟨rfl, hK _ _ hI1⟩⟩
  · refine in6_f 0 1 hne (by decide) (by decide) (b_n0 ?_)
    refine in7_f 0 1 hne (by decide) (by decide) (b_n0 ?_)
    exact ⟨rfl, hK _ _ hI1⟩

/-! agree -/
theorem agr (p q y : Nat) (hp : 1 ≤ p) (hp2 : p ≤ 999) (hq : 1 ≤ q) (hq2 : q ≤ 999) (x0 : Int32) (hy : y < q) : ∀ d x, p * q ≤ x + d → x ≤ 1000000 → ∃ v : Int32, (∀ post : Int32 → Prop, post v → ∃ n, pX6_agree_b51 (nI p) x0 (nI q) (nI y) post n (nI x)) ∧ (∀ post : Int32 → Prop, post v → ∃ n, pX7_agree_b51 (nI p) x0 (nI q) (nI y) post n (nI x)) := by
  have hpq : p * q ≤ 999 * 999 := Nat.mul_le_mul hp2 hq2
  intro d
  induction d with
  | zero =>
    intro x h hx
    have c : nI p * nI q ≤ nI x := by rw [pk_mul]; exact nI_le (by omega) (by omega)
    exact ⟨-6, fun post hv => ⟨1, fun _ => hv, fun z => absurd c z⟩, fun post hv => ⟨1, fun _ => hv, fun z => absurd c z⟩⟩
  | succ d ih =>
    intro x h hx
    by_cases hc : p * q ≤ x
    · have c : nI p * nI q ≤ nI x := by rw [pk_mul]; exact nI_le hc (by omega)
      exact ⟨-6, fun post hv => ⟨1, fun _ => hv, fun z => absurd c z⟩, fun post hv => ⟨1, fun _ => hv, fun z => absurd c z⟩⟩
    · have c : ¬ nI p * nI q ≤ nI x := by rw [pk_mul]; exact nI_ge (by omega) (by omega)
      have q0 : ¬ nI q = 0 := nI_ne0 (by omega) (by omega)
      have er : nI x - nI x / nI q * nI q = nI (x % q) := pk_rem (by omega) (by omega) (by omega)
      have hm : x % q < q := Nat.mod_lt _ (by omega)
      by_cases hr : x % q = y
      · have e : nI x - nI x / nI q * nI q = nI y := by rw [er, hr]
        exact ⟨nI x, fun post hv => ⟨1, fun z => absurd z c, fun _ => ⟨q0, fun z => absurd e z, fun _ => hv⟩⟩, fun post hv => ⟨1, fun z => absurd z c, fun _ => ⟨q0, fun z => absurd e z, fun _ => hv⟩⟩⟩
      · have e : ¬ nI x - nI x / nI q * nI q = nI y := by rw [er, nI_eq (by omega) (by omega)]; exact hr
        obtain ⟨v, v6, v7⟩ := ih (x + p) (by omega) (by omega)
        refine ⟨v, fun post hv => ?_, fun post hv => ?_⟩
        · obtain ⟨n, hn⟩ := v6 post hv
          exact ⟨n + 1, fun z => absurd z c, fun _ => ⟨q0, fun _ w ew => by rw [ew, nI_add]; exact hn, fun z => absurd z e⟩⟩
        · obtain ⟨n, hn⟩ := v7 post hv
          exact ⟨n + 1, fun z => absurd z c, fun _ => ⟨q0, fun _ w ew => by rw [ew, nI_add]; exact hn, fun z => absurd z e⟩⟩

theorem case12 {n : Nat} {xs : Nat → Int32} {i : Nat} {X : XT} {M : MT} {K : XT → MT → Prop} (hI : Inv n X M) (hK : ∀ X M, Inv (n + 1) X M → K X M) : lc12 xs i X M K := by
  obtain ⟨w, sg, pd, tl, i0, i1⟩ := X
  obtain ⟨bk, nw, sh, kn, sgs, sgt, sns, pad, mA, mW, rs, ac, hd, tk, wo, fi, wi, wy, im, ik⟩ := M
  have hI1 := Inv.up hI
  obtain ⟨hR, hO, hS, hP, h0, h1, hw⟩ := hI
  dsimp only at hR hO hS hP h0 h1 hw
  unfold lc12 pX6_agree pX7_agree
  dsimp only
  have m1 : ∀ j, 1 ≤ j → nI j - 1 = nI (j - 1) := fun j hj => pk_sub (b := 1) hj
  rcases rng (xs (i + 1)) 1 999 with ⟨p, p1, p2, ep⟩ | hne
  · refine in6_t 1 999 p ep p1 p2 (by decide) (b_e1 ?_)
    rw [ep, m1 p p1]
    rcases rng (xs (i + 3)) 1 999 with ⟨q, q1, q2, eq⟩ | hne
    · rcases rng (xs (i + 2)) 0 (p - 1) with ⟨x, x1, x2, ex⟩ | hnx
      · refine in6_t 0 (p - 1) x ex x1 x2 (by omega) (b_e1 ?_)
        refine in6_t 1 999 q eq q1 q2 (by decide) (b_e1 ?_)
        rw [eq, m1 q q1]
        rcases rng (xs (i + 4)) 0 (q - 1) with ⟨y, y1, y2, ey⟩ | hny
        · refine in6_t 0 (q - 1) y ey y1 y2 (by omega) (b_n1 ?_)
          rw [ey, ex]
          have hpq : p * q ≤ 999 * 999 := Nat.mul_le_mul p2 q2
          obtain ⟨v, v6, v7⟩ := agr p q y p1 p2 q1 q2 (nI x) (by omega) (p * q) x (by omega) (by omega)
          refine v6 _ ?_
          refine in7_t 1 999 p rfl p1 p2 (by decide) (b_e1 ?_)
          refine in7_t 1 999 q rfl q1 q2 (by decide) (b_e1 ?_)
          refine in7_t 0 (p - 1) x rfl x1 x2 (by omega) (b_e1 ?_)
          refine in7_t 0 (q - 1) y rfl y1 y2 (by omega) (b_n1 ?_)
          refine v7 _ ?_
          exact ⟨rfl, hK _ _ hI1⟩
        · refine in6_f 0 (q - 1) hny (by omega) (by omega) (b_n0 ?_)
          refine in7_t 1 999 p rfl p1 p2 (by decide) (b_e1 ?_)
          refine in7_t 1 999 q rfl q1 q2 (by decide) (b_e1 ?_)
          refine in7_t 0 (p - 1) x ex x1 x2 (by omega) (b_e1 ?_)
          refine in7_f 0 (q - 1) hny (by omega) (by omega) (b_n0 ?_)
          exact ⟨rfl, hK _ _ hI1⟩
      · refine in6_f 0 (p - 1) hnx (by omega) (by omega) (b_e0 ?_)
        refine in7_t 1 999 p rfl p1 p2 (by decide) (b_e1 ?_)
        refine in7_t 1 999 q eq q1 q2 (by decide) (b_e1 ?_)
        refine in7_f 0 (p - 1) hnx (by omega) (by omega) (b_e0 ?_)
        exact ⟨rfl, hK _ _ hI1⟩
    · rcases rng (xs (i + 2)) 0 (p - 1) with ⟨x, x1, x2, ex⟩ | hnx
      · refine in6_t 0 (p - 1) x ex x1 x2 (by omega) (b_e1 ?_)
        refine in6_f 1 999 hne (by decide) (by decide) (b_e0 ?_)
        refine in7_t 1 999 p rfl p1 p2 (by decide) (b_e1 ?_)
        refine in7_f 1 999 hne (by decide) (by decide) (b_e0 ?_)
        exact ⟨rfl, hK _ _ hI1⟩
      · refine in6_f 0 (p - 1) hnx (by omega) (by omega) (b_e0 ?_)
        refine in7_t 1 999 p rfl p1 p2 (by decide) (b_e1 ?_)
        refine in7_f 1 999 hne (by decide) (by decide) (b_e0 ?_)
        exact ⟨rfl, hK _ _ hI1⟩
  · refine in6_f 1 999 hne (by decide) (by decide) (b_e0 ?_)
    refine in7_f 1 999 hne (by decide) (by decide) (b_e0 ?_)
    exact ⟨rfl, hK _ _ hI1⟩

/-! halves -/
def hvW : Nat → Nat → Bool
  | 0, _ => false
  | f + 1, n => if n = 0 then false else if n % 2 = 1 then true else !(hvW f (n / 2))
theorem hvW_fuel : ∀ (f g n : Nat), n < f → n < g → hvW f n = hvW g n
  | 0, _, n, h, _ => absurd h (Nat.not_lt_zero n)
  | _, 0, n, _, h => absurd h (Nat.not_lt_zero n)
  | f + 1, g + 1, n, h1, h2 => by
    simp only [hvW]
    by_cases h0 : n = 0
    · rw [if_pos h0, if_pos h0]
    · rw [if_neg h0, if_neg h0, hvW_fuel f g (n / 2) (by omega) (by omega)]
def hwF (n : Nat) : Bool := hvW (n + 1) n
theorem hwF_0 : hwF 0 = false := rfl
theorem hwF_odd {n : Nat} (h : n % 2 = 1) : hwF n = true := by
  simp only [hwF, hvW]
  rw [if_neg (by omega), if_pos h]
theorem hwF_even {n : Nat} (h0 : 0 < n) (h : n % 2 = 0) : hwF n = !(hwF (n / 2)) := by
  simp only [hwF]
  rw [hvW, if_neg (by omega), if_neg (by omega), hvW_fuel n (n / 2 + 1) (n / 2) (by omega) (by omega)]
theorem hwF_step {n : Nat} (h0 : 0 < n) : hwF n = (!(hwF (n - 1)) || !(hwF (n / 2))) := by
  by_cases h : n % 2 = 1
  · rw [hwF_odd h]
    by_cases h1 : n = 1
    · subst h1; rfl
    · have e : hwF (n - 1) = !(hwF (n / 2)) := by
        rw [hwF_even (by omega) (by omega), show (n - 1) / 2 = n / 2 by omega]
      rw [e]
      cases hwF (n / 2) <;> rfl
  · rw [hwF_even h0 (by omega), hwF_odd (n := n - 1) (by omega)]
    rfl
def b2i (b : Bool) : Int32 := if b then 1 else 0
theorem b2i_zb (b : Bool) : zb (b2i b) := by cases b <;> rfl
theorem cw6 (n : Nat) (hn : n ≤ 9999) {post : Int32 → Prop} (h : post (b2i (hwF n))) : pX6_canWin (nI n) post := by
  have key : ∀ f m (b : Bool), m < f → m ≤ 9999 → 0 < m → post (b2i (b == hwF m)) → ∃ k, pX6_canWin_b12 (nI n) post k (b2i b) (nI m) := by
    intro f
    induction f with
    | zero => intro m b h1; exact absurd h1 (Nat.not_lt_zero m)
    | succ f ih =>
      intro m b h1 h2 h3 hp
      have c0 : ¬ nI m ≤ 0 := nI_nle h3 (by omega)
      have er : nI m - nI m / 2 * 2 = nI (m % 2) := pk_rem (d := 2) (by omega) (by decide) (by decide)
      have ed : nI m / 2 = nI (m / 2) := pk_div (d := 2) (by omega) (by decide) (by decide)
      by_cases ho : m % 2 = 1
      · have c1 : ¬ nI m - nI m / 2 * 2 = 0 := by rw [er, ho]; decide
        rw [hwF_odd ho] at hp
        have hb : (b == true) = b := by cases b <;> rfl
        rw [hb] at hp
        exact ⟨1, fun q => absurd q c0, fun _ => ⟨fun _ => ⟨b2i_zb b, hp⟩, fun q => absurd q c1⟩⟩
      · have c1 : nI m - nI m / 2 * 2 = 0 := by rw [er, show m % 2 = 0 by omega]; rfl
        have e2 := hwF_even h3 (show m % 2 = 0 by omega)
        obtain ⟨k, hk⟩ := ih (m / 2) (!b) (by omega) (by omega) (by omega) (by
          rw [e2] at hp
          have : ((!b) == hwF (m / 2)) = (b == !(hwF (m / 2))) := by cases b <;> cases hwF (m / 2) <;> rfl
          rw [this]; exact hp)
        refine ⟨k + 1, fun q => absurd q c0, fun _ => ⟨fun q => absurd c1 q, fun _ => ?_⟩⟩
        cases b with
        | false => exact ⟨fun q => absurd rfl q, fun _ v ev => by rw [ev, ed]; exact hk⟩
        | true => exact ⟨fun _ v ev => by rw [ev, ed]; exact hk, fun q => absurd q (by decide)⟩
  by_cases h0 : n = 0
  · subst h0
    refine ⟨fun _ => ⟨1, fun _ => ⟨zb_0, h⟩, fun q => absurd (Int32.le_refl _) q⟩, fun q => absurd (Int32.le_refl _) q⟩
  · have c0 : ¬ nI n ≤ 0 := nI_nle (by omega) (by omega)
    refine ⟨fun q => absurd q c0, fun _ => ?_⟩
    refine key (n + 1) n true (by omega) hn (by omega) ?_
    have : (true == hwF n) = hwF n := by cases hwF n <;> rfl
    rw [this]; exact h
theorem hv7 (n : Nat) (hn : n ≤ 9999) (a2 : Int32) {post : Int32 → (Nat → Int32) → Prop} (P : (Nat → Int32) → Prop)
    (hfin : ∀ wi : Nat → Int32, (∀ k, k ≤ n → wi k = b2i (hwF k)) → pX7_halves_b25 (nI n) a2 post 1 (nI (n + 1)) wi) (wi : Nat → Int32) (h0 : wi 0 = 0) : ∃ k, pX7_halves_b25 (nI n) a2 post k 1 wi := by
  have key : ∀ d i (wi : Nat → Int32), i + d = n → (∀ k, k ≤ i → wi k = b2i (hwF k)) → pX7_halves_b25 (nI n) a2 post (d + 1) (nI (i + 1)) wi := by
    intro d
    induction d with
    | zero =>
      intro i wi hi hw
      have e : i = n := by omega
      subst e
      exact hfin wi hw
    | succ d ih =>
      intro i wi hi hwi
      have c : ¬ nI n < nI (i + 1) := nI_nlt (by omega) (by omega)
      have e1 : nI (i + 1) - 1 = nI i := nI_pred i
      have ed : nI (i + 1) / 2 = nI ((i + 1) / 2) := pk_div (d := 2) (by omega) (by decide) (by decide)
      have e2 : nI (i + 1) + 1 = nI (i + 1 + 1) := nI_1 _
      have st := hwF_step (n := i + 1) (by omega)
      rw [Nat.add_sub_cancel] at st
      have up : ∀ (b : Bool), b = hwF (i + 1) → ∀ k, k ≤ i + 1 → upd wi (i + 1) (b2i b) k = b2i (hwF k) := by
        intro b hb k hk
        by_cases hki : k = i + 1
        · subst hki; rw [pk_us, hb]
        · rw [pk_un hki]; exact hwi k (by omega)
      have z1 : vp_nar .boolean 1 = b2i true := by decide
      have z0 : vp_nar .boolean 0 = b2i false := by decide
      refine ⟨fun q => absurd q c, fun _ => ?_⟩
      rw [e1, ed, e2, nI_clamp (by omega), nI_clamp (by omega), nI_clamp (by omega), hwi i (by omega), hwi ((i + 1) / 2) (by omega), z1, z0]
      have vi : vp_in (nI i) 10000 := vp_in_nI (by omega) (by decide)
      have vj : vp_in (nI (i + 1)) 10000 := vp_in_nI (by omega) (by decide)
      have vk : vp_in (nI ((i + 1) / 2)) 10000 := vp_in_nI (by omega) (by decide)
      refine ⟨vi, ?_⟩
      cases hA : hwF i with
      | false =>
        rw [hA] at st
        refine ⟨fun _ => ⟨vj, fun v ev => ?_⟩, fun q => absurd rfl q⟩
        rw [ev]
        exact ih (i + 1) _ (by omega) (up true (by rw [st]; rfl))
      | true =>
        rw [hA] at st
        refine ⟨fun q => absurd q (by decide), fun _ => ⟨vk, ?_⟩⟩
        cases hB : hwF ((i + 1) / 2) with
        | false =>
          rw [hB] at st
          refine ⟨fun q => absurd rfl q, fun _ => ⟨vj, fun v ev => ?_⟩⟩
          rw [ev]
          exact ih (i + 1) _ (by omega) (up true (by rw [st]; rfl))
        | true =>
          rw [hB] at st
          refine ⟨fun _ => ⟨vj, fun v ev => ?_⟩, fun q => absurd q (by decide)⟩
          rw [ev]
          exact ih (i + 1) _ (by omega) (up false (by rw [st]; rfl))
  exact ⟨n + 1, key n 0 wi (by omega) (fun k hk => by
    have : k = 0 := by omega
    subst this
    rw [h0]; rfl)⟩

theorem case19 {n : Nat} {xs : Nat → Int32} {i : Nat} {X : XT} {M : MT} {K : XT → MT → Prop} (hI : Inv n X M) (hK : ∀ X M, Inv (n + 1) X M → K X M) : lc19 xs i X M K := by
  obtain ⟨w, sg, pd, tl, i0, i1⟩ := X
  obtain ⟨bk, nw, sh, kn, sgs, sgt, sns, pad, mA, mW, rs, ac, hd, tk, wo, fi, wi, wy, im, ik⟩ := M
  have hI1 := Inv.up hI
  obtain ⟨hR, hO, hS, hP, h0, h1, hw⟩ := hI
  dsimp only at hR hO hS hP h0 h1 hw
  unfold lc19 pX6_halves
  dsimp only
  rcases rng (xs (i + 1)) 0 9999 with ⟨j, hj1, hj2, e⟩ | hne
  · refine in6_t 0 9999 j e hj1 hj2 (by decide) (b_e1 ?_)
    rcases rng (xs (i + 2)) 0 1 with ⟨j2, k1, k2, e2⟩ | hne
    · refine in6_t 0 1 j2 e2 k1 k2 (by decide) (b_n1 ?_)
      have ed : nI j / 2 = nI (j / 2) := pk_div (d := 2) (by omega) (by decide) (by decide)
      rw [e, e2, ed]
      have c : nI j < nI (j + 1) := nI_lt (by omega) (by omega)
      have vj : vp_in (nI j) 10000 := vp_in_nI (by omega) (by decide)
      have vk : vp_in (nI (j / 2)) 10000 := vp_in_nI (by omega) (by decide)
      refine cw6 j hj2 ?_
      have step : ∀ {post : Int32 → (Nat → Int32) → Prop}, (∀ wi' : Nat → Int32, (∀ k, k ≤ j → wi' k = b2i (hwF k)) → pX7_halves_b25 (nI j) (nI j2) post 1 (nI (j + 1)) wi') → pX7_halves wi (nI j) (nI j2) post := by
        intro post hf
        refine in7_t 0 9999 j rfl hj1 hj2 (by decide) (b_e1 ?_)
        refine in7_t 0 1 j2 rfl k1 k2 (by decide) (b_n1 ?_)
        exact hv7 j hj2 (nI j2) (fun _ => True) hf wi hw
      have fin : ∀ wi' : Nat → Int32, (∀ k, k ≤ j → wi' k = b2i (hwF k)) → wi' 0 = 0 := fun wi' h => by rw [h 0 (by omega)]; rfl
      rcases (show j2 = 0 ∨ j2 = 1 by omega) with rfl | rfl
      · refine ⟨fun q => absurd rfl q, fun _ => ?_⟩
        cases hA : hwF j with
        | false =>
          refine b_e0 (step (fun wi' h => ⟨fun _ => ⟨fun q => absurd rfl q, fun _ => ⟨vj, ?_⟩⟩, fun q => absurd c q⟩))
          rw [nI_clamp (by omega), h j (by omega), hA]
          exact b_e0 ⟨rfl, hK _ _ ⟨hI1.1, hI1.2.1, hI1.2.2.1, hI1.2.2.2.1, hI1.2.2.2.2.1, hI1.2.2.2.2.2.1, fin wi' h⟩⟩
        | true =>
          refine b_e1 (step (fun wi' h => ⟨fun _ => ⟨fun q => absurd rfl q, fun _ => ⟨vj, ?_⟩⟩, fun q => absurd c q⟩))
          rw [nI_clamp (by omega), h j (by omega), hA]
          exact b_e1 ⟨rfl, hK _ _ ⟨hI1.1, hI1.2.1, hI1.2.2.1, hI1.2.2.2.1, hI1.2.2.2.2.1, hI1.2.2.2.2.2.1, fin wi' h⟩⟩
      · refine ⟨fun _ => ?_, fun q => absurd q (by decide)⟩
        cases hA : hwF j with
        | false =>
          refine b_n0 (step (fun wi' h => ⟨fun _ => ⟨fun _ => ⟨vj, ?_⟩, fun q => absurd q (by decide)⟩, fun q => absurd c q⟩))
          rw [nI_clamp (by omega), h j (by omega), hA]
          exact b_n0 ⟨rfl, hK _ _ ⟨hI1.1, hI1.2.1, hI1.2.2.1, hI1.2.2.2.1, hI1.2.2.2.2.1, hI1.2.2.2.2.2.1, fin wi' h⟩⟩
        | true =>
          refine b_n1 (cw6 (j / 2) (by omega) ?_)
          cases hB : hwF (j / 2) with
          | false =>
            refine b_e0 (step (fun wi' h => ⟨fun _ => ⟨fun _ => ⟨vj, ?_⟩, fun q => absurd q (by decide)⟩, fun q => absurd c q⟩))
            rw [ed, nI_clamp (by omega), nI_clamp (by omega), h j (by omega), h (j / 2) (by omega), hA, hB]
            exact b_n1 ⟨vk, b_n0 ⟨rfl, hK _ _ ⟨hI1.1, hI1.2.1, hI1.2.2.1, hI1.2.2.2.1, hI1.2.2.2.2.1, hI1.2.2.2.2.2.1, fin wi' h⟩⟩⟩
          | true =>
            refine b_e1 (step (fun wi' h => ⟨fun _ => ⟨fun _ => ⟨vj, ?_⟩, fun q => absurd q (by decide)⟩, fun q => absurd c q⟩))
            rw [ed, nI_clamp (by omega), nI_clamp (by omega), h j (by omega), h (j / 2) (by omega), hA, hB]
            exact b_n1 ⟨vk, b_n1 ⟨rfl, hK _ _ ⟨hI1.1, hI1.2.1, hI1.2.2.1, hI1.2.2.2.1, hI1.2.2.2.2.1, hI1.2.2.2.2.2.1, fin wi' h⟩⟩⟩
    · refine in6_f 0 1 hne (by decide) (by decide) (b_n0 ?_)
      unfold pX7_halves
      refine in7_t 0 9999 j e hj1 hj2 (by decide) (b_e1 ?_)
      refine in7_f 0 1 hne (by decide) (by decide) (b_n0 ?_)
      exact ⟨rfl, hK _ _ hI1⟩
  · refine in6_f 0 9999 hne (by decide) (by decide) (b_e0 ?_)
    unfold pX7_halves
    refine in7_f 0 9999 hne (by decide) (by decide) (b_e0 ?_)
    exact ⟨rfl, hK _ _ hI1⟩
