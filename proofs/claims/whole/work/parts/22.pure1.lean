/-! ===== PURE 1: small rows, the invariant, the calls that only set and tell ===== -/
theorem b_n0 {A B : Prop} (b : B) : (¬ (0 : Int32) = 0 → A) ∧ ((0 : Int32) = 0 → B) := ⟨fun h => absurd rfl h, fun _ => b⟩
theorem b_n1 {A B : Prop} (a : A) : (¬ (1 : Int32) = 0 → A) ∧ ((1 : Int32) = 0 → B) := ⟨fun _ => a, fun h => absurd h (by decide)⟩
theorem b_e0 {A B : Prop} (a : A) : ((0 : Int32) = 0 → A) ∧ (¬ (0 : Int32) = 0 → B) := ⟨fun _ => a, fun h => absurd rfl h⟩
theorem b_e1 {A B : Prop} (b : B) : ((1 : Int32) = 0 → A) ∧ (¬ (1 : Int32) = 0 → B) := ⟨fun h => absurd h (by decide), fun _ => b⟩
theorem nI_nm {a : Nat} (h : a < 2 ^ 31) (k : Nat) (hk : k < 2 ^ 31) (hk0 : 0 < k) : ¬ nI a = -nI k := by
  intro e
  have h1 : (nI a).toInt = (-nI k).toInt := by rw [e]
  rw [nI_toInt h, sb_negT hk] at h1
  omega
/-- is a number one of those from lo to hi -/
theorem rng (a : Int32) (lo hi : Nat) : (∃ j, lo ≤ j ∧ j ≤ hi ∧ a = nI j) ∨ (∀ j, lo ≤ j → j ≤ hi → a ≠ nI j) := by
  by_cases h : ∃ j, lo ≤ j ∧ j ≤ hi ∧ a = nI j
  · exact Or.inl h
  · exact Or.inr (fun j h1 h2 h3 => h ⟨j, h1, h2, h3⟩)
theorem in_t {lo hi j : Nat} (h1 : lo ≤ j) (h2 : j ≤ hi) (hh : hi < 2 ^ 31) : ¬ nI j < nI lo ∧ ¬ nI hi < nI j := ⟨nI_nlt h1 (by omega), nI_nlt h2 hh⟩
theorem in_f {a : Int32} {lo hi : Nat} (h : ∀ j, lo ≤ j → j ≤ hi → a ≠ nI j) (hh : hi < 2 ^ 31) (hl : lo < 2 ^ 31) : a < nI lo ∨ nI hi < a := by
  by_cases h1 : a < nI lo
  · exact Or.inl h1
  · by_cases h2 : nI hi < a
    · exact Or.inr h2
    · exfalso
      have h0 : ¬ a < 0 := by
        intro q
        exact h1 (by rw [Int32.lt_iff_toInt_lt] at q ⊢; rw [nI_toInt hl]; simp at q; omega)
      obtain ⟨j, hj, rfl⟩ := nI_of h0
      rw [nI_ltI hj hl] at h1
      rw [nI_ltI hh hj] at h2
      exact h j (by omega) (by omega) rfl
theorem in6_t {a : Int32} {post : Int32 → Prop} (lo hi j : Nat) (e : a = nI j) (h1 : lo ≤ j) (h2 : j ≤ hi) (hh : hi < 2 ^ 31) (h : post 1) : pX6_isIn a (nI lo) (nI hi) post := by
  subst e
  obtain ⟨q1, q2⟩ := in_t h1 h2 hh
  exact ⟨fun z => absurd z q1, fun _ => ⟨fun z => absurd z q2, fun _ => h⟩⟩
theorem in6_f {a : Int32} {post : Int32 → Prop} (lo hi : Nat) (e : ∀ j, lo ≤ j → j ≤ hi → a ≠ nI j) (hh : hi < 2 ^ 31) (hl : lo < 2 ^ 31) (h : post 0) : pX6_isIn a (nI lo) (nI hi) post := by
  refine ⟨fun _ => h, fun q => ⟨fun _ => h, fun q2 => ?_⟩⟩
  rcases in_f e hh hl with z | z
  · exact absurd z q
  · exact absurd z q2
theorem in7_t {a : Int32} {post : Int32 → Prop} (lo hi j : Nat) (e : a = nI j) (h1 : lo ≤ j) (h2 : j ≤ hi) (hh : hi < 2 ^ 31) (h : post 1) : pX7_in a (nI lo) (nI hi) post := by
  subst e
  obtain ⟨q1, q2⟩ := in_t h1 h2 hh
  exact ⟨fun z => absurd z q1, fun _ => ⟨fun z => absurd z q2, fun _ => h⟩⟩
theorem in7_f {a : Int32} {post : Int32 → Prop} (lo hi : Nat) (e : ∀ j, lo ≤ j → j ≤ hi → a ≠ nI j) (hh : hi < 2 ^ 31) (hl : lo < 2 ^ 31) (h : post 0) : pX7_in a (nI lo) (nI hi) post := by
  refine ⟨fun _ => h, fun q => ⟨fun _ => h, fun q2 => ?_⟩⟩
  rcases in_f e hh hl with z | z
  · exact absurd z q
  · exact absurd z q2
theorem zb_0 : zb 0 := rfl
theorem zb_1 : zb 1 := rfl
theorem per_t {a : Int32} {post : Int32 → Prop} (j : Nat) (e : a = nI j) (h2 : j ≤ 5) (h : post 1) : pX6_isPerson a post := in6_t 0 5 j e (Nat.zero_le _) h2 (by decide) ⟨zb_1, h⟩
theorem per_f {a : Int32} {post : Int32 → Prop} (e : ∀ j, 0 ≤ j → j ≤ 5 → a ≠ nI j) (h : post 0) : pX6_isPerson a post := in6_f 0 5 e (by decide) (by decide) ⟨zb_0, h⟩
/-- who is within, as bits -/
def wbS (c : Nat → Bool) : Nat → Int32
  | 0 => 0
  | n + 1 => if c n then wbS c n ||| ((1 : Int32) <<< (nI n &&& 31)) else wbS c n
theorem wbS_cong {c d : Nat → Bool} : ∀ {n : Nat}, (∀ k, k < n → c k = d k) → wbS c n = wbS d n
  | 0, _ => rfl
  | n + 1, h => by rw [wbS, wbS, wbS_cong (fun k hk => h k (by omega)), h n (by omega)]
theorem or0 (x : Int32) : x ||| 0 = x := by
  apply Int32.toBitVec_inj.mp
  simp
theorem who5 (pl : Nat → Int32) {post : Int32 → Prop} (h : post (wbS (fun k => decide (¬ pl k = -6)) 6)) : pX5_whoIsWithin pl post := by
  refine ⟨7, ?_⟩
  have key : ∀ d i, i + d = 6 → pX5_whoIsWithin_b4 pl post (d + 1) (wbS (fun k => decide (¬ pl k = -6)) i) (nI i) := by
    intro d
    induction d with
    | zero =>
      intro i hi
      have e : i = 6 := by omega
      subst e
      exact ⟨fun _ => h, fun q => absurd (Int32.le_refl _) q⟩
    | succ d ih =>
      intro i hi
      have h6 : ¬ (6 : Int32) ≤ nI i := nI_ge (a := i) (b := 6) (by omega) (by decide)
      refine ⟨fun q => absurd q h6, fun _ => ⟨vp_in_nI (by omega) (by decide), ?_⟩⟩
      rw [nI_clamp (by omega)]
      have ih' := ih (i + 1) (by omega)
      rw [wbS] at ih'
      refine ⟨fun q v e => ?_, fun q v e v2 e2 => ?_⟩
      · rw [e, nI_1]
        rw [if_neg (by simp [q])] at ih'
        exact ih'
      · rw [e, e2, nI_1]
        rw [if_pos (by simp [q])] at ih'
        exact ih'
  exact key 6 0 rfl
theorem who7 (nw : Nat → Int32) {post : Int32 → Prop} (h : post (wbS (fun k => decide (¬ nw k < 0)) 6)) : pX7_within nw post := by
  refine ⟨7, ?_⟩
  have key : ∀ d i, i + d = 6 → pX7_within_b4 nw post (d + 1) (wbS (fun k => decide (¬ nw k < 0)) i) (nI i) := by
    intro d
    induction d with
    | zero =>
      intro i hi
      have e : i = 6 := by omega
      subst e
      exact ⟨fun _ => h, fun q => absurd (Int32.le_refl _) q⟩
    | succ d ih =>
      intro i hi
      have h6 : ¬ (6 : Int32) ≤ nI i := nI_ge (a := i) (b := 6) (by omega) (by decide)
      refine ⟨fun q => absurd q h6, fun _ => ⟨vp_in_nI (by omega) (by decide), ?_⟩⟩
      rw [nI_clamp (by omega)]
      have ih' := ih (i + 1) (by omega)
      rw [wbS] at ih'
      refine ⟨fun q v e v2 e2 => ?_, fun q v e v2 e2 => ?_⟩
      · rw [e, e2, nI_1, or0]
        rw [if_neg (by simp [q])] at ih'
        exact ih'
      · rw [e, e2, nI_1]
        rw [if_pos (by simp [q])] at ih'
        exact ih'
  exact key 6 0 rfl
/-- what lies, in all -/
def smS (f : Nat → Int32) : Nat → Int32
  | 0 => 0
  | n + 1 => smS f n + f n
theorem smS_cong {f g : Nat → Int32} : ∀ {n : Nat}, (∀ k, k < n → f k = g k) → smS f n = smS g n
  | 0, _ => rfl
  | n + 1, h => by rw [smS, smS, smS_cong (fun k hk => h k (by omega)), h n (by omega)]
theorem lie5 (ly : Nat → Int32) {post : Int32 → Prop} (h : post (smS ly 30)) : pX5_liesInAll ly post := by
  refine ⟨31, ?_⟩
  have key : ∀ d i, i + d = 30 → pX5_liesInAll_b4 ly post (d + 1) (smS ly i) (nI i) := by
    intro d
    induction d with
    | zero =>
      intro i hi
      have e : i = 30 := by omega
      subst e
      exact ⟨fun _ => h, fun q => absurd (Int32.le_refl _) q⟩
    | succ d ih =>
      intro i hi
      have h6 : ¬ (30 : Int32) ≤ nI i := nI_ge (a := i) (b := 30) (by omega) (by decide)
      refine ⟨fun q => absurd q h6, fun _ => ⟨vp_in_nI (by omega) (by decide), fun v e v2 e2 => ?_⟩⟩
      rw [e, e2, nI_1, nI_clamp (by omega)]
      exact ih (i + 1) (by omega)
  exact key 30 0 rfl
theorem lie7 (nw : Nat → Int32) {post : Int32 → Prop} (h : post (smS (fun k => nw (12 + k)) 30)) : pX7_lying nw post := by
  refine ⟨31, ?_⟩
  have key : ∀ d i, i + d = 30 → pX7_lying_b4 nw post (d + 1) (smS (fun k => nw (12 + k)) i) (nI i) := by
    intro d
    induction d with
    | zero =>
      intro i hi
      have e : i = 30 := by omega
      subst e
      exact ⟨fun _ => h, fun q => absurd (Int32.le_refl _) q⟩
    | succ d ih =>
      intro i hi
      have h6 : ¬ (30 : Int32) ≤ nI i := nI_ge (a := i) (b := 30) (by omega) (by decide)
      have e12 : (12 : Int32) + nI i = nI (12 + i) := nI_add 12 i
      refine ⟨fun q => absurd q h6, fun _ => ?_⟩
      rw [e12]
      refine ⟨vp_in_nI (by omega) (by decide), fun v e v2 e2 => ?_⟩
      rw [e, e2, nI_1, nI_clamp (by omega)]
      exact ih (i + 1) (by omega)
  exact key 30 0 rfl
/-- the first n places of g, the others of f -/
def cpS (f g : Nat → Int32) (n : Nat) : Nat → Int32 := fun k => if k < n then g k else f k
theorem cpS_0 (f g : Nat → Int32) : cpS f g 0 = f := by funext k; simp [cpS]
theorem cpS_s (f g : Nat → Int32) (n : Nat) : upd (cpS f g n) n (g n) = cpS f g (n + 1) := by
  funext k
  simp only [upd, cpS]
  by_cases h : k = n
  · subst h; simp
  · rw [if_neg h]
    by_cases h2 : k < n
    · rw [if_pos h2, if_pos (by omega)]
    · rw [if_neg h2, if_neg (by omega)]
theorem cpS_in {f g : Nat → Int32} {n k : Nat} (h : k < n) : cpS f g n k = g k := by simp [cpS, h]
theorem asn7 (mA mW : Int32) (bk nw : Nat → Int32) {post : (Int32 × Int32 × (Nat → Int32)) → Prop} (h : post (-6, -6, cpS nw bk 45)) : pX7_asNow mA mW bk nw post := by
  refine ⟨46, ?_⟩
  have key : ∀ d i, i + d = 45 → pX7_asNow_b2 bk post (d + 1) (nI i) mA mW (cpS nw bk i) := by
    intro d
    induction d with
    | zero =>
      intro i hi
      have e : i = 45 := by omega
      subst e
      exact ⟨fun _ => h, fun q => absurd (Int32.le_refl _) q⟩
    | succ d ih =>
      intro i hi
      have h6 : ¬ (45 : Int32) ≤ nI i := nI_ge (a := i) (b := 45) (by omega) (by decide)
      refine ⟨fun q => absurd q h6, fun _ => ⟨vp_in_nI (by omega) (by decide), fun v e => ⟨vp_in_nI (by omega) (by decide), fun v2 e2 => ?_⟩⟩⟩
      rw [e, e2, nI_1, nI_clamp (by omega), cpS_s]
      exact ih (i + 1) (by omega)
  have := key 45 0 rfl
  rw [cpS_0] at this
  exact this
/-! the invariant: the class's state and the reference's are one -/
def Rw (w : WT) (sh kn : Int32) (bk : Nat → Int32) : Prop :=
  w.1 = bk 42 ∧ w.2.1 = bk 43 ∧ w.2.2.1 = bk 44 ∧ w.2.2.2.1 = sh ∧ w.2.2.2.2.1 = kn ∧ (∀ k, k < 6 → w.2.2.2.2.2.1 k = bk k) ∧ (∀ k, k < 6 → w.2.2.2.2.2.2.1 k = bk (6 + k)) ∧ (∀ k, k < 30 → w.2.2.2.2.2.2.2 k = bk (12 + k))
def Ow (B : Nat) (w : WT) : Prop :=
  (∃ d, d < 365 ∧ w.1 = nI d) ∧ (∃ h, h < 24 ∧ w.2.1 = nI h) ∧ (∃ y, y < 100 ∧ w.2.2.1 = nI y) ∧ (∃ k, k < 365 ∧ w.2.2.2.2.1 = nI k) ∧ (∃ s, s ≤ 30 ∧ w.2.2.2.1 = nI s ∧ ∀ k, k < 6 → w.2.2.2.2.2.1 k = -6 ∨ ∃ a, a < s ∧ w.2.2.2.2.2.1 k = nI a) ∧ (∀ k, k < 30 → ∃ a, a ≤ B ∧ w.2.2.2.2.2.2.2 k = nI a)
def Rs (g : SGT) (n : Int32) (st : Nat → Int32) : Prop :=
  g.1 = n ∧ ∃ c, c ≤ 8 ∧ n = nI c ∧ ∀ j, j < c → (∃ a, a < 100 ∧ g.2.1 j = nI a) ∧ g.2.1 j = st (2 * j) ∧ g.2.2 j = st (2 * j + 1) ∧ (g.2.2 j = 0 ∨ g.2.2 j = 1)
def Rp (p : PDT) (n : Int32) (pd : Nat → Int32) : Prop :=
  p.1 = n ∧ ∃ c, c ≤ 60 ∧ n = nI c ∧ ∀ j, j < c → p.2 j = pd j ∧ ∃ a, 33 ≤ a ∧ a ≤ 126 ∧ pd j = nI a
def Ri (B : Nat) (im : IMT) (kept : Int32) (img : Nat → Int32) (off : Nat) : Prop :=
  im.2.2 = kept ∧ (kept = 0 ∨ kept = 1) ∧ (kept = 1 → Rw im.1 (img (off + 62)) (img (off + 63)) (fun k => img (off + k)) ∧ Ow B im.1 ∧ Rs im.2.1 (img (off + 64)) (fun k => img (off + 45 + k)))
def Inv (n : Nat) (X : XT) (M : MT) : Prop :=
  Rw X.1 M.2.2.1 M.2.2.2.1 M.1 ∧ Ow (540 * n) X.1 ∧ Rs X.2.1 M.2.2.2.2.1 M.2.2.2.2.2.1 ∧ Rp X.2.2.1 M.2.2.2.2.2.2.1 M.2.2.2.2.2.2.2.1 ∧ Ri (540 * n) X.2.2.2.2.1 (M.2.2.2.2.2.2.2.2.2.2.2.2.2.2.2.2.2.2.2 0) M.2.2.2.2.2.2.2.2.2.2.2.2.2.2.2.2.2.2.1 0 ∧ Ri (540 * n) X.2.2.2.2.2 (M.2.2.2.2.2.2.2.2.2.2.2.2.2.2.2.2.2.2.2 1) M.2.2.2.2.2.2.2.2.2.2.2.2.2.2.2.2.2.2.1 70 ∧ M.2.2.2.2.2.2.2.2.2.2.2.2.2.2.2.2.1 0 = 0
theorem Ow.mono {B C : Nat} {w : WT} (h : Ow B w) (hBC : B ≤ C) : Ow C w := by
  obtain ⟨h1, h2, h3, h4, h5, h6⟩ := h
  exact ⟨h1, h2, h3, h4, h5, fun k hk => by obtain ⟨a, h, e⟩ := h6 k hk; exact ⟨a, by omega, e⟩⟩
theorem Ri.mono {B C : Nat} {im : IMT} {kept : Int32} {img : Nat → Int32} {off : Nat} (h : Ri B im kept img off) (hBC : B ≤ C) : Ri C im kept img off := ⟨h.1, h.2.1, fun q => ⟨(h.2.2 q).1, (h.2.2 q).2.1.mono hBC, (h.2.2 q).2.2⟩⟩
theorem Inv.up {n : Nat} {X : XT} {M : MT} (h : Inv n X M) : Inv (n + 1) X M := ⟨h.1, h.2.1.mono (by omega), h.2.2.1, h.2.2.2.1, h.2.2.2.2.1.mono (by omega), h.2.2.2.2.2.1.mono (by omega), h.2.2.2.2.2.2⟩
/-- who is within by the class, and by the reference, are the same -/
theorem wb_eq {B : Nat} {w : WT} {sh kn : Int32} {bk : Nat → Int32} (hR : Rw w sh kn bk) (hO : Ow B w) : wbS (fun k => decide (¬ w.2.2.2.2.2.1 k = -6)) 6 = wbS (fun k => decide (¬ bk k < 0)) 6 := by
  refine wbS_cong (fun k hk => ?_)
  obtain ⟨s, hs, -, hp⟩ := hO.2.2.2.2.1
  rw [← hR.2.2.2.2.2.1 k hk]
  rcases hp k hk with e | ⟨a, ha, e⟩
  · rw [e]; decide
  · rw [e]
    have h1 : ¬ nI a = -6 := nI_nm (k := 6) (by omega) (by decide) (by decide)
    have h2 : ¬ nI a < 0 := nI_pos (by omega)
    simp [h1, h2]
theorem sm_eq {w : WT} {sh kn : Int32} {bk : Nat → Int32} (hR : Rw w sh kn bk) : smS w.2.2.2.2.2.2.2 30 = smS (fun k => bk (12 + k)) 30 := smS_cong (fun k hk => hR.2.2.2.2.2.2.2 k hk)
