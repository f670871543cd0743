/-! ===== PURE 17: whether they knelt, exactly ===== -/
def lJ (n : Nat) : Int64 := Int64.ofNat n
theorem lJ_add (a b : Nat) : lJ a + lJ b = lJ (a + b) := (Int64.ofNat_add a b).symm
theorem lJ_mul (a b : Nat) : lJ a * lJ b = lJ (a * b) := (Int64.ofNat_mul a b).symm
theorem lJ_toInt {a : Nat} (h : a < 2 ^ 63) : (lJ a).toInt = a := Int64.toInt_ofNat_of_lt h
theorem lJ_inj {a b : Nat} (ha : a < 2 ^ 63) (hb : b < 2 ^ 63) (h : lJ a = lJ b) : a = b := by
  have := congrArg Int64.toInt h
  rw [lJ_toInt ha, lJ_toInt hb] at this
  omega
theorem lJ_ne0 {a : Nat} (ha : a < 2 ^ 63) (h : a ≠ 0) : ¬ lJ a = 0 := fun z => h (lJ_inj (b := 0) ha (by decide) z)
theorem lJ_div {a b : Nat} (ha : a < 2 ^ 63) (hb : b < 2 ^ 63) : lJ a / lJ b = lJ (a / b) := by
  have hd : a / b ≤ a := Nat.div_le_self a b
  apply Int64.toInt_inj.mp
  rw [Int64.toInt_div, lJ_toInt ha, lJ_toInt hb, lJ_toInt (by omega), Int.tdiv_eq_ediv_of_nonneg (by omega), show ((a : Int) / (b : Int)) = ((a / b : Nat) : Int) from (Int.natCast_ediv a b).symm]
  generalize a / b = q at *
  apply Int.bmod_eq_of_le <;> omega
theorem lJ_rem {a b : Nat} (ha : a < 2 ^ 63) (hb : b < 2 ^ 63) : lJ a - lJ a / lJ b * lJ b = lJ (a % b) := by
  rw [lJ_div ha hb, lJ_mul]
  have e : lJ a = lJ (a / b * b) + lJ (a % b) := by
    rw [lJ_add]
    exact congrArg lJ (Nat.div_add_mod' a b).symm
  rw [e]
  generalize lJ (a / b * b) = x
  generalize lJ (a % b) = y
  grind
theorem i2j {a : Nat} (ha : a < 2 ^ 31) : (nI a).toInt64 = lJ a := by
  apply Int64.toInt_inj.mp
  rw [Int32.toInt_toInt64, nI_toInt ha, lJ_toInt (by omega)]
theorem cmp_0 : lg_cmp (lJ 0) 0 = 0 := by decide
theorem cmp_n {a : Nat} (ha : a < 2 ^ 63) (h : a ≠ 0) : ¬ lg_cmp (lJ a) 0 = 0 ∧ 0 < lg_cmp (lJ a) 0 := by
  have h1 : ¬ lJ a = 0 := lJ_ne0 ha h
  have h3 : 0 < lJ a := by
    rw [Int64.lt_iff_toInt_lt, lJ_toInt ha, show (0 : Int64).toInt = 0 from rfl]
    omega
  unfold lg_cmp
  simp [h1, h3]
/-! the common divisor -/
def gcS : Nat → Nat → Nat → Nat
  | 0, a, _ => a
  | f + 1, a, b => if b = 0 then a else gcS f b (a % b)
def enS : Nat → Nat → Nat → Bool
  | 0, _, b => decide (b = 0)
  | f + 1, a, b => if b = 0 then true else enS f b (a % b)
theorem gcS_pos : ∀ f a b, (0 < a ∨ 0 < b) → (b = 0 → 0 < a) → enS f a b = true → 0 < gcS f a b
  | 0, a, b, _, h, e => by
    rw [enS] at e
    rw [gcS]
    exact h (of_decide_eq_true e)
  | f + 1, a, b, h, h2, e => by
    rw [gcS]
    rw [enS] at e
    by_cases hb : b = 0
    · rw [if_pos hb]; exact h2 hb
    · rw [if_neg hb] at e ⊢
      exact gcS_pos f b (a % b) (Or.inl (by omega)) (fun _ => by omega) e
theorem gcS_lt : ∀ f a b, a < 2 ^ 63 → b < 2 ^ 63 → gcS f a b < 2 ^ 63
  | 0, _, _, h, _ => h
  | f + 1, a, b, h, h2 => by
    rw [gcS]
    by_cases hb : b = 0
    · rw [if_pos hb]; exact h
    · rw [if_neg hb]
      exact gcS_lt f b (a % b) h2 (Nat.lt_of_le_of_lt (Nat.mod_le a b) h)
def fiP : Nat → Nat × Nat
  | 0 => (1, 2)
  | n + 1 => ((fiP n).2, (fiP n).1 + (fiP n).2)
theorem en_fib : ∀ f, (∀ a b, b < a → b < (fiP f).1 → enS f a b = true) ∧ (∀ a b, b < a → b < (fiP (f + 1)).1 → enS (f + 1) a b = true) := by
  intro f
  induction f with
  | zero =>
    refine ⟨fun a b _ hb => ?_, fun a b hab hb => ?_⟩
    · exact decide_eq_true (show b = 0 by change b < 1 at hb; omega)
    · change b < 2 at hb
      rw [enS]
      by_cases h0 : b = 0
      · rw [if_pos h0]
      · rw [if_neg h0]
        have : b = 1 := by omega
        subst this
        exact decide_eq_true (Nat.mod_one a)
  | succ f ih =>
    refine ⟨ih.2, fun a b hab hb => ?_⟩
    have e2 : (fiP (f + 1 + 1)).1 = (fiP f).1 + (fiP (f + 1)).1 := rfl
    rw [e2] at hb
    rw [enS]
    by_cases h0 : b = 0
    · rw [if_pos h0]
    · rw [if_neg h0]
      have hr : a % b < b := Nat.mod_lt a (by omega)
      by_cases h1 : a % b < (fiP (f + 1)).1
      · exact ih.2 b (a % b) hr h1
      · generalize a % b = r at *
        rw [enS]
        by_cases h2 : r = 0
        · rw [if_pos h2]
        · rw [if_neg h2]
          have hs : b % r < r := Nat.mod_lt b (by omega)
          refine ih.1 r (b % r) hs ?_
          have : b % r + r ≤ b := by
            have := Nat.mod_add_div b r
            have h3 : 1 ≤ b / r := (Nat.le_div_iff_mul_le (by omega)).mpr (by omega)
            have h4 : r * 1 ≤ r * (b / r) := Nat.mul_le_mul_left r h3
            omega
          omega
theorem fi99 : 10000000000000000 < (fiP 99).1 := by decide +kernel
theorem en_100 {a b : Nat} (hb : b ≤ 10000000000000000) : enS 100 a b = true := by
  rw [enS]
  by_cases h0 : b = 0
  · rw [if_pos h0]
  · rw [if_neg h0]
    have hr : a % b < b := Nat.mod_lt a (by omega)
    exact (en_fib 99).1 b (a % b) hr (Nat.lt_of_lt_of_le (Nat.lt_of_lt_of_le hr hb) (Nat.le_of_lt fi99))
theorem cdv6 {a b : Nat} (ha : a < 2 ^ 63) (hb : b < 2 ^ 63) {post : Int64 → Prop} (h : post (lJ (gcS 100 a b))) : pX6_commonDivisor (lJ a) (lJ b) post := by
  have key : ∀ f i x y, i + f = 100 → x < 2 ^ 63 → y < 2 ^ 63 → post (lJ (gcS f x y)) → pX6_commonDivisor_b9 (lJ a) (lJ b) post (f + 1) (lJ x) (lJ y) (nI i) := by
    intro f
    induction f with
    | zero =>
      intro i x y hi _ _ hp
      have e : i = 100 := by omega
      subst e
      exact ⟨fun _ => hp, fun z => absurd (Int32.le_refl _) z⟩
    | succ f ih =>
      intro i x y hi hx hy hp
      have c1 : ¬ (100 : Int32) ≤ nI i := nI_ge (b := 100) (by omega) (by decide)
      refine ⟨fun z => absurd z c1, fun _ => ?_⟩
      rw [gcS] at hp
      by_cases h0 : y = 0
      · rw [if_pos h0] at hp
        subst h0
        exact ⟨fun _ => hp, fun z => absurd cmp_0 z⟩
      · rw [if_neg h0] at hp
        refine ⟨fun z => absurd z (cmp_n hy h0).1, fun _ => ⟨lJ_ne0 hy h0, fun v ev v2 ev2 => ?_⟩⟩
        rw [lJ_rem hx hy] at ev
        rw [ev, ev2, nI_1]
        exact ih (i + 1) y (x % y) (by omega) hy (Nat.lt_of_le_of_lt (Nat.mod_le x y) hx) hp
  exact ⟨101, key 100 0 a b (by omega) ha hb h⟩
theorem low7 {a b : Nat} (ha : a < 2 ^ 63) (hb : b ≤ 10000000000000000) (h0 : 0 < b) (a3 : Int32) {post : Int64 → Prop} (h1 : ¬ a3 = 0 → post (lJ b / lJ (gcS 100 a b))) (h2 : a3 = 0 → post (lJ a / lJ (gcS 100 a b))) : pX7_lowest (lJ a) (lJ b) a3 post := by
  have gp : 0 < gcS 100 a b := gcS_pos 100 a b (Or.inr h0) (fun z => absurd h0 (by omega)) (en_100 hb)
  have gl : gcS 100 a b < 2 ^ 63 := gcS_lt 100 a b ha (by omega)
  have gn : ¬ lJ (gcS 100 a b) = 0 := lJ_ne0 gl (by omega)
  have key : ∀ f x y, x < 2 ^ 63 → y < 2 ^ 63 → enS f x y = true → gcS f x y = gcS 100 a b → pX7_lowest_b6 (lJ a) (lJ b) a3 post (f + 1) (lJ x) (lJ y) := by
    intro f
    induction f with
    | zero =>
      intro x y hx hy he hg
      rw [enS] at he
      have e : y = 0 := of_decide_eq_true he
      subst e
      rw [gcS] at hg
      rw [hg]
      exact ⟨fun _ => ⟨fun z => ⟨gn, h1 z⟩, fun z => ⟨gn, h2 z⟩⟩, fun z => absurd cmp_0 z⟩
    | succ f ih =>
      intro x y hx hy he hg
      rw [enS] at he
      rw [gcS] at hg
      by_cases h0 : y = 0
      · subst h0
        rw [if_pos rfl] at hg
        rw [hg]
        exact ⟨fun _ => ⟨fun z => ⟨gn, h1 z⟩, fun z => ⟨gn, h2 z⟩⟩, fun z => absurd cmp_0 z⟩
      · rw [if_neg h0] at hg he
        refine ⟨fun z => absurd z (cmp_n hy h0).1, fun _ => ⟨lJ_ne0 hy h0, fun v ev => ?_⟩⟩
        rw [lJ_rem hx hy] at ev
        rw [ev]
        exact ih y (x % y) hy (Nat.lt_of_le_of_lt (Nat.mod_le x y) hx) he hg
  exact ⟨101, key 100 a b ha (by omega) (en_100 hb) rfl⟩
/-! the class's ways -/
theorem pow6 {b e : Nat} (hb : b < 2 ^ 31) (he : e < 2 ^ 31) {post : Int64 → Prop} (h : post (lJ (b ^ e))) : pX6_power (nI b) (nI e) post := by
  have key : ∀ d k, k + d = e → pX6_power_b5 (nI b) (nI e) post (d + 1) (lJ (b ^ k)) (nI k) := by
    intro d
    induction d with
    | zero =>
      intro k hk
      have e : k = e := by omega
      subst e
      exact ⟨fun _ => h, fun z => absurd (Int32.le_refl _) z⟩
    | succ d ih =>
      intro k hk
      have c1 : ¬ nI e ≤ nI k := nI_ge (by omega) he
      refine ⟨fun z => absurd z c1, fun _ v ev v2 ev2 => ?_⟩
      rw [i2j hb, lJ_mul, ← Nat.pow_succ] at ev
      rw [ev, ev2, nI_1]
      exact ih (k + 1) (by omega)
  exact ⟨e + 1, key e 0 (by omega)⟩
def chS (n k : Nat) : Nat → Nat
  | 0 => 1
  | i + 1 => chS n k i * (n - k + (i + 1)) / (i + 1)
theorem chS_lt : ∀ n, n < 17 → ∀ k, k < 17 → ∀ i, i < 17 → chS n k i * (n - k + (i + 1)) < 2 ^ 63 := by decide +kernel
theorem ch6 {n k : Nat} (hn : n ≤ 16) (hk : k ≤ n) {post : Int64 → Prop} (h : post (lJ (chS n k k))) : pX6_choices (nI n) (nI k) post := by
  have key : ∀ d i, i + d = k → pX6_choices_b5 (nI n) (nI k) post (d + 1) (lJ (chS n k i)) (nI (i + 1)) := by
    intro d
    induction d with
    | zero =>
      intro i hi
      have e : i = k := by omega
      subst e
      exact ⟨fun _ => h, fun z => absurd (nI_lt (by omega) (by omega)) z⟩
    | succ d ih =>
      intro i hi
      have c1 : ¬ nI k < nI (i + 1) := nI_nlt (by omega) (by omega)
      have hb := chS_lt n (by omega) k (by omega) i (by omega)
      refine ⟨fun z => absurd z c1, fun _ => ?_⟩
      rw [pk_sub hk, nI_add, i2j (by omega), i2j (by omega), lJ_mul, lJ_div hb (by omega)]
      refine ⟨lJ_ne0 (by omega) (by omega), fun v ev v2 ev2 => ?_⟩
      rw [ev, ev2, nI_1]
      exact ih (i + 1) (by omega)
  exact ⟨k + 1, key k 0 (by omega)⟩
def trm (n t k : Nat) : Nat := chS n k k * t ^ k * (10 - t) ^ (n - k)
def wy (n t : Nat) : Nat → Nat → Nat
  | 0, _ => 0
  | d + 1, k => trm n t k + wy n t d (k + 1)
theorem wy6 {n t k : Nat} (hn : n ≤ 16) (ht : t ≤ 10) (hk : k ≤ n) {post : Int64 → Prop} (h : post (lJ (wy n t (n + 1 - k) k))) : pX6_waysToKneel (nI n) (nI k) (nI t) post := by
  have key : ∀ d i acc, i + d = n + 1 → post (lJ (acc + wy n t d i)) → pX6_waysToKneel_b5 (nI n) (nI k) (nI t) post (d + 1) (lJ acc) (nI i) := by
    intro d
    induction d with
    | zero =>
      intro i acc hi hp
      exact ⟨fun _ => hp, fun z => absurd (nI_lt (by omega) (by omega)) z⟩
    | succ d ih =>
      intro i acc hi hp
      have c1 : ¬ nI n < nI i := nI_nlt (by omega) (by omega)
      rw [wy, ← Nat.add_assoc] at hp
      refine ⟨fun z => absurd z c1, fun _ => ch6 hn (by omega) (pow6 (by omega) (by omega) ?_)⟩
      rw [show (10 : Int32) - nI t = nI (10 - t) from pk_sub (a := 10) ht, pk_sub (show i ≤ n by omega)]
      refine pow6 (by omega) (by omega) (fun v ev v2 ev2 => ?_)
      rw [lJ_mul, lJ_mul, lJ_add] at ev
      rw [ev, ev2, nI_1]
      exact ih (i + 1) _ (by omega) hp
  exact ⟨n + 1 - k + 1, key (n + 1 - k) k 0 (by omega) (by rw [Nat.zero_add]; exact h)⟩
/-! the reference's ways -/
def dpF (n t j : Nat) : Nat := if j ≤ n then trm n t j else 0
theorem dp_s : ∀ n, n < 16 → ∀ t, t < 11 → ∀ j, j < 18 → dpF (n + 1) t j = dpF n t j * (10 - t) + (if j = 0 then 0 else dpF n t (j - 1) * t) := by decide +kernel
theorem wy_le : ∀ n, n < 17 → ∀ t, t < 11 → wy n t (n + 1) 0 ≤ 10000000000000000 := by decide +kernel
