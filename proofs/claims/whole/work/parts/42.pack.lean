/-! ===== PURE 16: packing ===== -/
theorem rem_neg {x : Int32} (h : x ≤ 0) : ¬ 0 < x - x / 10 * 10 := by
  have hx : x.toInt ≤ 0 := by
    have := Int32.le_iff_toInt_le.mp h
    simpa using this
  have lo := Int32.le_toInt x
  obtain ⟨k, hk⟩ : ∃ k : Nat, x.toInt = -(k : Int) := ⟨x.toInt.natAbs, by omega⟩
  have hkb : k ≤ 2147483648 := by omega
  have e1 : (x / 10).toInt = -((k / 10 : Nat) : Int) := by
    rw [Int32.toInt_div, hk, show (10 : Int32).toInt = 10 from rfl, Int.neg_tdiv, Int.tdiv_eq_ediv_of_nonneg (by omega), show ((k : Int) / 10) = ((k / 10 : Nat) : Int) from by omega]
    apply Int.bmod_eq_of_le <;> omega
  have e2 : (x / 10 * 10).toInt = -((k / 10 : Nat) : Int) * 10 := by
    rw [Int32.toInt_mul, e1, show (10 : Int32).toInt = 10 from rfl]
    apply Int.bmod_eq_of_le <;> omega
  have e3 : (x - x / 10 * 10).toInt = -(k : Int) - -((k / 10 : Nat) : Int) * 10 := by
    rw [Int32.toInt_sub, e2, hk]
    apply Int.bmod_eq_of_le <;> omega
  rw [Int32.lt_iff_toInt_lt, e3, show (0 : Int32).toInt = 0 from rfl]
  omega
def rowOk : Nat → Nat → Bool
  | 0, p => decide (p = 0)
  | n + 1, p => decide (¬ p % 10 = 0) && rowOk n (p / 10)
theorem row6 {p n : Nat} (hp : p < 2 ^ 31) (hn : n ≤ 9) {post : Int32 → Prop} (h : post (b2i (rowOk n p))) : pX6_isRow (nI p) (nI n) post := by
  have key : ∀ d k q, k + d = n → q < 2 ^ 31 → post (b2i (rowOk d q)) → pX6_isRow_b4 (nI p) (nI n) post (d + 1) (nI q) (nI k) := by
    intro d
    induction d with
    | zero =>
      intro k q hk hq hp
      have e : k = n := by omega
      subst e
      refine ⟨fun _ => ?_, fun z => absurd (Int32.le_refl _) z⟩
      rw [rowOk] at hp
      by_cases hz : q = 0
      · rw [decide_eq_true hz] at hp; exact ⟨fun z => absurd (by rw [hz]; rfl) z, fun _ => hp⟩
      · rw [decide_eq_false hz] at hp; exact ⟨fun _ => hp, fun z => absurd z (nI_ne0 (by omega) hq)⟩
    | succ d ih =>
      intro k q hk hq hp
      have c1 : ¬ nI n ≤ nI k := nI_ge (by omega) (by omega)
      refine ⟨fun z => absurd z c1, fun _ => ?_⟩
      rw [show nI q - nI q / 10 * 10 = nI (q % 10) from pk_rem (d := 10) hq (by decide) (by decide), show nI q / 10 = nI (q / 10) from pk_div (d := 10) hq (by decide) (by decide)]
      rw [rowOk] at hp
      by_cases hz : q % 10 = 0
      · rw [decide_eq_false (fun z => z hz), Bool.false_and] at hp
        rw [hz]
        exact ⟨fun z => absurd z (by decide), fun _ => hp⟩
      · rw [decide_eq_true hz, Bool.true_and] at hp
        refine ⟨fun _ v ev v2 ev2 => ?_, fun z => absurd (nI_lt (a := 0) (by omega) (by omega)) z⟩
        rw [ev, ev2, nI_1]
        exact ih (k + 1) (q / 10) (by omega) (by omega) hp
  exact ⟨n + 1, key n 0 p (by omega) hp h⟩
theorem row6n {x : Int32} {n : Nat} (hx : x ≤ 0) (hn : n ≤ 9) (hn1 : 1 ≤ n) {post : Int32 → Prop} (h : post 0) : pX6_isRow x (nI n) post := by
  refine ⟨1, fun z => absurd z (nI_ge (a := 0) (by omega) (by omega)), fun _ => ⟨fun z => absurd z (rem_neg hx), fun _ => h⟩⟩
def btf (x : Int32) (k : Nat) : Bool := decide (((x >>> (nI k &&& 31)) &&& 1) = 1)
def scs (b : Nat → Bool) : Nat → Nat → Nat
  | 0, _ => 0
  | i + 1, p => (if b i then p % 10 else 0) + scs b i (p / 10)
theorem scs_le (b : Nat → Bool) : ∀ i p, scs b i p ≤ 9 * i
  | 0, _ => Nat.le_refl _
  | i + 1, p => by
    rw [scs]
    have := scs_le b i (p / 10)
    split <;> omega
theorem dec1 {i : Nat} : nI (i + 1) - 1 = nI i := by rw [← nI_1]; generalize nI i = z; grind
theorem soc6 {p n : Nat} (hp : p < 2 ^ 31) (hn : n ≤ 9) (x : Int32) {post : Int32 → Prop} (h : post (nI (scs (btf x) n p))) : pX6_sumOfChosen (nI p) (nI n) x post := by
  intro v ev
  have key : ∀ i q acc, i ≤ 9 → q < 2 ^ 31 → post (nI (acc + scs (btf x) i q)) → pX6_sumOfChosen_b10 (nI p) (nI n) x post (i + 1) (nI acc) (nI q) (nI i - 1) := by
    intro i
    induction i with
    | zero =>
      intro q acc _ _ hp
      exact ⟨fun _ => hp, fun z => absurd (show nI 0 - 1 < 0 by decide) z⟩
    | succ i ih =>
      intro q acc hi hq hp
      rw [dec1]
      refine ⟨fun z => absurd z (nI_pos (by omega)), fun _ => ?_⟩
      have dm : ∀ w : Int32, w = nI i + -1 → w = nI i - 1 := fun w e => by rw [e]; generalize nI i = z; grind
      have dv : nI q / 10 = nI (q / 10) := pk_div (d := 10) hq (by decide) (by decide)
      rw [scs] at hp
      by_cases hb : ((x >>> (nI i &&& 31)) &&& 1) = 1
      · rw [if_pos (show btf x i = true from decide_eq_true hb), ← Nat.add_assoc] at hp
        refine ⟨fun z => absurd hb z, fun _ v3 e3 v1 e1 v2 e2 => ?_⟩
        rw [show nI q - nI q / 10 * 10 = nI (q % 10) from pk_rem (d := 10) hq (by decide) (by decide), nI_add] at e3
        rw [e3, e1, dm v2 e2, dv]
        exact ih _ _ (by omega) (by omega) hp
      · rw [if_neg (show ¬ btf x i = true from fun z => hb (of_decide_eq_true z)), Nat.zero_add] at hp
        refine ⟨fun _ v1 e1 v2 e2 => ?_, fun z => absurd z hb⟩
        rw [e1, dm v2 e2, dv]
        exact ih _ _ (by omega) (by omega) hp
  refine ⟨n + 1, ?_⟩
  rw [ev]
  exact key n p 0 hn hp (by rw [Nat.zero_add]; exact h)
def dg : Nat → Nat → Nat
  | 0, p => p % 10
  | j + 1, p => dg j (p / 10)
def srf (b : Nat → Bool) (f : Nat → Nat) : Nat → Nat
  | 0 => 0
  | k + 1 => srf b f k + (if b k then f k else 0)
theorem srf_cong {b : Nat → Bool} {f g : Nat → Nat} : ∀ {n : Nat}, (∀ k, k < n → f k = g k) → srf b f n = srf b g n
  | 0, _ => rfl
  | n + 1, h => by rw [srf, srf, srf_cong (fun k hk => h k (by omega)), h n (by omega)]
theorem scs_srf (b : Nat → Bool) : ∀ n p, scs b n p = srf b (fun k => dg (n - 1 - k) p) n
  | 0, _ => rfl
  | n + 1, p => by
    rw [scs, srf, scs_srf b n (p / 10), show n + 1 - 1 - n = 0 by omega, dg]
    rw [srf_cong (f := fun k => dg (n - 1 - k) (p / 10)) (g := fun k => dg (n + 1 - 1 - k) p) (fun k hk => by
      show dg (n - 1 - k) (p / 10) = dg (n + 1 - 1 - k) p
      rw [show n + 1 - 1 - k = (n - 1 - k) + 1 by omega, dg])]
    omega
theorem srf_le (b : Nat → Bool) (f : Nat → Nat) (hf : ∀ k, f k ≤ 9) : ∀ n, srf b f n ≤ 9 * n
  | 0 => Nat.le_refl _
  | n + 1 => by
    rw [srf]
    have := srf_le b f hf n
    have := hf n
    split <;> omega
theorem dg_le : ∀ j p, dg j p ≤ 9
  | 0, p => by rw [dg]; omega
  | j + 1, p => by rw [dg]; exact dg_le j _
theorem has7 (x : Int32) (k : Nat) {post : Int32 → Prop} (h : post (b2i (btf x k))) : pX7_has x (nI k) post := by
  unfold btf at h
  by_cases hb : ((x >>> (nI k &&& 31)) &&& 1) = 1
  · rw [decide_eq_true hb] at h; exact ⟨fun z => absurd hb z, fun _ => h⟩
  · rw [decide_eq_false hb] at h; exact ⟨fun _ => h, fun z => absurd z hb⟩
/-- the rows' digits, by the reference -/
theorem rows7 {a1 a2 a3 a4 a5 : Int32} : ∀ (n p q : Nat) (tk wo : Nat → Int32), n ≤ 9 → p < 2 ^ 31 → q < 2 ^ 31 →
    ∃ tk' wo' : Nat → Int32, (∀ k, n ≤ k → tk' k = tk k ∧ wo' k = wo k) ∧ ((rowOk n p && rowOk n q) = true → ∀ k, k < n → tk' k = nI (dg (n - 1 - k) p) ∧ wo' k = nI (dg (n - 1 - k) q)) ∧
      (∀ post : Int32 → ((Nat → Int32) × (Nat → Int32)) → Prop, ((rowOk n p && rowOk n q) = true → ∃ n1, pX7_pack_b165 a1 a2 a3 a4 a5 post n1 0 0 1 tk' wo') → (¬ (rowOk n p && rowOk n q) = true → post (-2) (tk', wo')) → ∀ f, n + 2 ≤ f → pX7_pack_b57 a1 a2 a3 a4 a5 post f 1 (nI p) (nI q) (nI n - 1) tk wo) := by
  intro n
  induction n with
  | zero =>
    intro p q tk wo _ hp hq
    refine ⟨tk, wo, fun k _ => ⟨rfl, rfl⟩, fun _ k hk => absurd hk (Nat.not_lt_zero k), fun post h1 h2 f hf => ?_⟩
    obtain ⟨f, rfl⟩ : ∃ g, f = g + 1 := ⟨f - 1, by omega⟩
    refine ⟨fun _ => ⟨fun z => absurd z (by decide), fun _ => ⟨fun z => h2 (fun w => z ?_), fun z => ⟨fun z2 => h1 ?_, fun z2 => h2 (fun w => z2 ?_)⟩⟩⟩, fun z => absurd (show nI 0 - 1 < 0 by decide) z⟩
    · rw [rowOk, rowOk, Bool.and_eq_true] at w
      rw [of_decide_eq_true w.1]; rfl
    · rw [rowOk, rowOk, Bool.and_eq_true]
      exact ⟨decide_eq_true ((nI_eq (b := 0) hp (by decide)).mp z), decide_eq_true ((nI_eq (b := 0) hq (by decide)).mp z2)⟩
    · rw [rowOk, rowOk, Bool.and_eq_true] at w
      rw [of_decide_eq_true w.2]; rfl
  | succ n ih =>
    intro p q tk wo hn hp hq
    have dvp : nI p / 10 = nI (p / 10) := pk_div (d := 10) hp (by decide) (by decide)
    have dvq : nI q / 10 = nI (q / 10) := pk_div (d := 10) hq (by decide) (by decide)
    have rmp : nI p - nI p / 10 * 10 = nI (p % 10) := pk_rem (d := 10) hp (by decide) (by decide)
    have rmq : nI q - nI q / 10 * 10 = nI (q % 10) := pk_rem (d := 10) hq (by decide) (by decide)
    have dm : ∀ w : Int32, w = nI n + -1 → w = nI n - 1 := fun w e => by rw [e]; generalize nI n = z; grind
    have v9 : vp_in (nI n) 9 := vp_in_nI (by omega) (by decide)
    obtain ⟨tk', wo', g1, g2, g3⟩ := ih (p / 10) (q / 10) (upd tk n (nI (p % 10))) (upd wo n (nI (q % 10))) (by omega) (by omega) (by omega)
    -- a digit is 0
    have zero : ∀ (post : Int32 → ((Nat → Int32) × (Nat → Int32)) → Prop) (f : Nat), n + 2 ≤ f → post (-2) (upd tk n (nI (p % 10)), upd wo n (nI (q % 10))) → pX7_pack_b115 a1 a2 a3 a4 a5 post (fun x6 x7 x8 x9 t_takes t_worths => pX7_pack_b57 a1 a2 a3 a4 a5 post f x6 x7 x8 x9 t_takes t_worths) (nI p) (nI q) (nI n) (upd tk n (nI (p % 10))) (upd wo n (nI (q % 10))) := by
      intro post f hf hp v1 e1 v2 e2 v3 e3
      obtain ⟨f, rfl⟩ : ∃ g, f = g + 1 := ⟨f - 1, by omega⟩
      exact ⟨fun _ => ⟨fun _ => hp, fun z => absurd rfl z⟩, fun _ => ⟨fun _ => ⟨fun _ => hp, fun z => absurd rfl z⟩, fun z => absurd rfl z⟩⟩
    have enter : ∀ (post : Int32 → ((Nat → Int32) × (Nat → Int32)) → Prop) (f : Nat), ((p % 10 = 0 ∨ q % 10 = 0) → pX7_pack_b115 a1 a2 a3 a4 a5 post (fun x6 x7 x8 x9 t_takes t_worths => pX7_pack_b57 a1 a2 a3 a4 a5 post f x6 x7 x8 x9 t_takes t_worths) (nI p) (nI q) (nI n) (upd tk n (nI (p % 10))) (upd wo n (nI (q % 10)))) → (¬ p % 10 = 0 → ¬ q % 10 = 0 → pX7_pack_b57 a1 a2 a3 a4 a5 post f 1 (nI (p / 10)) (nI (q / 10)) (nI n - 1) (upd tk n (nI (p % 10))) (upd wo n (nI (q % 10)))) → pX7_pack_b57 a1 a2 a3 a4 a5 post (f + 1) 1 (nI p) (nI q) (nI (n + 1) - 1) tk wo := by
      intro post f h0 h1
      rw [dec1]
      refine ⟨fun z => absurd z (nI_pos (by omega)), fun _ => ⟨fun z => absurd z (by decide), fun _ v3 e3 => ?_⟩⟩
      rw [rmp] at e3
      rw [e3, nI_clamp (by omega)]
      refine ⟨v9, fun v5 e5 => ?_⟩
      rw [rmq] at e5
      rw [e5]
      refine ⟨v9, v9, fun z => ?_, fun z => ⟨v9, fun z2 => ?_, fun z2 => ?_⟩⟩
      · rw [pk_us] at z
        exact h0 (Or.inl ((nI_eq (b := 0) (by omega) (by decide)).mp (Int32.le_antisymm z (nI_pos' (by omega)))))
      · rw [pk_us] at z2
        exact h0 (Or.inr ((nI_eq (b := 0) (by omega) (by decide)).mp (Int32.le_antisymm z2 (nI_pos' (by omega)))))
      · rw [pk_us] at z z2
        intro v1 e1 v2 e2 v6 e6
        rw [e1, e2, dm v6 e6, dvp, dvq]
        exact h1 (fun w => z (by rw [w]; exact Int32.le_refl _)) (fun w => z2 (by rw [w]; exact Int32.le_refl _))
    by_cases hz : p % 10 = 0 ∨ q % 10 = 0
    · have no : ¬ (rowOk (n + 1) p && rowOk (n + 1) q) = true := by
        rw [rowOk, rowOk]
        rcases hz with z | z
        · rw [decide_eq_false (fun w : ¬ p % 10 = 0 => w z)]; simp
        · rw [decide_eq_false (fun w : ¬ q % 10 = 0 => w z)]; simp
      refine ⟨upd tk n (nI (p % 10)), upd wo n (nI (q % 10)), fun k hk => ⟨pk_un (by omega), pk_un (by omega)⟩, fun z => absurd z no, fun post _ h2 f hf => ?_⟩
      obtain ⟨f, rfl⟩ : ∃ g, f = g + 1 := ⟨f - 1, by omega⟩
      exact enter post f (fun _ => zero post f (by omega) (h2 no)) (fun w1 w2 => absurd hz (fun w => w.elim w1 w2))
    · have z1 : ¬ p % 10 = 0 := fun w => hz (Or.inl w)
      have z2 : ¬ q % 10 = 0 := fun w => hz (Or.inr w)
      have er : (rowOk (n + 1) p && rowOk (n + 1) q) = (rowOk n (p / 10) && rowOk n (q / 10)) := by
        rw [rowOk, rowOk, decide_eq_true z1, decide_eq_true z2, Bool.true_and, Bool.true_and]
      refine ⟨tk', wo', fun k hk => ?_, fun hr k hk => ?_, fun post h1 h2 f hf => ?_⟩
      · obtain ⟨w1, w2⟩ := g1 k (by omega)
        rw [w1, w2, pk_un (by omega), pk_un (by omega)]
        exact ⟨rfl, rfl⟩
      · by_cases hkn : k = n
        · subst hkn
          obtain ⟨w1, w2⟩ := g1 k (Nat.le_refl _)
          rw [w1, w2, pk_us, pk_us, show k + 1 - 1 - k = 0 by omega]
          exact ⟨rfl, rfl⟩
        · rw [er] at hr
          obtain ⟨w1, w2⟩ := g2 hr k (by omega)
          rw [w1, w2, show n + 1 - 1 - k = (n - 1 - k) + 1 by omega]
          exact ⟨rfl, rfl⟩
      · obtain ⟨f, rfl⟩ : ∃ g, f = g + 1 := ⟨f - 1, by omega⟩
        exact enter post f (fun w => absurd w hz) (fun _ _ => g3 post (fun w => h1 (by rw [er]; exact w)) (fun w => h2 (by rw [er]; exact w)) f (by omega))
theorem shl1 {n : Nat} (hn : n ≤ 9) : (1 : Int32) <<< (nI n &&& 31) = nI (2 ^ n) := by
  rcases (show n = 0 ∨ n = 1 ∨ n = 2 ∨ n = 3 ∨ n = 4 ∨ n = 5 ∨ n = 6 ∨ n = 7 ∨ n = 8 ∨ n = 9 by omega) with rfl | rfl | rfl | rfl | rfl | rfl | rfl | rfl | rfl | rfl <;> decide
/-- the choosing, jointly -/
theorem choose {n p q m : Nat} {tk wo : Nat → Int32} (hn : n ≤ 9) (hp : p < 2 ^ 31) (hq : q < 2 ^ 31) (hm : m ≤ 99) (ht : ∀ k, k < n → tk k = nI (dg (n - 1 - k) p) ∧ wo k = nI (dg (n - 1 - k) q)) (a5 : Int32) :
    ∀ (d x mo wh : Nat), x + d = 2 ^ n → mo ≤ 81 → ∃ Mo Wh : Nat,
      (∀ post : Int32 → Prop, (¬ a5 = 0 → post (nI Wh)) → (a5 = 0 → post (nI Mo)) → pX6_pack_b59 (nI p) (nI q) (nI n) (nI m) a5 post (d + 1) (nI mo) (nI wh) (nI x)) ∧
      (∀ post : Int32 → ((Nat → Int32) × (Nat → Int32)) → Prop, (¬ a5 = 0 → post (nI Wh) (tk, wo)) → (a5 = 0 → post (nI Mo) (tk, wo)) → pX7_pack_b165 (nI p) (nI q) (nI n) (nI m) a5 post (d + 1) (nI mo) (nI wh) (nI x) tk wo) := by
  have h512 : 2 ^ n ≤ 512 := Nat.pow_le_pow_right (n := 2) (i := n) (j := 9) (by decide) hn
  intro d
  induction d with
  | zero =>
    intro x mo wh hx hmo
    have e : x = 2 ^ n := by omega
    subst e
    refine ⟨mo, wh, fun post h1 h2 => ?_, fun post h1 h2 => ?_⟩
    · unfold pX6_pack_b59
      rw [shl1 hn]
      exact ⟨fun _ => ⟨h1, h2⟩, fun z => absurd (Int32.le_refl _) z⟩
    · unfold pX7_pack_b165
      rw [shl1 hn]
      exact ⟨fun _ => ⟨h1, h2⟩, fun z => absurd (Int32.le_refl _) z⟩
  | succ d ih =>
    intro x mo wh hx hmo
    have c1 : ¬ (1 : Int32) <<< (nI n &&& 31) ≤ nI x := by rw [shl1 hn]; exact nI_ge (by omega) (by omega)
    have sw := scs_le (btf (nI x)) n q
    have st := scs_le (btf (nI x)) n p
    -- the reference's sums
    have sums : ∀ (post : Int32 → ((Nat → Int32) × (Nat → Int32)) → Prop) (k165 : Int32 → Int32 → Int32 → (Nat → Int32) → (Nat → Int32) → Prop), (m < scs (btf (nI x)) n p ∨ scs (btf (nI x)) n q ≤ mo → k165 (nI mo) (nI wh) (nI (x + 1)) tk wo) → (¬ (m < scs (btf (nI x)) n p ∨ scs (btf (nI x)) n q ≤ mo) → k165 (nI (scs (btf (nI x)) n q)) (nI x) (nI (x + 1)) tk wo) → pX7_pack_b182 (nI p) (nI q) (nI n) (nI m) a5 post k165 (n + 1) (nI mo) (nI wh) (nI x) 0 0 0 tk wo := by
      intro post k165 hno hyes
      have key : ∀ e k, k + e = n → pX7_pack_b182 (nI p) (nI q) (nI n) (nI m) a5 post k165 (e + 1) (nI mo) (nI wh) (nI x) (nI (srf (btf (nI x)) (fun k => dg (n - 1 - k) p) k)) (nI (srf (btf (nI x)) (fun k => dg (n - 1 - k) q) k)) (nI k) tk wo := by
        intro e
        induction e with
        | zero =>
          intro k hk
          have ek : k = n := by omega
          subst ek
          rw [← scs_srf, ← scs_srf]
          have no : m < scs (btf (nI x)) k p ∨ scs (btf (nI x)) k q ≤ mo → pX7_pack_b264 (nI p) (nI q) (nI k) (nI m) a5 post k165 (nI mo) (nI wh) (nI x) (nI (scs (btf (nI x)) k q)) tk wo := fun w => ⟨fun _ => ⟨fun _ v ev => by rw [ev, nI_1]; exact hno w, fun z => absurd rfl z⟩, fun z => absurd rfl z⟩
          refine ⟨fun _ => ⟨fun z => no (Or.inl ((nI_ltI (by omega) (by omega)).mp z)), fun z => ⟨fun z2 => no (Or.inr ((nI_leI (by omega) (by omega)).mp z2)), fun z2 => ?_⟩⟩, fun z => absurd (Int32.le_refl _) z⟩
          have yes : ¬ (m < scs (btf (nI x)) k p ∨ scs (btf (nI x)) k q ≤ mo) := fun w => w.elim (fun w => z (nI_lt w (by omega))) (fun w => z2 (nI_le w (by omega)))
          exact ⟨fun z => absurd z (by decide), fun _ => ⟨fun z => absurd z (by decide), fun _ v ev => by rw [ev, nI_1]; exact hyes yes⟩⟩
        | succ e ih =>
          intro k hk
          have c2 : ¬ nI n ≤ nI k := nI_ge (by omega) (by omega)
          have v9 : vp_in (nI k) 9 := vp_in_nI (by omega) (by decide)
          obtain ⟨t1, t2⟩ := ht k (by omega)
          have nx := ih (k + 1) (by omega)
          rw [srf, srf] at nx
          refine ⟨fun z => absurd z c2, fun _ => has7 _ k ?_⟩
          rw [nI_clamp (by omega), t1]
          by_cases hb : btf (nI x) k = true
          · rw [hb, if_pos rfl, if_pos rfl] at nx
            rw [hb]
            refine ⟨fun z => absurd z (by decide), fun _ => ⟨v9, fun v1 e1 => has7 _ k ?_⟩⟩
            rw [hb]
            refine ⟨fun z => absurd z (by decide), fun _ => ⟨v9, fun v7 e7 v8 e8 => ?_⟩⟩
            rw [nI_add] at e1
            rw [nI_clamp (by omega), t2, nI_add] at e7
            rw [e1, e7, e8, nI_1]
            exact nx
          · have hb : btf (nI x) k = false := by simpa using hb
            rw [hb, if_neg (by decide), if_neg (by decide)] at nx
            rw [hb]
            refine ⟨fun _ v1 e1 => has7 _ k ?_, fun z => absurd rfl z⟩
            rw [hb]
            refine ⟨fun _ v7 e7 v8 e8 => ?_, fun z => absurd rfl z⟩
            rw [show ∀ z : Nat, nI z + 0 = nI (z + 0) from fun z => nI_add z 0] at e1 e7
            rw [e1, e7, e8, nI_1]
            exact nx
      exact key n 0 (by omega)
    by_cases hc : m < scs (btf (nI x)) n p ∨ scs (btf (nI x)) n q ≤ mo
    · obtain ⟨Mo, Wh, g1, g2⟩ := ih (x + 1) mo wh (by omega) hmo
      refine ⟨Mo, Wh, fun post h1 h2 => ?_, fun post h1 h2 => ?_⟩
      · refine ⟨fun z => absurd z c1, fun _ => soc6 hq hn _ ⟨fun _ v ev => ?_, fun z => soc6 hp hn _ ⟨fun _ v ev => ?_, fun z2 => ?_⟩⟩⟩
        · rw [ev, nI_1]; exact g1 post h1 h2
        · rw [ev, nI_1]; exact g1 post h1 h2
        · rcases hc with w | w
          · exact absurd (nI_lt w (by omega)) z2
          · exact absurd (nI_le w (by omega)) z
      · exact ⟨fun z => absurd z c1, fun _ => ⟨n + 1, sums post _ (fun _ => g2 post h1 h2) (fun w => absurd hc w)⟩⟩
    · obtain ⟨Mo, Wh, g1, g2⟩ := ih (x + 1) (scs (btf (nI x)) n q) x (by omega) (by omega)
      have w1 : ¬ m < scs (btf (nI x)) n p := fun w => hc (Or.inl w)
      have w2 : ¬ scs (btf (nI x)) n q ≤ mo := fun w => hc (Or.inr w)
      refine ⟨Mo, Wh, fun post h1 h2 => ?_, fun post h1 h2 => ?_⟩
      · refine ⟨fun z => absurd z c1, fun _ => soc6 hq hn _ ⟨fun z => absurd z (nI_ge (by omega) (by omega)), fun z => soc6 hp hn _ ⟨fun z2 => absurd z2 (nI_nlt (by omega) (by omega)), fun z2 v ev => ?_⟩⟩⟩
        rw [ev, nI_1]; exact g1 post h1 h2
      · exact ⟨fun z => absurd z c1, fun _ => ⟨n + 1, sums post _ (fun w => absurd w hc) (fun _ => g2 post h1 h2)⟩⟩
theorem pack43 (a1 a2 a3 a4 a5 : Int32) {post : Int32 → ((Nat → Int32) × (Nat → Int32)) → Prop} {tk wo : Nat → Int32} (h : post (-2) (tk, wo)) : pX7_pack_b43 a1 a2 a3 a4 a5 post tk wo := by
  intro v ev
  exact ⟨1, fun _ => ⟨fun _ => h, fun z => absurd rfl z⟩, fun _ => ⟨fun _ => ⟨fun _ => h, fun z => absurd rfl z⟩, fun z => absurd rfl z⟩⟩
theorem case14 {n : Nat} {xs : Nat → Int32} {i : Nat} {X : XT} {M : MT} {K : XT → MT → Prop} (hI : Inv n X M) (hK : ∀ X M, Inv (n + 1) X M → K X M) : lc14 xs i X M K := by
  obtain ⟨w, sg, pd, tl, i0, i1⟩ := X
  obtain ⟨bk, nw, sh, kn, sgs, sgt, sns, pad, mA, mW, rs, ac, hd, tk, wo, fi, wi, wy, im, ik⟩ := M
  obtain ⟨k1, k2, k3, k4, k5, k6, k7⟩ := Inv.up hI
  dsimp only at k1 k2 k3 k4 k5 k6 k7
  unfold lc14 pX6_pack
  dsimp only
  have ok : ∀ tk wo, K (w, sg, pd, tl, i0, i1) (bk, nw, sh, kn, sgs, sgt, sns, pad, mA, mW, rs, ac, hd, tk, wo, fi, wi, wy, im, ik) := fun tk wo => hK _ _ (inv_mk k1 k2 k3 k4 k5 k6 k7)
  have pos : ∀ x : Int32, ¬ x ≤ 0 → ∃ p, p < 2 ^ 31 ∧ x = nI p := fun x hx => nI_of (fun z => hx (Int32.le_of_lt z))
  rcases rng (xs (i + 3)) 1 9 with ⟨N, hN1, hN2, eN⟩ | hne
  · rw [eN]
    refine in6_t 1 9 N rfl hN1 hN2 (by decide) (b_e1 ?_)
    by_cases z1 : xs (i + 1) ≤ 0
    · exact row6n z1 hN2 hN1 (b_e0 (in7_t 1 9 N rfl hN1 hN2 (by decide) (b_e1 ⟨fun _ => pack43 _ _ _ _ _ ⟨rfl, ok _ _⟩, fun z => absurd z1 z⟩)))
    · obtain ⟨p, hp, ep⟩ := pos _ z1
      by_cases z2 : xs (i + 2) ≤ 0
      · have r7 : ∀ po : Int32 → ((Nat → Int32) × (Nat → Int32)) → Prop, po (-2) (tk, wo) → pX7_pack tk wo (xs (i + 1)) (xs (i + 2)) (nI N) (xs (i + 4)) (xs (i + 5)) po := fun po h => in7_t 1 9 N rfl hN1 hN2 (by decide) (b_e1 ⟨fun z => absurd z z1, fun _ => ⟨fun _ => pack43 _ _ _ _ _ h, fun z => absurd z2 z⟩⟩)
        rw [ep] at r7 ⊢
        refine row6 hp hN2 ?_
        cases rowOk N p with
        | false => exact b_e0 (r7 _ ⟨rfl, ok _ _⟩)
        | true => exact b_e1 (row6n z2 hN2 hN1 (b_e0 (r7 _ ⟨rfl, ok _ _⟩)))
      · obtain ⟨q, hq, eq⟩ := pos _ z2
        rcases rng (xs (i + 4)) 0 99 with ⟨m, hm1, hm2, em⟩ | hnm
        · rcases rng (xs (i + 5)) 0 1 with ⟨v, hv1, hv2, ev⟩ | hnv
          · obtain ⟨tk', wo', g1, g2, g3⟩ := rows7 (a1 := xs (i + 1)) (a2 := xs (i + 2)) (a3 := nI N) (a4 := xs (i + 4)) (a5 := xs (i + 5)) N p q tk wo hN2 hp hq
            have r7 : ∀ po : Int32 → ((Nat → Int32) × (Nat → Int32)) → Prop, ((rowOk N p && rowOk N q) = true → ∃ n1, pX7_pack_b165 (xs (i + 1)) (xs (i + 2)) (nI N) (xs (i + 4)) (xs (i + 5)) po n1 0 0 1 tk' wo') → (¬ (rowOk N p && rowOk N q) = true → po (-2) (tk', wo')) → pX7_pack tk wo (xs (i + 1)) (xs (i + 2)) (nI N) (xs (i + 4)) (xs (i + 5)) po := fun po h1 h2 => in7_t 1 9 N rfl hN1 hN2 (by decide) (b_e1 ⟨fun z => absurd z z1, fun _ => ⟨fun z => absurd z z2, fun _ => in7_t 0 99 m em hm1 hm2 (by decide) (b_e1 (in7_t 0 1 v ev hv1 hv2 (by decide) (b_e1 (fun v1 e1 => ⟨N + 2, by
              rw [e1]
              have := g3 po h1 h2 (N + 2) (by omega)
              rw [← ep, ← eq] at this
              exact this⟩))))⟩⟩)
            rw [ep, eq, em] at r7 ⊢
            refine row6 hp hN2 ?_
            cases h1 : rowOk N p with
            | false => exact b_e0 (r7 _ (fun z => absurd z (by rw [h1]; simp)) (fun _ => ⟨rfl, ok _ _⟩))
            | true =>
              refine b_e1 (row6 hq hN2 ?_)
              cases h2 : rowOk N q with
              | false => exact b_e0 (r7 _ (fun z => absurd z (by rw [h1, h2]; simp)) (fun _ => ⟨rfl, ok _ _⟩))
              | true =>
                have hr : (rowOk N p && rowOk N q) = true := by rw [h1, h2]; rfl
                refine b_e1 (in6_t 0 99 m rfl hm1 hm2 (by decide) (b_e1 (in6_t 0 1 v ev hv1 hv2 (by decide) (b_n1 ?_))))
                have hpow : 1 ≤ 2 ^ N := Nat.one_le_two_pow
                obtain ⟨Mo, Wh, c1, c2⟩ := choose (m := m) hN2 hp hq hm2 (g2 hr) (xs (i + 5)) (2 ^ N - 1) 1 0 0 (by omega) (by omega)
                exact ⟨_, c1 _ (fun z => r7 _ (fun _ => ⟨_, c2 _ (fun _ => ⟨rfl, ok _ _⟩) (fun w => absurd w z)⟩) (fun w => absurd hr w)) (fun z => r7 _ (fun _ => ⟨_, c2 _ (fun w => absurd z w) (fun _ => ⟨rfl, ok _ _⟩)⟩) (fun w => absurd hr w))⟩
          · have r7 : ∀ po : Int32 → ((Nat → Int32) × (Nat → Int32)) → Prop, po (-2) (tk, wo) → pX7_pack tk wo (xs (i + 1)) (xs (i + 2)) (nI N) (xs (i + 4)) (xs (i + 5)) po := fun po h => in7_t 1 9 N rfl hN1 hN2 (by decide) (b_e1 ⟨fun z => absurd z z1, fun _ => ⟨fun z => absurd z z2, fun _ => in7_t 0 99 m em hm1 hm2 (by decide) (b_e1 (in7_f 0 1 hnv (by decide) (by decide) (b_e0 (pack43 _ _ _ _ _ h))))⟩⟩)
            rw [ep, eq] at r7 ⊢
            refine row6 hp hN2 ?_
            cases rowOk N p with
            | false => exact b_e0 (r7 _ ⟨rfl, ok _ _⟩)
            | true =>
              refine b_e1 (row6 hq hN2 ?_)
              cases rowOk N q with
              | false => exact b_e0 (r7 _ ⟨rfl, ok _ _⟩)
              | true => exact b_e1 (in6_t 0 99 m em hm1 hm2 (by decide) (b_e1 (in6_f 0 1 hnv (by decide) (by decide) (b_n0 (r7 _ ⟨rfl, ok _ _⟩)))))
        · have r7 : ∀ po : Int32 → ((Nat → Int32) × (Nat → Int32)) → Prop, po (-2) (tk, wo) → pX7_pack tk wo (xs (i + 1)) (xs (i + 2)) (nI N) (xs (i + 4)) (xs (i + 5)) po := fun po h => in7_t 1 9 N rfl hN1 hN2 (by decide) (b_e1 ⟨fun z => absurd z z1, fun _ => ⟨fun z => absurd z z2, fun _ => in7_f 0 99 hnm (by decide) (by decide) (b_e0 (pack43 _ _ _ _ _ h))⟩⟩)
          rw [ep, eq] at r7 ⊢
          refine row6 hp hN2 ?_
          cases rowOk N p with
          | false => exact b_e0 (r7 _ ⟨rfl, ok _ _⟩)
          | true =>
            refine b_e1 (row6 hq hN2 ?_)
            cases rowOk N q with
            | false => exact b_e0 (r7 _ ⟨rfl, ok _ _⟩)
            | true => exact b_e1 (in6_f 0 99 hnm (by decide) (by decide) (b_e0 (r7 _ ⟨rfl, ok _ _⟩)))
  · exact in6_f 1 9 hne (by decide) (by decide) (b_e0 (in7_f 1 9 hne (by decide) (by decide) (b_e0 (pack43 _ _ _ _ _ ⟨rfl, ok _ _⟩))))
