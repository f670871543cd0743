/-! X6_isIn -/

def pX6_isIn  (a1 : Int32) (a2 : Int32) (a3 : Int32) (post : Int32 → Prop) : Prop :=
  (a1 < a2 → (post 0)) ∧ (¬ a1 < a2 → ((a3 < a1 → (post 0)) ∧ (¬ a3 < a1 → (post 1))))

set_option maxHeartbeats 4000000 in
set_option maxRecDepth 100000 in
theorem kX6_isIn (l : Launch) (D : va_G) (cI cZ cJ cO : ClassId)    (a1 : Int32) (a2 : Int32) (a3 : Int32) (post : Int32 → Prop) (hf : pX6_isIn a1 a2 a3 post) :
    Met l yX6_isIn wsX6_isIn ({ frames := 0, cells := 0, slots := 0, locals := 0 } : Room) (va_Pc [.int a1, .int a2, .int a3] (B0 D (tyL cI cZ cJ cO) [])) (vp_Si post) 0 0 (fun _ => False) := by
  unfold pX6_isIn at hf
  refine xm_0z (own := RX6) (by decide) rfl rfl (Nat.le_of_ble_eq_true rfl) (fun p e s m args below meth c Q C0 hN hK hret hP ls hl => ?_)
  obtain ⟨hx, hb, hml, hown, hts⟩ := id C0
  have hl : lv_has ls 3 [(0, .int a1), (1, .int a2), (2, .int a3)] := hl
  refine lv_iload_n hx hb dX6_isIn_0 rfl (lv_at hl 0 rfl) ?_
  refine lv_iload_n hx hb dX6_isIn_1 rfl (lv_at hl 1 rfl) ?_
  refine lv_icmp_lt (tgt := 14) hx hb dX6_isIn_2 (by decide) (fun c1 => ?_) (fun c1 => ?_)
  · have hf := hf.1 c1
    refine lv_iconst (v := 0) hx hb dX6_isIn_14 (by decide) ?_
    exact hret 15 ls 0 dX6_isIn_15 rfl hf
  · have hf := hf.2 c1
    refine lv_iload_n hx hb dX6_isIn_5 rfl (lv_at hl 0 rfl) ?_
    refine lv_iload_n hx hb dX6_isIn_6 rfl (lv_at hl 2 rfl) ?_
    refine lv_icmp_gt (tgt := 14) hx hb dX6_isIn_7 (by decide) (fun c2 => ?_) (fun c2 => ?_)
    · have hf := hf.1 c2
      refine lv_iconst (v := 0) hx hb dX6_isIn_14 (by decide) ?_
      exact hret 15 ls 0 dX6_isIn_15 rfl hf
    · have hf := hf.2 c2
      refine lv_iconst (v := 1) hx hb dX6_isIn_10 (by decide) ?_
      refine lv_goto (tgt := 15) hx hb dX6_isIn_11 (by decide) ?_
      exact hret 15 ls 1 dX6_isIn_15 rfl hf

/-! X6_isPerson -/

def pX6_isPerson  (a1 : Int32) (post : Int32 → Prop) : Prop :=
  pX6_isIn a1 0 5 (fun r1 => zb r1 ∧ post r1)

set_option maxHeartbeats 4000000 in
set_option maxRecDepth 100000 in
theorem kX6_isPerson (l : Launch) (D : va_G) (cI cZ cJ cO : ClassId)    (a1 : Int32) (post : Int32 → Prop) (hf : pX6_isPerson a1 post) :
    Met l yX6_isPerson wsX6_isPerson ({ frames := 1, cells := 0, slots := 0, locals := 22 } : Room) (va_Pc [.int a1] (B0 D (tyL cI cZ cJ cO) [])) (vp_Si post) 0 0 (fun _ => False) := by
  unfold pX6_isPerson at hf
  refine xm_0z (own := RX6) (by decide) rfl rfl (Nat.le_of_ble_eq_true rfl) (fun p e s m args below meth c Q C0 hN hK hret hP ls hl => ?_)
  obtain ⟨hx, hb, hml, hown, hts⟩ := id C0
  have hl : lv_has ls 1 [(0, .int a1)] := hl
  refine lv_iload_n hx hb dX6_isPerson_0 rfl (lv_at hl 0 rfl) ?_
  refine lv_iconst (v := 0) hx hb dX6_isPerson_1 (by decide) ?_
  refine lv_iconst (v := 5) hx hb dX6_isPerson_2 (by decide) ?_
  refine xs_i (va_runS (As := [.int a1, .int 0, .int 5]) (rest := []) ⟨hx, hb, hml, hown, hts⟩ (kX6_isIn l D cI cZ cJ cO a1 0 5 _ hf) (va_cwS 3 hts gX6_isPerson_X6_isIn rfl rfl rfl (by decide +kernel) ⟨Nat.le_of_ble_eq_true rfl, Nat.le_of_ble_eq_true rfl⟩) (B0_pre (hP.sub (ws' := []) [] rfl) hK hN) rfl rfl hl.1 rfl (lv_room (Nat.le_of_ble_eq_true rfl)) dX6_isPerson_3 ⟨Nat.zero_le _, Nat.zero_le _⟩) (fun r1 hf => ?_)
  exact hret 6 ls r1 dX6_isPerson_6 hf.1 hf.2

/-! X2_add -/
theorem mX2_add_1 : Cond.fieldLink RX2 9 "OxenKneel$Pad" "count" "I" ∈ wsX2_add := List.mem_of_getElem? (i := 1) rfl
theorem mX2_add_4 : Cond.initialized RX6 ∈ wsX2_add := List.mem_of_getElem? (i := 4) rfl
theorem mX2_add_3 : Cond.static yX6_isIn ∈ wsX2_add := List.mem_of_getElem? (i := 3) rfl
theorem mX2_add_2 : Cond.fieldLink RX2 15 "OxenKneel$Pad" "signs" "[I" ∈ wsX2_add := List.mem_of_getElem? (i := 2) rfl
theorem nX2_add_X2 : ∀ w ∈ wsX20, w ∈ wsX2_add := fun _ h => List.mem_cons_of_mem _ (List.mem_append_right _ h)
def pX2_add (t_count : Int32) (t_signs : (Nat → Int32)) (a1 : Int32) (post : Int32 → (Int32 × (Nat → Int32)) → Prop) : Prop :=
  pX6_isIn t_count 0 59 (fun r1 => (¬ r1 = 0 → (vp_in t_count 60 ∧ (∀ v4 : Int32, v4 = (t_count + 1) → (post 1 (v4, (upd t_signs t_count.toNatClampNeg a1)))))) ∧ (r1 = 0 → (post 0 (t_count, t_signs))))

set_option maxHeartbeats 4000000 in
set_option maxRecDepth 100000 in
theorem kX2_add (l : Launch) (D : va_G) (cI cZ cJ cO : ClassId) (q_t q_t_signs : Nat) (sz : Nat)  (t_count : Int32) (t_signs : (Nat → Int32)) (a1 : Int32) (post : Int32 → (Int32 × (Nat → Int32)) → Prop) (hf : pX2_add t_count t_signs a1 post) :
    Met l yX2_add wsX2_add ({ frames := 1, cells := 0, slots := 0, locals := 22 } : Room) (va_Pc [.ref q_t, .int a1] (B1 D (tyL cI cZ cJ cO) [(q_t, .inr (2, [.int t_count, .ref q_t_signs])), (q_t_signs, .inl (cI, 60, .inl t_signs))] sz)) (va_Qi post (fun u t => E1 D (va_A [(q_t, .inr (2, [.int t_count, .ref q_t_signs])), (q_t_signs, .inl (cI, 60, .inl t_signs))] sz) ((fun u : Int32 × (Nat → Int32) => [(q_t, .inr (2, [.int u.1, .ref q_t_signs])), (q_t_signs, .inl (cI, 60, .inl u.2))]) u) t) (va_A [(q_t, .inr (2, [.int t_count, .ref q_t_signs])), (q_t_signs, .inl (cI, 60, .inl t_signs))] sz)) 0 0 (va_A [(q_t, .inr (2, [.int t_count, .ref q_t_signs])), (q_t_signs, .inl (cI, 60, .inl t_signs))] sz) := by
  unfold pX2_add at hf
  refine xm_1z (own := RX2) (by decide) rfl rfl (Nat.le_of_ble_eq_true rfl) (fun p e s m args below meth c Q A C0 hN hK hA hret hP hD ls hl => ?_)
  obtain ⟨hx, hb, hml, hown, hts⟩ := id C0
  have hl : lv_has ls 2 [(0, .ref q_t), (1, .int a1)] := hl
  have hS : va_S A s.heap s.heap [] := va_S.rf
  obtain ⟨H, hHe⟩ : ∃ H, H = s.heap := ⟨_, rfl⟩
  obtain ⟨locs, hLe⟩ : ∃ L : List Loc, L = [] := ⟨_, rfl⟩
  rw [← hLe]
  rw [← hLe] at hS
  have hP : va_P D vwCl [(q_t, .inr (2, [.int t_count, .ref q_t_signs])), (q_t_signs, .inl (cI, 60, .inl t_signs))] H := by rw [hHe]; exact hP
  have hS : va_S A s.heap H locs := by rw [hHe]; exact hS
  suffices hgo : W p l e ({ frames := 1, cells := 0, slots := 0, locals := 22 } : Room) s m args below meth c H locs 0 0 Q (F0 m 0 ls []) by rw [← hHe]; exact hgo
  clear hHe hLe
  refine lv_aload_n hx hb dX2_add_0 rfl (lv_at hl 0 rfl) ?_
  refine va_get (D := D) (ci := 2) (v := .int t_count) (C := RX2) (T := TX2) (N := 2) hx hb hts nX2_add_X2 hown hK hP 0 rfl rfl 0 (by decide) (hts _ mX2_add_1) (fun _ h9 => h9) rfl dX2_add_1 ?_
  refine lv_iconst (v := 0) hx hb dX2_add_4 (by decide) ?_
  refine lv_bipush (v := 59) hx hb dX2_add_5 (by decide) ?_
  refine xs_i (va_runSN (As := [.int t_count, .int 0, .int 59]) (rest := []) ⟨hx, hb, hml, hown, hts⟩ (kX6_isIn l D cI cZ cJ cO t_count 0 59 _ hf) ⟨va_cnB 3 hts gX2_add_X6_isIn_n19 rfl rfl rfl (nw_at hN 6 rfl) (hts _ mX2_add_4) (by decide +kernel) ⟨Nat.le_of_ble_eq_true rfl, Nat.le_of_ble_eq_true rfl⟩, hts _ mX2_add_3, trivial⟩ (B0_pre (hP.sub (ws' := []) [] rfl) hK hN) rfl rfl hl.1 rfl (lv_room (Nat.le_of_ble_eq_true rfl)) dX2_add_7 ⟨Nat.zero_le _, Nat.zero_le _⟩) (fun r1 hf => ?_)
  refine lv_if_ne (tgt := 15) hx hb dX2_add_10 (by decide) (fun c2 => ?_) (fun c2 => ?_)
  · have hf := hf.1 c2
    refine lv_aload_n hx hb dX2_add_15 rfl (lv_at hl 0 rfl) ?_
    refine va_get (D := D) (ci := 2) (v := .ref q_t_signs) (C := RX2) (T := TX2) (N := 2) hx hb hts nX2_add_X2 hown hK hP 0 rfl rfl 1 (by decide) (hts _ mX2_add_2) (fun _ h9 => h9) rfl dX2_add_16 ?_
    refine lv_aload_n hx hb dX2_add_19 rfl (lv_at hl 0 rfl) ?_
    refine va_get (D := D) (ci := 2) (v := .int t_count) (C := RX2) (T := TX2) (N := 2) hx hb hts nX2_add_X2 hown hK hP 0 rfl rfl 0 (by decide) (hts _ mX2_add_1) (fun _ h9 => h9) rfl dX2_add_20 ?_
    refine lv_iload_n hx hb dX2_add_23 rfl (lv_at hl 1 rfl) ?_
    have g3 := hf.1
    have hf := hf.2
    refine xa_iast hx hb hK hP hD hS 1 0 rfl rfl (j := t_count.toNatClampNeg) rfl g3 dX2_add_24 (fun H locs hP hD hS => ?_)
    have hP : va_P D vwCl [(q_t, .inr (2, [.int t_count, .ref q_t_signs])), (q_t_signs, .inl (cI, 60, .inl (upd t_signs t_count.toNatClampNeg a1)))] H := hP
    have hD : va_D A [(q_t, .inr (2, [.int t_count, .ref q_t_signs])), (q_t_signs, .inl (cI, 60, .inl (upd t_signs t_count.toNatClampNeg a1)))] := hD
    refine lv_aload_n hx hb dX2_add_25 rfl (lv_at hl 0 rfl) ?_
    refine lv_dup hx hb dX2_add_26 rfl ?_
    refine va_get (D := D) (ci := 2) (v := .int t_count) (C := RX2) (T := TX2) (N := 2) hx hb hts nX2_add_X2 hown hK hP 0 rfl rfl 0 (by decide) (hts _ mX2_add_1) (fun _ h9 => h9) rfl dX2_add_27 ?_
    refine lv_iconst (v := 1) hx hb dX2_add_30 (by decide) ?_
    refine lv_iadd hx hb dX2_add_31 ?_
    refine lv_topi (fun v4 ev4 => ?_)
    have hf := hf v4 ev4
    refine va_put (D := D) (ci := 2) (v := .int v4) (ty := .int) (C := RX2) (T := TX2) (N := 2) hx hb hts nX2_add_X2 tyX2 tyX2_ok nmX2 hown hK hP hD hS 0 rfl rfl 0 (by decide) (hts _ mX2_add_1) (fun _ h9 => h9) rfl (by decide +kernel) rfl rfl (Nat.le_of_ble_eq_true rfl) dX2_add_32 (fun H locs hP hD hS => ?_)
    have hP : va_P D vwCl [(q_t, .inr (2, [.int v4, .ref q_t_signs])), (q_t_signs, .inl (cI, 60, .inl (upd t_signs t_count.toNatClampNeg a1)))] H := hP
    have hD : va_D A [(q_t, .inr (2, [.int v4, .ref q_t_signs])), (q_t_signs, .inl (cI, 60, .inl (upd t_signs t_count.toNatClampNeg a1)))] := hD
    refine lv_iconst (v := 1) hx hb dX2_add_35 (by decide) ?_
    exact hret 36 ls H locs 1 (v4, (upd t_signs t_count.toNatClampNeg a1)) dX2_add_36 rfl hf hP hD hS
  · have hf := hf.2 c2
    refine lv_iconst (v := 0) hx hb dX2_add_13 (by decide) ?_
    exact hret 14 ls H locs 0 (t_count, t_signs) dX2_add_14 rfl hf hP hD hS

/-! X2_signAt -/
theorem mX2_signAt_1 : Cond.fieldLink RX2 9 "OxenKneel$Pad" "count" "I" ∈ wsX2_signAt := List.mem_of_getElem? (i := 1) rfl
theorem mX2_signAt_2 : Cond.methodLink RX2 23 Lib.Math.min.name ∈ wsX2_signAt := List.mem_of_getElem? (i := 2) rfl
theorem mX2_signAt_3 : Cond.static Lib.Math.min.name ∈ wsX2_signAt := List.mem_of_getElem? (i := 3) rfl
theorem mX2_signAt_4 : Cond.initialized "java/lang/Math" ∈ wsX2_signAt := List.mem_of_getElem? (i := 4) rfl
theorem mX2_signAt_5 : Cond.code Lib.Math.min.name Lib.Math.min.code 2 (some .int) ∈ wsX2_signAt := List.mem_of_getElem? (i := 5) rfl
theorem mX2_signAt_8 : Cond.initialized RX6 ∈ wsX2_signAt := List.mem_of_getElem? (i := 8) rfl
theorem mX2_signAt_7 : Cond.static yX6_isIn ∈ wsX2_signAt := List.mem_of_getElem? (i := 7) rfl
theorem mX2_signAt_6 : Cond.fieldLink RX2 15 "OxenKneel$Pad" "signs" "[I" ∈ wsX2_signAt := List.mem_of_getElem? (i := 6) rfl
theorem nX2_signAt_X2 : ∀ w ∈ wsX20, w ∈ wsX2_signAt := fun _ h => List.mem_cons_of_mem _ (List.mem_append_right _ h)
def pX2_signAt (t_count : Int32) (t_signs : (Nat → Int32)) (a1 : Int32) (post : Int32 → Prop) : Prop :=
  ∀ v1 : Int32, v1 = (if 60 < t_count then 60 else t_count) → (pX6_isIn a1 0 (v1 - 1) (fun r2 => (r2 = 0 → (post 0)) ∧ (¬ r2 = 0 → (vp_in a1 60 ∧ (post (t_signs a1.toNatClampNeg))))))

set_option maxHeartbeats 4000000 in
set_option maxRecDepth 100000 in
theorem kX2_signAt (l : Launch) (D : va_G) (cI cZ cJ cO : ClassId) (q_t q_t_signs : Nat)  (t_count : Int32) (t_signs : (Nat → Int32)) (a1 : Int32) (post : Int32 → Prop) (hf : pX2_signAt t_count t_signs a1 post) :
    Met l yX2_signAt wsX2_signAt ({ frames := 1, cells := 0, slots := 0, locals := 22 } : Room) (va_Pc [.ref q_t, .int a1] (B0 D (tyL cI cZ cJ cO) [(q_t, .inr (2, [.int t_count, .ref q_t_signs])), (q_t_signs, .inl (cI, 60, .inl t_signs))])) (vp_Si post) 0 0 (fun _ => False) := by
  unfold pX2_signAt at hf
  refine xm_0i (own := RX2) (by decide) rfl rfl (Nat.le_of_ble_eq_true rfl) (fun p e s m args below meth c Q C0 hN hK hret hP ls hl => ?_)
  obtain ⟨hx, hb, hml, hown, hts⟩ := id C0
  have hl : lv_has ls 2 [(0, .ref q_t), (1, .int a1)] := hl
  refine lv_iload_n hx hb dX2_signAt_0 rfl (lv_at hl 1 rfl) ?_
  refine lv_iconst (v := 0) hx hb dX2_signAt_1 (by decide) ?_
  refine lv_aload_n hx hb dX2_signAt_2 rfl (lv_at hl 0 rfl) ?_
  refine va_get (D := D) (ci := 2) (v := .int t_count) (C := RX2) (T := TX2) (N := 2) hx hb hts nX2_signAt_X2 hown hK hP 0 rfl rfl 0 (by decide) (hts _ mX2_signAt_1) (fun _ h9 => h9) rfl dX2_signAt_3 ?_
  refine lv_bipush (v := 60) hx hb dX2_signAt_6 (by decide) ?_
  refine va_mmin hx hb (hml.trans hl.1.symm) hown (hts _ mX2_signAt_2) (hts _ mX2_signAt_3) (hts _ mX2_signAt_4) (hts _ mX2_signAt_5) (Nat.le_of_ble_eq_true rfl) (Nat.le_of_ble_eq_true rfl) (Nat.zero_le _) (Nat.zero_le _) dX2_signAt_8 ?_
  refine lv_topi (fun v1 ev1 => ?_)
  have hf := hf v1 ev1
  refine lv_iconst (v := 1) hx hb dX2_signAt_11 (by decide) ?_
  refine lv_isub hx hb dX2_signAt_12 ?_
  refine xs_i (va_runSN (As := [.int a1, .int 0, .int (v1 - 1)]) (rest := []) ⟨hx, hb, hml, hown, hts⟩ (kX6_isIn l D cI cZ cJ cO a1 0 (v1 - 1) _ hf) ⟨va_cnB 3 hts gX2_signAt_X6_isIn_n19 rfl rfl rfl (nw_at hN 6 rfl) (hts _ mX2_signAt_8) (by decide +kernel) ⟨Nat.le_of_ble_eq_true rfl, Nat.le_of_ble_eq_true rfl⟩, hts _ mX2_signAt_7, trivial⟩ (B0_pre (hP.sub (ws' := []) [] rfl) hK hN) rfl rfl hl.1 rfl (lv_room (Nat.le_of_ble_eq_true rfl)) dX2_signAt_13 ⟨Nat.zero_le _, Nat.zero_le _⟩) (fun r2 hf => ?_)
  refine lv_if_eq (tgt := 28) hx hb dX2_signAt_16 (by decide) (fun c3 => ?_) (fun c3 => ?_)
  · have hf := hf.1 c3
    refine lv_iconst (v := 0) hx hb dX2_signAt_28 (by decide) ?_
    exact hret 29 ls 0 dX2_signAt_29 hf
  · have hf := hf.2 c3
    refine lv_aload_n hx hb dX2_signAt_19 rfl (lv_at hl 0 rfl) ?_
    refine va_get (D := D) (ci := 2) (v := .ref q_t_signs) (C := RX2) (T := TX2) (N := 2) hx hb hts nX2_signAt_X2 hown hK hP 0 rfl rfl 1 (by decide) (hts _ mX2_signAt_6) (fun _ h9 => h9) rfl dX2_signAt_20 ?_
    refine lv_iload_n hx hb dX2_signAt_23 rfl (lv_at hl 1 rfl) ?_
    have g4 := hf.1
    have hf := hf.2
    refine xa_iald hx hb hK hP 1 0 rfl rfl (j := a1.toNatClampNeg) rfl g4 dX2_signAt_24 ?_
    refine lv_goto (tgt := 29) hx hb dX2_signAt_25 (by decide) ?_
    exact hret 29 ls (t_signs a1.toNatClampNeg) dX2_signAt_29 hf

/-! X3_become -/
theorem mX3_become_1 : Cond.fieldLink RX3 9 "OxenKneel$Sights" "count" "I" ∈ wsX3_become := List.mem_of_getElem? (i := 1) rfl
theorem mX3_become_2 : Cond.fieldLink RX3 15 "OxenKneel$Sights" "hours" "[I" ∈ wsX3_become := List.mem_of_getElem? (i := 2) rfl
theorem mX3_become_3 : Cond.fieldLink RX3 19 "OxenKneel$Sights" "rang" "[Z" ∈ wsX3_become := List.mem_of_getElem? (i := 3) rfl
theorem nX3_become_X3 : ∀ w ∈ wsX30, w ∈ wsX3_become := fun _ h => List.mem_cons_of_mem _ (List.mem_append_right _ h)
def pX3_become_b10 (a1_count : Int32) (a1_hours : (Nat → Int32)) (a1_rang : (Nat → Int32)) (post : (Int32 × (Nat → Int32) × (Nat → Int32)) → Prop) : Nat → Int32 → Int32 → (Nat → Int32) → (Nat → Int32) → Prop
  | 0 => fun _ _ _ _ => False
  | n + 1 => fun x2 t_count t_hours t_rang => (8 ≤ x2 → (post (t_count, t_hours, t_rang))) ∧ (¬ 8 ≤ x2 → (vp_in x2 8 ∧ (∀ v3 : Int32, v3 = (a1_hours x2.toNatClampNeg) → (vp_in x2 8 ∧ (vp_in x2 8 ∧ (∀ v6 : Int32, v6 = (a1_rang x2.toNatClampNeg) → (vp_in x2 8 ∧ (∀ v8 : Int32, v8 = x2 + 1 → (pX3_become_b10 a1_count a1_hours a1_rang post  n v8 t_count (upd t_hours x2.toNatClampNeg v3) (upd t_rang x2.toNatClampNeg (vp_nar .boolean v6)))))))))))

set_option maxHeartbeats 4000000 in
set_option maxRecDepth 100000 in
theorem wX3_become_b10 {p : Program} {l : Launch} {e : Env} {s : State} {m : MethodId} {args : Array Value} {below : List Frame} {meth : Method} {c : Code} {Q : State → Prop} {D : va_G} {cI cZ cJ cO : ClassId} {A : Nat → Prop} (C0 : CallFix p m c cX3_become 3 s args wsX3_become RX3) (hN : nw s) (hK : va_K D vwCl (tyL cI cZ cJ cO) s) (hA : ∀ q, s.heap.size ≤ q → A q) (q_t q_t_hours q_t_rang q_a1 q_a1_hours q_a1_rang : Nat)  (a1_count : Int32) (a1_hours : (Nat → Int32)) (a1_rang : (Nat → Int32)) (post : (Int32 × (Nat → Int32) × (Nat → Int32)) → Prop) (hret : hrV p l e ({ frames := 0, cells := 0, slots := 0, locals := 0 } : Room) s m args below meth c cX3_become D A Q post (fun u : Int32 × (Nat → Int32) × (Nat → Int32) => [(q_t, .inr (3, [.int u.1, .ref q_t_hours, .ref q_t_rang])), (q_t_hours, .inl (cI, 8, .inl u.2.1)), (q_t_rang, .inl (cZ, 8, .inl u.2.2)), (q_a1, .inr (3, [.int a1_count, .ref q_a1_hours, .ref q_a1_rang])), (q_a1_hours, .inl (cI, 8, .inl a1_hours)), (q_a1_rang, .inl (cZ, 8, .inl a1_rang))])) :
    ∀ (n : Nat) (x2 : Int32) (t_count : Int32) (t_hours : (Nat → Int32)) (t_rang : (Nat → Int32)), pX3_become_b10 a1_count a1_hours a1_rang post n x2 t_count t_hours t_rang → ∀ (H : Heap) (locs : List Loc), va_P D vwCl [(q_t, .inr (3, [.int t_count, .ref q_t_hours, .ref q_t_rang])), (q_t_hours, .inl (cI, 8, .inl t_hours)), (q_t_rang, .inl (cZ, 8, .inl t_rang)), (q_a1, .inr (3, [.int a1_count, .ref q_a1_hours, .ref q_a1_rang])), (q_a1_hours, .inl (cI, 8, .inl a1_hours)), (q_a1_rang, .inl (cZ, 8, .inl a1_rang))] H → va_D A [(q_t, .inr (3, [.int t_count, .ref q_t_hours, .ref q_t_rang])), (q_t_hours, .inl (cI, 8, .inl t_hours)), (q_t_rang, .inl (cZ, 8, .inl t_rang)), (q_a1, .inr (3, [.int a1_count, .ref q_a1_hours, .ref q_a1_rang])), (q_a1_hours, .inl (cI, 8, .inl a1_hours)), (q_a1_rang, .inl (cZ, 8, .inl a1_rang))] → va_S A s.heap H locs → ∀ ls : Array Slot, lv_has ls 3 [(0, .ref q_t), (1, .ref q_a1), (2, .int x2)] → W p l e ({ frames := 0, cells := 0, slots := 0, locals := 0 } : Room) s m args below meth c H locs 0 0 Q (F0 m 10 ls []) := by
  obtain ⟨hx, hb, hml, hown, hts⟩ := id C0
  intro n
  induction n with
  | zero =>
    intro x2 t_count t_hours t_rang hf
    exact False.elim hf
  | succ n ih =>
    intro x2 t_count t_hours t_rang hf H locs hP hD hS ls hl
    rw [pX3_become_b10] at hf
    refine lv_iload_n hx hb dX3_become_10 rfl (lv_at hl 2 rfl) ?_
    refine lv_bipush (v := 8) hx hb dX3_become_11 (by decide) ?_
    refine lv_icmp_ge (tgt := 46) hx hb dX3_become_13 (by decide) (fun c1 => ?_) (fun c1 => ?_)
    · have hf := hf.1 c1
      exact hret 46 ls H locs (t_count, t_hours, t_rang) dX3_become_46 hf hP hD hS
    · have hf := hf.2 c1
      refine lv_aload_n hx hb dX3_become_16 rfl (lv_at hl 0 rfl) ?_
      refine va_get (D := D) (ci := 3) (v := .ref q_t_hours) (C := RX3) (T := TX3) (N := 3) hx hb hts nX3_become_X3 hown hK hP 0 rfl rfl 1 (by decide) (hts _ mX3_become_2) (fun _ h9 => h9) rfl dX3_become_17 ?_
      refine lv_iload_n hx hb dX3_become_20 rfl (lv_at hl 2 rfl) ?_
      refine lv_aload_n hx hb dX3_become_21 rfl (lv_at hl 1 rfl) ?_
      refine va_get (D := D) (ci := 3) (v := .ref q_a1_hours) (C := RX3) (T := TX3) (N := 3) hx hb hts nX3_become_X3 hown hK hP 3 rfl rfl 1 (by decide) (hts _ mX3_become_2) (fun _ h9 => h9) rfl dX3_become_22 ?_
      refine lv_iload_n hx hb dX3_become_25 rfl (lv_at hl 2 rfl) ?_
      have g2 := hf.1
      have hf := hf.2
      refine xa_iald hx hb hK hP 4 0 rfl rfl (j := x2.toNatClampNeg) rfl g2 dX3_become_26 ?_
      refine lv_topi (fun v3 ev3 => ?_)
      have hf := hf v3 ev3
      have g4 := hf.1
      have hf := hf.2
      refine xa_iast hx hb hK hP hD hS 1 0 rfl rfl (j := x2.toNatClampNeg) rfl g4 dX3_become_27 (fun H locs hP hD hS => ?_)
      have hP : va_P D vwCl [(q_t, .inr (3, [.int t_count, .ref q_t_hours, .ref q_t_rang])), (q_t_hours, .inl (cI, 8, .inl (upd t_hours x2.toNatClampNeg v3))), (q_t_rang, .inl (cZ, 8, .inl t_rang)), (q_a1, .inr (3, [.int a1_count, .ref q_a1_hours, .ref q_a1_rang])), (q_a1_hours, .inl (cI, 8, .inl a1_hours)), (q_a1_rang, .inl (cZ, 8, .inl a1_rang))] H := hP
      have hD : va_D A [(q_t, .inr (3, [.int t_count, .ref q_t_hours, .ref q_t_rang])), (q_t_hours, .inl (cI, 8, .inl (upd t_hours x2.toNatClampNeg v3))), (q_t_rang, .inl (cZ, 8, .inl t_rang)), (q_a1, .inr (3, [.int a1_count, .ref q_a1_hours, .ref q_a1_rang])), (q_a1_hours, .inl (cI, 8, .inl a1_hours)), (q_a1_rang, .inl (cZ, 8, .inl a1_rang))] := hD
      refine lv_aload_n hx hb dX3_become_28 rfl (lv_at hl 0 rfl) ?_
      refine va_get (D := D) (ci := 3) (v := .ref q_t_rang) (C := RX3) (T := TX3) (N := 3) hx hb hts nX3_become_X3 hown hK hP 0 rfl rfl 2 (by decide) (hts _ mX3_become_3) (fun _ h9 => h9) rfl dX3_become_29 ?_
      refine lv_iload_n hx hb dX3_become_32 rfl (lv_at hl 2 rfl) ?_
      refine lv_aload_n hx hb dX3_become_33 rfl (lv_at hl 1 rfl) ?_
      refine va_get (D := D) (ci := 3) (v := .ref q_a1_rang) (C := RX3) (T := TX3) (N := 3) hx hb hts nX3_become_X3 hown hK hP 3 rfl rfl 2 (by decide) (hts _ mX3_become_3) (fun _ h9 => h9) rfl dX3_become_34 ?_
      refine lv_iload_n hx hb dX3_become_37 rfl (lv_at hl 2 rfl) ?_
      have g5 := hf.1
      have hf := hf.2
      refine xa_zald hx hb hK hP 5 1 rfl rfl (j := x2.toNatClampNeg) rfl g5 dX3_become_38 ?_
      refine lv_topi (fun v6 ev6 => ?_)
      have hf := hf v6 ev6
      have g7 := hf.1
      have hf := hf.2
      refine xa_zast hx hb hK hP hD hS 2 1 rfl rfl (j := x2.toNatClampNeg) rfl g7 dX3_become_39 (fun H locs hP hD hS => ?_)
      have hP : va_P D vwCl [(q_t, .inr (3, [.int t_count, .ref q_t_hours, .ref q_t_rang])), (q_t_hours, .inl (cI, 8, .inl (upd t_hours x2.toNatClampNeg v3))), (q_t_rang, .inl (cZ, 8, .inl (upd t_rang x2.toNatClampNeg (vp_nar .boolean v6)))), (q_a1, .inr (3, [.int a1_count, .ref q_a1_hours, .ref q_a1_rang])), (q_a1_hours, .inl (cI, 8, .inl a1_hours)), (q_a1_rang, .inl (cZ, 8, .inl a1_rang))] H := hP
      have hD : va_D A [(q_t, .inr (3, [.int t_count, .ref q_t_hours, .ref q_t_rang])), (q_t_hours, .inl (cI, 8, .inl (upd t_hours x2.toNatClampNeg v3))), (q_t_rang, .inl (cZ, 8, .inl (upd t_rang x2.toNatClampNeg (vp_nar .boolean v6)))), (q_a1, .inr (3, [.int a1_count, .ref q_a1_hours, .ref q_a1_rang])), (q_a1_hours, .inl (cI, 8, .inl a1_hours)), (q_a1_rang, .inl (cZ, 8, .inl a1_rang))] := hD
      obtain ⟨v8, ev8⟩ : ∃ y : Int32, y = x2 + 1 := ⟨_, rfl⟩
      have hf := hf v8 ev8
      refine lv_iinc (v := v8) (lv' := [(2, .int v8), (0, .ref q_t), (1, .ref q_a1)]) hx hb dX3_become_40 hl (k := 2) rfl (by rw [ev8]; rfl) (by decide) rfl (fun ls hl => ?_)
      refine lv_goto (tgt := 10) hx hb dX3_become_43 (by decide) ?_
      exact ih v8 t_count (upd t_hours x2.toNatClampNeg v3) (upd t_rang x2.toNatClampNeg (vp_nar .boolean v6)) hf H locs hP hD hS ls (lv_sub hl [1, 2, 0] rfl)

def pX3_become (t_count : Int32) (t_hours : (Nat → Int32)) (t_rang : (Nat → Int32)) (a1_count : Int32) (a1_hours : (Nat → Int32)) (a1_rang : (Nat → Int32))  (post : (Int32 × (Nat → Int32) × (Nat → Int32)) → Prop) : Prop :=
  ∃ n, pX3_become_b10 a1_count a1_hours a1_rang post  n 0 a1_count t_hours t_rang

set_option maxHeartbeats 4000000 in
set_option maxRecDepth 100000 in
theorem kX3_become (l : Launch) (D : va_G) (cI cZ cJ cO : ClassId) (q_t q_t_hours q_t_rang q_a1 q_a1_hours q_a1_rang : Nat) (sz : Nat)  (t_count : Int32) (t_hours : (Nat → Int32)) (t_rang : (Nat → Int32)) (a1_count : Int32) (a1_hours : (Nat → Int32)) (a1_rang : (Nat → Int32))  (post : (Int32 × (Nat → Int32) × (Nat → Int32)) → Prop) (hf : pX3_become t_count t_hours t_rang a1_count a1_hours a1_rang post) :
    Met l yX3_become wsX3_become ({ frames := 0, cells := 0, slots := 0, locals := 0 } : Room) (va_Pc [.ref q_t, .ref q_a1] (B1 D (tyL cI cZ cJ cO) [(q_t, .inr (3, [.int t_count, .ref q_t_hours, .ref q_t_rang])), (q_t_hours, .inl (cI, 8, .inl t_hours)), (q_t_rang, .inl (cZ, 8, .inl t_rang)), (q_a1, .inr (3, [.int a1_count, .ref q_a1_hours, .ref q_a1_rang])), (q_a1_hours, .inl (cI, 8, .inl a1_hours)), (q_a1_rang, .inl (cZ, 8, .inl a1_rang))] sz)) (va_Qv post (fun u t => E1 D (va_A [(q_t, .inr (3, [.int t_count, .ref q_t_hours, .ref q_t_rang])), (q_t_hours, .inl (cI, 8, .inl t_hours)), (q_t_rang, .inl (cZ, 8, .inl t_rang)), (q_a1, .inr (3, [.int a1_count, .ref q_a1_hours, .ref q_a1_rang])), (q_a1_hours, .inl (cI, 8, .inl a1_hours)), (q_a1_rang, .inl (cZ, 8, .inl a1_rang))] sz) ((fun u : Int32 × (Nat → Int32) × (Nat → Int32) => [(q_t, .inr (3, [.int u.1, .ref q_t_hours, .ref q_t_rang])), (q_t_hours, .inl (cI, 8, .inl u.2.1)), (q_t_rang, .inl (cZ, 8, .inl u.2.2)), (q_a1, .inr (3, [.int a1_count, .ref q_a1_hours, .ref q_a1_rang])), (q_a1_hours, .inl (cI, 8, .inl a1_hours)), (q_a1_rang, .inl (cZ, 8, .inl a1_rang))]) u) t) (va_A [(q_t, .inr (3, [.int t_count, .ref q_t_hours, .ref q_t_rang])), (q_t_hours, .inl (cI, 8, .inl t_hours)), (q_t_rang, .inl (cZ, 8, .inl t_rang)), (q_a1, .inr (3, [.int a1_count, .ref q_a1_hours, .ref q_a1_rang])), (q_a1_hours, .inl (cI, 8, .inl a1_hours)), (q_a1_rang, .inl (cZ, 8, .inl a1_rang))] sz)) 0 0 (va_A [(q_t, .inr (3, [.int t_count, .ref q_t_hours, .ref q_t_rang])), (q_t_hours, .inl (cI, 8, .inl t_hours)), (q_t_rang, .inl (cZ, 8, .inl t_rang)), (q_a1, .inr (3, [.int a1_count, .ref q_a1_hours, .ref q_a1_rang])), (q_a1_hours, .inl (cI, 8, .inl a1_hours)), (q_a1_rang, .inl (cZ, 8, .inl a1_rang))] sz) := by
  unfold pX3_become at hf
  refine xm_1v (own := RX3) (by decide) rfl rfl (Nat.le_of_ble_eq_true rfl) (fun p e s m args below meth c Q A C0 hN hK hA hret hP hD ls hl => ?_)
  obtain ⟨hx, hb, hml, hown, hts⟩ := id C0
  have hl : lv_has ls 3 [(0, .ref q_t), (1, .ref q_a1)] := hl
  have hS : va_S A s.heap s.heap [] := va_S.rf
  obtain ⟨H, hHe⟩ : ∃ H, H = s.heap := ⟨_, rfl⟩
  obtain ⟨locs, hLe⟩ : ∃ L : List Loc, L = [] := ⟨_, rfl⟩
  rw [← hLe]
  rw [← hLe] at hS
  have hP : va_P D vwCl [(q_t, .inr (3, [.int t_count, .ref q_t_hours, .ref q_t_rang])), (q_t_hours, .inl (cI, 8, .inl t_hours)), (q_t_rang, .inl (cZ, 8, .inl t_rang)), (q_a1, .inr (3, [.int a1_count, .ref q_a1_hours, .ref q_a1_rang])), (q_a1_hours, .inl (cI, 8, .inl a1_hours)), (q_a1_rang, .inl (cZ, 8, .inl a1_rang))] H := by rw [hHe]; exact hP
  have hS : va_S A s.heap H locs := by rw [hHe]; exact hS
  suffices hgo : W p l e ({ frames := 0, cells := 0, slots := 0, locals := 0 } : Room) s m args below meth c H locs 0 0 Q (F0 m 0 ls []) by rw [← hHe]; exact hgo
  clear hHe hLe
  refine lv_aload_n hx hb dX3_become_0 rfl (lv_at hl 0 rfl) ?_
  refine lv_aload_n hx hb dX3_become_1 rfl (lv_at hl 1 rfl) ?_
  refine va_get (D := D) (ci := 3) (v := .int a1_count) (C := RX3) (T := TX3) (N := 3) hx hb hts nX3_become_X3 hown hK hP 3 rfl rfl 0 (by decide) (hts _ mX3_become_1) (fun _ h9 => h9) rfl dX3_become_2 ?_
  refine va_put (D := D) (ci := 3) (v := .int a1_count) (ty := .int) (C := RX3) (T := TX3) (N := 3) hx hb hts nX3_become_X3 tyX3 tyX3_ok nmX3 hown hK hP hD hS 0 rfl rfl 0 (by decide) (hts _ mX3_become_1) (fun _ h9 => h9) rfl (by decide +kernel) rfl rfl (Nat.le_of_ble_eq_true rfl) dX3_become_5 (fun H locs hP hD hS => ?_)
  have hP : va_P D vwCl [(q_t, .inr (3, [.int a1_count, .ref q_t_hours, .ref q_t_rang])), (q_t_hours, .inl (cI, 8, .inl t_hours)), (q_t_rang, .inl (cZ, 8, .inl t_rang)), (q_a1, .inr (3, [.int a1_count, .ref q_a1_hours, .ref q_a1_rang])), (q_a1_hours, .inl (cI, 8, .inl a1_hours)), (q_a1_rang, .inl (cZ, 8, .inl a1_rang))] H := hP
  have hD : va_D A [(q_t, .inr (3, [.int a1_count, .ref q_t_hours, .ref q_t_rang])), (q_t_hours, .inl (cI, 8, .inl t_hours)), (q_t_rang, .inl (cZ, 8, .inl t_rang)), (q_a1, .inr (3, [.int a1_count, .ref q_a1_hours, .ref q_a1_rang])), (q_a1_hours, .inl (cI, 8, .inl a1_hours)), (q_a1_rang, .inl (cZ, 8, .inl a1_rang))] := hD
  refine lv_iconst (v := 0) hx hb dX3_become_8 (by decide) ?_
  refine lv_istore_n (lv' := [(2, .int 0), (0, .ref q_t), (1, .ref q_a1)]) hx hb dX3_become_9 rfl hl (by decide) rfl (fun ls hl => ?_)
  obtain ⟨n1, hf⟩ := hf
  exact wX3_become_b10 C0 hN hK hA q_t q_t_hours q_t_rang q_a1 q_a1_hours q_a1_rang a1_count a1_hours a1_rang post hret   n1 0 a1_count t_hours t_rang hf H locs hP hD hS ls (lv_sub hl [1, 2, 0] rfl)

/-! X3_fits -/
theorem mX3_fits_1 : Cond.fieldLink RX3 9 "OxenKneel$Sights" "count" "I" ∈ wsX3_fits := List.mem_of_getElem? (i := 1) rfl
theorem mX3_fits_2 : Cond.fieldLink RX3 19 "OxenKneel$Sights" "rang" "[Z" ∈ wsX3_fits := List.mem_of_getElem? (i := 2) rfl
theorem mX3_fits_3 : Cond.fieldLink RX3 15 "OxenKneel$Sights" "hours" "[I" ∈ wsX3_fits := List.mem_of_getElem? (i := 3) rfl
theorem nX3_fits_X3 : ∀ w ∈ wsX30, w ∈ wsX3_fits := fun _ h => List.mem_cons_of_mem _ (List.mem_append_right _ h)
def pX3_fits_b45 (t_count : Int32) (t_hours : (Nat → Int32)) (t_rang : (Nat → Int32)) (a1 : Int32) (a2 : Int32) (post : Int32 → Prop) (k8 : Int32 → Prop) (x3 : Int32) (s0 : Int32) (s1 : Int32) : Prop :=
  (s1 = s0 → (∀ v2 : Int32, v2 = x3 + 1 → (k8 v2))) ∧ (¬ s1 = s0 → (post 0))

set_option maxHeartbeats 4000000 in
set_option maxRecDepth 100000 in
theorem wX3_fits_b45 {p : Program} {l : Launch} {e : Env} {s : State} {m : MethodId} {args : Array Value} {below : List Frame} {meth : Method} {c : Code} {Q : State → Prop} {D : va_G} {cI cZ cJ cO : ClassId} (C0 : CallFix p m c cX3_fits 4 s args wsX3_fits RX3) (hN : nw s) (hK : va_K D vwCl (tyL cI cZ cJ cO) s) (q_t q_t_hours q_t_rang : Nat)  (t_count : Int32) (t_hours : (Nat → Int32)) (t_rang : (Nat → Int32)) (a1 : Int32) (a2 : Int32) (post : Int32 → Prop) (hret : h0Z p l e ({ frames := 0, cells := 0, slots := 0, locals := 0 } : Room) s m args below meth c cX3_fits Q post) (hP : va_P D vwCl [(q_t, .inr (3, [.int t_count, .ref q_t_hours, .ref q_t_rang])), (q_t_hours, .inl (cI, 8, .inl t_hours)), (q_t_rang, .inl (cZ, 8, .inl t_rang))] s.heap) (k8 : Int32 → Prop) (hk8 : ∀ (x3 : Int32), k8 x3 → ∀ ls : Array Slot, lv_has ls 4 [(0, .ref q_t), (1, .int a1), (2, .int a2), (3, .int x3)] → W p l e ({ frames := 0, cells := 0, slots := 0, locals := 0 } : Room) s m args below meth c s.heap [] 0 0 Q (F0 m 8 ls [])) :
    ∀ (x3 : Int32) (s0 : Int32) (s1 : Int32), pX3_fits_b45 t_count t_hours t_rang a1 a2 post k8 x3 s0 s1 → ∀ ls : Array Slot, lv_has ls 4 [(0, .ref q_t), (1, .int a1), (2, .int a2), (3, .int x3)] → W p l e ({ frames := 0, cells := 0, slots := 0, locals := 0 } : Room) s m args below meth c s.heap [] 0 0 Q (F0 m 45 ls [.int s0, .int s1]) := by
  obtain ⟨hx, hb, hml, hown, hts⟩ := id C0
  intro x3 s0 s1 hf ls hl
  unfold pX3_fits_b45 at hf
  refine lv_icmp_eq (tgt := 50) hx hb dX3_fits_45 (by decide) (fun c1 => ?_) (fun c1 => ?_)
  · have hf := hf.1 c1
    obtain ⟨v2, ev2⟩ : ∃ y : Int32, y = x3 + 1 := ⟨_, rfl⟩
    have hf := hf v2 ev2
    refine lv_iinc (v := v2) (lv' := [(3, .int v2), (0, .ref q_t), (1, .int a1), (2, .int a2)]) hx hb dX3_fits_50 hl (k := 3) rfl (by rw [ev2]; rfl) (by decide) rfl (fun ls hl => ?_)
    refine lv_goto (tgt := 8) hx hb dX3_fits_53 (by decide) ?_
    exact hk8 v2 hf ls (lv_sub hl [1, 2, 3, 0] rfl)
  · have hf := hf.2 c1
    refine lv_iconst (v := 0) hx hb dX3_fits_48 (by decide) ?_
    exact hret 49 ls 0 dX3_fits_49 rfl hf

def pX3_fits_b8 (t_count : Int32) (t_hours : (Nat → Int32)) (t_rang : (Nat → Int32)) (a1 : Int32) (a2 : Int32) (post : Int32 → Prop) : Nat → Int32 → Prop
  | 0 => fun _ => False
  | n + 1 => fun x3 => (t_count ≤ x3 → (post 1)) ∧ (¬ t_count ≤ x3 → ((8 ≤ x3 → (post 1)) ∧ (¬ 8 ≤ x3 → (vp_in x3 8 ∧ (vp_in x3 8 ∧ (¬ a1 = 0 ∧ ((¬ ((t_hours x3.toNatClampNeg) - (t_hours x3.toNatClampNeg) / a1 * a1) = a2 → (pX3_fits_b45 t_count t_hours t_rang a1 a2 post (fun x3 => pX3_fits_b8 t_count t_hours t_rang a1 a2 post  n x3) x3 0 (t_rang x3.toNatClampNeg))) ∧ (((t_hours x3.toNatClampNeg) - (t_hours x3.toNatClampNeg) / a1 * a1) = a2 → (pX3_fits_b45 t_count t_hours t_rang a1 a2 post (fun x3 => pX3_fits_b8 t_count t_hours t_rang a1 a2 post  n x3) x3 1 (t_rang x3.toNatClampNeg))))))))))

set_option maxHeartbeats 4000000 in
set_option maxRecDepth 100000 in
theorem wX3_fits_b8 {p : Program} {l : Launch} {e : Env} {s : State} {m : MethodId} {args : Array Value} {below : List Frame} {meth : Method} {c : Code} {Q : State → Prop} {D : va_G} {cI cZ cJ cO : ClassId} (C0 : CallFix p m c cX3_fits 4 s args wsX3_fits RX3) (hN : nw s) (hK : va_K D vwCl (tyL cI cZ cJ cO) s) (q_t q_t_hours q_t_rang : Nat)  (t_count : Int32) (t_hours : (Nat → Int32)) (t_rang : (Nat → Int32)) (a1 : Int32) (a2 : Int32) (post : Int32 → Prop) (hret : h0Z p l e ({ frames := 0, cells := 0, slots := 0, locals := 0 } : Room) s m args below meth c cX3_fits Q post) (hP : va_P D vwCl [(q_t, .inr (3, [.int t_count, .ref q_t_hours, .ref q_t_rang])), (q_t_hours, .inl (cI, 8, .inl t_hours)), (q_t_rang, .inl (cZ, 8, .inl t_rang))] s.heap) :
    ∀ (n : Nat) (x3 : Int32), pX3_fits_b8 t_count t_hours t_rang a1 a2 post n x3 → ∀ ls : Array Slot, lv_has ls 4 [(0, .ref q_t), (1, .int a1), (2, .int a2), (3, .int x3)] → W p l e ({ frames := 0, cells := 0, slots := 0, locals := 0 } : Room) s m args below meth c s.heap [] 0 0 Q (F0 m 8 ls []) := by
  obtain ⟨hx, hb, hml, hown, hts⟩ := id C0
  intro n
  induction n with
  | zero =>
    intro x3 hf
    exact False.elim hf
  | succ n ih =>
    intro x3 hf ls hl
    rw [pX3_fits_b8] at hf
    refine lv_iload_n hx hb dX3_fits_8 rfl (lv_at hl 3 rfl) ?_
    refine lv_aload_n hx hb dX3_fits_9 rfl (lv_at hl 0 rfl) ?_
    refine va_get (D := D) (ci := 3) (v := .int t_count) (C := RX3) (T := TX3) (N := 3) hx hb hts nX3_fits_X3 hown hK hP 0 rfl rfl 0 (by decide) (hts _ mX3_fits_1) (fun _ h9 => h9) rfl dX3_fits_10 ?_
    refine lv_icmp_ge (tgt := 56) hx hb dX3_fits_13 (by decide) (fun c1 => ?_) (fun c1 => ?_)
    · have hf := hf.1 c1
      refine lv_iconst (v := 1) hx hb dX3_fits_56 (by decide) ?_
      exact hret 57 ls 1 dX3_fits_57 rfl hf
    · have hf := hf.2 c1
      refine lv_iload_n hx hb dX3_fits_16 rfl (lv_at hl 3 rfl) ?_
      refine lv_bipush (v := 8) hx hb dX3_fits_17 (by decide) ?_
      refine lv_icmp_ge (tgt := 56) hx hb dX3_fits_19 (by decide) (fun c2 => ?_) (fun c2 => ?_)
      · have hf := hf.1 c2
        refine lv_iconst (v := 1) hx hb dX3_fits_56 (by decide) ?_
        exact hret 57 ls 1 dX3_fits_57 rfl hf
      · have hf := hf.2 c2
        refine lv_aload_n hx hb dX3_fits_22 rfl (lv_at hl 0 rfl) ?_
        refine va_get (D := D) (ci := 3) (v := .ref q_t_rang) (C := RX3) (T := TX3) (N := 3) hx hb hts nX3_fits_X3 hown hK hP 0 rfl rfl 2 (by decide) (hts _ mX3_fits_2) (fun _ h9 => h9) rfl dX3_fits_23 ?_
        refine lv_iload_n hx hb dX3_fits_26 rfl (lv_at hl 3 rfl) ?_
        have g3 := hf.1
        have hf := hf.2
        refine xa_zald hx hb hK hP 2 1 rfl rfl (j := x3.toNatClampNeg) rfl g3 dX3_fits_27 ?_
        refine lv_aload_n hx hb dX3_fits_28 rfl (lv_at hl 0 rfl) ?_
        refine va_get (D := D) (ci := 3) (v := .ref q_t_hours) (C := RX3) (T := TX3) (N := 3) hx hb hts nX3_fits_X3 hown hK hP 0 rfl rfl 1 (by decide) (hts _ mX3_fits_3) (fun _ h9 => h9) rfl dX3_fits_29 ?_
        refine lv_iload_n hx hb dX3_fits_32 rfl (lv_at hl 3 rfl) ?_
        have g4 := hf.1
        have hf := hf.2
        refine xa_iald hx hb hK hP 1 0 rfl rfl (j := x3.toNatClampNeg) rfl g4 dX3_fits_33 ?_
        refine lv_iload_n hx hb dX3_fits_34 rfl (lv_at hl 1 rfl) ?_
        have g5 := hf.1
        have hf := hf.2
        refine lv_irem hx hb dX3_fits_35 g5 ?_
        refine lv_iload_n hx hb dX3_fits_36 rfl (lv_at hl 2 rfl) ?_
        refine lv_icmp_ne (tgt := 44) hx hb dX3_fits_37 (by decide) (fun c6 => ?_) (fun c6 => ?_)
        · have hf := hf.1 c6
          refine lv_iconst (v := 0) hx hb dX3_fits_44 (by decide) ?_
          exact wX3_fits_b45 C0 hN hK q_t q_t_hours q_t_rang t_count t_hours t_rang a1 a2 post hret hP _ ih x3 0 (t_rang x3.toNatClampNeg) hf ls (lv_sub hl [0, 1, 2, 3] rfl)
        · have hf := hf.2 c6
          refine lv_iconst (v := 1) hx hb dX3_fits_40 (by decide) ?_
          refine lv_goto (tgt := 45) hx hb dX3_fits_41 (by decide) ?_
          exact wX3_fits_b45 C0 hN hK q_t q_t_hours q_t_rang t_count t_hours t_rang a1 a2 post hret hP _ ih x3 1 (t_rang x3.toNatClampNeg) hf ls (lv_sub hl [0, 1, 2, 3] rfl)

def pX3_fits (t_count : Int32) (t_hours : (Nat → Int32)) (t_rang : (Nat → Int32)) (a1 : Int32) (a2 : Int32) (post : Int32 → Prop) : Prop :=
  (0 < a1 → (∃ n, pX3_fits_b8 t_count t_hours t_rang a1 a2 post  n 0)) ∧ (¬ 0 < a1 → (post 0))

set_option maxHeartbeats 4000000 in
set_option maxRecDepth 100000 in
theorem kX3_fits (l : Launch) (D : va_G) (cI cZ cJ cO : ClassId) (q_t q_t_hours q_t_rang : Nat)  (t_count : Int32) (t_hours : (Nat → Int32)) (t_rang : (Nat → Int32)) (a1 : Int32) (a2 : Int32) (post : Int32 → Prop) (hf : pX3_fits t_count t_hours t_rang a1 a2 post) :
    Met l yX3_fits wsX3_fits ({ frames := 0, cells := 0, slots := 0, locals := 0 } : Room) (va_Pc [.ref q_t, .int a1, .int a2] (B0 D (tyL cI cZ cJ cO) [(q_t, .inr (3, [.int t_count, .ref q_t_hours, .ref q_t_rang])), (q_t_hours, .inl (cI, 8, .inl t_hours)), (q_t_rang, .inl (cZ, 8, .inl t_rang))])) (vp_Si post) 0 0 (fun _ => False) := by
  unfold pX3_fits at hf
  refine xm_0z (own := RX3) (by decide) rfl rfl (Nat.le_of_ble_eq_true rfl) (fun p e s m args below meth c Q C0 hN hK hret hP ls hl => ?_)
  obtain ⟨hx, hb, hml, hown, hts⟩ := id C0
  have hl : lv_has ls 4 [(0, .ref q_t), (1, .int a1), (2, .int a2)] := hl
  refine lv_iload_n hx hb dX3_fits_0 rfl (lv_at hl 1 rfl) ?_
  refine lv_if_gt (tgt := 6) hx hb dX3_fits_1 (by decide) (fun c1 => ?_) (fun c1 => ?_)
  · have hf := hf.1 c1
    refine lv_iconst (v := 0) hx hb dX3_fits_6 (by decide) ?_
    refine lv_istore_n (lv' := [(3, .int 0), (0, .ref q_t), (1, .int a1), (2, .int a2)]) hx hb dX3_fits_7 rfl hl (by decide) rfl (fun ls hl => ?_)
    obtain ⟨n1, hf⟩ := hf
    exact wX3_fits_b8 C0 hN hK q_t q_t_hours q_t_rang t_count t_hours t_rang a1 a2 post hret hP   n1 0 hf ls (lv_sub hl [1, 2, 3, 0] rfl)
  · have hf := hf.2 c1
    refine lv_iconst (v := 0) hx hb dX3_fits_4 (by decide) ?_
    exact hret 5 ls 0 dX3_fits_5 rfl hf

/-! X3_fittingRounds -/

def pX3_fittingRounds_b12 (t_count : Int32) (t_hours : (Nat → Int32)) (t_rang : (Nat → Int32)) (post : Int32 → Prop) (k4 : Int32 → Int32 → Prop) : Nat → Int32 → Int32 → Int32 → Prop
  | 0 => fun _ _ _ => False
  | n + 1 => fun x1 x2 x3 => (x2 ≤ x3 → (∀ v2 : Int32, v2 = x2 + 1 → (k4 x1 v2))) ∧ (¬ x2 ≤ x3 → (pX3_fits t_count t_hours t_rang x2 x3 (fun r3 => (r3 = 0 → (∀ v5 : Int32, v5 = x3 + 1 → (pX3_fittingRounds_b12 t_count t_hours t_rang post k4 n x1 x2 v5))) ∧ (¬ r3 = 0 → (∀ v6 : Int32, v6 = x1 + 1 → (∀ v7 : Int32, v7 = x3 + 1 → (pX3_fittingRounds_b12 t_count t_hours t_rang post k4 n v6 x2 v7)))))))

set_option maxHeartbeats 4000000 in
set_option maxRecDepth 100000 in
theorem wX3_fittingRounds_b12 {p : Program} {l : Launch} {e : Env} {s : State} {m : MethodId} {args : Array Value} {below : List Frame} {meth : Method} {c : Code} {Q : State → Prop} {D : va_G} {cI cZ cJ cO : ClassId} (C0 : CallFix p m c cX3_fittingRounds 4 s args wsX3_fittingRounds RX3) (hN : nw s) (hK : va_K D vwCl (tyL cI cZ cJ cO) s) (q_t q_t_hours q_t_rang : Nat)  (t_count : Int32) (t_hours : (Nat → Int32)) (t_rang : (Nat → Int32)) (post : Int32 → Prop) (hret : h0I p l e ({ frames := 1, cells := 0, slots := 0, locals := 23 } : Room) s m args below meth c cX3_fittingRounds Q post) (hP : va_P D vwCl [(q_t, .inr (3, [.int t_count, .ref q_t_hours, .ref q_t_rang])), (q_t_hours, .inl (cI, 8, .inl t_hours)), (q_t_rang, .inl (cZ, 8, .inl t_rang))] s.heap) (k4 : Int32 → Int32 → Prop) (hk4 : ∀ (x1 : Int32) (x2 : Int32), k4 x1 x2 → ∀ ls : Array Slot, lv_has ls 4 [(0, .ref q_t), (1, .int x1), (2, .int x2)] → W p l e ({ frames := 1, cells := 0, slots := 0, locals := 23 } : Room) s m args below meth c s.heap [] 0 0 Q (F0 m 4 ls [])) :
    ∀ (n : Nat) (x1 : Int32) (x2 : Int32) (x3 : Int32), pX3_fittingRounds_b12 t_count t_hours t_rang post k4 n x1 x2 x3 → ∀ ls : Array Slot, lv_has ls 4 [(0, .ref q_t), (1, .int x1), (2, .int x2), (3, .int x3)] → W p l e ({ frames := 1, cells := 0, slots := 0, locals := 23 } : Room) s m args below meth c s.heap [] 0 0 Q (F0 m 12 ls []) := by
  obtain ⟨hx, hb, hml, hown, hts⟩ := id C0
  intro n
  induction n with
  | zero =>
    intro x1 x2 x3 hf
    exact False.elim hf
  | succ n ih =>
    intro x1 x2 x3 hf ls hl
    rw [pX3_fittingRounds_b12] at hf
    refine lv_iload_n hx hb dX3_fittingRounds_12 rfl (lv_at hl 3 rfl) ?_
    refine lv_iload_n hx hb dX3_fittingRounds_13 rfl (lv_at hl 2 rfl) ?_
    refine lv_icmp_ge (tgt := 35) hx hb dX3_fittingRounds_14 (by decide) (fun c1 => ?_) (fun c1 => ?_)
    · have hf := hf.1 c1
      obtain ⟨v2, ev2⟩ : ∃ y : Int32, y = x2 + 1 := ⟨_, rfl⟩
      have hf := hf v2 ev2
      refine lv_iinc (v := v2) (lv' := [(2, .int v2), (0, .ref q_t), (1, .int x1), (3, .int x3)]) hx hb dX3_fittingRounds_35 hl (k := 2) rfl (by rw [ev2]; rfl) (by decide) rfl (fun ls hl => ?_)
      refine lv_goto (tgt := 4) hx hb dX3_fittingRounds_38 (by decide) ?_
      exact hk4 x1 v2 hf ls (lv_sub hl [1, 2, 0] rfl)
    · have hf := hf.2 c1
      refine lv_aload_n hx hb dX3_fittingRounds_17 rfl (lv_at hl 0 rfl) ?_
      refine lv_iload_n hx hb dX3_fittingRounds_18 rfl (lv_at hl 2 rfl) ?_
      refine lv_iload_n hx hb dX3_fittingRounds_19 rfl (lv_at hl 3 rfl) ?_
      refine xs_i (va_runV (As := [.int x2, .int x3]) (rest := []) ⟨hx, hb, hml, hown, hts⟩ (kX3_fits l D cI cZ cJ cO q_t q_t_hours q_t_rang t_count t_hours t_rang x2 x3 _ hf) (cwV 2 hts gX3_fittingRounds_X3_fits rfl rfl rfl (by decide +kernel) ⟨Nat.le_of_ble_eq_true rfl, Nat.le_of_ble_eq_true rfl⟩) (B0_preV (ci := 3) (q0 := 0) hP rfl rfl (hP.sub (ws' := [(q_t, .inr (3, [.int t_count, .ref q_t_hours, .ref q_t_rang])), (q_t_hours, .inl (cI, 8, .inl t_hours)), (q_t_rang, .inl (cZ, 8, .inl t_rang))]) [0, 1, 2] rfl) hK hN) rfl rfl hl.1 rfl (lv_room (Nat.le_of_ble_eq_true rfl)) dX3_fittingRounds_20 ⟨Nat.zero_le _, Nat.zero_le _⟩) (fun r3 hf => ?_)
      refine lv_if_eq (tgt := 29) hx hb dX3_fittingRounds_23 (by decide) (fun c4 => ?_) (fun c4 => ?_)
      · have hf := hf.1 c4
        obtain ⟨v5, ev5⟩ : ∃ y : Int32, y = x3 + 1 := ⟨_, rfl⟩
        have hf := hf v5 ev5
        refine lv_iinc (v := v5) (lv' := [(3, .int v5), (0, .ref q_t), (1, .int x1), (2, .int x2)]) hx hb dX3_fittingRounds_29 hl (k := 3) rfl (by rw [ev5]; rfl) (by decide) rfl (fun ls hl => ?_)
        refine lv_goto (tgt := 12) hx hb dX3_fittingRounds_32 (by decide) ?_
        exact ih x1 x2 v5 hf ls (lv_sub hl [1, 2, 3, 0] rfl)
      · have hf := hf.2 c4
        obtain ⟨v6, ev6⟩ : ∃ y : Int32, y = x1 + 1 := ⟨_, rfl⟩
        have hf := hf v6 ev6
        refine lv_iinc (v := v6) (lv' := [(1, .int v6), (0, .ref q_t), (2, .int x2), (3, .int x3)]) hx hb dX3_fittingRounds_26 hl (k := 1) rfl (by rw [ev6]; rfl) (by decide) rfl (fun ls hl => ?_)
        obtain ⟨v7, ev7⟩ : ∃ y : Int32, y = x3 + 1 := ⟨_, rfl⟩
        have hf := hf v7 ev7
        refine lv_iinc (v := v7) (lv' := [(3, .int v7), (1, .int v6), (0, .ref q_t), (2, .int x2)]) hx hb dX3_fittingRounds_29 hl (k := 3) rfl (by rw [ev7]; rfl) (by decide) rfl (fun ls hl => ?_)
        refine lv_goto (tgt := 12) hx hb dX3_fittingRounds_32 (by decide) ?_
        exact ih v6 x2 v7 hf ls (lv_sub hl [2, 1, 3, 0] rfl)

def pX3_fittingRounds_b4 (t_count : Int32) (t_hours : (Nat → Int32)) (t_rang : (Nat → Int32)) (post : Int32 → Prop) : Nat → Int32 → Int32 → Prop
  | 0 => fun _ _ => False
  | n + 1 => fun x1 x2 => (20 < x2 → (post x1)) ∧ (¬ 20 < x2 → (∃ n, pX3_fittingRounds_b12 t_count t_hours t_rang post (fun x1 x2 => pX3_fittingRounds_b4 t_count t_hours t_rang post  n x1 x2) n x1 x2 0))

set_option maxHeartbeats 4000000 in
set_option maxRecDepth 100000 in
theorem wX3_fittingRounds_b4 {p : Program} {l : Launch} {e : Env} {s : State} {m : MethodId} {args : Array Value} {below : List Frame} {meth : Method} {c : Code} {Q : State → Prop} {D : va_G} {cI cZ cJ cO : ClassId} (C0 : CallFix p m c cX3_fittingRounds 4 s args wsX3_fittingRounds RX3) (hN : nw s) (hK : va_K D vwCl (tyL cI cZ cJ cO) s) (q_t q_t_hours q_t_rang : Nat)  (t_count : Int32) (t_hours : (Nat → Int32)) (t_rang : (Nat → Int32)) (post : Int32 → Prop) (hret : h0I p l e ({ frames := 1, cells := 0, slots := 0, locals := 23 } : Room) s m args below meth c cX3_fittingRounds Q post) (hP : va_P D vwCl [(q_t, .inr (3, [.int t_count, .ref q_t_hours, .ref q_t_rang])), (q_t_hours, .inl (cI, 8, .inl t_hours)), (q_t_rang, .inl (cZ, 8, .inl t_rang))] s.heap) :
    ∀ (n : Nat) (x1 : Int32) (x2 : Int32), pX3_fittingRounds_b4 t_count t_hours t_rang post n x1 x2 → ∀ ls : Array Slot, lv_has ls 4 [(0, .ref q_t), (1, .int x1), (2, .int x2)] → W p l e ({ frames := 1, cells := 0, slots := 0, locals := 23 } : Room) s m args below meth c s.heap [] 0 0 Q (F0 m 4 ls []) := by
  obtain ⟨hx, hb, hml, hown, hts⟩ := id C0
  intro n
  induction n with
  | zero =>
    intro x1 x2 hf
    exact False.elim hf
  | succ n ih =>
    intro x1 x2 hf ls hl
    rw [pX3_fittingRounds_b4] at hf
    refine lv_iload_n hx hb dX3_fittingRounds_4 rfl (lv_at hl 2 rfl) ?_
    refine lv_bipush (v := 20) hx hb dX3_fittingRounds_5 (by decide) ?_
    refine lv_icmp_gt (tgt := 41) hx hb dX3_fittingRounds_7 (by decide) (fun c1 => ?_) (fun c1 => ?_)
    · have hf := hf.1 c1
      refine lv_iload_n hx hb dX3_fittingRounds_41 rfl (lv_at hl 1 rfl) ?_
      exact hret 42 ls x1 dX3_fittingRounds_42 hf
    · have hf := hf.2 c1
      refine lv_iconst (v := 0) hx hb dX3_fittingRounds_10 (by decide) ?_
      refine lv_istore_n (lv' := [(3, .int 0), (0, .ref q_t), (1, .int x1), (2, .int x2)]) hx hb dX3_fittingRounds_11 rfl hl (by decide) rfl (fun ls hl => ?_)
      obtain ⟨n1, hf⟩ := hf
      exact wX3_fittingRounds_b12 C0 hN hK q_t q_t_hours q_t_rang t_count t_hours t_rang post hret hP _ ih n1 x1 x2 0 hf ls (lv_sub hl [1, 2, 3, 0] rfl)

def pX3_fittingRounds (t_count : Int32) (t_hours : (Nat → Int32)) (t_rang : (Nat → Int32))  (post : Int32 → Prop) : Prop :=
  ∃ n, pX3_fittingRounds_b4 t_count t_hours t_rang post  n 0 2

set_option maxHeartbeats 4000000 in
set_option maxRecDepth 100000 in
theorem kX3_fittingRounds (l : Launch) (D : va_G) (cI cZ cJ cO : ClassId) (q_t q_t_hours q_t_rang : Nat)  (t_count : Int32) (t_hours : (Nat → Int32)) (t_rang : (Nat → Int32))  (post : Int32 → Prop) (hf : pX3_fittingRounds t_count t_hours t_rang post) :
    Met l yX3_fittingRounds wsX3_fittingRounds ({ frames := 1, cells := 0, slots := 0, locals := 23 } : Room) (va_Pc [.ref q_t] (B0 D (tyL cI cZ cJ cO) [(q_t, .inr (3, [.int t_count, .ref q_t_hours, .ref q_t_rang])), (q_t_hours, .inl (cI, 8, .inl t_hours)), (q_t_rang, .inl (cZ, 8, .inl t_rang))])) (vp_Si post) 0 0 (fun _ => False) := by
  unfold pX3_fittingRounds at hf
  refine xm_0i (own := RX3) (by decide) rfl rfl (Nat.le_of_ble_eq_true rfl) (fun p e s m args below meth c Q C0 hN hK hret hP ls hl => ?_)
  obtain ⟨hx, hb, hml, hown, hts⟩ := id C0
  have hl : lv_has ls 4 [(0, .ref q_t)] := hl
  refine lv_iconst (v := 0) hx hb dX3_fittingRounds_0 (by decide) ?_
  refine lv_istore_n (lv' := [(1, .int 0), (0, .ref q_t)]) hx hb dX3_fittingRounds_1 rfl hl (by decide) rfl (fun ls hl => ?_)
  refine lv_iconst (v := 2) hx hb dX3_fittingRounds_2 (by decide) ?_
  refine lv_istore_n (lv' := [(2, .int 2), (1, .int 0), (0, .ref q_t)]) hx hb dX3_fittingRounds_3 rfl hl (by decide) rfl (fun ls hl => ?_)
  obtain ⟨n1, hf⟩ := hf
  exact wX3_fittingRounds_b4 C0 hN hK q_t q_t_hours q_t_rang t_count t_hours t_rang post hret hP   n1 0 2 hf ls (lv_sub hl [2, 1, 0] rfl)

/-! X5_timeOf -/

def pX5_timeOf  (a1 : Int32) (a2 : Int32) (a3 : Int32) (post : Int32 → Prop) : Prop :=
  post ((((a1 * 365) + a2) * 24) + a3)

set_option maxHeartbeats 4000000 in
set_option maxRecDepth 100000 in
theorem kX5_timeOf (l : Launch) (D : va_G) (cI cZ cJ cO : ClassId)    (a1 : Int32) (a2 : Int32) (a3 : Int32) (post : Int32 → Prop) (hf : pX5_timeOf a1 a2 a3 post) :
    Met l yX5_timeOf wsX5_timeOf ({ frames := 0, cells := 0, slots := 0, locals := 0 } : Room) (va_Pc [.int a1, .int a2, .int a3] (B0 D (tyL cI cZ cJ cO) [])) (vp_Si post) 0 0 (fun _ => False) := by
  unfold pX5_timeOf at hf
  refine xm_0i (own := RX5) (by decide) rfl rfl (Nat.le_of_ble_eq_true rfl) (fun p e s m args below meth c Q C0 hN hK hret hP ls hl => ?_)
  obtain ⟨hx, hb, hml, hown, hts⟩ := id C0
  have hl : lv_has ls 3 [(0, .int a1), (1, .int a2), (2, .int a3)] := hl
  refine lv_iload_n hx hb dX5_timeOf_0 rfl (lv_at hl 0 rfl) ?_
  refine lv_sipush (v := 365) hx hb dX5_timeOf_1 (by decide) ?_
  refine lv_imul hx hb dX5_timeOf_4 ?_
  refine lv_iload_n hx hb dX5_timeOf_5 rfl (lv_at hl 1 rfl) ?_
  refine lv_iadd hx hb dX5_timeOf_6 ?_
  refine lv_bipush (v := 24) hx hb dX5_timeOf_7 (by decide) ?_
  refine lv_imul hx hb dX5_timeOf_9 ?_
  refine lv_iload_n hx hb dX5_timeOf_10 rfl (lv_at hl 2 rfl) ?_
  refine lv_iadd hx hb dX5_timeOf_11 ?_
  exact hret 12 ls ((((a1 * 365) + a2) * 24) + a3) dX5_timeOf_12 hf

/-! X5_timeBehind -/
theorem mX5_timeBehind_1 : Cond.fieldLink RX5 43 "OxenKneel$Act" "sign" "I" ∈ wsX5_timeBehind := List.mem_of_getElem? (i := 1) rfl
theorem mX5_timeBehind_2 : Cond.fieldLink RX5 18 "OxenKneel$World" "year" "I" ∈ wsX5_timeBehind := List.mem_of_getElem? (i := 2) rfl
theorem mX5_timeBehind_3 : Cond.fieldLink RX5 9 "OxenKneel$World" "date" "I" ∈ wsX5_timeBehind := List.mem_of_getElem? (i := 3) rfl
theorem mX5_timeBehind_4 : Cond.fieldLink RX5 15 "OxenKneel$World" "hour" "I" ∈ wsX5_timeBehind := List.mem_of_getElem? (i := 4) rfl
theorem mX5_timeBehind_5 : Cond.fieldLink RX5 75 "OxenKneel$Act" "number" "I" ∈ wsX5_timeBehind := List.mem_of_getElem? (i := 5) rfl
theorem mX5_timeBehind_6 : Cond.fieldLink RX5 24 "OxenKneel$World" "kneelDate" "I" ∈ wsX5_timeBehind := List.mem_of_getElem? (i := 6) rfl
theorem nX5_timeBehind_X0 : ∀ w ∈ wsX00, w ∈ wsX5_timeBehind := fun _ h => List.mem_cons_of_mem _ (List.mem_append_left _ (List.mem_append_right _ h))
theorem nX5_timeBehind_X5 : ∀ w ∈ wsX50, w ∈ wsX5_timeBehind := fun _ h => List.mem_cons_of_mem _ (List.mem_append_right _ h)
def pX5_timeBehind_b101 (t_date : Int32) (t_hour : Int32) (t_year : Int32) (t_kneelDate : Int32) (a1_sign : Int32) (a1_number : Int32) (post : Int32 → Prop) (s0 : Int32) : Prop :=
  pX5_timeOf s0 t_kneelDate 0 (fun r1 => post r1)

set_option maxHeartbeats 4000000 in
set_option maxRecDepth 100000 in
theorem wX5_timeBehind_b101 {p : Program} {l : Launch} {e : Env} {s : State} {m : MethodId} {args : Array Value} {below : List Frame} {meth : Method} {c : Code} {Q : State → Prop} {D : va_G} {cI cZ cJ cO : ClassId} (C0 : CallFix p m c cX5_timeBehind 2 s args wsX5_timeBehind RX5) (hN : nw s) (hK : va_K D vwCl (tyL cI cZ cJ cO) s) (q_t q_a1 q_t_places q_t_coins q_t_lying : Nat) (t_shift : Int32) (a1_person : Int32) (t_date : Int32) (t_hour : Int32) (t_year : Int32) (t_kneelDate : Int32) (a1_sign : Int32) (a1_number : Int32) (post : Int32 → Prop) (hret : h0I p l e ({ frames := 1, cells := 0, slots := 0, locals := 22 } : Room) s m args below meth c cX5_timeBehind Q post) (hP : va_P D vwCl [(q_t, .inr (5, [.int t_date, .int t_hour, .int t_year, .int t_shift, .int t_kneelDate, .ref q_t_places, .ref q_t_coins, .ref q_t_lying])), (q_a1, .inr (0, [.int a1_sign, .int a1_person, .int a1_number]))] s.heap) :
    ∀ (s0 : Int32), pX5_timeBehind_b101 t_date t_hour t_year t_kneelDate a1_sign a1_number post s0 → ∀ ls : Array Slot, lv_has ls 2 [(0, .ref q_t)] → W p l e ({ frames := 1, cells := 0, slots := 0, locals := 22 } : Room) s m args below meth c s.heap [] 0 0 Q (F0 m 101 ls [.int s0]) := by
  obtain ⟨hx, hb, hml, hown, hts⟩ := id C0
  intro s0 hf ls hl
  unfold pX5_timeBehind_b101 at hf
  refine lv_aload_n hx hb dX5_timeBehind_101 rfl (lv_at hl 0 rfl) ?_
  refine va_get (D := D) (ci := 5) (v := .int t_kneelDate) (C := RX5) (T := TX5) (N := 8) hx hb hts nX5_timeBehind_X5 hown hK hP 0 rfl rfl 4 (by decide) (hts _ mX5_timeBehind_6) (fun _ h9 => h9) rfl dX5_timeBehind_102 ?_
  refine lv_iconst (v := 0) hx hb dX5_timeBehind_105 (by decide) ?_
  refine xs_i (va_runS (As := [.int s0, .int t_kneelDate, .int 0]) (rest := []) ⟨hx, hb, hml, hown, hts⟩ (kX5_timeOf l D cI cZ cJ cO s0 t_kneelDate 0 _ hf) (va_cwS 3 hts gX5_timeBehind_X5_timeOf rfl rfl rfl (by decide +kernel) ⟨Nat.le_of_ble_eq_true rfl, Nat.le_of_ble_eq_true rfl⟩) (B0_pre (hP.sub (ws' := []) [] rfl) hK hN) rfl rfl hl.1 rfl (lv_room (Nat.le_of_ble_eq_true rfl)) dX5_timeBehind_106 ⟨Nat.zero_le _, Nat.zero_le _⟩) (fun r1 hf => ?_)
  exact hret 109 ls r1 dX5_timeBehind_109 hf

def pX5_timeBehind (t_date : Int32) (t_hour : Int32) (t_year : Int32) (t_kneelDate : Int32) (a1_sign : Int32) (a1_number : Int32)  (post : Int32 → Prop) : Prop :=
  (a1_sign = 100 → (pX5_timeOf t_year t_date t_hour (fun r2 => post (r2 + (a1_number * 24))))) ∧ ((a1_sign = 104 → (pX5_timeOf t_year t_date t_hour (fun r4 => post (r4 + a1_number)))) ∧ ((¬ a1_sign = 100 → ¬ a1_sign = 104 → ((t_kneelDate ≤ t_date → (pX5_timeBehind_b101 t_date t_hour t_year t_kneelDate a1_sign a1_number post  (t_year + 1))) ∧ (¬ t_kneelDate ≤ t_date → (pX5_timeBehind_b101 t_date t_hour t_year t_kneelDate a1_sign a1_number post  t_year))))))

set_option maxHeartbeats 4000000 in
set_option maxRecDepth 100000 in
theorem kX5_timeBehind (l : Launch) (D : va_G) (cI cZ cJ cO : ClassId) (q_t q_a1 q_t_places q_t_coins q_t_lying : Nat) (t_shift : Int32) (a1_person : Int32) (t_date : Int32) (t_hour : Int32) (t_year : Int32) (t_kneelDate : Int32) (a1_sign : Int32) (a1_number : Int32)  (post : Int32 → Prop) (hf : pX5_timeBehind t_date t_hour t_year t_kneelDate a1_sign a1_number post) :
    Met l yX5_timeBehind wsX5_timeBehind ({ frames := 1, cells := 0, slots := 0, locals := 22 } : Room) (va_Pc [.ref q_t, .ref q_a1] (B0 D (tyL cI cZ cJ cO) [(q_t, .inr (5, [.int t_date, .int t_hour, .int t_year, .int t_shift, .int t_kneelDate, .ref q_t_places, .ref q_t_coins, .ref q_t_lying])), (q_a1, .inr (0, [.int a1_sign, .int a1_person, .int a1_number]))])) (vp_Si post) 0 0 (fun _ => False) := by
  unfold pX5_timeBehind at hf
  refine xm_0i (own := RX5) (by decide) rfl rfl (Nat.le_of_ble_eq_true rfl) (fun p e s m args below meth c Q C0 hN hK hret hP ls hl => ?_)
  obtain ⟨hx, hb, hml, hown, hts⟩ := id C0
  have hl : lv_has ls 2 [(0, .ref q_t), (1, .ref q_a1)] := hl
  refine lv_aload_n hx hb dX5_timeBehind_0 rfl (lv_at hl 1 rfl) ?_
  refine va_get (D := D) (ci := 0) (v := .int a1_sign) (C := RX0) (T := TX0) (N := 3) hx hb hts nX5_timeBehind_X0 hown hK hP 1 rfl rfl 0 (by decide) (hts _ mX5_timeBehind_1) (fun _ h9 => h9) rfl dX5_timeBehind_1 ?_
  by_cases z1 : a1_sign = 100
  · have hf := hf.1 z1
    refine lv_lookup (off := 49) (tgt := 53) hx hb dX5_timeBehind_4 (by decide) (by rw [z1]; decide) (by decide) ?_
    refine lv_aload_n hx hb dX5_timeBehind_53 rfl (lv_at hl 0 rfl) ?_
    refine va_get (D := D) (ci := 5) (v := .int t_year) (C := RX5) (T := TX5) (N := 8) hx hb hts nX5_timeBehind_X5 hown hK hP 0 rfl rfl 2 (by decide) (hts _ mX5_timeBehind_2) (fun _ h9 => h9) rfl dX5_timeBehind_54 ?_
    refine lv_aload_n hx hb dX5_timeBehind_57 rfl (lv_at hl 0 rfl) ?_
    refine va_get (D := D) (ci := 5) (v := .int t_date) (C := RX5) (T := TX5) (N := 8) hx hb hts nX5_timeBehind_X5 hown hK hP 0 rfl rfl 0 (by decide) (hts _ mX5_timeBehind_3) (fun _ h9 => h9) rfl dX5_timeBehind_58 ?_
    refine lv_aload_n hx hb dX5_timeBehind_61 rfl (lv_at hl 0 rfl) ?_
    refine va_get (D := D) (ci := 5) (v := .int t_hour) (C := RX5) (T := TX5) (N := 8) hx hb hts nX5_timeBehind_X5 hown hK hP 0 rfl rfl 1 (by decide) (hts _ mX5_timeBehind_4) (fun _ h9 => h9) rfl dX5_timeBehind_62 ?_
    refine xs_i (va_runS (As := [.int t_year, .int t_date, .int t_hour]) (rest := []) ⟨hx, hb, hml, hown, hts⟩ (kX5_timeOf l D cI cZ cJ cO t_year t_date t_hour _ hf) (va_cwS 3 hts gX5_timeBehind_X5_timeOf rfl rfl rfl (by decide +kernel) ⟨Nat.le_of_ble_eq_true rfl, Nat.le_of_ble_eq_true rfl⟩) (B0_pre (hP.sub (ws' := []) [] rfl) hK hN) rfl rfl hl.1 rfl (lv_room (Nat.le_of_ble_eq_true rfl)) dX5_timeBehind_65 ⟨Nat.zero_le _, Nat.zero_le _⟩) (fun r2 hf => ?_)
    refine lv_aload_n hx hb dX5_timeBehind_68 rfl (lv_at hl 1 rfl) ?_
    refine va_get (D := D) (ci := 0) (v := .int a1_number) (C := RX0) (T := TX0) (N := 3) hx hb hts nX5_timeBehind_X0 hown hK hP 1 rfl rfl 2 (by decide) (hts _ mX5_timeBehind_5) (fun _ h9 => h9) rfl dX5_timeBehind_69 ?_
    refine lv_bipush (v := 24) hx hb dX5_timeBehind_72 (by decide) ?_
    refine lv_imul hx hb dX5_timeBehind_74 ?_
    refine lv_iadd hx hb dX5_timeBehind_75 ?_
    exact hret 76 ls (r2 + (a1_number * 24)) dX5_timeBehind_76 hf
  · have hf := hf.2
    by_cases z3 : a1_sign = 104
    · have hf := hf.1 z3
      refine lv_lookup (off := 28) (tgt := 32) hx hb dX5_timeBehind_4 (by decide) (by rw [z3]; decide) (by decide) ?_
      refine lv_aload_n hx hb dX5_timeBehind_32 rfl (lv_at hl 0 rfl) ?_
      refine va_get (D := D) (ci := 5) (v := .int t_year) (C := RX5) (T := TX5) (N := 8) hx hb hts nX5_timeBehind_X5 hown hK hP 0 rfl rfl 2 (by decide) (hts _ mX5_timeBehind_2) (fun _ h9 => h9) rfl dX5_timeBehind_33 ?_
      refine lv_aload_n hx hb dX5_timeBehind_36 rfl (lv_at hl 0 rfl) ?_
      refine va_get (D := D) (ci := 5) (v := .int t_date) (C := RX5) (T := TX5) (N := 8) hx hb hts nX5_timeBehind_X5 hown hK hP 0 rfl rfl 0 (by decide) (hts _ mX5_timeBehind_3) (fun _ h9 => h9) rfl dX5_timeBehind_37 ?_
      refine lv_aload_n hx hb dX5_timeBehind_40 rfl (lv_at hl 0 rfl) ?_
      refine va_get (D := D) (ci := 5) (v := .int t_hour) (C := RX5) (T := TX5) (N := 8) hx hb hts nX5_timeBehind_X5 hown hK hP 0 rfl rfl 1 (by decide) (hts _ mX5_timeBehind_4) (fun _ h9 => h9) rfl dX5_timeBehind_41 ?_
      refine xs_i (va_runS (As := [.int t_year, .int t_date, .int t_hour]) (rest := []) ⟨hx, hb, hml, hown, hts⟩ (kX5_timeOf l D cI cZ cJ cO t_year t_date t_hour _ hf) (va_cwS 3 hts gX5_timeBehind_X5_timeOf rfl rfl rfl (by decide +kernel) ⟨Nat.le_of_ble_eq_true rfl, Nat.le_of_ble_eq_true rfl⟩) (B0_pre (hP.sub (ws' := []) [] rfl) hK hN) rfl rfl hl.1 rfl (lv_room (Nat.le_of_ble_eq_true rfl)) dX5_timeBehind_44 ⟨Nat.zero_le _, Nat.zero_le _⟩) (fun r4 hf => ?_)
      refine lv_aload_n hx hb dX5_timeBehind_47 rfl (lv_at hl 1 rfl) ?_
      refine va_get (D := D) (ci := 0) (v := .int a1_number) (C := RX0) (T := TX0) (N := 3) hx hb hts nX5_timeBehind_X0 hown hK hP 1 rfl rfl 2 (by decide) (hts _ mX5_timeBehind_5) (fun _ h9 => h9) rfl dX5_timeBehind_48 ?_
      refine lv_iadd hx hb dX5_timeBehind_51 ?_
      exact hret 52 ls (r4 + a1_number) dX5_timeBehind_52 hf
    · have hf := hf.2
      have hf := hf z1 z3
      refine lv_lookup (off := 73) (tgt := 77) hx hb dX5_timeBehind_4 (by decide) ((lv_osw z1 (by decide)).trans ((lv_osw z3 (by decide)).trans (rfl))) (by decide) ?_
      refine lv_aload_n hx hb dX5_timeBehind_77 rfl (lv_at hl 0 rfl) ?_
      refine va_get (D := D) (ci := 5) (v := .int t_date) (C := RX5) (T := TX5) (N := 8) hx hb hts nX5_timeBehind_X5 hown hK hP 0 rfl rfl 0 (by decide) (hts _ mX5_timeBehind_3) (fun _ h9 => h9) rfl dX5_timeBehind_78 ?_
      refine lv_aload_n hx hb dX5_timeBehind_81 rfl (lv_at hl 0 rfl) ?_
      refine va_get (D := D) (ci := 5) (v := .int t_kneelDate) (C := RX5) (T := TX5) (N := 8) hx hb hts nX5_timeBehind_X5 hown hK hP 0 rfl rfl 4 (by decide) (hts _ mX5_timeBehind_6) (fun _ h9 => h9) rfl dX5_timeBehind_82 ?_
      refine lv_icmp_ge (tgt := 95) hx hb dX5_timeBehind_85 (by decide) (fun c5 => ?_) (fun c5 => ?_)
      · have hf := hf.1 c5
        refine lv_aload_n hx hb dX5_timeBehind_95 rfl (lv_at hl 0 rfl) ?_
        refine va_get (D := D) (ci := 5) (v := .int t_year) (C := RX5) (T := TX5) (N := 8) hx hb hts nX5_timeBehind_X5 hown hK hP 0 rfl rfl 2 (by decide) (hts _ mX5_timeBehind_2) (fun _ h9 => h9) rfl dX5_timeBehind_96 ?_
        refine lv_iconst (v := 1) hx hb dX5_timeBehind_99 (by decide) ?_
        refine lv_iadd hx hb dX5_timeBehind_100 ?_
        exact wX5_timeBehind_b101 C0 hN hK q_t q_a1 q_t_places q_t_coins q_t_lying t_shift a1_person t_date t_hour t_year t_kneelDate a1_sign a1_number post hret hP   (t_year + 1) hf ls (lv_sub hl [0] rfl)
      · have hf := hf.2 c5
        refine lv_aload_n hx hb dX5_timeBehind_88 rfl (lv_at hl 0 rfl) ?_
        refine va_get (D := D) (ci := 5) (v := .int t_year) (C := RX5) (T := TX5) (N := 8) hx hb hts nX5_timeBehind_X5 hown hK hP 0 rfl rfl 2 (by decide) (hts _ mX5_timeBehind_2) (fun _ h9 => h9) rfl dX5_timeBehind_89 ?_
        refine lv_goto (tgt := 101) hx hb dX5_timeBehind_92 (by decide) ?_
        exact wX5_timeBehind_b101 C0 hN hK q_t q_a1 q_t_places q_t_coins q_t_lying t_shift a1_person t_date t_hour t_year t_kneelDate a1_sign a1_number post hret hP   t_year hf ls (lv_sub hl [0] rfl)

/-! X0_becomeDrawn -/
theorem mX0_becomeDrawn_1 : Cond.fieldLink RX0 9 "OxenKneel$Act" "person" "I" ∈ wsX0_becomeDrawn := List.mem_of_getElem? (i := 1) rfl
theorem mX0_becomeDrawn_2 : Cond.fieldLink RX0 15 "OxenKneel$Act" "number" "I" ∈ wsX0_becomeDrawn := List.mem_of_getElem? (i := 2) rfl
theorem mX0_becomeDrawn_3 : Cond.fieldLink RX0 18 "OxenKneel$Act" "sign" "I" ∈ wsX0_becomeDrawn := List.mem_of_getElem? (i := 3) rfl
theorem nX0_becomeDrawn_X0 : ∀ w ∈ wsX00, w ∈ wsX0_becomeDrawn := fun _ h => List.mem_cons_of_mem _ (List.mem_append_right _ h)
def pX0_becomeDrawn (t_sign : Int32) (t_person : Int32) (t_number : Int32) (a1 : Int32) (post : (Int32 × Int32 × Int32) → Prop) : Prop :=
  ∀ v1 : Int32, v1 = (a1 / 48) → (∀ v2 : Int32, v2 = (a1 - a1 / 6 * 6) → (∀ v3 : Int32, v3 = (1 + (v1 - v1 / 9 * 9)) → (∀ v4 : Int32, v4 = ((a1 / 6) - (a1 / 6) / 8 * 8) → ((v4 = 0 → (post (40, v2, v3))) ∧ ((v4 = 1 → ((¬ (v1 - v1 / 4 * 4) = 0 → (post (62, v2, v3))) ∧ ((v1 - v1 / 4 * 4) = 0 → (post (41, v2, v3))))) ∧ ((v4 = 2 → (post (60, v2, v3))) ∧ ((v4 = 3 → (post (36, v2, v3))) ∧ ((v4 = 4 → (post (37, v2, v3))) ∧ ((v4 = 5 → (post (104, v2, v3))) ∧ ((v4 = 6 → (post (100, v2, v3))) ∧ ((¬ v4 = 0 → ¬ v4 = 1 → ¬ v4 = 2 → ¬ v4 = 3 → ¬ v4 = 4 → ¬ v4 = 5 → ¬ v4 = 6 → (post (107, v2, v3))))))))))))))

set_option maxHeartbeats 4000000 in
set_option maxRecDepth 100000 in
theorem kX0_becomeDrawn (l : Launch) (D : va_G) (cI cZ cJ cO : ClassId) (q_t : Nat) (sz : Nat)  (t_sign : Int32) (t_person : Int32) (t_number : Int32) (a1 : Int32) (post : (Int32 × Int32 × Int32) → Prop) (hf : pX0_becomeDrawn t_sign t_person t_number a1 post) :
    Met l yX0_becomeDrawn wsX0_becomeDrawn ({ frames := 0, cells := 0, slots := 0, locals := 0 } : Room) (va_Pc [.ref q_t, .int a1] (B1 D (tyL cI cZ cJ cO) [(q_t, .inr (0, [.int t_sign, .int t_person, .int t_number]))] sz)) (va_Qv post (fun u t => E1 D (va_A [(q_t, .inr (0, [.int t_sign, .int t_person, .int t_number]))] sz) ((fun u : Int32 × Int32 × Int32 => [(q_t, .inr (0, [.int u.1, .int u.2.1, .int u.2.2]))]) u) t) (va_A [(q_t, .inr (0, [.int t_sign, .int t_person, .int t_number]))] sz)) 0 0 (va_A [(q_t, .inr (0, [.int t_sign, .int t_person, .int t_number]))] sz) := by
  unfold pX0_becomeDrawn at hf
  refine xm_1v (own := RX0) (by decide) rfl rfl (Nat.le_of_ble_eq_true rfl) (fun p e s m args below meth c Q A C0 hN hK hA hret hP hD ls hl => ?_)
  obtain ⟨hx, hb, hml, hown, hts⟩ := id C0
  have hl : lv_has ls 3 [(0, .ref q_t), (1, .int a1)] := hl
  have hS : va_S A s.heap s.heap [] := va_S.rf
  obtain ⟨H, hHe⟩ : ∃ H, H = s.heap := ⟨_, rfl⟩
  obtain ⟨locs, hLe⟩ : ∃ L : List Loc, L = [] := ⟨_, rfl⟩
  rw [← hLe]
  rw [← hLe] at hS
  have hP : va_P D vwCl [(q_t, .inr (0, [.int t_sign, .int t_person, .int t_number]))] H := by rw [hHe]; exact hP
  have hS : va_S A s.heap H locs := by rw [hHe]; exact hS
  suffices hgo : W p l e ({ frames := 0, cells := 0, slots := 0, locals := 0 } : Room) s m args below meth c H locs 0 0 Q (F0 m 0 ls []) by rw [← hHe]; exact hgo
  clear hHe hLe
  refine lv_iload_n hx hb dX0_becomeDrawn_0 rfl (lv_at hl 1 rfl) ?_
  refine lv_bipush (v := 48) hx hb dX0_becomeDrawn_1 (by decide) ?_
  refine lv_idiv hx hb dX0_becomeDrawn_3 (by decide) ?_
  refine lv_topi (fun v1 ev1 => ?_)
  have hf := hf v1 ev1
  refine lv_istore_n (lv' := [(2, .int v1), (0, .ref q_t), (1, .int a1)]) hx hb dX0_becomeDrawn_4 rfl hl (by decide) rfl (fun ls hl => ?_)
  refine lv_aload_n hx hb dX0_becomeDrawn_5 rfl (lv_at hl 1 rfl) ?_
  refine lv_iload_n hx hb dX0_becomeDrawn_6 rfl (lv_at hl 2 rfl) ?_
  refine lv_bipush (v := 6) hx hb dX0_becomeDrawn_7 (by decide) ?_
  refine lv_irem hx hb dX0_becomeDrawn_9 (by decide) ?_
  refine lv_topi (fun v2 ev2 => ?_)
  have hf := hf v2 ev2
  refine va_put (D := D) (ci := 0) (v := .int v2) (ty := .int) (C := RX0) (T := TX0) (N := 3) hx hb hts nX0_becomeDrawn_X0 tyX0 tyX0_ok nmX0 hown hK hP hD hS 0 rfl rfl 1 (by decide) (hts _ mX0_becomeDrawn_1) (fun _ h9 => h9) rfl (by decide +kernel) rfl rfl (Nat.le_of_ble_eq_true rfl) dX0_becomeDrawn_10 (fun H locs hP hD hS => ?_)
  have hP : va_P D vwCl [(q_t, .inr (0, [.int t_sign, .int v2, .int t_number]))] H := hP
  have hD : va_D A [(q_t, .inr (0, [.int t_sign, .int v2, .int t_number]))] := hD
  refine lv_aload_n hx hb dX0_becomeDrawn_13 rfl (lv_at hl 1 rfl) ?_
  refine lv_iconst (v := 1) hx hb dX0_becomeDrawn_14 (by decide) ?_
  refine lv_iload_n hx hb dX0_becomeDrawn_15 rfl (lv_at hl 0 rfl) ?_
  refine lv_bipush (v := 9) hx hb dX0_becomeDrawn_16 (by decide) ?_
  refine lv_irem hx hb dX0_becomeDrawn_18 (by decide) ?_
  refine lv_iadd hx hb dX0_becomeDrawn_19 ?_
  refine lv_topi (fun v3 ev3 => ?_)
  have hf := hf v3 ev3
  refine va_put (D := D) (ci := 0) (v := .int v3) (ty := .int) (C := RX0) (T := TX0) (N := 3) hx hb hts nX0_becomeDrawn_X0 tyX0 tyX0_ok nmX0 hown hK hP hD hS 0 rfl rfl 2 (by decide) (hts _ mX0_becomeDrawn_2) (fun _ h9 => h9) rfl (by decide +kernel) rfl rfl (Nat.le_of_ble_eq_true rfl) dX0_becomeDrawn_20 (fun H locs hP hD hS => ?_)
  have hP : va_P D vwCl [(q_t, .inr (0, [.int t_sign, .int v2, .int v3]))] H := hP
  have hD : va_D A [(q_t, .inr (0, [.int t_sign, .int v2, .int v3]))] := hD
  refine lv_iload_n hx hb dX0_becomeDrawn_23 rfl (lv_at hl 2 rfl) ?_
  refine lv_bipush (v := 6) hx hb dX0_becomeDrawn_24 (by decide) ?_
  refine lv_idiv hx hb dX0_becomeDrawn_26 (by decide) ?_
  refine lv_bipush (v := 8) hx hb dX0_becomeDrawn_27 (by decide) ?_
  refine lv_irem hx hb dX0_becomeDrawn_29 (by decide) ?_
  refine lv_topi (fun v4 ev4 => ?_)
  have hf := hf v4 ev4
  by_cases z5 : v4 = 0
  · have hf := hf.1 z5
    refine lv_tableIn (off := 42) (tgt := 72) hx hb dX0_becomeDrawn_30 (by rw [z5]; decide) (by rw [z5]; decide) (by rw [z5]; decide) (by decide) ?_
    refine lv_aload_n hx hb dX0_becomeDrawn_72 rfl (lv_at hl 1 rfl) ?_
    refine lv_bipush (v := 40) hx hb dX0_becomeDrawn_73 (by decide) ?_
    refine va_put (D := D) (ci := 0) (v := .int 40) (ty := .int) (C := RX0) (T := TX0) (N := 3) hx hb hts nX0_becomeDrawn_X0 tyX0 tyX0_ok nmX0 hown hK hP hD hS 0 rfl rfl 0 (by decide) (hts _ mX0_becomeDrawn_3) (fun _ h9 => h9) rfl (by decide +kernel) rfl rfl (Nat.le_of_ble_eq_true rfl) dX0_becomeDrawn_75 (fun H locs hP hD hS => ?_)
    have hP : va_P D vwCl [(q_t, .inr (0, [.int 40, .int v2, .int v3]))] H := hP
    have hD : va_D A [(q_t, .inr (0, [.int 40, .int v2, .int v3]))] := hD
    refine lv_goto (tgt := 152) hx hb dX0_becomeDrawn_78 (by decide) ?_
    exact hret 152 ls H locs (40, v2, v3) dX0_becomeDrawn_152 hf hP hD hS
  · have hf := hf.2
    by_cases z6 : v4 = 1
    · have hf := hf.1 z6
      refine lv_tableIn (off := 51) (tgt := 81) hx hb dX0_becomeDrawn_30 (by rw [z6]; decide) (by rw [z6]; decide) (by rw [z6]; decide) (by decide) ?_
      refine lv_aload_n hx hb dX0_becomeDrawn_81 rfl (lv_at hl 1 rfl) ?_
      refine lv_iload_n hx hb dX0_becomeDrawn_82 rfl (lv_at hl 0 rfl) ?_
      refine lv_iconst (v := 4) hx hb dX0_becomeDrawn_83 (by decide) ?_
      refine lv_irem hx hb dX0_becomeDrawn_84 (by decide) ?_
      refine lv_if_ne (tgt := 93) hx hb dX0_becomeDrawn_85 (by decide) (fun c7 => ?_) (fun c7 => ?_)
      · have hf := hf.1 c7
        refine lv_bipush (v := 62) hx hb dX0_becomeDrawn_93 (by decide) ?_
        refine va_put (D := D) (ci := 0) (v := .int 62) (ty := .int) (C := RX0) (T := TX0) (N := 3) hx hb hts nX0_becomeDrawn_X0 tyX0 tyX0_ok nmX0 hown hK hP hD hS 0 rfl rfl 0 (by decide) (hts _ mX0_becomeDrawn_3) (fun _ h9 => h9) rfl (by decide +kernel) rfl rfl (Nat.le_of_ble_eq_true rfl) dX0_becomeDrawn_95 (fun H locs hP hD hS => ?_)
        have hP : va_P D vwCl [(q_t, .inr (0, [.int 62, .int v2, .int v3]))] H := hP
        have hD : va_D A [(q_t, .inr (0, [.int 62, .int v2, .int v3]))] := hD
        refine lv_goto (tgt := 152) hx hb dX0_becomeDrawn_98 (by decide) ?_
        exact hret 152 ls H locs (62, v2, v3) dX0_becomeDrawn_152 hf hP hD hS
      · have hf := hf.2 c7
        refine lv_bipush (v := 41) hx hb dX0_becomeDrawn_88 (by decide) ?_
        refine lv_goto (tgt := 95) hx hb dX0_becomeDrawn_90 (by decide) ?_
        refine va_put (D := D) (ci := 0) (v := .int 41) (ty := .int) (C := RX0) (T := TX0) (N := 3) hx hb hts nX0_becomeDrawn_X0 tyX0 tyX0_ok nmX0 hown hK hP hD hS 0 rfl rfl 0 (by decide) (hts _ mX0_becomeDrawn_3) (fun _ h9 => h9) rfl (by decide +kernel) rfl rfl (Nat.le_of_ble_eq_true rfl) dX0_becomeDrawn_95 (fun H locs hP hD hS => ?_)
        have hP : va_P D vwCl [(q_t, .inr (0, [.int 41, .int v2, .int v3]))] H := hP
        have hD : va_D A [(q_t, .inr (0, [.int 41, .int v2, .int v3]))] := hD
        refine lv_goto (tgt := 152) hx hb dX0_becomeDrawn_98 (by decide) ?_
        exact hret 152 ls H locs (41, v2, v3) dX0_becomeDrawn_152 hf hP hD hS
    · have hf := hf.2
      by_cases z8 : v4 = 2
      · have hf := hf.1 z8
        refine lv_tableIn (off := 71) (tgt := 101) hx hb dX0_becomeDrawn_30 (by rw [z8]; decide) (by rw [z8]; decide) (by rw [z8]; decide) (by decide) ?_
        refine lv_aload_n hx hb dX0_becomeDrawn_101 rfl (lv_at hl 1 rfl) ?_
        refine lv_bipush (v := 60) hx hb dX0_becomeDrawn_102 (by decide) ?_
        refine va_put (D := D) (ci := 0) (v := .int 60) (ty := .int) (C := RX0) (T := TX0) (N := 3) hx hb hts nX0_becomeDrawn_X0 tyX0 tyX0_ok nmX0 hown hK hP hD hS 0 rfl rfl 0 (by decide) (hts _ mX0_becomeDrawn_3) (fun _ h9 => h9) rfl (by decide +kernel) rfl rfl (Nat.le_of_ble_eq_true rfl) dX0_becomeDrawn_104 (fun H locs hP hD hS => ?_)
        have hP : va_P D vwCl [(q_t, .inr (0, [.int 60, .int v2, .int v3]))] H := hP
        have hD : va_D A [(q_t, .inr (0, [.int 60, .int v2, .int v3]))] := hD
        refine lv_goto (tgt := 152) hx hb dX0_becomeDrawn_107 (by decide) ?_
        exact hret 152 ls H locs (60, v2, v3) dX0_becomeDrawn_152 hf hP hD hS
      · have hf := hf.2
        by_cases z9 : v4 = 3
        · have hf := hf.1 z9
          refine lv_tableIn (off := 80) (tgt := 110) hx hb dX0_becomeDrawn_30 (by rw [z9]; decide) (by rw [z9]; decide) (by rw [z9]; decide) (by decide) ?_
          refine lv_aload_n hx hb dX0_becomeDrawn_110 rfl (lv_at hl 1 rfl) ?_
          refine lv_bipush (v := 36) hx hb dX0_becomeDrawn_111 (by decide) ?_
          refine va_put (D := D) (ci := 0) (v := .int 36) (ty := .int) (C := RX0) (T := TX0) (N := 3) hx hb hts nX0_becomeDrawn_X0 tyX0 tyX0_ok nmX0 hown hK hP hD hS 0 rfl rfl 0 (by decide) (hts _ mX0_becomeDrawn_3) (fun _ h9 => h9) rfl (by decide +kernel) rfl rfl (Nat.le_of_ble_eq_true rfl) dX0_becomeDrawn_113 (fun H locs hP hD hS => ?_)
          have hP : va_P D vwCl [(q_t, .inr (0, [.int 36, .int v2, .int v3]))] H := hP
          have hD : va_D A [(q_t, .inr (0, [.int 36, .int v2, .int v3]))] := hD
          refine lv_goto (tgt := 152) hx hb dX0_becomeDrawn_116 (by decide) ?_
          exact hret 152 ls H locs (36, v2, v3) dX0_becomeDrawn_152 hf hP hD hS
        · have hf := hf.2
          by_cases z10 : v4 = 4
          · have hf := hf.1 z10
            refine lv_tableIn (off := 89) (tgt := 119) hx hb dX0_becomeDrawn_30 (by rw [z10]; decide) (by rw [z10]; decide) (by rw [z10]; decide) (by decide) ?_
            refine lv_aload_n hx hb dX0_becomeDrawn_119 rfl (lv_at hl 1 rfl) ?_
            refine lv_bipush (v := 37) hx hb dX0_becomeDrawn_120 (by decide) ?_
            refine va_put (D := D) (ci := 0) (v := .int 37) (ty := .int) (C := RX0) (T := TX0) (N := 3) hx hb hts nX0_becomeDrawn_X0 tyX0 tyX0_ok nmX0 hown hK hP hD hS 0 rfl rfl 0 (by decide) (hts _ mX0_becomeDrawn_3) (fun _ h9 => h9) rfl (by decide +kernel) rfl rfl (Nat.le_of_ble_eq_true rfl) dX0_becomeDrawn_122 (fun H locs hP hD hS => ?_)
            have hP : va_P D vwCl [(q_t, .inr (0, [.int 37, .int v2, .int v3]))] H := hP
            have hD : va_D A [(q_t, .inr (0, [.int 37, .int v2, .int v3]))] := hD
            refine lv_goto (tgt := 152) hx hb dX0_becomeDrawn_125 (by decide) ?_
            exact hret 152 ls H locs (37, v2, v3) dX0_becomeDrawn_152 hf hP hD hS
          · have hf := hf.2
            by_cases z11 : v4 = 5
            · have hf := hf.1 z11
              refine lv_tableIn (off := 98) (tgt := 128) hx hb dX0_becomeDrawn_30 (by rw [z11]; decide) (by rw [z11]; decide) (by rw [z11]; decide) (by decide) ?_
              refine lv_aload_n hx hb dX0_becomeDrawn_128 rfl (lv_at hl 1 rfl) ?_
              refine lv_bipush (v := 104) hx hb dX0_becomeDrawn_129 (by decide) ?_
              refine va_put (D := D) (ci := 0) (v := .int 104) (ty := .int) (C := RX0) (T := TX0) (N := 3) hx hb hts nX0_becomeDrawn_X0 tyX0 tyX0_ok nmX0 hown hK hP hD hS 0 rfl rfl 0 (by decide) (hts _ mX0_becomeDrawn_3) (fun _ h9 => h9) rfl (by decide +kernel) rfl rfl (Nat.le_of_ble_eq_true rfl) dX0_becomeDrawn_131 (fun H locs hP hD hS => ?_)
              have hP : va_P D vwCl [(q_t, .inr (0, [.int 104, .int v2, .int v3]))] H := hP
              have hD : va_D A [(q_t, .inr (0, [.int 104, .int v2, .int v3]))] := hD
              refine lv_goto (tgt := 152) hx hb dX0_becomeDrawn_134 (by decide) ?_
              exact hret 152 ls H locs (104, v2, v3) dX0_becomeDrawn_152 hf hP hD hS
            · have hf := hf.2
              by_cases z12 : v4 = 6
              · have hf := hf.1 z12
                refine lv_tableIn (off := 107) (tgt := 137) hx hb dX0_becomeDrawn_30 (by rw [z12]; decide) (by rw [z12]; decide) (by rw [z12]; decide) (by decide) ?_
                refine lv_aload_n hx hb dX0_becomeDrawn_137 rfl (lv_at hl 1 rfl) ?_
                refine lv_bipush (v := 100) hx hb dX0_becomeDrawn_138 (by decide) ?_
                refine va_put (D := D) (ci := 0) (v := .int 100) (ty := .int) (C := RX0) (T := TX0) (N := 3) hx hb hts nX0_becomeDrawn_X0 tyX0 tyX0_ok nmX0 hown hK hP hD hS 0 rfl rfl 0 (by decide) (hts _ mX0_becomeDrawn_3) (fun _ h9 => h9) rfl (by decide +kernel) rfl rfl (Nat.le_of_ble_eq_true rfl) dX0_becomeDrawn_140 (fun H locs hP hD hS => ?_)
                have hP : va_P D vwCl [(q_t, .inr (0, [.int 100, .int v2, .int v3]))] H := hP
                have hD : va_D A [(q_t, .inr (0, [.int 100, .int v2, .int v3]))] := hD
                refine lv_goto (tgt := 152) hx hb dX0_becomeDrawn_143 (by decide) ?_
                exact hret 152 ls H locs (100, v2, v3) dX0_becomeDrawn_152 hf hP hD hS
              · have hf := hf.2
                have hf := hf z5 z6 z8 z9 z10 z11 z12
                refine lv_tableOut (tgt := 146) hx hb dX0_becomeDrawn_30 (by have yz5 := lv_neT (a := 0) z5 (by decide); have yz6 := lv_neT (a := 1) z6 (by decide); have yz8 := lv_neT (a := 2) z8 (by decide); have yz9 := lv_neT (a := 3) z9 (by decide); have yz10 := lv_neT (a := 4) z10 (by decide); have yz11 := lv_neT (a := 5) z11 (by decide); have yz12 := lv_neT (a := 6) z12 (by decide); omega) (by decide) ?_
                refine lv_aload_n hx hb dX0_becomeDrawn_146 rfl (lv_at hl 1 rfl) ?_
                refine lv_bipush (v := 107) hx hb dX0_becomeDrawn_147 (by decide) ?_
                refine va_put (D := D) (ci := 0) (v := .int 107) (ty := .int) (C := RX0) (T := TX0) (N := 3) hx hb hts nX0_becomeDrawn_X0 tyX0 tyX0_ok nmX0 hown hK hP hD hS 0 rfl rfl 0 (by decide) (hts _ mX0_becomeDrawn_3) (fun _ h9 => h9) rfl (by decide +kernel) rfl rfl (Nat.le_of_ble_eq_true rfl) dX0_becomeDrawn_149 (fun H locs hP hD hS => ?_)
                have hP : va_P D vwCl [(q_t, .inr (0, [.int 107, .int v2, .int v3]))] H := hP
                have hD : va_D A [(q_t, .inr (0, [.int 107, .int v2, .int v3]))] := hD
                exact hret 152 ls H locs (107, v2, v3) dX0_becomeDrawn_152 hf hP hD hS
