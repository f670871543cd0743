/-! X7_seen -/
theorem mX7_seen_1 : Cond.fieldLink RX7 140 "OxenKneelModel" "sights" "I" ∈ wsX7_seen := List.mem_of_getElem? (i := 1) rfl
theorem mX7_seen_2 : Cond.fieldLink RX7 23 "OxenKneelModel" "sight" "[I" ∈ wsX7_seen := List.mem_of_getElem? (i := 2) rfl
theorem nX7_seen_X7 : ∀ w ∈ wsX70, w ∈ wsX7_seen := fun _ h => List.mem_cons_of_mem _ (List.mem_append_right _ h)
def pX7_seen_b58 (a1 : Int32) (a2 : Int32) (post : Int32 → (Int32 × (Nat → Int32)) → Prop) (s0 : Int32) (s1 : Int32) (t_sights : Int32) (t_sight : (Nat → Int32)) : Prop :=
  vp_in s1 16 ∧ (∀ v2 : Int32, v2 = (t_sights + 1) → (post v2 (v2, (upd t_sight s1.toNatClampNeg s0))))

set_option maxHeartbeats 4000000 in
set_option maxRecDepth 100000 in
theorem wX7_seen_b58 {p : Program} {l : Launch} {e : Env} {s : State} {m : MethodId} {args : Array Value} {below : List Frame} {meth : Method} {c : Code} {Q : State → Prop} {D : va_G} {cI cZ cJ cO : ClassId} {A : Nat → Prop} (C0 : CallFix p m c cX7_seen 3 s args wsX7_seen RX7) (hN : nw s) (hK : va_K D vwCl (tyL cI cZ cJ cO) s) (hA : ∀ q, s.heap.size ≤ q → A q) (q_t q_t_sight q_t_book q_t_now q_t_pad q_t_had q_t_takes q_t_worths q_t_fitting q_t_wins q_t_ways q_t_image q_t_isKept : Nat) (t_shift : Int32) (t_kneels : Int32) (t_signs : Int32) (t_metAt : Int32) (t_metWho : Int32) (t_reason : Int32) (t_acts : Int32) (a1 : Int32) (a2 : Int32) (post : Int32 → (Int32 × (Nat → Int32)) → Prop) (hret : hrI p l e ({ frames := 1, cells := 0, slots := 0, locals := 22 } : Room) s m args below meth c cX7_seen D A Q post (fun u : Int32 × (Nat → Int32) => [(q_t, .inr (7, [.ref q_t_book, .ref q_t_now, .int t_shift, .int t_kneels, .int u.1, .ref q_t_sight, .int t_signs, .ref q_t_pad, .int t_metAt, .int t_metWho, .int t_reason, .int t_acts, .ref q_t_had, .ref q_t_takes, .ref q_t_worths, .ref q_t_fitting, .ref q_t_wins, .ref q_t_ways, .ref q_t_image, .ref q_t_isKept])), (q_t_sight, .inl (cI, 16, .inl u.2))])) :
    ∀ (s0 : Int32) (s1 : Int32) (t_sights : Int32) (t_sight : (Nat → Int32)), pX7_seen_b58 a1 a2 post s0 s1 t_sights t_sight → ∀ (H : Heap) (locs : List Loc), va_P D vwCl [(q_t, .inr (7, [.ref q_t_book, .ref q_t_now, .int t_shift, .int t_kneels, .int t_sights, .ref q_t_sight, .int t_signs, .ref q_t_pad, .int t_metAt, .int t_metWho, .int t_reason, .int t_acts, .ref q_t_had, .ref q_t_takes, .ref q_t_worths, .ref q_t_fitting, .ref q_t_wins, .ref q_t_ways, .ref q_t_image, .ref q_t_isKept])), (q_t_sight, .inl (cI, 16, .inl t_sight))] H → va_D A [(q_t, .inr (7, [.ref q_t_book, .ref q_t_now, .int t_shift, .int t_kneels, .int t_sights, .ref q_t_sight, .int t_signs, .ref q_t_pad, .int t_metAt, .int t_metWho, .int t_reason, .int t_acts, .ref q_t_had, .ref q_t_takes, .ref q_t_worths, .ref q_t_fitting, .ref q_t_wins, .ref q_t_ways, .ref q_t_image, .ref q_t_isKept])), (q_t_sight, .inl (cI, 16, .inl t_sight))] → va_S A s.heap H locs → ∀ ls : Array Slot, lv_has ls 3 [(0, .ref q_t)] → W p l e ({ frames := 1, cells := 0, slots := 0, locals := 22 } : Room) s m args below meth c H locs 0 0 Q (F0 m 58 ls [.int s0, .int s1, .ref q_t_sight]) := by
  obtain ⟨hx, hb, hml, hown, hts⟩ := id C0
  intro s0 s1 t_sights t_sight hf H locs hP hD hS ls hl
  unfold pX7_seen_b58 at hf
  have g1 := hf.1
  have hf := hf.2
  refine xa_iast hx hb hK hP hD hS 1 0 rfl rfl (j := s1.toNatClampNeg) rfl g1 dX7_seen_58 (fun H locs hP hD hS => ?_)
  have hP : va_P D vwCl [(q_t, .inr (7, [.ref q_t_book, .ref q_t_now, .int t_shift, .int t_kneels, .int t_sights, .ref q_t_sight, .int t_signs, .ref q_t_pad, .int t_metAt, .int t_metWho, .int t_reason, .int t_acts, .ref q_t_had, .ref q_t_takes, .ref q_t_worths, .ref q_t_fitting, .ref q_t_wins, .ref q_t_ways, .ref q_t_image, .ref q_t_isKept])), (q_t_sight, .inl (cI, 16, .inl (upd t_sight s1.toNatClampNeg s0)))] H := hP
  have hD : va_D A [(q_t, .inr (7, [.ref q_t_book, .ref q_t_now, .int t_shift, .int t_kneels, .int t_sights, .ref q_t_sight, .int t_signs, .ref q_t_pad, .int t_metAt, .int t_metWho, .int t_reason, .int t_acts, .ref q_t_had, .ref q_t_takes, .ref q_t_worths, .ref q_t_fitting, .ref q_t_wins, .ref q_t_ways, .ref q_t_image, .ref q_t_isKept])), (q_t_sight, .inl (cI, 16, .inl (upd t_sight s1.toNatClampNeg s0)))] := hD
  refine lv_aload_n hx hb dX7_seen_59 rfl (lv_at hl 0 rfl) ?_
  refine lv_dup hx hb dX7_seen_60 rfl ?_
  refine va_get (D := D) (ci := 7) (v := .int t_sights) (C := RX7) (T := TX7) (N := 20) hx hb hts nX7_seen_X7 hown hK hP 0 rfl rfl 4 (by decide) (hts _ mX7_seen_1) (fun _ h9 => h9) rfl dX7_seen_61 ?_
  refine lv_iconst (v := 1) hx hb dX7_seen_64 (by decide) ?_
  refine lv_iadd hx hb dX7_seen_65 ?_
  refine lv_topi (fun v2 ev2 => ?_)
  have hf := hf v2 ev2
  refine va_put (D := D) (ci := 7) (v := .int v2) (ty := .int) (C := RX7) (T := TX7) (N := 20) hx hb hts nX7_seen_X7 tyX7 tyX7_ok nmX7 hown hK hP hD hS 0 rfl rfl 4 (by decide) (hts _ mX7_seen_1) (fun _ h9 => h9) rfl (by decide +kernel) rfl rfl (Nat.le_of_ble_eq_true rfl) dX7_seen_66 (fun H locs hP hD hS => ?_)
  have hP : va_P D vwCl [(q_t, .inr (7, [.ref q_t_book, .ref q_t_now, .int t_shift, .int t_kneels, .int v2, .ref q_t_sight, .int t_signs, .ref q_t_pad, .int t_metAt, .int t_metWho, .int t_reason, .int t_acts, .ref q_t_had, .ref q_t_takes, .ref q_t_worths, .ref q_t_fitting, .ref q_t_wins, .ref q_t_ways, .ref q_t_image, .ref q_t_isKept])), (q_t_sight, .inl (cI, 16, .inl (upd t_sight s1.toNatClampNeg s0)))] H := hP
  have hD : va_D A [(q_t, .inr (7, [.ref q_t_book, .ref q_t_now, .int t_shift, .int t_kneels, .int v2, .ref q_t_sight, .int t_signs, .ref q_t_pad, .int t_metAt, .int t_metWho, .int t_reason, .int t_acts, .ref q_t_had, .ref q_t_takes, .ref q_t_worths, .ref q_t_fitting, .ref q_t_wins, .ref q_t_ways, .ref q_t_image, .ref q_t_isKept])), (q_t_sight, .inl (cI, 16, .inl (upd t_sight s1.toNatClampNeg s0)))] := hD
  refine lv_aload_n hx hb dX7_seen_69 rfl (lv_at hl 0 rfl) ?_
  refine va_get (D := D) (ci := 7) (v := .int v2) (C := RX7) (T := TX7) (N := 20) hx hb hts nX7_seen_X7 hown hK hP 0 rfl rfl 4 (by decide) (hts _ mX7_seen_1) (fun _ h9 => h9) rfl dX7_seen_70 ?_
  exact hret 73 ls H locs v2 (v2, (upd t_sight s1.toNatClampNeg s0)) dX7_seen_73 hf hP hD hS

def pX7_seen (t_sights : Int32) (t_sight : (Nat → Int32)) (a1 : Int32) (a2 : Int32) (post : Int32 → (Int32 × (Nat → Int32)) → Prop) : Prop :=
  pX7_in a1 0 99 (fun r1 => (¬ r1 = 0 → ((¬ t_sights = 8 → (vp_in (2 * t_sights) 16 ∧ ((a2 = 0 → (pX7_seen_b58 a1 a2 post  0 ((2 * t_sights) + 1) t_sights (upd t_sight (2 * t_sights).toNatClampNeg a1))) ∧ (¬ a2 = 0 → (pX7_seen_b58 a1 a2 post  1 ((2 * t_sights) + 1) t_sights (upd t_sight (2 * t_sights).toNatClampNeg a1)))))) ∧ (t_sights = 8 → (post (-4) (t_sights, t_sight))))) ∧ (r1 = 0 → (post (-2) (t_sights, t_sight))))

set_option maxHeartbeats 4000000 in
set_option maxRecDepth 100000 in
theorem kX7_seen (l : Launch) (D : va_G) (cI cZ cJ cO : ClassId) (q_t q_t_sight q_t_book q_t_now q_t_pad q_t_had q_t_takes q_t_worths q_t_fitting q_t_wins q_t_ways q_t_image q_t_isKept : Nat) (sz : Nat) (t_shift : Int32) (t_kneels : Int32) (t_signs : Int32) (t_metAt : Int32) (t_metWho : Int32) (t_reason : Int32) (t_acts : Int32) (t_sights : Int32) (t_sight : (Nat → Int32)) (a1 : Int32) (a2 : Int32) (post : Int32 → (Int32 × (Nat → Int32)) → Prop) (hf : pX7_seen t_sights t_sight a1 a2 post) :
    Met l yX7_seen wsX7_seen ({ frames := 1, cells := 0, slots := 0, locals := 22 } : Room) (va_Pc [.ref q_t, .int a1, .int a2] (B1 D (tyL cI cZ cJ cO) [(q_t, .inr (7, [.ref q_t_book, .ref q_t_now, .int t_shift, .int t_kneels, .int t_sights, .ref q_t_sight, .int t_signs, .ref q_t_pad, .int t_metAt, .int t_metWho, .int t_reason, .int t_acts, .ref q_t_had, .ref q_t_takes, .ref q_t_worths, .ref q_t_fitting, .ref q_t_wins, .ref q_t_ways, .ref q_t_image, .ref q_t_isKept])), (q_t_sight, .inl (cI, 16, .inl t_sight))] sz)) (va_Qi post (fun u t => E1 D (va_A [(q_t, .inr (7, [.ref q_t_book, .ref q_t_now, .int t_shift, .int t_kneels, .int t_sights, .ref q_t_sight, .int t_signs, .ref q_t_pad, .int t_metAt, .int t_metWho, .int t_reason, .int t_acts, .ref q_t_had, .ref q_t_takes, .ref q_t_worths, .ref q_t_fitting, .ref q_t_wins, .ref q_t_ways, .ref q_t_image, .ref q_t_isKept])), (q_t_sight, .inl (cI, 16, .inl t_sight))] sz) ((fun u : Int32 × (Nat → Int32) => [(q_t, .inr (7, [.ref q_t_book, .ref q_t_now, .int t_shift, .int t_kneels, .int u.1, .ref q_t_sight, .int t_signs, .ref q_t_pad, .int t_metAt, .int t_metWho, .int t_reason, .int t_acts, .ref q_t_had, .ref q_t_takes, .ref q_t_worths, .ref q_t_fitting, .ref q_t_wins, .ref q_t_ways, .ref q_t_image, .ref q_t_isKept])), (q_t_sight, .inl (cI, 16, .inl u.2))]) u) t) (va_A [(q_t, .inr (7, [.ref q_t_book, .ref q_t_now, .int t_shift, .int t_kneels, .int t_sights, .ref q_t_sight, .int t_signs, .ref q_t_pad, .int t_metAt, .int t_metWho, .int t_reason, .int t_acts, .ref q_t_had, .ref q_t_takes, .ref q_t_worths, .ref q_t_fitting, .ref q_t_wins, .ref q_t_ways, .ref q_t_image, .ref q_t_isKept])), (q_t_sight, .inl (cI, 16, .inl t_sight))] sz)) 0 0 (va_A [(q_t, .inr (7, [.ref q_t_book, .ref q_t_now, .int t_shift, .int t_kneels, .int t_sights, .ref q_t_sight, .int t_signs, .ref q_t_pad, .int t_metAt, .int t_metWho, .int t_reason, .int t_acts, .ref q_t_had, .ref q_t_takes, .ref q_t_worths, .ref q_t_fitting, .ref q_t_wins, .ref q_t_ways, .ref q_t_image, .ref q_t_isKept])), (q_t_sight, .inl (cI, 16, .inl t_sight))] sz) := by
  unfold pX7_seen at hf
  refine xm_1i (own := RX7) (by decide) rfl rfl (Nat.le_of_ble_eq_true rfl) (fun p e s m args below meth c Q A C0 hN hK hA hret hP hD ls hl => ?_)
  obtain ⟨hx, hb, hml, hown, hts⟩ := id C0
  have hl : lv_has ls 3 [(0, .ref q_t), (1, .int a1), (2, .int a2)] := hl
  have hS : va_S A s.heap s.heap [] := va_S.rf
  obtain ⟨H, hHe⟩ : ∃ H, H = s.heap := ⟨_, rfl⟩
  obtain ⟨locs, hLe⟩ : ∃ L : List Loc, L = [] := ⟨_, rfl⟩
  rw [← hLe]
  rw [← hLe] at hS
  have hP : va_P D vwCl [(q_t, .inr (7, [.ref q_t_book, .ref q_t_now, .int t_shift, .int t_kneels, .int t_sights, .ref q_t_sight, .int t_signs, .ref q_t_pad, .int t_metAt, .int t_metWho, .int t_reason, .int t_acts, .ref q_t_had, .ref q_t_takes, .ref q_t_worths, .ref q_t_fitting, .ref q_t_wins, .ref q_t_ways, .ref q_t_image, .ref q_t_isKept])), (q_t_sight, .inl (cI, 16, .inl t_sight))] H := by rw [hHe]; exact hP
  have hS : va_S A s.heap H locs := by rw [hHe]; exact hS
  suffices hgo : W p l e ({ frames := 1, cells := 0, slots := 0, locals := 22 } : Room) s m args below meth c H locs 0 0 Q (F0 m 0 ls []) by rw [← hHe]; exact hgo
  clear hHe hLe
  refine lv_iload_n hx hb dX7_seen_0 rfl (lv_at hl 1 rfl) ?_
  refine lv_iconst (v := 0) hx hb dX7_seen_1 (by decide) ?_
  refine lv_bipush (v := 99) hx hb dX7_seen_2 (by decide) ?_
  refine xs_i (va_runS (As := [.int a1, .int 0, .int 99]) (rest := []) ⟨hx, hb, hml, hown, hts⟩ (kX7_in l D cI cZ cJ cO a1 0 99 _ hf) (va_cwS 3 hts gX7_seen_X7_in rfl rfl rfl (by decide +kernel) ⟨Nat.le_of_ble_eq_true rfl, Nat.le_of_ble_eq_true rfl⟩) (B0_pre (hP.sub (ws' := []) [] rfl) hK hN) rfl rfl hl.1 rfl (lv_room (Nat.le_of_ble_eq_true rfl)) dX7_seen_4 ⟨Nat.zero_le _, Nat.zero_le _⟩) (fun r1 hf => ?_)
  refine lv_if_ne (tgt := 13) hx hb dX7_seen_7 (by decide) (fun c2 => ?_) (fun c2 => ?_)
  · have hf := hf.1 c2
    refine lv_aload_n hx hb dX7_seen_13 rfl (lv_at hl 0 rfl) ?_
    refine va_get (D := D) (ci := 7) (v := .int t_sights) (C := RX7) (T := TX7) (N := 20) hx hb hts nX7_seen_X7 hown hK hP 0 rfl rfl 4 (by decide) (hts _ mX7_seen_1) (fun _ h9 => h9) rfl dX7_seen_14 ?_
    refine lv_bipush (v := 8) hx hb dX7_seen_17 (by decide) ?_
    refine lv_icmp_ne (tgt := 25) hx hb dX7_seen_19 (by decide) (fun c3 => ?_) (fun c3 => ?_)
    · have hf := hf.1 c3
      refine lv_aload_n hx hb dX7_seen_25 rfl (lv_at hl 0 rfl) ?_
      refine va_get (D := D) (ci := 7) (v := .ref q_t_sight) (C := RX7) (T := TX7) (N := 20) hx hb hts nX7_seen_X7 hown hK hP 0 rfl rfl 5 (by decide) (hts _ mX7_seen_2) (fun _ h9 => h9) rfl dX7_seen_26 ?_
      refine lv_iconst (v := 2) hx hb dX7_seen_29 (by decide) ?_
      refine lv_aload_n hx hb dX7_seen_30 rfl (lv_at hl 0 rfl) ?_
      refine va_get (D := D) (ci := 7) (v := .int t_sights) (C := RX7) (T := TX7) (N := 20) hx hb hts nX7_seen_X7 hown hK hP 0 rfl rfl 4 (by decide) (hts _ mX7_seen_1) (fun _ h9 => h9) rfl dX7_seen_31 ?_
      refine lv_imul hx hb dX7_seen_34 ?_
      refine lv_iload_n hx hb dX7_seen_35 rfl (lv_at hl 1 rfl) ?_
      have g4 := hf.1
      have hf := hf.2
      refine xa_iast hx hb hK hP hD hS 1 0 rfl rfl (j := (2 * t_sights).toNatClampNeg) rfl g4 dX7_seen_36 (fun H locs hP hD hS => ?_)
      have hP : va_P D vwCl [(q_t, .inr (7, [.ref q_t_book, .ref q_t_now, .int t_shift, .int t_kneels, .int t_sights, .ref q_t_sight, .int t_signs, .ref q_t_pad, .int t_metAt, .int t_metWho, .int t_reason, .int t_acts, .ref q_t_had, .ref q_t_takes, .ref q_t_worths, .ref q_t_fitting, .ref q_t_wins, .ref q_t_ways, .ref q_t_image, .ref q_t_isKept])), (q_t_sight, .inl (cI, 16, .inl (upd t_sight (2 * t_sights).toNatClampNeg a1)))] H := hP
      have hD : va_D A [(q_t, .inr (7, [.ref q_t_book, .ref q_t_now, .int t_shift, .int t_kneels, .int t_sights, .ref q_t_sight, .int t_signs, .ref q_t_pad, .int t_metAt, .int t_metWho, .int t_reason, .int t_acts, .ref q_t_had, .ref q_t_takes, .ref q_t_worths, .ref q_t_fitting, .ref q_t_wins, .ref q_t_ways, .ref q_t_image, .ref q_t_isKept])), (q_t_sight, .inl (cI, 16, .inl (upd t_sight (2 * t_sights).toNatClampNeg a1)))] := hD
      refine lv_aload_n hx hb dX7_seen_37 rfl (lv_at hl 0 rfl) ?_
      refine va_get (D := D) (ci := 7) (v := .ref q_t_sight) (C := RX7) (T := TX7) (N := 20) hx hb hts nX7_seen_X7 hown hK hP 0 rfl rfl 5 (by decide) (hts _ mX7_seen_2) (fun _ h9 => h9) rfl dX7_seen_38 ?_
      refine lv_iconst (v := 2) hx hb dX7_seen_41 (by decide) ?_
      refine lv_aload_n hx hb dX7_seen_42 rfl (lv_at hl 0 rfl) ?_
      refine va_get (D := D) (ci := 7) (v := .int t_sights) (C := RX7) (T := TX7) (N := 20) hx hb hts nX7_seen_X7 hown hK hP 0 rfl rfl 4 (by decide) (hts _ mX7_seen_1) (fun _ h9 => h9) rfl dX7_seen_43 ?_
      refine lv_imul hx hb dX7_seen_46 ?_
      refine lv_iconst (v := 1) hx hb dX7_seen_47 (by decide) ?_
      refine lv_iadd hx hb dX7_seen_48 ?_
      refine lv_iload_n hx hb dX7_seen_49 rfl (lv_at hl 2 rfl) ?_
      refine lv_if_eq (tgt := 57) hx hb dX7_seen_50 (by decide) (fun c5 => ?_) (fun c5 => ?_)
      · have hf := hf.1 c5
        refine lv_iconst (v := 0) hx hb dX7_seen_57 (by decide) ?_
        exact wX7_seen_b58 C0 hN hK hA q_t q_t_sight q_t_book q_t_now q_t_pad q_t_had q_t_takes q_t_worths q_t_fitting q_t_wins q_t_ways q_t_image q_t_isKept t_shift t_kneels t_signs t_metAt t_metWho t_reason t_acts a1 a2 post hret   0 ((2 * t_sights) + 1) t_sights (upd t_sight (2 * t_sights).toNatClampNeg a1) hf H locs hP hD hS ls (lv_sub hl [0] rfl)
      · have hf := hf.2 c5
        refine lv_iconst (v := 1) hx hb dX7_seen_53 (by decide) ?_
        refine lv_goto (tgt := 58) hx hb dX7_seen_54 (by decide) ?_
        exact wX7_seen_b58 C0 hN hK hA q_t q_t_sight q_t_book q_t_now q_t_pad q_t_had q_t_takes q_t_worths q_t_fitting q_t_wins q_t_ways q_t_image q_t_isKept t_shift t_kneels t_signs t_metAt t_metWho t_reason t_acts a1 a2 post hret   1 ((2 * t_sights) + 1) t_sights (upd t_sight (2 * t_sights).toNatClampNeg a1) hf H locs hP hD hS ls (lv_sub hl [0] rfl)
    · have hf := hf.2 c3
      refine lv_bipush (v := (-4)) hx hb dX7_seen_22 (by decide) ?_
      exact hret 24 ls H locs (-4) (t_sights, t_sight) dX7_seen_24 hf hP hD hS
  · have hf := hf.2 c2
    refine lv_bipush (v := (-2)) hx hb dX7_seen_10 (by decide) ?_
    exact hret 12 ls H locs (-2) (t_sights, t_sight) dX7_seen_12 hf hP hD hS

/-! X7_forget -/
theorem mX7_forget_1 : Cond.fieldLink RX7 140 "OxenKneelModel" "sights" "I" ∈ wsX7_forget := List.mem_of_getElem? (i := 1) rfl
theorem nX7_forget_X7 : ∀ w ∈ wsX70, w ∈ wsX7_forget := fun _ h => List.mem_cons_of_mem _ (List.mem_append_right _ h)
def pX7_forget (t_sights : Int32)  (post : Int32 → (Int32) → Prop) : Prop :=
  post t_sights 0

set_option maxHeartbeats 4000000 in
set_option maxRecDepth 100000 in
theorem kX7_forget (l : Launch) (D : va_G) (cI cZ cJ cO : ClassId) (q_t q_t_book q_t_now q_t_sight q_t_pad q_t_had q_t_takes q_t_worths q_t_fitting q_t_wins q_t_ways q_t_image q_t_isKept : Nat) (sz : Nat) (t_shift : Int32) (t_kneels : Int32) (t_signs : Int32) (t_metAt : Int32) (t_metWho : Int32) (t_reason : Int32) (t_acts : Int32) (t_sights : Int32)  (post : Int32 → (Int32) → Prop) (hf : pX7_forget t_sights post) :
    Met l yX7_forget wsX7_forget ({ frames := 0, cells := 0, slots := 0, locals := 0 } : Room) (va_Pc [.ref q_t] (B1 D (tyL cI cZ cJ cO) [(q_t, .inr (7, [.ref q_t_book, .ref q_t_now, .int t_shift, .int t_kneels, .int t_sights, .ref q_t_sight, .int t_signs, .ref q_t_pad, .int t_metAt, .int t_metWho, .int t_reason, .int t_acts, .ref q_t_had, .ref q_t_takes, .ref q_t_worths, .ref q_t_fitting, .ref q_t_wins, .ref q_t_ways, .ref q_t_image, .ref q_t_isKept]))] sz)) (va_Qi post (fun u t => E1 D (va_A [(q_t, .inr (7, [.ref q_t_book, .ref q_t_now, .int t_shift, .int t_kneels, .int t_sights, .ref q_t_sight, .int t_signs, .ref q_t_pad, .int t_metAt, .int t_metWho, .int t_reason, .int t_acts, .ref q_t_had, .ref q_t_takes, .ref q_t_worths, .ref q_t_fitting, .ref q_t_wins, .ref q_t_ways, .ref q_t_image, .ref q_t_isKept]))] sz) ((fun u : Int32 => [(q_t, .inr (7, [.ref q_t_book, .ref q_t_now, .int t_shift, .int t_kneels, .int u, .ref q_t_sight, .int t_signs, .ref q_t_pad, .int t_metAt, .int t_metWho, .int t_reason, .int t_acts, .ref q_t_had, .ref q_t_takes, .ref q_t_worths, .ref q_t_fitting, .ref q_t_wins, .ref q_t_ways, .ref q_t_image, .ref q_t_isKept]))]) u) t) (va_A [(q_t, .inr (7, [.ref q_t_book, .ref q_t_now, .int t_shift, .int t_kneels, .int t_sights, .ref q_t_sight, .int t_signs, .ref q_t_pad, .int t_metAt, .int t_metWho, .int t_reason, .int t_acts, .ref q_t_had, .ref q_t_takes, .ref q_t_worths, .ref q_t_fitting, .ref q_t_wins, .ref q_t_ways, .ref q_t_image, .ref q_t_isKept]))] sz)) 0 0 (va_A [(q_t, .inr (7, [.ref q_t_book, .ref q_t_now, .int t_shift, .int t_kneels, .int t_sights, .ref q_t_sight, .int t_signs, .ref q_t_pad, .int t_metAt, .int t_metWho, .int t_reason, .int t_acts, .ref q_t_had, .ref q_t_takes, .ref q_t_worths, .ref q_t_fitting, .ref q_t_wins, .ref q_t_ways, .ref q_t_image, .ref q_t_isKept]))] sz) := by
  unfold pX7_forget at hf
  refine xm_1i (own := RX7) (by decide) rfl rfl (Nat.le_of_ble_eq_true rfl) (fun p e s m args below meth c Q A C0 hN hK hA hret hP hD ls hl => ?_)
  obtain ⟨hx, hb, hml, hown, hts⟩ := id C0
  have hl : lv_has ls 2 [(0, .ref q_t)] := hl
  have hS : va_S A s.heap s.heap [] := va_S.rf
  obtain ⟨H, hHe⟩ : ∃ H, H = s.heap := ⟨_, rfl⟩
  obtain ⟨locs, hLe⟩ : ∃ L : List Loc, L = [] := ⟨_, rfl⟩
  rw [← hLe]
  rw [← hLe] at hS
  have hP : va_P D vwCl [(q_t, .inr (7, [.ref q_t_book, .ref q_t_now, .int t_shift, .int t_kneels, .int t_sights, .ref q_t_sight, .int t_signs, .ref q_t_pad, .int t_metAt, .int t_metWho, .int t_reason, .int t_acts, .ref q_t_had, .ref q_t_takes, .ref q_t_worths, .ref q_t_fitting, .ref q_t_wins, .ref q_t_ways, .ref q_t_image, .ref q_t_isKept]))] H := by rw [hHe]; exact hP
  have hS : va_S A s.heap H locs := by rw [hHe]; exact hS
  suffices hgo : W p l e ({ frames := 0, cells := 0, slots := 0, locals := 0 } : Room) s m args below meth c H locs 0 0 Q (F0 m 0 ls []) by rw [← hHe]; exact hgo
  clear hHe hLe
  refine lv_aload_n hx hb dX7_forget_0 rfl (lv_at hl 0 rfl) ?_
  refine va_get (D := D) (ci := 7) (v := .int t_sights) (C := RX7) (T := TX7) (N := 20) hx hb hts nX7_forget_X7 hown hK hP 0 rfl rfl 4 (by decide) (hts _ mX7_forget_1) (fun _ h9 => h9) rfl dX7_forget_1 ?_
  refine lv_istore_n (lv' := [(1, .int t_sights), (0, .ref q_t)]) hx hb dX7_forget_4 rfl hl (by decide) rfl (fun ls hl => ?_)
  refine lv_aload_n hx hb dX7_forget_5 rfl (lv_at hl 1 rfl) ?_
  refine lv_iconst (v := 0) hx hb dX7_forget_6 (by decide) ?_
  refine va_put (D := D) (ci := 7) (v := .int 0) (ty := .int) (C := RX7) (T := TX7) (N := 20) hx hb hts nX7_forget_X7 tyX7 tyX7_ok nmX7 hown hK hP hD hS 0 rfl rfl 4 (by decide) (hts _ mX7_forget_1) (fun _ h9 => h9) rfl (by decide +kernel) rfl rfl (Nat.le_of_ble_eq_true rfl) dX7_forget_7 (fun H locs hP hD hS => ?_)
  have hP : va_P D vwCl [(q_t, .inr (7, [.ref q_t_book, .ref q_t_now, .int t_shift, .int t_kneels, .int 0, .ref q_t_sight, .int t_signs, .ref q_t_pad, .int t_metAt, .int t_metWho, .int t_reason, .int t_acts, .ref q_t_had, .ref q_t_takes, .ref q_t_worths, .ref q_t_fitting, .ref q_t_wins, .ref q_t_ways, .ref q_t_image, .ref q_t_isKept]))] H := hP
  have hD : va_D A [(q_t, .inr (7, [.ref q_t_book, .ref q_t_now, .int t_shift, .int t_kneels, .int 0, .ref q_t_sight, .int t_signs, .ref q_t_pad, .int t_metAt, .int t_metWho, .int t_reason, .int t_acts, .ref q_t_had, .ref q_t_takes, .ref q_t_worths, .ref q_t_fitting, .ref q_t_wins, .ref q_t_ways, .ref q_t_image, .ref q_t_isKept]))] := hD
  refine lv_iload_n hx hb dX7_forget_10 rfl (lv_at hl 0 rfl) ?_
  exact hret 11 ls H locs t_sights 0 dX7_forget_11 hf hP hD hS

/-! X7_rings -/

def pX7_rings  (a1 : Int32) (a2 : Int32) (post : Int32 → Prop) : Prop :=
  ¬ (a1 / 100) = 0 ∧ ((¬ (a2 - a2 / (a1 / 100) * (a1 / 100)) = (a1 - a1 / 100 * 100) → (post 0)) ∧ ((a2 - a2 / (a1 / 100) * (a1 / 100)) = (a1 - a1 / 100 * 100) → (post 1)))

set_option maxHeartbeats 4000000 in
set_option maxRecDepth 100000 in
theorem kX7_rings (l : Launch) (D : va_G) (cI cZ cJ cO : ClassId)    (a1 : Int32) (a2 : Int32) (post : Int32 → Prop) (hf : pX7_rings a1 a2 post) :
    Met l yX7_rings wsX7_rings ({ frames := 0, cells := 0, slots := 0, locals := 0 } : Room) (va_Pc [.int a1, .int a2] (B0 D (tyL cI cZ cJ cO) [])) (vp_Si post) 0 0 (fun _ => False) := by
  unfold pX7_rings at hf
  refine xm_0z (own := RX7) (by decide) rfl rfl (Nat.le_of_ble_eq_true rfl) (fun p e s m args below meth c Q C0 hN hK hret hP ls hl => ?_)
  obtain ⟨hx, hb, hml, hown, hts⟩ := id C0
  have hl : lv_has ls 2 [(0, .int a1), (1, .int a2)] := hl
  refine lv_iload_n hx hb dX7_rings_0 rfl (lv_at hl 1 rfl) ?_
  refine lv_iload_n hx hb dX7_rings_1 rfl (lv_at hl 0 rfl) ?_
  refine lv_bipush (v := 100) hx hb dX7_rings_2 (by decide) ?_
  refine lv_idiv hx hb dX7_rings_4 (by decide) ?_
  have g1 := hf.1
  have hf := hf.2
  refine lv_irem hx hb dX7_rings_5 g1 ?_
  refine lv_iload_n hx hb dX7_rings_6 rfl (lv_at hl 0 rfl) ?_
  refine lv_bipush (v := 100) hx hb dX7_rings_7 (by decide) ?_
  refine lv_irem hx hb dX7_rings_9 (by decide) ?_
  refine lv_icmp_ne (tgt := 17) hx hb dX7_rings_10 (by decide) (fun c2 => ?_) (fun c2 => ?_)
  · have hf := hf.1 c2
    refine lv_iconst (v := 0) hx hb dX7_rings_17 (by decide) ?_
    exact hret 18 ls 0 dX7_rings_18 rfl hf
  · have hf := hf.2 c2
    refine lv_iconst (v := 1) hx hb dX7_rings_13 (by decide) ?_
    refine lv_goto (tgt := 18) hx hb dX7_rings_14 (by decide) ?_
    exact hret 18 ls 1 dX7_rings_18 rfl hf

/-! X7_isFit -/
theorem mX7_isFit_1 : Cond.fieldLink RX7 140 "OxenKneelModel" "sights" "I" ∈ wsX7_isFit := List.mem_of_getElem? (i := 1) rfl
theorem mX7_isFit_2 : Cond.fieldLink RX7 23 "OxenKneelModel" "sight" "[I" ∈ wsX7_isFit := List.mem_of_getElem? (i := 2) rfl
theorem nX7_isFit_X7 : ∀ w ∈ wsX70, w ∈ wsX7_isFit := fun _ h => List.mem_cons_of_mem _ (List.mem_append_right _ h)
def pX7_isFit_b62 (t_sights : Int32) (t_sight : (Nat → Int32)) (a1 : Int32) (post : Int32 → Prop) (k19 : Int32 → Int32 → Prop) (x3 : Int32) (s0 : Int32) (s1 : Int32) : Prop :=
  (¬ s1 = s0 → (∀ v2 : Int32, v2 = x3 + 1 → (k19 0 v2))) ∧ (s1 = s0 → (∀ v3 : Int32, v3 = x3 + 1 → (k19 1 v3)))

set_option maxHeartbeats 4000000 in
set_option maxRecDepth 100000 in
theorem wX7_isFit_b62 {p : Program} {l : Launch} {e : Env} {s : State} {m : MethodId} {args : Array Value} {below : List Frame} {meth : Method} {c : Code} {Q : State → Prop} {D : va_G} {cI cZ cJ cO : ClassId} (C0 : CallFix p m c cX7_isFit 4 s args wsX7_isFit RX7) (hN : nw s) (hK : va_K D vwCl (tyL cI cZ cJ cO) s) (q_t q_t_sight q_t_book q_t_now q_t_pad q_t_had q_t_takes q_t_worths q_t_fitting q_t_wins q_t_ways q_t_image q_t_isKept : Nat) (t_shift : Int32) (t_kneels : Int32) (t_signs : Int32) (t_metAt : Int32) (t_metWho : Int32) (t_reason : Int32) (t_acts : Int32) (t_sights : Int32) (t_sight : (Nat → Int32)) (a1 : Int32) (post : Int32 → Prop) (hret : h0Z p l e ({ frames := 1, cells := 0, slots := 0, locals := 21 } : Room) s m args below meth c cX7_isFit Q post) (hP : va_P D vwCl [(q_t, .inr (7, [.ref q_t_book, .ref q_t_now, .int t_shift, .int t_kneels, .int t_sights, .ref q_t_sight, .int t_signs, .ref q_t_pad, .int t_metAt, .int t_metWho, .int t_reason, .int t_acts, .ref q_t_had, .ref q_t_takes, .ref q_t_worths, .ref q_t_fitting, .ref q_t_wins, .ref q_t_ways, .ref q_t_image, .ref q_t_isKept])), (q_t_sight, .inl (cI, 16, .inl t_sight))] s.heap) (k19 : Int32 → Int32 → Prop) (hk19 : ∀ (x2 : Int32) (x3 : Int32), k19 x2 x3 → ∀ ls : Array Slot, lv_has ls 4 [(0, .ref q_t), (1, .int a1), (2, .int x2), (3, .int x3)] → W p l e ({ frames := 1, cells := 0, slots := 0, locals := 21 } : Room) s m args below meth c s.heap [] 0 0 Q (F0 m 19 ls [])) :
    ∀ (x3 : Int32) (s0 : Int32) (s1 : Int32), pX7_isFit_b62 t_sights t_sight a1 post k19 x3 s0 s1 → ∀ ls : Array Slot, lv_has ls 4 [(0, .ref q_t), (1, .int a1), (3, .int x3)] → W p l e ({ frames := 1, cells := 0, slots := 0, locals := 21 } : Room) s m args below meth c s.heap [] 0 0 Q (F0 m 62 ls [.int s0, .int s1]) := by
  obtain ⟨hx, hb, hml, hown, hts⟩ := id C0
  intro x3 s0 s1 hf ls hl
  unfold pX7_isFit_b62 at hf
  refine lv_icmp_ne (tgt := 69) hx hb dX7_isFit_62 (by decide) (fun c1 => ?_) (fun c1 => ?_)
  · have hf := hf.1 c1
    refine lv_iconst (v := 0) hx hb dX7_isFit_69 (by decide) ?_
    refine lv_istore_n (lv' := [(2, .int 0), (0, .ref q_t), (1, .int a1), (3, .int x3)]) hx hb dX7_isFit_70 rfl hl (by decide) rfl (fun ls hl => ?_)
    obtain ⟨v2, ev2⟩ : ∃ y : Int32, y = x3 + 1 := ⟨_, rfl⟩
    have hf := hf v2 ev2
    refine lv_iinc (v := v2) (lv' := [(3, .int v2), (2, .int 0), (0, .ref q_t), (1, .int a1)]) hx hb dX7_isFit_71 hl (k := 3) rfl (by rw [ev2]; rfl) (by decide) rfl (fun ls hl => ?_)
    refine lv_goto (tgt := 19) hx hb dX7_isFit_74 (by decide) ?_
    exact hk19 0 v2 hf ls (lv_sub hl [2, 3, 1, 0] rfl)
  · have hf := hf.2 c1
    refine lv_iconst (v := 1) hx hb dX7_isFit_65 (by decide) ?_
    refine lv_goto (tgt := 70) hx hb dX7_isFit_66 (by decide) ?_
    refine lv_istore_n (lv' := [(2, .int 1), (0, .ref q_t), (1, .int a1), (3, .int x3)]) hx hb dX7_isFit_70 rfl hl (by decide) rfl (fun ls hl => ?_)
    obtain ⟨v3, ev3⟩ : ∃ y : Int32, y = x3 + 1 := ⟨_, rfl⟩
    have hf := hf v3 ev3
    refine lv_iinc (v := v3) (lv' := [(3, .int v3), (2, .int 1), (0, .ref q_t), (1, .int a1)]) hx hb dX7_isFit_71 hl (k := 3) rfl (by rw [ev3]; rfl) (by decide) rfl (fun ls hl => ?_)
    refine lv_goto (tgt := 19) hx hb dX7_isFit_74 (by decide) ?_
    exact hk19 1 v3 hf ls (lv_sub hl [2, 3, 1, 0] rfl)

def pX7_isFit_b19 (t_sights : Int32) (t_sight : (Nat → Int32)) (a1 : Int32) (post : Int32 → Prop) : Nat → Int32 → Int32 → Prop
  | 0 => fun _ _ => False
  | n + 1 => fun x2 x3 => (t_sights ≤ x3 → (zb x2 ∧ post x2)) ∧ (¬ t_sights ≤ x3 → ((x2 = 0 → (zb x2 ∧ post x2)) ∧ (¬ x2 = 0 → (vp_in (2 * x3) 16 ∧ (pX7_rings a1 (t_sight (2 * x3).toNatClampNeg) (fun r4 => vp_in ((2 * x3) + 1) 16 ∧ ((¬ (t_sight ((2 * x3) + 1).toNatClampNeg) = 1 → (pX7_isFit_b62 t_sights t_sight a1 post (fun x2 x3 => pX7_isFit_b19 t_sights t_sight a1 post  n x2 x3) x3 0 r4)) ∧ ((t_sight ((2 * x3) + 1).toNatClampNeg) = 1 → (pX7_isFit_b62 t_sights t_sight a1 post (fun x2 x3 => pX7_isFit_b19 t_sights t_sight a1 post  n x2 x3) x3 1 r4)))))))))

set_option maxHeartbeats 4000000 in
set_option maxRecDepth 100000 in
theorem wX7_isFit_b19 {p : Program} {l : Launch} {e : Env} {s : State} {m : MethodId} {args : Array Value} {below : List Frame} {meth : Method} {c : Code} {Q : State → Prop} {D : va_G} {cI cZ cJ cO : ClassId} (C0 : CallFix p m c cX7_isFit 4 s args wsX7_isFit RX7) (hN : nw s) (hK : va_K D vwCl (tyL cI cZ cJ cO) s) (q_t q_t_sight q_t_book q_t_now q_t_pad q_t_had q_t_takes q_t_worths q_t_fitting q_t_wins q_t_ways q_t_image q_t_isKept : Nat) (t_shift : Int32) (t_kneels : Int32) (t_signs : Int32) (t_metAt : Int32) (t_metWho : Int32) (t_reason : Int32) (t_acts : Int32) (t_sights : Int32) (t_sight : (Nat → Int32)) (a1 : Int32) (post : Int32 → Prop) (hret : h0Z p l e ({ frames := 1, cells := 0, slots := 0, locals := 21 } : Room) s m args below meth c cX7_isFit Q post) (hP : va_P D vwCl [(q_t, .inr (7, [.ref q_t_book, .ref q_t_now, .int t_shift, .int t_kneels, .int t_sights, .ref q_t_sight, .int t_signs, .ref q_t_pad, .int t_metAt, .int t_metWho, .int t_reason, .int t_acts, .ref q_t_had, .ref q_t_takes, .ref q_t_worths, .ref q_t_fitting, .ref q_t_wins, .ref q_t_ways, .ref q_t_image, .ref q_t_isKept])), (q_t_sight, .inl (cI, 16, .inl t_sight))] s.heap) :
    ∀ (n : Nat) (x2 : Int32) (x3 : Int32), pX7_isFit_b19 t_sights t_sight a1 post n x2 x3 → ∀ ls : Array Slot, lv_has ls 4 [(0, .ref q_t), (1, .int a1), (2, .int x2), (3, .int x3)] → W p l e ({ frames := 1, cells := 0, slots := 0, locals := 21 } : Room) s m args below meth c s.heap [] 0 0 Q (F0 m 19 ls []) := by
  obtain ⟨hx, hb, hml, hown, hts⟩ := id C0
  intro n
  induction n with
  | zero =>
    intro x2 x3 hf
    exact False.elim hf
  | succ n ih =>
    intro x2 x3 hf ls hl
    rw [pX7_isFit_b19] at hf
    refine lv_iload_n hx hb dX7_isFit_19 rfl (lv_at hl 3 rfl) ?_
    refine lv_aload_n hx hb dX7_isFit_20 rfl (lv_at hl 0 rfl) ?_
    refine va_get (D := D) (ci := 7) (v := .int t_sights) (C := RX7) (T := TX7) (N := 20) hx hb hts nX7_isFit_X7 hown hK hP 0 rfl rfl 4 (by decide) (hts _ mX7_isFit_1) (fun _ h9 => h9) rfl dX7_isFit_21 ?_
    refine lv_icmp_ge (tgt := 77) hx hb dX7_isFit_24 (by decide) (fun c1 => ?_) (fun c1 => ?_)
    · have hf := hf.1 c1
      refine lv_iload_n hx hb dX7_isFit_77 rfl (lv_at hl 2 rfl) ?_
      exact hret 78 ls x2 dX7_isFit_78 hf.1 hf.2
    · have hf := hf.2 c1
      refine lv_iload_n hx hb dX7_isFit_27 rfl (lv_at hl 2 rfl) ?_
      refine lv_if_eq (tgt := 77) hx hb dX7_isFit_28 (by decide) (fun c2 => ?_) (fun c2 => ?_)
      · have hf := hf.1 c2
        refine lv_iload_n hx hb dX7_isFit_77 rfl (lv_at hl 2 rfl) ?_
        exact hret 78 ls x2 dX7_isFit_78 hf.1 hf.2
      · have hf := hf.2 c2
        refine lv_iload_n hx hb dX7_isFit_31 rfl (lv_at hl 1 rfl) ?_
        refine lv_aload_n hx hb dX7_isFit_32 rfl (lv_at hl 0 rfl) ?_
        refine va_get (D := D) (ci := 7) (v := .ref q_t_sight) (C := RX7) (T := TX7) (N := 20) hx hb hts nX7_isFit_X7 hown hK hP 0 rfl rfl 5 (by decide) (hts _ mX7_isFit_2) (fun _ h9 => h9) rfl dX7_isFit_33 ?_
        refine lv_iconst (v := 2) hx hb dX7_isFit_36 (by decide) ?_
        refine lv_iload_n hx hb dX7_isFit_37 rfl (lv_at hl 3 rfl) ?_
        refine lv_imul hx hb dX7_isFit_38 ?_
        have g3 := hf.1
        have hf := hf.2
        refine xa_iald hx hb hK hP 1 0 rfl rfl (j := (2 * x3).toNatClampNeg) rfl g3 dX7_isFit_39 ?_
        refine xs_i (va_runS (As := [.int a1, .int (t_sight (2 * x3).toNatClampNeg)]) (rest := []) ⟨hx, hb, hml, hown, hts⟩ (kX7_rings l D cI cZ cJ cO a1 (t_sight (2 * x3).toNatClampNeg) _ hf) (va_cwS 2 hts gX7_isFit_X7_rings rfl rfl rfl (by decide +kernel) ⟨Nat.le_of_ble_eq_true rfl, Nat.le_of_ble_eq_true rfl⟩) (B0_pre (hP.sub (ws' := []) [] rfl) hK hN) rfl rfl hl.1 rfl (lv_room (Nat.le_of_ble_eq_true rfl)) dX7_isFit_40 ⟨Nat.zero_le _, Nat.zero_le _⟩) (fun r4 hf => ?_)
        refine lv_aload_n hx hb dX7_isFit_43 rfl (lv_at hl 0 rfl) ?_
        refine va_get (D := D) (ci := 7) (v := .ref q_t_sight) (C := RX7) (T := TX7) (N := 20) hx hb hts nX7_isFit_X7 hown hK hP 0 rfl rfl 5 (by decide) (hts _ mX7_isFit_2) (fun _ h9 => h9) rfl dX7_isFit_44 ?_
        refine lv_iconst (v := 2) hx hb dX7_isFit_47 (by decide) ?_
        refine lv_iload_n hx hb dX7_isFit_48 rfl (lv_at hl 3 rfl) ?_
        refine lv_imul hx hb dX7_isFit_49 ?_
        refine lv_iconst (v := 1) hx hb dX7_isFit_50 (by decide) ?_
        refine lv_iadd hx hb dX7_isFit_51 ?_
        have g5 := hf.1
        have hf := hf.2
        refine xa_iald hx hb hK hP 1 0 rfl rfl (j := ((2 * x3) + 1).toNatClampNeg) rfl g5 dX7_isFit_52 ?_
        refine lv_iconst (v := 1) hx hb dX7_isFit_53 (by decide) ?_
        refine lv_icmp_ne (tgt := 61) hx hb dX7_isFit_54 (by decide) (fun c6 => ?_) (fun c6 => ?_)
        · have hf := hf.1 c6
          refine lv_iconst (v := 0) hx hb dX7_isFit_61 (by decide) ?_
          exact wX7_isFit_b62 C0 hN hK q_t q_t_sight q_t_book q_t_now q_t_pad q_t_had q_t_takes q_t_worths q_t_fitting q_t_wins q_t_ways q_t_image q_t_isKept t_shift t_kneels t_signs t_metAt t_metWho t_reason t_acts t_sights t_sight a1 post hret hP _ ih x3 0 r4 hf ls (lv_sub hl [0, 1, 3] rfl)
        · have hf := hf.2 c6
          refine lv_iconst (v := 1) hx hb dX7_isFit_57 (by decide) ?_
          refine lv_goto (tgt := 62) hx hb dX7_isFit_58 (by decide) ?_
          exact wX7_isFit_b62 C0 hN hK q_t q_t_sight q_t_book q_t_now q_t_pad q_t_had q_t_takes q_t_worths q_t_fitting q_t_wins q_t_ways q_t_image q_t_isKept t_shift t_kneels t_signs t_metAt t_metWho t_reason t_acts t_sights t_sight a1 post hret hP _ ih x3 1 r4 hf ls (lv_sub hl [0, 1, 3] rfl)

def pX7_isFit (t_sights : Int32) (t_sight : (Nat → Int32)) (a1 : Int32) (post : Int32 → Prop) : Prop :=
  ((a1 / 100) ≤ (a1 - a1 / 100 * 100) → (∃ n1, pX7_isFit_b19 t_sights t_sight a1 post  n1 0 0)) ∧ (¬ (a1 / 100) ≤ (a1 - a1 / 100 * 100) → (∃ n1, pX7_isFit_b19 t_sights t_sight a1 post  n1 1 0))

set_option maxHeartbeats 4000000 in
set_option maxRecDepth 100000 in
theorem kX7_isFit (l : Launch) (D : va_G) (cI cZ cJ cO : ClassId) (q_t q_t_sight q_t_book q_t_now q_t_pad q_t_had q_t_takes q_t_worths q_t_fitting q_t_wins q_t_ways q_t_image q_t_isKept : Nat) (t_shift : Int32) (t_kneels : Int32) (t_signs : Int32) (t_metAt : Int32) (t_metWho : Int32) (t_reason : Int32) (t_acts : Int32) (t_sights : Int32) (t_sight : (Nat → Int32)) (a1 : Int32) (post : Int32 → Prop) (hf : pX7_isFit t_sights t_sight a1 post) :
    Met l yX7_isFit wsX7_isFit ({ frames := 1, cells := 0, slots := 0, locals := 21 } : Room) (va_Pc [.ref q_t, .int a1] (B0 D (tyL cI cZ cJ cO) [(q_t, .inr (7, [.ref q_t_book, .ref q_t_now, .int t_shift, .int t_kneels, .int t_sights, .ref q_t_sight, .int t_signs, .ref q_t_pad, .int t_metAt, .int t_metWho, .int t_reason, .int t_acts, .ref q_t_had, .ref q_t_takes, .ref q_t_worths, .ref q_t_fitting, .ref q_t_wins, .ref q_t_ways, .ref q_t_image, .ref q_t_isKept])), (q_t_sight, .inl (cI, 16, .inl t_sight))])) (vp_Si post) 0 0 (fun _ => False) := by
  unfold pX7_isFit at hf
  refine xm_0z (own := RX7) (by decide) rfl rfl (Nat.le_of_ble_eq_true rfl) (fun p e s m args below meth c Q C0 hN hK hret hP ls hl => ?_)
  obtain ⟨hx, hb, hml, hown, hts⟩ := id C0
  have hl : lv_has ls 4 [(0, .ref q_t), (1, .int a1)] := hl
  refine lv_iload_n hx hb dX7_isFit_0 rfl (lv_at hl 1 rfl) ?_
  refine lv_bipush (v := 100) hx hb dX7_isFit_1 (by decide) ?_
  refine lv_irem hx hb dX7_isFit_3 (by decide) ?_
  refine lv_iload_n hx hb dX7_isFit_4 rfl (lv_at hl 1 rfl) ?_
  refine lv_bipush (v := 100) hx hb dX7_isFit_5 (by decide) ?_
  refine lv_idiv hx hb dX7_isFit_7 (by decide) ?_
  refine lv_icmp_ge (tgt := 15) hx hb dX7_isFit_8 (by decide) (fun c1 => ?_) (fun c1 => ?_)
  · have hf := hf.1 c1
    refine lv_iconst (v := 0) hx hb dX7_isFit_15 (by decide) ?_
    refine lv_istore_n (lv' := [(2, .int 0), (0, .ref q_t), (1, .int a1)]) hx hb dX7_isFit_16 rfl hl (by decide) rfl (fun ls hl => ?_)
    refine lv_iconst (v := 0) hx hb dX7_isFit_17 (by decide) ?_
    refine lv_istore_n (lv' := [(3, .int 0), (2, .int 0), (0, .ref q_t), (1, .int a1)]) hx hb dX7_isFit_18 rfl hl (by decide) rfl (fun ls hl => ?_)
    obtain ⟨n1, hf⟩ := hf
    exact wX7_isFit_b19 C0 hN hK q_t q_t_sight q_t_book q_t_now q_t_pad q_t_had q_t_takes q_t_worths q_t_fitting q_t_wins q_t_ways q_t_image q_t_isKept t_shift t_kneels t_signs t_metAt t_metWho t_reason t_acts t_sights t_sight a1 post hret hP   n1 0 0 hf ls (lv_sub hl [2, 3, 1, 0] rfl)
  · have hf := hf.2 c1
    refine lv_iconst (v := 1) hx hb dX7_isFit_11 (by decide) ?_
    refine lv_goto (tgt := 16) hx hb dX7_isFit_12 (by decide) ?_
    refine lv_istore_n (lv' := [(2, .int 1), (0, .ref q_t), (1, .int a1)]) hx hb dX7_isFit_16 rfl hl (by decide) rfl (fun ls hl => ?_)
    refine lv_iconst (v := 0) hx hb dX7_isFit_17 (by decide) ?_
    refine lv_istore_n (lv' := [(3, .int 0), (2, .int 1), (0, .ref q_t), (1, .int a1)]) hx hb dX7_isFit_18 rfl hl (by decide) rfl (fun ls hl => ?_)
    obtain ⟨n1, hf⟩ := hf
    exact wX7_isFit_b19 C0 hN hK q_t q_t_sight q_t_book q_t_now q_t_pad q_t_had q_t_takes q_t_worths q_t_fitting q_t_wins q_t_ways q_t_image q_t_isKept t_shift t_kneels t_signs t_metAt t_metWho t_reason t_acts t_sights t_sight a1 post hret hP   n1 1 0 hf ls (lv_sub hl [2, 3, 1, 0] rfl)

/-! X7_rounds -/

def pX7_rounds_b6 (t_sights : Int32) (t_sight : (Nat → Int32)) (a1 : Int32) (post : Int32 → Prop) : Nat → Int32 → Int32 → Prop
  | 0 => fun _ _ => False
  | n + 1 => fun x2 x3 => (2100 ≤ x3 → ((¬ a1 = (-1) → (post (-6))) ∧ (a1 = (-1) → (post x2)))) ∧ (¬ 2100 ≤ x3 → (pX7_isFit t_sights t_sight x3 (fun r3 => (r3 = 0 → (∀ v5 : Int32, v5 = x3 + 1 → (pX7_rounds_b6 t_sights t_sight a1 post  n x2 v5))) ∧ (¬ r3 = 0 → ((¬ x2 = a1 → (∀ v7 : Int32, v7 = x2 + 1 → (∀ v8 : Int32, v8 = x3 + 1 → (pX7_rounds_b6 t_sights t_sight a1 post  n v7 v8)))) ∧ (x2 = a1 → (post x3)))))))

set_option maxHeartbeats 4000000 in
set_option maxRecDepth 100000 in
theorem wX7_rounds_b6 {p : Program} {l : Launch} {e : Env} {s : State} {m : MethodId} {args : Array Value} {below : List Frame} {meth : Method} {c : Code} {Q : State → Prop} {D : va_G} {cI cZ cJ cO : ClassId} (C0 : CallFix p m c cX7_rounds 4 s args wsX7_rounds RX7) (hN : nw s) (hK : va_K D vwCl (tyL cI cZ cJ cO) s) (q_t q_t_sight q_t_book q_t_now q_t_pad q_t_had q_t_takes q_t_worths q_t_fitting q_t_wins q_t_ways q_t_image q_t_isKept : Nat) (t_shift : Int32) (t_kneels : Int32) (t_signs : Int32) (t_metAt : Int32) (t_metWho : Int32) (t_reason : Int32) (t_acts : Int32) (t_sights : Int32) (t_sight : (Nat → Int32)) (a1 : Int32) (post : Int32 → Prop) (hret : h0I p l e ({ frames := 2, cells := 0, slots := 0, locals := 44 } : Room) s m args below meth c cX7_rounds Q post) (hP : va_P D vwCl [(q_t, .inr (7, [.ref q_t_book, .ref q_t_now, .int t_shift, .int t_kneels, .int t_sights, .ref q_t_sight, .int t_signs, .ref q_t_pad, .int t_metAt, .int t_metWho, .int t_reason, .int t_acts, .ref q_t_had, .ref q_t_takes, .ref q_t_worths, .ref q_t_fitting, .ref q_t_wins, .ref q_t_ways, .ref q_t_image, .ref q_t_isKept])), (q_t_sight, .inl (cI, 16, .inl t_sight))] s.heap) :
    ∀ (n : Nat) (x2 : Int32) (x3 : Int32), pX7_rounds_b6 t_sights t_sight a1 post n x2 x3 → ∀ ls : Array Slot, lv_has ls 4 [(0, .ref q_t), (1, .int a1), (2, .int x2), (3, .int x3)] → W p l e ({ frames := 2, cells := 0, slots := 0, locals := 44 } : Room) s m args below meth c s.heap [] 0 0 Q (F0 m 6 ls []) := by
  obtain ⟨hx, hb, hml, hown, hts⟩ := id C0
  intro n
  induction n with
  | zero =>
    intro x2 x3 hf
    exact False.elim hf
  | succ n ih =>
    intro x2 x3 hf ls hl
    rw [pX7_rounds_b6] at hf
    refine lv_iload_n hx hb dX7_rounds_6 rfl (lv_at hl 3 rfl) ?_
    refine lv_sipush (v := 2100) hx hb dX7_rounds_7 (by decide) ?_
    refine lv_icmp_ge (tgt := 37) hx hb dX7_rounds_10 (by decide) (fun c1 => ?_) (fun c1 => ?_)
    · have hf := hf.1 c1
      refine lv_iload_n hx hb dX7_rounds_37 rfl (lv_at hl 1 rfl) ?_
      refine lv_iconst (v := (-1)) hx hb dX7_rounds_38 (by decide) ?_
      refine lv_icmp_ne (tgt := 46) hx hb dX7_rounds_39 (by decide) (fun c2 => ?_) (fun c2 => ?_)
      · have hf := hf.1 c2
        refine lv_bipush (v := (-6)) hx hb dX7_rounds_46 (by decide) ?_
        exact hret 48 ls (-6) dX7_rounds_48 hf
      · have hf := hf.2 c2
        refine lv_iload_n hx hb dX7_rounds_42 rfl (lv_at hl 2 rfl) ?_
        refine lv_goto (tgt := 48) hx hb dX7_rounds_43 (by decide) ?_
        exact hret 48 ls x2 dX7_rounds_48 hf
    · have hf := hf.2 c1
      refine lv_aload_n hx hb dX7_rounds_13 rfl (lv_at hl 0 rfl) ?_
      refine lv_iload_n hx hb dX7_rounds_14 rfl (lv_at hl 3 rfl) ?_
      refine xs_i (va_runV (As := [.int x3]) (rest := []) ⟨hx, hb, hml, hown, hts⟩ (kX7_isFit l D cI cZ cJ cO q_t q_t_sight q_t_book q_t_now q_t_pad q_t_had q_t_takes q_t_worths q_t_fitting q_t_wins q_t_ways q_t_image q_t_isKept t_shift t_kneels t_signs t_metAt t_metWho t_reason t_acts t_sights t_sight x3 _ hf) (cwV 1 hts gX7_rounds_X7_isFit rfl rfl rfl (by decide +kernel) ⟨Nat.le_of_ble_eq_true rfl, Nat.le_of_ble_eq_true rfl⟩) (B0_preV (ci := 7) (q0 := 0) hP rfl rfl (hP.sub (ws' := [(q_t, .inr (7, [.ref q_t_book, .ref q_t_now, .int t_shift, .int t_kneels, .int t_sights, .ref q_t_sight, .int t_signs, .ref q_t_pad, .int t_metAt, .int t_metWho, .int t_reason, .int t_acts, .ref q_t_had, .ref q_t_takes, .ref q_t_worths, .ref q_t_fitting, .ref q_t_wins, .ref q_t_ways, .ref q_t_image, .ref q_t_isKept])), (q_t_sight, .inl (cI, 16, .inl t_sight))]) [0, 1] rfl) hK hN) rfl rfl hl.1 rfl (lv_room (Nat.le_of_ble_eq_true rfl)) dX7_rounds_15 ⟨Nat.zero_le _, Nat.zero_le _⟩) (fun r3 hf => ?_)
      refine lv_if_eq (tgt := 31) hx hb dX7_rounds_18 (by decide) (fun c4 => ?_) (fun c4 => ?_)
      · have hf := hf.1 c4
        obtain ⟨v5, ev5⟩ : ∃ y : Int32, y = x3 + 1 := ⟨_, rfl⟩
        have hf := hf v5 ev5
        refine lv_iinc (v := v5) (lv' := [(3, .int v5), (0, .ref q_t), (1, .int a1), (2, .int x2)]) hx hb dX7_rounds_31 hl (k := 3) rfl (by rw [ev5]; rfl) (by decide) rfl (fun ls hl => ?_)
        refine lv_goto (tgt := 6) hx hb dX7_rounds_34 (by decide) ?_
        exact ih x2 v5 hf ls (lv_sub hl [1, 2, 3, 0] rfl)
      · have hf := hf.2 c4
        refine lv_iload_n hx hb dX7_rounds_21 rfl (lv_at hl 2 rfl) ?_
        refine lv_iload_n hx hb dX7_rounds_22 rfl (lv_at hl 1 rfl) ?_
        refine lv_icmp_ne (tgt := 28) hx hb dX7_rounds_23 (by decide) (fun c6 => ?_) (fun c6 => ?_)
        · have hf := hf.1 c6
          obtain ⟨v7, ev7⟩ : ∃ y : Int32, y = x2 + 1 := ⟨_, rfl⟩
          have hf := hf v7 ev7
          refine lv_iinc (v := v7) (lv' := [(2, .int v7), (0, .ref q_t), (1, .int a1), (3, .int x3)]) hx hb dX7_rounds_28 hl (k := 2) rfl (by rw [ev7]; rfl) (by decide) rfl (fun ls hl => ?_)
          obtain ⟨v8, ev8⟩ : ∃ y : Int32, y = x3 + 1 := ⟨_, rfl⟩
          have hf := hf v8 ev8
          refine lv_iinc (v := v8) (lv' := [(3, .int v8), (2, .int v7), (0, .ref q_t), (1, .int a1)]) hx hb dX7_rounds_31 hl (k := 3) rfl (by rw [ev8]; rfl) (by decide) rfl (fun ls hl => ?_)
          refine lv_goto (tgt := 6) hx hb dX7_rounds_34 (by decide) ?_
          exact ih v7 v8 hf ls (lv_sub hl [2, 3, 1, 0] rfl)
        · have hf := hf.2 c6
          refine lv_iload_n hx hb dX7_rounds_26 rfl (lv_at hl 3 rfl) ?_
          exact hret 27 ls x3 dX7_rounds_27 hf

def pX7_rounds (t_sights : Int32) (t_sight : (Nat → Int32)) (a1 : Int32) (post : Int32 → Prop) : Prop :=
  ∃ n1, pX7_rounds_b6 t_sights t_sight a1 post  n1 0 200

set_option maxHeartbeats 4000000 in
set_option maxRecDepth 100000 in
theorem kX7_rounds (l : Launch) (D : va_G) (cI cZ cJ cO : ClassId) (q_t q_t_sight q_t_book q_t_now q_t_pad q_t_had q_t_takes q_t_worths q_t_fitting q_t_wins q_t_ways q_t_image q_t_isKept : Nat) (t_shift : Int32) (t_kneels : Int32) (t_signs : Int32) (t_metAt : Int32) (t_metWho : Int32) (t_reason : Int32) (t_acts : Int32) (t_sights : Int32) (t_sight : (Nat → Int32)) (a1 : Int32) (post : Int32 → Prop) (hf : pX7_rounds t_sights t_sight a1 post) :
    Met l yX7_rounds wsX7_rounds ({ frames := 2, cells := 0, slots := 0, locals := 44 } : Room) (va_Pc [.ref q_t, .int a1] (B0 D (tyL cI cZ cJ cO) [(q_t, .inr (7, [.ref q_t_book, .ref q_t_now, .int t_shift, .int t_kneels, .int t_sights, .ref q_t_sight, .int t_signs, .ref q_t_pad, .int t_metAt, .int t_metWho, .int t_reason, .int t_acts, .ref q_t_had, .ref q_t_takes, .ref q_t_worths, .ref q_t_fitting, .ref q_t_wins, .ref q_t_ways, .ref q_t_image, .ref q_t_isKept])), (q_t_sight, .inl (cI, 16, .inl t_sight))])) (vp_Si post) 0 0 (fun _ => False) := by
  unfold pX7_rounds at hf
  refine xm_0i (own := RX7) (by decide) rfl rfl (Nat.le_of_ble_eq_true rfl) (fun p e s m args below meth c Q C0 hN hK hret hP ls hl => ?_)
  obtain ⟨hx, hb, hml, hown, hts⟩ := id C0
  have hl : lv_has ls 4 [(0, .ref q_t), (1, .int a1)] := hl
  refine lv_iconst (v := 0) hx hb dX7_rounds_0 (by decide) ?_
  refine lv_istore_n (lv' := [(2, .int 0), (0, .ref q_t), (1, .int a1)]) hx hb dX7_rounds_1 rfl hl (by decide) rfl (fun ls hl => ?_)
  refine lv_sipush (v := 200) hx hb dX7_rounds_2 (by decide) ?_
  refine lv_istore_n (lv' := [(3, .int 200), (2, .int 0), (0, .ref q_t), (1, .int a1)]) hx hb dX7_rounds_5 rfl hl (by decide) rfl (fun ls hl => ?_)
  obtain ⟨n1, hf⟩ := hf
  exact wX7_rounds_b6 C0 hN hK q_t q_t_sight q_t_book q_t_now q_t_pad q_t_had q_t_takes q_t_worths q_t_fitting q_t_wins q_t_ways q_t_image q_t_isKept t_shift t_kneels t_signs t_metAt t_metWho t_reason t_acts t_sights t_sight a1 post hret hP   n1 0 200 hf ls (lv_sub hl [2, 3, 1, 0] rfl)

/-! X7_ask -/
theorem mX7_ask_2 : Cond.constant RX7 150 (1000000) ∈ wsX7_ask := List.mem_of_getElem? (i := 2) rfl
theorem mX7_ask_1 : Cond.fieldLink RX7 38 "OxenKneelModel" "fitting" "[I" ∈ wsX7_ask := List.mem_of_getElem? (i := 1) rfl
theorem nX7_ask_X7 : ∀ w ∈ wsX70, w ∈ wsX7_ask := fun _ h => List.mem_cons_of_mem _ (List.mem_append_right _ h)
def pX7_ask_b169 (t_sights : Int32) (t_sight : (Nat → Int32)) (a1 : Int32) (post : Int32 → ((Nat → Int32)) → Prop) (x3 : Int32) (x4 : Int32) (t_fitting : (Nat → Int32)) : Prop :=
  (x3 < 0 → (post x3 t_fitting)) ∧ (¬ x3 < 0 → ((¬ a1 = 0 → (post x4 t_fitting)) ∧ (a1 = 0 → (post x3 t_fitting))))

set_option maxHeartbeats 4000000 in
set_option maxRecDepth 100000 in
theorem wX7_ask_b169 {p : Program} {l : Launch} {e : Env} {s : State} {m : MethodId} {args : Array Value} {below : List Frame} {meth : Method} {c : Code} {Q : State → Prop} {D : va_G} {cI cZ cJ cO : ClassId} {A : Nat → Prop} (C0 : CallFix p m c cX7_ask 8 s args wsX7_ask RX7) (hN : nw s) (hK : va_K D vwCl (tyL cI cZ cJ cO) s) (hA : ∀ q, s.heap.size ≤ q → A q) (q_t q_t_sight q_t_fitting q_t_book q_t_now q_t_pad q_t_had q_t_takes q_t_worths q_t_wins q_t_ways q_t_image q_t_isKept : Nat) (t_shift : Int32) (t_kneels : Int32) (t_signs : Int32) (t_metAt : Int32) (t_metWho : Int32) (t_reason : Int32) (t_acts : Int32) (t_sights : Int32) (t_sight : (Nat → Int32)) (a1 : Int32) (post : Int32 → ((Nat → Int32)) → Prop) (hret : hrI p l e ({ frames := 2, cells := 0, slots := 0, locals := 44 } : Room) s m args below meth c cX7_ask D A Q post (fun u : (Nat → Int32) => [(q_t, .inr (7, [.ref q_t_book, .ref q_t_now, .int t_shift, .int t_kneels, .int t_sights, .ref q_t_sight, .int t_signs, .ref q_t_pad, .int t_metAt, .int t_metWho, .int t_reason, .int t_acts, .ref q_t_had, .ref q_t_takes, .ref q_t_worths, .ref q_t_fitting, .ref q_t_wins, .ref q_t_ways, .ref q_t_image, .ref q_t_isKept])), (q_t_sight, .inl (cI, 16, .inl t_sight)), (q_t_fitting, .inl (cI, 256, .inl u))])) :
    ∀ (x3 : Int32) (x4 : Int32) (t_fitting : (Nat → Int32)), pX7_ask_b169 t_sights t_sight a1 post x3 x4 t_fitting → ∀ (H : Heap) (locs : List Loc), va_P D vwCl [(q_t, .inr (7, [.ref q_t_book, .ref q_t_now, .int t_shift, .int t_kneels, .int t_sights, .ref q_t_sight, .int t_signs, .ref q_t_pad, .int t_metAt, .int t_metWho, .int t_reason, .int t_acts, .ref q_t_had, .ref q_t_takes, .ref q_t_worths, .ref q_t_fitting, .ref q_t_wins, .ref q_t_ways, .ref q_t_image, .ref q_t_isKept])), (q_t_sight, .inl (cI, 16, .inl t_sight)), (q_t_fitting, .inl (cI, 256, .inl t_fitting))] H → va_D A [(q_t, .inr (7, [.ref q_t_book, .ref q_t_now, .int t_shift, .int t_kneels, .int t_sights, .ref q_t_sight, .int t_signs, .ref q_t_pad, .int t_metAt, .int t_metWho, .int t_reason, .int t_acts, .ref q_t_had, .ref q_t_takes, .ref q_t_worths, .ref q_t_fitting, .ref q_t_wins, .ref q_t_ways, .ref q_t_image, .ref q_t_isKept])), (q_t_sight, .inl (cI, 16, .inl t_sight)), (q_t_fitting, .inl (cI, 256, .inl t_fitting))] → va_S A s.heap H locs → ∀ ls : Array Slot, lv_has ls 8 [(1, .int a1), (3, .int x3), (4, .int x4)] → W p l e ({ frames := 2, cells := 0, slots := 0, locals := 44 } : Room) s m args below meth c H locs 0 0 Q (F0 m 169 ls []) := by
  obtain ⟨hx, hb, hml, hown, hts⟩ := id C0
  intro x3 x4 t_fitting hf H locs hP hD hS ls hl
  unfold pX7_ask_b169 at hf
  refine lv_iload_n hx hb dX7_ask_169 rfl (lv_at hl 1 rfl) ?_
  refine lv_if_lt (tgt := 177) hx hb dX7_ask_170 (by decide) (fun c1 => ?_) (fun c1 => ?_)
  · have hf := hf.1 c1
    refine lv_iload_n hx hb dX7_ask_177 rfl (lv_at hl 1 rfl) ?_
    refine lv_goto (tgt := 183) hx hb dX7_ask_178 (by decide) ?_
    exact hret 183 ls H locs x3 t_fitting dX7_ask_183 hf hP hD hS
  · have hf := hf.2 c1
    refine lv_iload_n hx hb dX7_ask_173 rfl (lv_at hl 0 rfl) ?_
    refine lv_if_ne (tgt := 181) hx hb dX7_ask_174 (by decide) (fun c2 => ?_) (fun c2 => ?_)
    · have hf := hf.1 c2
      refine lv_iload hx hb dX7_ask_181 (lv_at hl 2 rfl) ?_
      exact hret 183 ls H locs x4 t_fitting dX7_ask_183 hf hP hD hS
    · have hf := hf.2 c2
      refine lv_iload_n hx hb dX7_ask_177 rfl (lv_at hl 1 rfl) ?_
      refine lv_goto (tgt := 183) hx hb dX7_ask_178 (by decide) ?_
      exact hret 183 ls H locs x3 t_fitting dX7_ask_183 hf hP hD hS

def pX7_ask_b146 (t_sights : Int32) (t_sight : (Nat → Int32)) (a1 : Int32) (post : Int32 → ((Nat → Int32)) → Prop) (k59 : Int32 → Int32 → Int32 → Int32 → (Nat → Int32) → Prop) (x2 : Int32) (x4 : Int32) (x5 : Int32) (x7 : Int32) (s0 : Int32) (t_fitting : (Nat → Int32)) : Prop :=
  (x4 ≤ x7 → (∀ v2 : Int32, v2 = x5 + 1 → (k59 x2 s0 x4 v2 t_fitting))) ∧ (¬ x4 ≤ x7 → (∀ v3 : Int32, v3 = x5 + 1 → (k59 x2 s0 x7 v3 t_fitting)))

set_option maxHeartbeats 4000000 in
set_option maxRecDepth 100000 in
theorem wX7_ask_b146 {p : Program} {l : Launch} {e : Env} {s : State} {m : MethodId} {args : Array Value} {below : List Frame} {meth : Method} {c : Code} {Q : State → Prop} {D : va_G} {cI cZ cJ cO : ClassId} {A : Nat → Prop} (C0 : CallFix p m c cX7_ask 8 s args wsX7_ask RX7) (hN : nw s) (hK : va_K D vwCl (tyL cI cZ cJ cO) s) (hA : ∀ q, s.heap.size ≤ q → A q) (q_t q_t_sight q_t_fitting q_t_book q_t_now q_t_pad q_t_had q_t_takes q_t_worths q_t_wins q_t_ways q_t_image q_t_isKept : Nat) (t_shift : Int32) (t_kneels : Int32) (t_signs : Int32) (t_metAt : Int32) (t_metWho : Int32) (t_reason : Int32) (t_acts : Int32) (t_sights : Int32) (t_sight : (Nat → Int32)) (a1 : Int32) (post : Int32 → ((Nat → Int32)) → Prop) (hret : hrI p l e ({ frames := 2, cells := 0, slots := 0, locals := 44 } : Room) s m args below meth c cX7_ask D A Q post (fun u : (Nat → Int32) => [(q_t, .inr (7, [.ref q_t_book, .ref q_t_now, .int t_shift, .int t_kneels, .int t_sights, .ref q_t_sight, .int t_signs, .ref q_t_pad, .int t_metAt, .int t_metWho, .int t_reason, .int t_acts, .ref q_t_had, .ref q_t_takes, .ref q_t_worths, .ref q_t_fitting, .ref q_t_wins, .ref q_t_ways, .ref q_t_image, .ref q_t_isKept])), (q_t_sight, .inl (cI, 16, .inl t_sight)), (q_t_fitting, .inl (cI, 256, .inl u))])) (k59 : Int32 → Int32 → Int32 → Int32 → (Nat → Int32) → Prop) (hk59 : ∀ (x2 : Int32) (x3 : Int32) (x4 : Int32) (x5 : Int32) (t_fitting : (Nat → Int32)), k59 x2 x3 x4 x5 t_fitting → ∀ (H : Heap) (locs : List Loc), va_P D vwCl [(q_t, .inr (7, [.ref q_t_book, .ref q_t_now, .int t_shift, .int t_kneels, .int t_sights, .ref q_t_sight, .int t_signs, .ref q_t_pad, .int t_metAt, .int t_metWho, .int t_reason, .int t_acts, .ref q_t_had, .ref q_t_takes, .ref q_t_worths, .ref q_t_fitting, .ref q_t_wins, .ref q_t_ways, .ref q_t_image, .ref q_t_isKept])), (q_t_sight, .inl (cI, 16, .inl t_sight)), (q_t_fitting, .inl (cI, 256, .inl t_fitting))] H → va_D A [(q_t, .inr (7, [.ref q_t_book, .ref q_t_now, .int t_shift, .int t_kneels, .int t_sights, .ref q_t_sight, .int t_signs, .ref q_t_pad, .int t_metAt, .int t_metWho, .int t_reason, .int t_acts, .ref q_t_had, .ref q_t_takes, .ref q_t_worths, .ref q_t_fitting, .ref q_t_wins, .ref q_t_ways, .ref q_t_image, .ref q_t_isKept])), (q_t_sight, .inl (cI, 16, .inl t_sight)), (q_t_fitting, .inl (cI, 256, .inl t_fitting))] → va_S A s.heap H locs → ∀ ls : Array Slot, lv_has ls 8 [(0, .ref q_t), (1, .int a1), (2, .int x2), (3, .int x3), (4, .int x4), (5, .int x5)] → W p l e ({ frames := 2, cells := 0, slots := 0, locals := 44 } : Room) s m args below meth c H locs 0 0 Q (F0 m 59 ls [])) :
    ∀ (x2 : Int32) (x4 : Int32) (x5 : Int32) (x7 : Int32) (s0 : Int32) (t_fitting : (Nat → Int32)), pX7_ask_b146 t_sights t_sight a1 post k59 x2 x4 x5 x7 s0 t_fitting → ∀ (H : Heap) (locs : List Loc), va_P D vwCl [(q_t, .inr (7, [.ref q_t_book, .ref q_t_now, .int t_shift, .int t_kneels, .int t_sights, .ref q_t_sight, .int t_signs, .ref q_t_pad, .int t_metAt, .int t_metWho, .int t_reason, .int t_acts, .ref q_t_had, .ref q_t_takes, .ref q_t_worths, .ref q_t_fitting, .ref q_t_wins, .ref q_t_ways, .ref q_t_image, .ref q_t_isKept])), (q_t_sight, .inl (cI, 16, .inl t_sight)), (q_t_fitting, .inl (cI, 256, .inl t_fitting))] H → va_D A [(q_t, .inr (7, [.ref q_t_book, .ref q_t_now, .int t_shift, .int t_kneels, .int t_sights, .ref q_t_sight, .int t_signs, .ref q_t_pad, .int t_metAt, .int t_metWho, .int t_reason, .int t_acts, .ref q_t_had, .ref q_t_takes, .ref q_t_worths, .ref q_t_fitting, .ref q_t_wins, .ref q_t_ways, .ref q_t_image, .ref q_t_isKept])), (q_t_sight, .inl (cI, 16, .inl t_sight)), (q_t_fitting, .inl (cI, 256, .inl t_fitting))] → va_S A s.heap H locs → ∀ ls : Array Slot, lv_has ls 8 [(0, .ref q_t), (1, .int a1), (2, .int x2), (4, .int x4), (5, .int x5), (7, .int x7)] → W p l e ({ frames := 2, cells := 0, slots := 0, locals := 44 } : Room) s m args below meth c H locs 0 0 Q (F0 m 146 ls [.int s0]) := by
  obtain ⟨hx, hb, hml, hown, hts⟩ := id C0
  intro x2 x4 x5 x7 s0 t_fitting hf H locs hP hD hS ls hl
  unfold pX7_ask_b146 at hf
  refine lv_istore_n (lv' := [(3, .int s0), (0, .ref q_t), (1, .int a1), (2, .int x2), (4, .int x4), (5, .int x5), (7, .int x7)]) hx hb dX7_ask_146 rfl hl (by decide) rfl (fun ls hl => ?_)
  refine lv_iload hx hb dX7_ask_147 (lv_at hl 6 rfl) ?_
  refine lv_iload hx hb dX7_ask_149 (lv_at hl 4 rfl) ?_
  refine lv_icmp_ge (tgt := 159) hx hb dX7_ask_151 (by decide) (fun c1 => ?_) (fun c1 => ?_)
  · have hf := hf.1 c1
    refine lv_iload hx hb dX7_ask_159 (lv_at hl 4 rfl) ?_
    refine lv_istore (lv' := [(4, .int x4), (3, .int s0), (0, .ref q_t), (1, .int a1), (2, .int x2), (5, .int x5), (7, .int x7)]) hx hb dX7_ask_161 hl (by decide) rfl (fun ls hl => ?_)
    obtain ⟨v2, ev2⟩ : ∃ y : Int32, y = x5 + 1 := ⟨_, rfl⟩
    have hf := hf v2 ev2
    refine lv_iinc (v := v2) (lv' := [(5, .int v2), (4, .int x4), (3, .int s0), (0, .ref q_t), (1, .int a1), (2, .int x2), (7, .int x7)]) hx hb dX7_ask_163 hl (k := 5) rfl (by rw [ev2]; rfl) (by decide) rfl (fun ls hl => ?_)
    refine lv_goto (tgt := 59) hx hb dX7_ask_166 (by decide) ?_
    exact hk59 x2 s0 x4 v2 t_fitting hf H locs hP hD hS ls (lv_sub hl [3, 4, 5, 2, 1, 0] rfl)
  · have hf := hf.2 c1
    refine lv_iload hx hb dX7_ask_154 (lv_at hl 6 rfl) ?_
    refine lv_goto (tgt := 161) hx hb dX7_ask_156 (by decide) ?_
    refine lv_istore (lv' := [(4, .int x7), (3, .int s0), (0, .ref q_t), (1, .int a1), (2, .int x2), (5, .int x5), (7, .int x7)]) hx hb dX7_ask_161 hl (by decide) rfl (fun ls hl => ?_)
    obtain ⟨v3, ev3⟩ : ∃ y : Int32, y = x5 + 1 := ⟨_, rfl⟩
    have hf := hf v3 ev3
    refine lv_iinc (v := v3) (lv' := [(5, .int v3), (4, .int x7), (3, .int s0), (0, .ref q_t), (1, .int a1), (2, .int x2), (7, .int x7)]) hx hb dX7_ask_163 hl (k := 5) rfl (by rw [ev3]; rfl) (by decide) rfl (fun ls hl => ?_)
    refine lv_goto (tgt := 59) hx hb dX7_ask_166 (by decide) ?_
    exact hk59 x2 s0 x7 v3 t_fitting hf H locs hP hD hS ls (lv_sub hl [3, 4, 5, 2, 1, 0] rfl)

def pX7_ask_b131 (t_sights : Int32) (t_sight : (Nat → Int32)) (a1 : Int32) (post : Int32 → ((Nat → Int32)) → Prop) (k59 : Int32 → Int32 → Int32 → Int32 → (Nat → Int32) → Prop) (x2 : Int32) (x3 : Int32) (x4 : Int32) (x5 : Int32) (s0 : Int32) (t_fitting : (Nat → Int32)) : Prop :=
  (x4 ≤ s0 → (pX7_ask_b146 t_sights t_sight a1 post k59 x2 x4 x5 s0 x3 t_fitting)) ∧ (¬ x4 ≤ s0 → (pX7_ask_b146 t_sights t_sight a1 post k59 x2 x4 x5 s0 x5 t_fitting))

set_option maxHeartbeats 4000000 in
set_option maxRecDepth 100000 in
theorem wX7_ask_b131 {p : Program} {l : Launch} {e : Env} {s : State} {m : MethodId} {args : Array Value} {below : List Frame} {meth : Method} {c : Code} {Q : State → Prop} {D : va_G} {cI cZ cJ cO : ClassId} {A : Nat → Prop} (C0 : CallFix p m c cX7_ask 8 s args wsX7_ask RX7) (hN : nw s) (hK : va_K D vwCl (tyL cI cZ cJ cO) s) (hA : ∀ q, s.heap.size ≤ q → A q) (q_t q_t_sight q_t_fitting q_t_book q_t_now q_t_pad q_t_had q_t_takes q_t_worths q_t_wins q_t_ways q_t_image q_t_isKept : Nat) (t_shift : Int32) (t_kneels : Int32) (t_signs : Int32) (t_metAt : Int32) (t_metWho : Int32) (t_reason : Int32) (t_acts : Int32) (t_sights : Int32) (t_sight : (Nat → Int32)) (a1 : Int32) (post : Int32 → ((Nat → Int32)) → Prop) (hret : hrI p l e ({ frames := 2, cells := 0, slots := 0, locals := 44 } : Room) s m args below meth c cX7_ask D A Q post (fun u : (Nat → Int32) => [(q_t, .inr (7, [.ref q_t_book, .ref q_t_now, .int t_shift, .int t_kneels, .int t_sights, .ref q_t_sight, .int t_signs, .ref q_t_pad, .int t_metAt, .int t_metWho, .int t_reason, .int t_acts, .ref q_t_had, .ref q_t_takes, .ref q_t_worths, .ref q_t_fitting, .ref q_t_wins, .ref q_t_ways, .ref q_t_image, .ref q_t_isKept])), (q_t_sight, .inl (cI, 16, .inl t_sight)), (q_t_fitting, .inl (cI, 256, .inl u))])) (k59 : Int32 → Int32 → Int32 → Int32 → (Nat → Int32) → Prop) (hk59 : ∀ (x2 : Int32) (x3 : Int32) (x4 : Int32) (x5 : Int32) (t_fitting : (Nat → Int32)), k59 x2 x3 x4 x5 t_fitting → ∀ (H : Heap) (locs : List Loc), va_P D vwCl [(q_t, .inr (7, [.ref q_t_book, .ref q_t_now, .int t_shift, .int t_kneels, .int t_sights, .ref q_t_sight, .int t_signs, .ref q_t_pad, .int t_metAt, .int t_metWho, .int t_reason, .int t_acts, .ref q_t_had, .ref q_t_takes, .ref q_t_worths, .ref q_t_fitting, .ref q_t_wins, .ref q_t_ways, .ref q_t_image, .ref q_t_isKept])), (q_t_sight, .inl (cI, 16, .inl t_sight)), (q_t_fitting, .inl (cI, 256, .inl t_fitting))] H → va_D A [(q_t, .inr (7, [.ref q_t_book, .ref q_t_now, .int t_shift, .int t_kneels, .int t_sights, .ref q_t_sight, .int t_signs, .ref q_t_pad, .int t_metAt, .int t_metWho, .int t_reason, .int t_acts, .ref q_t_had, .ref q_t_takes, .ref q_t_worths, .ref q_t_fitting, .ref q_t_wins, .ref q_t_ways, .ref q_t_image, .ref q_t_isKept])), (q_t_sight, .inl (cI, 16, .inl t_sight)), (q_t_fitting, .inl (cI, 256, .inl t_fitting))] → va_S A s.heap H locs → ∀ ls : Array Slot, lv_has ls 8 [(0, .ref q_t), (1, .int a1), (2, .int x2), (3, .int x3), (4, .int x4), (5, .int x5)] → W p l e ({ frames := 2, cells := 0, slots := 0, locals := 44 } : Room) s m args below meth c H locs 0 0 Q (F0 m 59 ls [])) :
    ∀ (x2 : Int32) (x3 : Int32) (x4 : Int32) (x5 : Int32) (s0 : Int32) (t_fitting : (Nat → Int32)), pX7_ask_b131 t_sights t_sight a1 post k59 x2 x3 x4 x5 s0 t_fitting → ∀ (H : Heap) (locs : List Loc), va_P D vwCl [(q_t, .inr (7, [.ref q_t_book, .ref q_t_now, .int t_shift, .int t_kneels, .int t_sights, .ref q_t_sight, .int t_signs, .ref q_t_pad, .int t_metAt, .int t_metWho, .int t_reason, .int t_acts, .ref q_t_had, .ref q_t_takes, .ref q_t_worths, .ref q_t_fitting, .ref q_t_wins, .ref q_t_ways, .ref q_t_image, .ref q_t_isKept])), (q_t_sight, .inl (cI, 16, .inl t_sight)), (q_t_fitting, .inl (cI, 256, .inl t_fitting))] H → va_D A [(q_t, .inr (7, [.ref q_t_book, .ref q_t_now, .int t_shift, .int t_kneels, .int t_sights, .ref q_t_sight, .int t_signs, .ref q_t_pad, .int t_metAt, .int t_metWho, .int t_reason, .int t_acts, .ref q_t_had, .ref q_t_takes, .ref q_t_worths, .ref q_t_fitting, .ref q_t_wins, .ref q_t_ways, .ref q_t_image, .ref q_t_isKept])), (q_t_sight, .inl (cI, 16, .inl t_sight)), (q_t_fitting, .inl (cI, 256, .inl t_fitting))] → va_S A s.heap H locs → ∀ ls : Array Slot, lv_has ls 8 [(0, .ref q_t), (1, .int a1), (2, .int x2), (3, .int x3), (4, .int x4), (5, .int x5)] → W p l e ({ frames := 2, cells := 0, slots := 0, locals := 44 } : Room) s m args below meth c H locs 0 0 Q (F0 m 131 ls [.int s0]) := by
  obtain ⟨hx, hb, hml, hown, hts⟩ := id C0
  intro x2 x3 x4 x5 s0 t_fitting hf H locs hP hD hS ls hl
  unfold pX7_ask_b131 at hf
  refine lv_istore (lv' := [(7, .int s0), (0, .ref q_t), (1, .int a1), (2, .int x2), (3, .int x3), (4, .int x4), (5, .int x5)]) hx hb dX7_ask_131 hl (by decide) rfl (fun ls hl => ?_)
  refine lv_iload hx hb dX7_ask_133 (lv_at hl 0 rfl) ?_
  refine lv_iload hx hb dX7_ask_135 (lv_at hl 5 rfl) ?_
  refine lv_icmp_ge (tgt := 145) hx hb dX7_ask_137 (by decide) (fun c1 => ?_) (fun c1 => ?_)
  · have hf := hf.1 c1
    refine lv_iload_n hx hb dX7_ask_145 rfl (lv_at hl 4 rfl) ?_
    exact wX7_ask_b146 C0 hN hK hA q_t q_t_sight q_t_fitting q_t_book q_t_now q_t_pad q_t_had q_t_takes q_t_worths q_t_wins q_t_ways q_t_image q_t_isKept t_shift t_kneels t_signs t_metAt t_metWho t_reason t_acts t_sights t_sight a1 post hret _ hk59 x2 x4 x5 s0 x3 t_fitting hf H locs hP hD hS ls (lv_sub hl [1, 2, 3, 5, 6, 0] rfl)
  · have hf := hf.2 c1
    refine lv_iload hx hb dX7_ask_140 (lv_at hl 6 rfl) ?_
    refine lv_goto (tgt := 146) hx hb dX7_ask_142 (by decide) ?_
    exact wX7_ask_b146 C0 hN hK hA q_t q_t_sight q_t_fitting q_t_book q_t_now q_t_pad q_t_had q_t_takes q_t_worths q_t_wins q_t_ways q_t_image q_t_isKept t_shift t_kneels t_signs t_metAt t_metWho t_reason t_acts t_sights t_sight a1 post hret _ hk59 x2 x4 x5 s0 x5 t_fitting hf H locs hP hD hS ls (lv_sub hl [1, 2, 3, 5, 6, 0] rfl)

def pX7_ask_b76 (t_sights : Int32) (t_sight : (Nat → Int32)) (a1 : Int32) (post : Int32 → ((Nat → Int32)) → Prop) (k59 : Int32 → Int32 → Int32 → Int32 → (Nat → Int32) → Prop) : Nat → Int32 → Int32 → Int32 → Int32 → Int32 → Int32 → (Nat → Int32) → Prop
  | 0 => fun _ _ _ _ _ _ _ => False
  | n + 1 => fun x2 x3 x4 x5 x6 x7 t_fitting => (x2 ≤ x7 → ((x6 ≤ (x2 - x6) → (pX7_ask_b131 t_sights t_sight a1 post k59 x2 x3 x4 x5 (x2 - x6) t_fitting)) ∧ (¬ x6 ≤ (x2 - x6) → (pX7_ask_b131 t_sights t_sight a1 post k59 x2 x3 x4 x5 x6 t_fitting)))) ∧ (¬ x2 ≤ x7 → (vp_in x7 256 ∧ (pX7_rings (t_fitting x7.toNatClampNeg) x5 (fun r4 => (r4 = 0 → (∀ v6 : Int32, v6 = (x6 + 0) → (∀ v7 : Int32, v7 = x7 + 1 → (pX7_ask_b76 t_sights t_sight a1 post k59 n x2 x3 x4 x5 v6 v7 t_fitting)))) ∧ (¬ r4 = 0 → (∀ v8 : Int32, v8 = (x6 + 1) → (∀ v9 : Int32, v9 = x7 + 1 → (pX7_ask_b76 t_sights t_sight a1 post k59 n x2 x3 x4 x5 v8 v9 t_fitting))))))))

set_option maxHeartbeats 4000000 in
set_option maxRecDepth 100000 in
theorem wX7_ask_b76 {p : Program} {l : Launch} {e : Env} {s : State} {m : MethodId} {args : Array Value} {below : List Frame} {meth : Method} {c : Code} {Q : State → Prop} {D : va_G} {cI cZ cJ cO : ClassId} {A : Nat → Prop} (C0 : CallFix p m c cX7_ask 8 s args wsX7_ask RX7) (hN : nw s) (hK : va_K D vwCl (tyL cI cZ cJ cO) s) (hA : ∀ q, s.heap.size ≤ q → A q) (q_t q_t_sight q_t_fitting q_t_book q_t_now q_t_pad q_t_had q_t_takes q_t_worths q_t_wins q_t_ways q_t_image q_t_isKept : Nat) (t_shift : Int32) (t_kneels : Int32) (t_signs : Int32) (t_metAt : Int32) (t_metWho : Int32) (t_reason : Int32) (t_acts : Int32) (t_sights : Int32) (t_sight : (Nat → Int32)) (a1 : Int32) (post : Int32 → ((Nat → Int32)) → Prop) (hret : hrI p l e ({ frames := 2, cells := 0, slots := 0, locals := 44 } : Room) s m args below meth c cX7_ask D A Q post (fun u : (Nat → Int32) => [(q_t, .inr (7, [.ref q_t_book, .ref q_t_now, .int t_shift, .int t_kneels, .int t_sights, .ref q_t_sight, .int t_signs, .ref q_t_pad, .int t_metAt, .int t_metWho, .int t_reason, .int t_acts, .ref q_t_had, .ref q_t_takes, .ref q_t_worths, .ref q_t_fitting, .ref q_t_wins, .ref q_t_ways, .ref q_t_image, .ref q_t_isKept])), (q_t_sight, .inl (cI, 16, .inl t_sight)), (q_t_fitting, .inl (cI, 256, .inl u))])) (k59 : Int32 → Int32 → Int32 → Int32 → (Nat → Int32) → Prop) (hk59 : ∀ (x2 : Int32) (x3 : Int32) (x4 : Int32) (x5 : Int32) (t_fitting : (Nat → Int32)), k59 x2 x3 x4 x5 t_fitting → ∀ (H : Heap) (locs : List Loc), va_P D vwCl [(q_t, .inr (7, [.ref q_t_book, .ref q_t_now, .int t_shift, .int t_kneels, .int t_sights, .ref q_t_sight, .int t_signs, .ref q_t_pad, .int t_metAt, .int t_metWho, .int t_reason, .int t_acts, .ref q_t_had, .ref q_t_takes, .ref q_t_worths, .ref q_t_fitting, .ref q_t_wins, .ref q_t_ways, .ref q_t_image, .ref q_t_isKept])), (q_t_sight, .inl (cI, 16, .inl t_sight)), (q_t_fitting, .inl (cI, 256, .inl t_fitting))] H → va_D A [(q_t, .inr (7, [.ref q_t_book, .ref q_t_now, .int t_shift, .int t_kneels, .int t_sights, .ref q_t_sight, .int t_signs, .ref q_t_pad, .int t_metAt, .int t_metWho, .int t_reason, .int t_acts, .ref q_t_had, .ref q_t_takes, .ref q_t_worths, .ref q_t_fitting, .ref q_t_wins, .ref q_t_ways, .ref q_t_image, .ref q_t_isKept])), (q_t_sight, .inl (cI, 16, .inl t_sight)), (q_t_fitting, .inl (cI, 256, .inl t_fitting))] → va_S A s.heap H locs → ∀ ls : Array Slot, lv_has ls 8 [(0, .ref q_t), (1, .int a1), (2, .int x2), (3, .int x3), (4, .int x4), (5, .int x5)] → W p l e ({ frames := 2, cells := 0, slots := 0, locals := 44 } : Room) s m args below meth c H locs 0 0 Q (F0 m 59 ls [])) :
    ∀ (n : Nat) (x2 : Int32) (x3 : Int32) (x4 : Int32) (x5 : Int32) (x6 : Int32) (x7 : Int32) (t_fitting : (Nat → Int32)), pX7_ask_b76 t_sights t_sight a1 post k59 n x2 x3 x4 x5 x6 x7 t_fitting → ∀ (H : Heap) (locs : List Loc), va_P D vwCl [(q_t, .inr (7, [.ref q_t_book, .ref q_t_now, .int t_shift, .int t_kneels, .int t_sights, .ref q_t_sight, .int t_signs, .ref q_t_pad, .int t_metAt, .int t_metWho, .int t_reason, .int t_acts, .ref q_t_had, .ref q_t_takes, .ref q_t_worths, .ref q_t_fitting, .ref q_t_wins, .ref q_t_ways, .ref q_t_image, .ref q_t_isKept])), (q_t_sight, .inl (cI, 16, .inl t_sight)), (q_t_fitting, .inl (cI, 256, .inl t_fitting))] H → va_D A [(q_t, .inr (7, [.ref q_t_book, .ref q_t_now, .int t_shift, .int t_kneels, .int t_sights, .ref q_t_sight, .int t_signs, .ref q_t_pad, .int t_metAt, .int t_metWho, .int t_reason, .int t_acts, .ref q_t_had, .ref q_t_takes, .ref q_t_worths, .ref q_t_fitting, .ref q_t_wins, .ref q_t_ways, .ref q_t_image, .ref q_t_isKept])), (q_t_sight, .inl (cI, 16, .inl t_sight)), (q_t_fitting, .inl (cI, 256, .inl t_fitting))] → va_S A s.heap H locs → ∀ ls : Array Slot, lv_has ls 8 [(0, .ref q_t), (1, .int a1), (2, .int x2), (3, .int x3), (4, .int x4), (5, .int x5), (6, .int x6), (7, .int x7)] → W p l e ({ frames := 2, cells := 0, slots := 0, locals := 44 } : Room) s m args below meth c H locs 0 0 Q (F0 m 76 ls []) := by
  obtain ⟨hx, hb, hml, hown, hts⟩ := id C0
  intro n
  induction n with
  | zero =>
    intro x2 x3 x4 x5 x6 x7 t_fitting hf
    exact False.elim hf
  | succ n ih =>
    intro x2 x3 x4 x5 x6 x7 t_fitting hf H locs hP hD hS ls hl
    rw [pX7_ask_b76] at hf
    refine lv_iload hx hb dX7_ask_76 (lv_at hl 7 rfl) ?_
    refine lv_iload_n hx hb dX7_ask_78 rfl (lv_at hl 2 rfl) ?_
    refine lv_icmp_ge (tgt := 113) hx hb dX7_ask_79 (by decide) (fun c1 => ?_) (fun c1 => ?_)
    · have hf := hf.1 c1
      refine lv_iload hx hb dX7_ask_113 (lv_at hl 6 rfl) ?_
      refine lv_iload_n hx hb dX7_ask_115 rfl (lv_at hl 2 rfl) ?_
      refine lv_iload hx hb dX7_ask_116 (lv_at hl 6 rfl) ?_
      refine lv_isub hx hb dX7_ask_118 ?_
      refine lv_icmp_le (tgt := 127) hx hb dX7_ask_119 (by decide) (fun c2 => ?_) (fun c2 => ?_)
      · have hf := hf.1 c2
        refine lv_iload_n hx hb dX7_ask_127 rfl (lv_at hl 2 rfl) ?_
        refine lv_iload hx hb dX7_ask_128 (lv_at hl 6 rfl) ?_
        refine lv_isub hx hb dX7_ask_130 ?_
        exact wX7_ask_b131 C0 hN hK hA q_t q_t_sight q_t_fitting q_t_book q_t_now q_t_pad q_t_had q_t_takes q_t_worths q_t_wins q_t_ways q_t_image q_t_isKept t_shift t_kneels t_signs t_metAt t_metWho t_reason t_acts t_sights t_sight a1 post hret _ hk59 x2 x3 x4 x5 (x2 - x6) t_fitting hf H locs hP hD hS ls (lv_sub hl [0, 1, 2, 3, 4, 5] rfl)
      · have hf := hf.2 c2
        refine lv_iload hx hb dX7_ask_122 (lv_at hl 6 rfl) ?_
        refine lv_goto (tgt := 131) hx hb dX7_ask_124 (by decide) ?_
        exact wX7_ask_b131 C0 hN hK hA q_t q_t_sight q_t_fitting q_t_book q_t_now q_t_pad q_t_had q_t_takes q_t_worths q_t_wins q_t_ways q_t_image q_t_isKept t_shift t_kneels t_signs t_metAt t_metWho t_reason t_acts t_sights t_sight a1 post hret _ hk59 x2 x3 x4 x5 x6 t_fitting hf H locs hP hD hS ls (lv_sub hl [0, 1, 2, 3, 4, 5] rfl)
    · have hf := hf.2 c1
      refine lv_iload hx hb dX7_ask_82 (lv_at hl 6 rfl) ?_
      refine lv_aload_n hx hb dX7_ask_84 rfl (lv_at hl 0 rfl) ?_
      refine va_get (D := D) (ci := 7) (v := .ref q_t_fitting) (C := RX7) (T := TX7) (N := 20) hx hb hts nX7_ask_X7 hown hK hP 0 rfl rfl 15 (by decide) (hts _ mX7_ask_1) (fun _ h9 => h9) rfl dX7_ask_85 ?_
      refine lv_iload hx hb dX7_ask_88 (lv_at hl 7 rfl) ?_
      have g3 := hf.1
      have hf := hf.2
      refine xa_iald hx hb hK hP 2 0 rfl rfl (j := x7.toNatClampNeg) rfl g3 dX7_ask_90 ?_
      refine lv_iload hx hb dX7_ask_91 (lv_at hl 5 rfl) ?_
      refine xs_i (va_runS (As := [.int (t_fitting x7.toNatClampNeg), .int x5]) (rest := [.int x6]) ⟨hx, hb, hml, hown, hts⟩ (kX7_rings l D cI cZ cJ cO (t_fitting x7.toNatClampNeg) x5 _ hf) (va_cwS 2 hts gX7_ask_X7_rings rfl rfl rfl (by decide +kernel) ⟨Nat.le_of_ble_eq_true rfl, Nat.le_of_ble_eq_true rfl⟩) (B0_pre (hP.sub (ws' := []) [] rfl) hK hN) rfl rfl hl.1 rfl (lv_room (Nat.le_of_ble_eq_true rfl)) dX7_ask_93 ⟨Nat.zero_le _, Nat.zero_le _⟩) (fun r4 hf => ?_)
      refine lv_if_eq (tgt := 103) hx hb dX7_ask_96 (by decide) (fun c5 => ?_) (fun c5 => ?_)
      · have hf := hf.1 c5
        refine lv_iconst (v := 0) hx hb dX7_ask_103 (by decide) ?_
        refine lv_iadd hx hb dX7_ask_104 ?_
        refine lv_topi (fun v6 ev6 => ?_)
        have hf := hf v6 ev6
        refine lv_istore (lv' := [(6, .int v6), (0, .ref q_t), (1, .int a1), (2, .int x2), (3, .int x3), (4, .int x4), (5, .int x5), (7, .int x7)]) hx hb dX7_ask_105 hl (by decide) rfl (fun ls hl => ?_)
        obtain ⟨v7, ev7⟩ : ∃ y : Int32, y = x7 + 1 := ⟨_, rfl⟩
        have hf := hf v7 ev7
        refine lv_iinc (v := v7) (lv' := [(7, .int v7), (6, .int v6), (0, .ref q_t), (1, .int a1), (2, .int x2), (3, .int x3), (4, .int x4), (5, .int x5)]) hx hb dX7_ask_107 hl (k := 7) rfl (by rw [ev7]; rfl) (by decide) rfl (fun ls hl => ?_)
        refine lv_goto (tgt := 76) hx hb dX7_ask_110 (by decide) ?_
        exact ih x2 x3 x4 x5 v6 v7 t_fitting hf H locs hP hD hS ls (lv_sub hl [2, 3, 4, 5, 6, 7, 1, 0] rfl)
      · have hf := hf.2 c5
        refine lv_iconst (v := 1) hx hb dX7_ask_99 (by decide) ?_
        refine lv_goto (tgt := 104) hx hb dX7_ask_100 (by decide) ?_
        refine lv_iadd hx hb dX7_ask_104 ?_
        refine lv_topi (fun v8 ev8 => ?_)
        have hf := hf v8 ev8
        refine lv_istore (lv' := [(6, .int v8), (0, .ref q_t), (1, .int a1), (2, .int x2), (3, .int x3), (4, .int x4), (5, .int x5), (7, .int x7)]) hx hb dX7_ask_105 hl (by decide) rfl (fun ls hl => ?_)
        obtain ⟨v9, ev9⟩ : ∃ y : Int32, y = x7 + 1 := ⟨_, rfl⟩
        have hf := hf v9 ev9
        refine lv_iinc (v := v9) (lv' := [(7, .int v9), (6, .int v8), (0, .ref q_t), (1, .int a1), (2, .int x2), (3, .int x3), (4, .int x4), (5, .int x5)]) hx hb dX7_ask_107 hl (k := 7) rfl (by rw [ev9]; rfl) (by decide) rfl (fun ls hl => ?_)
        refine lv_goto (tgt := 76) hx hb dX7_ask_110 (by decide) ?_
        exact ih x2 x3 x4 x5 v8 v9 t_fitting hf H locs hP hD hS ls (lv_sub hl [2, 3, 4, 5, 6, 7, 1, 0] rfl)

def pX7_ask_b59 (t_sights : Int32) (t_sight : (Nat → Int32)) (a1 : Int32) (post : Int32 → ((Nat → Int32)) → Prop) : Nat → Int32 → Int32 → Int32 → Int32 → (Nat → Int32) → Prop
  | 0 => fun _ _ _ _ _ => False
  | n + 1 => fun x2 x3 x4 x5 t_fitting => (100 ≤ x5 → (pX7_ask_b169 t_sights t_sight a1 post  x3 x4 t_fitting)) ∧ (¬ 100 ≤ x5 → ((x2 ≤ 0 → (pX7_ask_b169 t_sights t_sight a1 post  x3 x4 t_fitting)) ∧ (¬ x2 ≤ 0 → (∃ n1, pX7_ask_b76 t_sights t_sight a1 post (fun x2 x3 x4 x5 t_fitting => pX7_ask_b59 t_sights t_sight a1 post  n x2 x3 x4 x5 t_fitting) n1 x2 x3 x4 x5 0 0 t_fitting))))

set_option maxHeartbeats 4000000 in
set_option maxRecDepth 100000 in
theorem wX7_ask_b59 {p : Program} {l : Launch} {e : Env} {s : State} {m : MethodId} {args : Array Value} {below : List Frame} {meth : Method} {c : Code} {Q : State → Prop} {D : va_G} {cI cZ cJ cO : ClassId} {A : Nat → Prop} (C0 : CallFix p m c cX7_ask 8 s args wsX7_ask RX7) (hN : nw s) (hK : va_K D vwCl (tyL cI cZ cJ cO) s) (hA : ∀ q, s.heap.size ≤ q → A q) (q_t q_t_sight q_t_fitting q_t_book q_t_now q_t_pad q_t_had q_t_takes q_t_worths q_t_wins q_t_ways q_t_image q_t_isKept : Nat) (t_shift : Int32) (t_kneels : Int32) (t_signs : Int32) (t_metAt : Int32) (t_metWho : Int32) (t_reason : Int32) (t_acts : Int32) (t_sights : Int32) (t_sight : (Nat → Int32)) (a1 : Int32) (post : Int32 → ((Nat → Int32)) → Prop) (hret : hrI p l e ({ frames := 2, cells := 0, slots := 0, locals := 44 } : Room) s m args below meth c cX7_ask D A Q post (fun u : (Nat → Int32) => [(q_t, .inr (7, [.ref q_t_book, .ref q_t_now, .int t_shift, .int t_kneels, .int t_sights, .ref q_t_sight, .int t_signs, .ref q_t_pad, .int t_metAt, .int t_metWho, .int t_reason, .int t_acts, .ref q_t_had, .ref q_t_takes, .ref q_t_worths, .ref q_t_fitting, .ref q_t_wins, .ref q_t_ways, .ref q_t_image, .ref q_t_isKept])), (q_t_sight, .inl (cI, 16, .inl t_sight)), (q_t_fitting, .inl (cI, 256, .inl u))])) :
    ∀ (n : Nat) (x2 : Int32) (x3 : Int32) (x4 : Int32) (x5 : Int32) (t_fitting : (Nat → Int32)), pX7_ask_b59 t_sights t_sight a1 post n x2 x3 x4 x5 t_fitting → ∀ (H : Heap) (locs : List Loc), va_P D vwCl [(q_t, .inr (7, [.ref q_t_book, .ref q_t_now, .int t_shift, .int t_kneels, .int t_sights, .ref q_t_sight, .int t_signs, .ref q_t_pad, .int t_metAt, .int t_metWho, .int t_reason, .int t_acts, .ref q_t_had, .ref q_t_takes, .ref q_t_worths, .ref q_t_fitting, .ref q_t_wins, .ref q_t_ways, .ref q_t_image, .ref q_t_isKept])), (q_t_sight, .inl (cI, 16, .inl t_sight)), (q_t_fitting, .inl (cI, 256, .inl t_fitting))] H → va_D A [(q_t, .inr (7, [.ref q_t_book, .ref q_t_now, .int t_shift, .int t_kneels, .int t_sights, .ref q_t_sight, .int t_signs, .ref q_t_pad, .int t_metAt, .int t_metWho, .int t_reason, .int t_acts, .ref q_t_had, .ref q_t_takes, .ref q_t_worths, .ref q_t_fitting, .ref q_t_wins, .ref q_t_ways, .ref q_t_image, .ref q_t_isKept])), (q_t_sight, .inl (cI, 16, .inl t_sight)), (q_t_fitting, .inl (cI, 256, .inl t_fitting))] → va_S A s.heap H locs → ∀ ls : Array Slot, lv_has ls 8 [(0, .ref q_t), (1, .int a1), (2, .int x2), (3, .int x3), (4, .int x4), (5, .int x5)] → W p l e ({ frames := 2, cells := 0, slots := 0, locals := 44 } : Room) s m args below meth c H locs 0 0 Q (F0 m 59 ls []) := by
  obtain ⟨hx, hb, hml, hown, hts⟩ := id C0
  intro n
  induction n with
  | zero =>
    intro x2 x3 x4 x5 t_fitting hf
    exact False.elim hf
  | succ n ih =>
    intro x2 x3 x4 x5 t_fitting hf H locs hP hD hS ls hl
    rw [pX7_ask_b59] at hf
    refine lv_iload hx hb dX7_ask_59 (lv_at hl 5 rfl) ?_
    refine lv_bipush (v := 100) hx hb dX7_ask_61 (by decide) ?_
    refine lv_icmp_ge (tgt := 169) hx hb dX7_ask_63 (by decide) (fun c1 => ?_) (fun c1 => ?_)
    · have hf := hf.1 c1
      exact wX7_ask_b169 C0 hN hK hA q_t q_t_sight q_t_fitting q_t_book q_t_now q_t_pad q_t_had q_t_takes q_t_worths q_t_wins q_t_ways q_t_image q_t_isKept t_shift t_kneels t_signs t_metAt t_metWho t_reason t_acts t_sights t_sight a1 post hret   x3 x4 t_fitting hf H locs hP hD hS ls (lv_sub hl [1, 3, 4] rfl)
    · have hf := hf.2 c1
      refine lv_iload_n hx hb dX7_ask_66 rfl (lv_at hl 2 rfl) ?_
      refine lv_if_le (tgt := 169) hx hb dX7_ask_67 (by decide) (fun c2 => ?_) (fun c2 => ?_)
      · have hf := hf.1 c2
        exact wX7_ask_b169 C0 hN hK hA q_t q_t_sight q_t_fitting q_t_book q_t_now q_t_pad q_t_had q_t_takes q_t_worths q_t_wins q_t_ways q_t_image q_t_isKept t_shift t_kneels t_signs t_metAt t_metWho t_reason t_acts t_sights t_sight a1 post hret   x3 x4 t_fitting hf H locs hP hD hS ls (lv_sub hl [1, 3, 4] rfl)
      · have hf := hf.2 c2
        refine lv_iconst (v := 0) hx hb dX7_ask_70 (by decide) ?_
        refine lv_istore (lv' := [(6, .int 0), (0, .ref q_t), (1, .int a1), (2, .int x2), (3, .int x3), (4, .int x4), (5, .int x5)]) hx hb dX7_ask_71 hl (by decide) rfl (fun ls hl => ?_)
        refine lv_iconst (v := 0) hx hb dX7_ask_73 (by decide) ?_
        refine lv_istore (lv' := [(7, .int 0), (6, .int 0), (0, .ref q_t), (1, .int a1), (2, .int x2), (3, .int x3), (4, .int x4), (5, .int x5)]) hx hb dX7_ask_74 hl (by decide) rfl (fun ls hl => ?_)
        obtain ⟨n1, hf⟩ := hf
        exact wX7_ask_b76 C0 hN hK hA q_t q_t_sight q_t_fitting q_t_book q_t_now q_t_pad q_t_had q_t_takes q_t_worths q_t_wins q_t_ways q_t_image q_t_isKept t_shift t_kneels t_signs t_metAt t_metWho t_reason t_acts t_sights t_sight a1 post hret _ ih n1 x2 x3 x4 x5 0 0 t_fitting hf H locs hP hD hS ls (lv_sub hl [2, 3, 4, 5, 6, 7, 1, 0] rfl)

def pX7_ask_b18 (t_sights : Int32) (t_sight : (Nat → Int32)) (a1 : Int32) (post : Int32 → ((Nat → Int32)) → Prop) : Nat → Int32 → Int32 → (Nat → Int32) → Prop
  | 0 => fun _ _ _ => False
  | n + 1 => fun x2 x3 t_fitting => (2100 ≤ x3 → (∃ n1, pX7_ask_b59 t_sights t_sight a1 post  n1 x2 (-6) 1000000 0 t_fitting)) ∧ (¬ 2100 ≤ x3 → (pX7_isFit t_sights t_sight x3 (fun r2 => (r2 = 0 → (∀ v4 : Int32, v4 = x3 + 1 → (pX7_ask_b18 t_sights t_sight a1 post  n x2 v4 t_fitting))) ∧ (¬ r2 = 0 → (vp_in x2 256 ∧ (∀ v6 : Int32, v6 = x2 + 1 → (∀ v7 : Int32, v7 = x3 + 1 → (pX7_ask_b18 t_sights t_sight a1 post  n v6 v7 (upd t_fitting x2.toNatClampNeg x3)))))))))

set_option maxHeartbeats 4000000 in
set_option maxRecDepth 100000 in
theorem wX7_ask_b18 {p : Program} {l : Launch} {e : Env} {s : State} {m : MethodId} {args : Array Value} {below : List Frame} {meth : Method} {c : Code} {Q : State → Prop} {D : va_G} {cI cZ cJ cO : ClassId} {A : Nat → Prop} (C0 : CallFix p m c cX7_ask 8 s args wsX7_ask RX7) (hN : nw s) (hK : va_K D vwCl (tyL cI cZ cJ cO) s) (hA : ∀ q, s.heap.size ≤ q → A q) (q_t q_t_sight q_t_fitting q_t_book q_t_now q_t_pad q_t_had q_t_takes q_t_worths q_t_wins q_t_ways q_t_image q_t_isKept : Nat) (t_shift : Int32) (t_kneels : Int32) (t_signs : Int32) (t_metAt : Int32) (t_metWho : Int32) (t_reason : Int32) (t_acts : Int32) (t_sights : Int32) (t_sight : (Nat → Int32)) (a1 : Int32) (post : Int32 → ((Nat → Int32)) → Prop) (hret : hrI p l e ({ frames := 2, cells := 0, slots := 0, locals := 44 } : Room) s m args below meth c cX7_ask D A Q post (fun u : (Nat → Int32) => [(q_t, .inr (7, [.ref q_t_book, .ref q_t_now, .int t_shift, .int t_kneels, .int t_sights, .ref q_t_sight, .int t_signs, .ref q_t_pad, .int t_metAt, .int t_metWho, .int t_reason, .int t_acts, .ref q_t_had, .ref q_t_takes, .ref q_t_worths, .ref q_t_fitting, .ref q_t_wins, .ref q_t_ways, .ref q_t_image, .ref q_t_isKept])), (q_t_sight, .inl (cI, 16, .inl t_sight)), (q_t_fitting, .inl (cI, 256, .inl u))])) :
    ∀ (n : Nat) (x2 : Int32) (x3 : Int32) (t_fitting : (Nat → Int32)), pX7_ask_b18 t_sights t_sight a1 post n x2 x3 t_fitting → ∀ (H : Heap) (locs : List Loc), va_P D vwCl [(q_t, .inr (7, [.ref q_t_book, .ref q_t_now, .int t_shift, .int t_kneels, .int t_sights, .ref q_t_sight, .int t_signs, .ref q_t_pad, .int t_metAt, .int t_metWho, .int t_reason, .int t_acts, .ref q_t_had, .ref q_t_takes, .ref q_t_worths, .ref q_t_fitting, .ref q_t_wins, .ref q_t_ways, .ref q_t_image, .ref q_t_isKept])), (q_t_sight, .inl (cI, 16, .inl t_sight)), (q_t_fitting, .inl (cI, 256, .inl t_fitting))] H → va_D A [(q_t, .inr (7, [.ref q_t_book, .ref q_t_now, .int t_shift, .int t_kneels, .int t_sights, .ref q_t_sight, .int t_signs, .ref q_t_pad, .int t_metAt, .int t_metWho, .int t_reason, .int t_acts, .ref q_t_had, .ref q_t_takes, .ref q_t_worths, .ref q_t_fitting, .ref q_t_wins, .ref q_t_ways, .ref q_t_image, .ref q_t_isKept])), (q_t_sight, .inl (cI, 16, .inl t_sight)), (q_t_fitting, .inl (cI, 256, .inl t_fitting))] → va_S A s.heap H locs → ∀ ls : Array Slot, lv_has ls 8 [(0, .ref q_t), (1, .int a1), (2, .int x2), (3, .int x3)] → W p l e ({ frames := 2, cells := 0, slots := 0, locals := 44 } : Room) s m args below meth c H locs 0 0 Q (F0 m 18 ls []) := by
  obtain ⟨hx, hb, hml, hown, hts⟩ := id C0
  intro n
  induction n with
  | zero =>
    intro x2 x3 t_fitting hf
    exact False.elim hf
  | succ n ih =>
    intro x2 x3 t_fitting hf H locs hP hD hS ls hl
    rw [pX7_ask_b18] at hf
    refine lv_iload_n hx hb dX7_ask_18 rfl (lv_at hl 3 rfl) ?_
    refine lv_sipush (v := 2100) hx hb dX7_ask_19 (by decide) ?_
    refine lv_icmp_ge (tgt := 49) hx hb dX7_ask_22 (by decide) (fun c1 => ?_) (fun c1 => ?_)
    · have hf := hf.1 c1
      refine lv_bipush (v := (-6)) hx hb dX7_ask_49 (by decide) ?_
      refine lv_istore_n (lv' := [(3, .int (-6)), (0, .ref q_t), (1, .int a1), (2, .int x2)]) hx hb dX7_ask_51 rfl hl (by decide) rfl (fun ls hl => ?_)
      refine lv_ldc (v := 1000000) hx hb hown (hts _ mX7_ask_2) dX7_ask_52 ?_
      refine lv_istore (lv' := [(4, .int 1000000), (3, .int (-6)), (0, .ref q_t), (1, .int a1), (2, .int x2)]) hx hb dX7_ask_54 hl (by decide) rfl (fun ls hl => ?_)
      refine lv_iconst (v := 0) hx hb dX7_ask_56 (by decide) ?_
      refine lv_istore (lv' := [(5, .int 0), (4, .int 1000000), (3, .int (-6)), (0, .ref q_t), (1, .int a1), (2, .int x2)]) hx hb dX7_ask_57 hl (by decide) rfl (fun ls hl => ?_)
      obtain ⟨n1, hf⟩ := hf
      exact wX7_ask_b59 C0 hN hK hA q_t q_t_sight q_t_fitting q_t_book q_t_now q_t_pad q_t_had q_t_takes q_t_worths q_t_wins q_t_ways q_t_image q_t_isKept t_shift t_kneels t_signs t_metAt t_metWho t_reason t_acts t_sights t_sight a1 post hret   n1 x2 (-6) 1000000 0 t_fitting hf H locs hP hD hS ls (lv_sub hl [3, 4, 5, 2, 1, 0] rfl)
    · have hf := hf.2 c1
      refine lv_aload_n hx hb dX7_ask_25 rfl (lv_at hl 0 rfl) ?_
      refine lv_iload_n hx hb dX7_ask_26 rfl (lv_at hl 3 rfl) ?_
      refine xs_i (va_runV (As := [.int x3]) (rest := []) ⟨hx, hb, hml, hown, hts⟩ (kX7_isFit l D cI cZ cJ cO q_t q_t_sight q_t_book q_t_now q_t_pad q_t_had q_t_takes q_t_worths q_t_fitting q_t_wins q_t_ways q_t_image q_t_isKept t_shift t_kneels t_signs t_metAt t_metWho t_reason t_acts t_sights t_sight x3 _ hf) (cwV 1 hts gX7_ask_X7_isFit rfl rfl rfl (by decide +kernel) ⟨Nat.le_of_ble_eq_true rfl, Nat.le_of_ble_eq_true rfl⟩) (B0_preV (ci := 7) (q0 := 0) hP rfl rfl (hP.sub (ws' := [(q_t, .inr (7, [.ref q_t_book, .ref q_t_now, .int t_shift, .int t_kneels, .int t_sights, .ref q_t_sight, .int t_signs, .ref q_t_pad, .int t_metAt, .int t_metWho, .int t_reason, .int t_acts, .ref q_t_had, .ref q_t_takes, .ref q_t_worths, .ref q_t_fitting, .ref q_t_wins, .ref q_t_ways, .ref q_t_image, .ref q_t_isKept])), (q_t_sight, .inl (cI, 16, .inl t_sight))]) [0, 1] rfl) hK hN) rfl rfl hl.1 rfl (lv_room (Nat.le_of_ble_eq_true rfl)) dX7_ask_27 ⟨Nat.zero_le _, Nat.zero_le _⟩) (fun r2 hf => ?_)
      refine lv_if_eq (tgt := 43) hx hb dX7_ask_30 (by decide) (fun c3 => ?_) (fun c3 => ?_)
      · have hf := hf.1 c3
        obtain ⟨v4, ev4⟩ : ∃ y : Int32, y = x3 + 1 := ⟨_, rfl⟩
        have hf := hf v4 ev4
        refine lv_iinc (v := v4) (lv' := [(3, .int v4), (0, .ref q_t), (1, .int a1), (2, .int x2)]) hx hb dX7_ask_43 hl (k := 3) rfl (by rw [ev4]; rfl) (by decide) rfl (fun ls hl => ?_)
        refine lv_goto (tgt := 18) hx hb dX7_ask_46 (by decide) ?_
        exact ih x2 v4 t_fitting hf H locs hP hD hS ls (lv_sub hl [1, 2, 3, 0] rfl)
      · have hf := hf.2 c3
        refine lv_aload_n hx hb dX7_ask_33 rfl (lv_at hl 0 rfl) ?_
        refine va_get (D := D) (ci := 7) (v := .ref q_t_fitting) (C := RX7) (T := TX7) (N := 20) hx hb hts nX7_ask_X7 hown hK hP 0 rfl rfl 15 (by decide) (hts _ mX7_ask_1) (fun _ h9 => h9) rfl dX7_ask_34 ?_
        refine lv_iload_n hx hb dX7_ask_37 rfl (lv_at hl 2 rfl) ?_
        refine lv_iload_n hx hb dX7_ask_38 rfl (lv_at hl 3 rfl) ?_
        have g5 := hf.1
        have hf := hf.2
        refine xa_iast hx hb hK hP hD hS 2 0 rfl rfl (j := x2.toNatClampNeg) rfl g5 dX7_ask_39 (fun H locs hP hD hS => ?_)
        have hP : va_P D vwCl [(q_t, .inr (7, [.ref q_t_book, .ref q_t_now, .int t_shift, .int t_kneels, .int t_sights, .ref q_t_sight, .int t_signs, .ref q_t_pad, .int t_metAt, .int t_metWho, .int t_reason, .int t_acts, .ref q_t_had, .ref q_t_takes, .ref q_t_worths, .ref q_t_fitting, .ref q_t_wins, .ref q_t_ways, .ref q_t_image, .ref q_t_isKept])), (q_t_sight, .inl (cI, 16, .inl t_sight)), (q_t_fitting, .inl (cI, 256, .inl (upd t_fitting x2.toNatClampNeg x3)))] H := hP
        have hD : va_D A [(q_t, .inr (7, [.ref q_t_book, .ref q_t_now, .int t_shift, .int t_kneels, .int t_sights, .ref q_t_sight, .int t_signs, .ref q_t_pad, .int t_metAt, .int t_metWho, .int t_reason, .int t_acts, .ref q_t_had, .ref q_t_takes, .ref q_t_worths, .ref q_t_fitting, .ref q_t_wins, .ref q_t_ways, .ref q_t_image, .ref q_t_isKept])), (q_t_sight, .inl (cI, 16, .inl t_sight)), (q_t_fitting, .inl (cI, 256, .inl (upd t_fitting x2.toNatClampNeg x3)))] := hD
        obtain ⟨v6, ev6⟩ : ∃ y : Int32, y = x2 + 1 := ⟨_, rfl⟩
        have hf := hf v6 ev6
        refine lv_iinc (v := v6) (lv' := [(2, .int v6), (0, .ref q_t), (1, .int a1), (3, .int x3)]) hx hb dX7_ask_40 hl (k := 2) rfl (by rw [ev6]; rfl) (by decide) rfl (fun ls hl => ?_)
        obtain ⟨v7, ev7⟩ : ∃ y : Int32, y = x3 + 1 := ⟨_, rfl⟩
        have hf := hf v7 ev7
        refine lv_iinc (v := v7) (lv' := [(3, .int v7), (2, .int v6), (0, .ref q_t), (1, .int a1)]) hx hb dX7_ask_43 hl (k := 3) rfl (by rw [ev7]; rfl) (by decide) rfl (fun ls hl => ?_)
        refine lv_goto (tgt := 18) hx hb dX7_ask_46 (by decide) ?_
        exact ih v6 v7 (upd t_fitting x2.toNatClampNeg x3) hf H locs hP hD hS ls (lv_sub hl [2, 3, 1, 0] rfl)

def pX7_ask (t_sights : Int32) (t_sight : (Nat → Int32)) (t_fitting : (Nat → Int32)) (a1 : Int32) (post : Int32 → ((Nat → Int32)) → Prop) : Prop :=
  pX7_in a1 0 1 (fun r1 => (¬ r1 = 0 → (∃ n1, pX7_ask_b18 t_sights t_sight a1 post  n1 0 200 t_fitting)) ∧ (r1 = 0 → (post (-2) t_fitting)))

set_option maxHeartbeats 4000000 in
set_option maxRecDepth 100000 in
theorem kX7_ask (l : Launch) (D : va_G) (cI cZ cJ cO : ClassId) (q_t q_t_sight q_t_fitting q_t_book q_t_now q_t_pad q_t_had q_t_takes q_t_worths q_t_wins q_t_ways q_t_image q_t_isKept : Nat) (sz : Nat) (t_shift : Int32) (t_kneels : Int32) (t_signs : Int32) (t_metAt : Int32) (t_metWho : Int32) (t_reason : Int32) (t_acts : Int32) (t_sights : Int32) (t_sight : (Nat → Int32)) (t_fitting : (Nat → Int32)) (a1 : Int32) (post : Int32 → ((Nat → Int32)) → Prop) (hf : pX7_ask t_sights t_sight t_fitting a1 post) :
    Met l yX7_ask wsX7_ask ({ frames := 2, cells := 0, slots := 0, locals := 44 } : Room) (va_Pc [.ref q_t, .int a1] (B1 D (tyL cI cZ cJ cO) [(q_t, .inr (7, [.ref q_t_book, .ref q_t_now, .int t_shift, .int t_kneels, .int t_sights, .ref q_t_sight, .int t_signs, .ref q_t_pad, .int t_metAt, .int t_metWho, .int t_reason, .int t_acts, .ref q_t_had, .ref q_t_takes, .ref q_t_worths, .ref q_t_fitting, .ref q_t_wins, .ref q_t_ways, .ref q_t_image, .ref q_t_isKept])), (q_t_sight, .inl (cI, 16, .inl t_sight)), (q_t_fitting, .inl (cI, 256, .inl t_fitting))] sz)) (va_Qi post (fun u t => E1 D (va_A [(q_t, .inr (7, [.ref q_t_book, .ref q_t_now, .int t_shift, .int t_kneels, .int t_sights, .ref q_t_sight, .int t_signs, .ref q_t_pad, .int t_metAt, .int t_metWho, .int t_reason, .int t_acts, .ref q_t_had, .ref q_t_takes, .ref q_t_worths, .ref q_t_fitting, .ref q_t_wins, .ref q_t_ways, .ref q_t_image, .ref q_t_isKept])), (q_t_sight, .inl (cI, 16, .inl t_sight)), (q_t_fitting, .inl (cI, 256, .inl t_fitting))] sz) ((fun u : (Nat → Int32) => [(q_t, .inr (7, [.ref q_t_book, .ref q_t_now, .int t_shift, .int t_kneels, .int t_sights, .ref q_t_sight, .int t_signs, .ref q_t_pad, .int t_metAt, .int t_metWho, .int t_reason, .int t_acts, .ref q_t_had, .ref q_t_takes, .ref q_t_worths, .ref q_t_fitting, .ref q_t_wins, .ref q_t_ways, .ref q_t_image, .ref q_t_isKept])), (q_t_sight, .inl (cI, 16, .inl t_sight)), (q_t_fitting, .inl (cI, 256, .inl u))]) u) t) (va_A [(q_t, .inr (7, [.ref q_t_book, .ref q_t_now, .int t_shift, .int t_kneels, .int t_sights, .ref q_t_sight, .int t_signs, .ref q_t_pad, .int t_metAt, .int t_metWho, .int t_reason, .int t_acts, .ref q_t_had, .ref q_t_takes, .ref q_t_worths, .ref q_t_fitting, .ref q_t_wins, .ref q_t_ways, .ref q_t_image, .ref q_t_isKept])), (q_t_sight, .inl (cI, 16, .inl t_sight)), (q_t_fitting, .inl (cI, 256, .inl t_fitting))] sz)) 0 0 (va_A [(q_t, .inr (7, [.ref q_t_book, .ref q_t_now, .int t_shift, .int t_kneels, .int t_sights, .ref q_t_sight, .int t_signs, .ref q_t_pad, .int t_metAt, .int t_metWho, .int t_reason, .int t_acts, .ref q_t_had, .ref q_t_takes, .ref q_t_worths, .ref q_t_fitting, .ref q_t_wins, .ref q_t_ways, .ref q_t_image, .ref q_t_isKept])), (q_t_sight, .inl (cI, 16, .inl t_sight)), (q_t_fitting, .inl (cI, 256, .inl t_fitting))] sz) := by
  unfold pX7_ask at hf
  refine xm_1i (own := RX7) (by decide) rfl rfl (Nat.le_of_ble_eq_true rfl) (fun p e s m args below meth c Q A C0 hN hK hA hret hP hD ls hl => ?_)
  obtain ⟨hx, hb, hml, hown, hts⟩ := id C0
  have hl : lv_has ls 8 [(0, .ref q_t), (1, .int a1)] := hl
  have hS : va_S A s.heap s.heap [] := va_S.rf
  obtain ⟨H, hHe⟩ : ∃ H, H = s.heap := ⟨_, rfl⟩
  obtain ⟨locs, hLe⟩ : ∃ L : List Loc, L = [] := ⟨_, rfl⟩
  rw [← hLe]
  rw [← hLe] at hS
  have hP : va_P D vwCl [(q_t, .inr (7, [.ref q_t_book, .ref q_t_now, .int t_shift, .int t_kneels, .int t_sights, .ref q_t_sight, .int t_signs, .ref q_t_pad, .int t_metAt, .int t_metWho, .int t_reason, .int t_acts, .ref q_t_had, .ref q_t_takes, .ref q_t_worths, .ref q_t_fitting, .ref q_t_wins, .ref q_t_ways, .ref q_t_image, .ref q_t_isKept])), (q_t_sight, .inl (cI, 16, .inl t_sight)), (q_t_fitting, .inl (cI, 256, .inl t_fitting))] H := by rw [hHe]; exact hP
  have hS : va_S A s.heap H locs := by rw [hHe]; exact hS
  suffices hgo : W p l e ({ frames := 2, cells := 0, slots := 0, locals := 44 } : Room) s m args below meth c H locs 0 0 Q (F0 m 0 ls []) by rw [← hHe]; exact hgo
  clear hHe hLe
  refine lv_iload_n hx hb dX7_ask_0 rfl (lv_at hl 1 rfl) ?_
  refine lv_iconst (v := 0) hx hb dX7_ask_1 (by decide) ?_
  refine lv_iconst (v := 1) hx hb dX7_ask_2 (by decide) ?_
  refine xs_i (va_runS (As := [.int a1, .int 0, .int 1]) (rest := []) ⟨hx, hb, hml, hown, hts⟩ (kX7_in l D cI cZ cJ cO a1 0 1 _ hf) (va_cwS 3 hts gX7_ask_X7_in rfl rfl rfl (by decide +kernel) ⟨Nat.le_of_ble_eq_true rfl, Nat.le_of_ble_eq_true rfl⟩) (B0_pre (hP.sub (ws' := []) [] rfl) hK hN) rfl rfl hl.1 rfl (lv_room (Nat.le_of_ble_eq_true rfl)) dX7_ask_3 ⟨Nat.zero_le _, Nat.zero_le _⟩) (fun r1 hf => ?_)
  refine lv_if_ne (tgt := 12) hx hb dX7_ask_6 (by decide) (fun c2 => ?_) (fun c2 => ?_)
  · have hf := hf.1 c2
    refine lv_iconst (v := 0) hx hb dX7_ask_12 (by decide) ?_
    refine lv_istore_n (lv' := [(2, .int 0), (0, .ref q_t), (1, .int a1)]) hx hb dX7_ask_13 rfl hl (by decide) rfl (fun ls hl => ?_)
    refine lv_sipush (v := 200) hx hb dX7_ask_14 (by decide) ?_
    refine lv_istore_n (lv' := [(3, .int 200), (2, .int 0), (0, .ref q_t), (1, .int a1)]) hx hb dX7_ask_17 rfl hl (by decide) rfl (fun ls hl => ?_)
    obtain ⟨n1, hf⟩ := hf
    exact wX7_ask_b18 C0 hN hK hA q_t q_t_sight q_t_fitting q_t_book q_t_now q_t_pad q_t_had q_t_takes q_t_worths q_t_wins q_t_ways q_t_image q_t_isKept t_shift t_kneels t_signs t_metAt t_metWho t_reason t_acts t_sights t_sight a1 post hret   n1 0 200 t_fitting hf H locs hP hD hS ls (lv_sub hl [2, 3, 1, 0] rfl)
  · have hf := hf.2 c2
    refine lv_bipush (v := (-2)) hx hb dX7_ask_9 (by decide) ?_
    exact hret 11 ls H locs (-2) t_fitting dX7_ask_11 hf hP hD hS

/-! X7_halves -/
theorem mX7_halves_1 : Cond.fieldLink RX7 41 "OxenKneelModel" "wins" "[Z" ∈ wsX7_halves := List.mem_of_getElem? (i := 1) rfl
theorem nX7_halves_X7 : ∀ w ∈ wsX70, w ∈ wsX7_halves := fun _ h => List.mem_cons_of_mem _ (List.mem_append_right _ h)
def pX7_halves_b25 (a1 : Int32) (a2 : Int32) (post : Int32 → ((Nat → Int32)) → Prop) : Nat → Int32 → (Nat → Int32) → Prop
  | 0 => fun _ _ => False
  | n + 1 => fun x3 t_wins => (a1 < x3 → ((¬ a2 = 0 → (vp_in a1 10000 ∧ ((¬ (t_wins a1.toNatClampNeg) = 0 → (vp_in (a1 / 2) 10000 ∧ ((¬ (t_wins (a1 / 2).toNatClampNeg) = 0 → (post (a1 - 1) t_wins)) ∧ ((t_wins (a1 / 2).toNatClampNeg) = 0 → (post (a1 / 2) t_wins))))) ∧ ((t_wins a1.toNatClampNeg) = 0 → (post (-6) t_wins))))) ∧ (a2 = 0 → (vp_in a1 10000 ∧ (((t_wins a1.toNatClampNeg) = 0 → (post 0 t_wins)) ∧ (¬ (t_wins a1.toNatClampNeg) = 0 → (post 1 t_wins))))))) ∧ (¬ a1 < x3 → (vp_in (x3 - 1) 10000 ∧ (((t_wins (x3 - 1).toNatClampNeg) = 0 → (vp_in x3 10000 ∧ (∀ v12 : Int32, v12 = x3 + 1 → (pX7_halves_b25 a1 a2 post  n v12 (upd t_wins x3.toNatClampNeg (vp_nar .boolean 1)))))) ∧ (¬ (t_wins (x3 - 1).toNatClampNeg) = 0 → (vp_in (x3 / 2) 10000 ∧ ((¬ (t_wins (x3 / 2).toNatClampNeg) = 0 → (vp_in x3 10000 ∧ (∀ v16 : Int32, v16 = x3 + 1 → (pX7_halves_b25 a1 a2 post  n v16 (upd t_wins x3.toNatClampNeg (vp_nar .boolean 0)))))) ∧ ((t_wins (x3 / 2).toNatClampNeg) = 0 → (vp_in x3 10000 ∧ (∀ v18 : Int32, v18 = x3 + 1 → (pX7_halves_b25 a1 a2 post  n v18 (upd t_wins x3.toNatClampNeg (vp_nar .boolean 1))))))))))))

set_option maxHeartbeats 4000000 in
set_option maxRecDepth 100000 in
theorem wX7_halves_b25 {p : Program} {l : Launch} {e : Env} {s : State} {m : MethodId} {args : Array Value} {below : List Frame} {meth : Method} {c : Code} {Q : State → Prop} {D : va_G} {cI cZ cJ cO : ClassId} {A : Nat → Prop} (C0 : CallFix p m c cX7_halves 4 s args wsX7_halves RX7) (hN : nw s) (hK : va_K D vwCl (tyL cI cZ cJ cO) s) (hA : ∀ q, s.heap.size ≤ q → A q) (q_t q_t_wins q_t_book q_t_now q_t_sight q_t_pad q_t_had q_t_takes q_t_worths q_t_fitting q_t_ways q_t_image q_t_isKept : Nat) (t_shift : Int32) (t_kneels : Int32) (t_sights : Int32) (t_signs : Int32) (t_metAt : Int32) (t_metWho : Int32) (t_reason : Int32) (t_acts : Int32) (a1 : Int32) (a2 : Int32) (post : Int32 → ((Nat → Int32)) → Prop) (hret : hrI p l e ({ frames := 1, cells := 0, slots := 0, locals := 22 } : Room) s m args below meth c cX7_halves D A Q post (fun u : (Nat → Int32) => [(q_t, .inr (7, [.ref q_t_book, .ref q_t_now, .int t_shift, .int t_kneels, .int t_sights, .ref q_t_sight, .int t_signs, .ref q_t_pad, .int t_metAt, .int t_metWho, .int t_reason, .int t_acts, .ref q_t_had, .ref q_t_takes, .ref q_t_worths, .ref q_t_fitting, .ref q_t_wins, .ref q_t_ways, .ref q_t_image, .ref q_t_isKept])), (q_t_wins, .inl (cZ, 10000, .inl u))])) :
    ∀ (n : Nat) (x3 : Int32) (t_wins : (Nat → Int32)), pX7_halves_b25 a1 a2 post n x3 t_wins → ∀ (H : Heap) (locs : List Loc), va_P D vwCl [(q_t, .inr (7, [.ref q_t_book, .ref q_t_now, .int t_shift, .int t_kneels, .int t_sights, .ref q_t_sight, .int t_signs, .ref q_t_pad, .int t_metAt, .int t_metWho, .int t_reason, .int t_acts, .ref q_t_had, .ref q_t_takes, .ref q_t_worths, .ref q_t_fitting, .ref q_t_wins, .ref q_t_ways, .ref q_t_image, .ref q_t_isKept])), (q_t_wins, .inl (cZ, 10000, .inl t_wins))] H → va_D A [(q_t, .inr (7, [.ref q_t_book, .ref q_t_now, .int t_shift, .int t_kneels, .int t_sights, .ref q_t_sight, .int t_signs, .ref q_t_pad, .int t_metAt, .int t_metWho, .int t_reason, .int t_acts, .ref q_t_had, .ref q_t_takes, .ref q_t_worths, .ref q_t_fitting, .ref q_t_wins, .ref q_t_ways, .ref q_t_image, .ref q_t_isKept])), (q_t_wins, .inl (cZ, 10000, .inl t_wins))] → va_S A s.heap H locs → ∀ ls : Array Slot, lv_has ls 4 [(0, .ref q_t), (1, .int a1), (2, .int a2), (3, .int x3)] → W p l e ({ frames := 1, cells := 0, slots := 0, locals := 22 } : Room) s m args below meth c H locs 0 0 Q (F0 m 25 ls []) := by
  obtain ⟨hx, hb, hml, hown, hts⟩ := id C0
  intro n
  induction n with
  | zero =>
    intro x3 t_wins hf
    exact False.elim hf
  | succ n ih =>
    intro x3 t_wins hf H locs hP hD hS ls hl
    rw [pX7_halves_b25] at hf
    refine lv_iload_n hx hb dX7_halves_25 rfl (lv_at hl 3 rfl) ?_
    refine lv_iload_n hx hb dX7_halves_26 rfl (lv_at hl 1 rfl) ?_
    refine lv_icmp_gt (tgt := 69) hx hb dX7_halves_27 (by decide) (fun c1 => ?_) (fun c1 => ?_)
    · have hf := hf.1 c1
      refine lv_iload_n hx hb dX7_halves_69 rfl (lv_at hl 2 rfl) ?_
      refine lv_if_ne (tgt := 88) hx hb dX7_halves_70 (by decide) (fun c2 => ?_) (fun c2 => ?_)
      · have hf := hf.1 c2
        refine lv_aload_n hx hb dX7_halves_88 rfl (lv_at hl 0 rfl) ?_
        refine va_get (D := D) (ci := 7) (v := .ref q_t_wins) (C := RX7) (T := TX7) (N := 20) hx hb hts nX7_halves_X7 hown hK hP 0 rfl rfl 16 (by decide) (hts _ mX7_halves_1) (fun _ h9 => h9) rfl dX7_halves_89 ?_
        refine lv_iload_n hx hb dX7_halves_92 rfl (lv_at hl 1 rfl) ?_
        have g3 := hf.1
        have hf := hf.2
        refine xa_zald hx hb hK hP 1 1 rfl rfl (j := a1.toNatClampNeg) rfl g3 dX7_halves_93 ?_
        refine lv_if_ne (tgt := 102) hx hb dX7_halves_94 (by decide) (fun c4 => ?_) (fun c4 => ?_)
        · have hf := hf.1 c4
          refine lv_aload_n hx hb dX7_halves_102 rfl (lv_at hl 0 rfl) ?_
          refine va_get (D := D) (ci := 7) (v := .ref q_t_wins) (C := RX7) (T := TX7) (N := 20) hx hb hts nX7_halves_X7 hown hK hP 0 rfl rfl 16 (by decide) (hts _ mX7_halves_1) (fun _ h9 => h9) rfl dX7_halves_103 ?_
          refine lv_iload_n hx hb dX7_halves_106 rfl (lv_at hl 1 rfl) ?_
          refine lv_iconst (v := 2) hx hb dX7_halves_107 (by decide) ?_
          refine lv_idiv hx hb dX7_halves_108 (by decide) ?_
          have g5 := hf.1
          have hf := hf.2
          refine xa_zald hx hb hK hP 1 1 rfl rfl (j := (a1 / 2).toNatClampNeg) rfl g5 dX7_halves_109 ?_
          refine lv_if_ne (tgt := 119) hx hb dX7_halves_110 (by decide) (fun c6 => ?_) (fun c6 => ?_)
          · have hf := hf.1 c6
            refine lv_iload_n hx hb dX7_halves_119 rfl (lv_at hl 1 rfl) ?_
            refine lv_iconst (v := 1) hx hb dX7_halves_120 (by decide) ?_
            refine lv_isub hx hb dX7_halves_121 ?_
            exact hret 122 ls H locs (a1 - 1) t_wins dX7_halves_122 hf hP hD hS
          · have hf := hf.2 c6
            refine lv_iload_n hx hb dX7_halves_113 rfl (lv_at hl 1 rfl) ?_
            refine lv_iconst (v := 2) hx hb dX7_halves_114 (by decide) ?_
            refine lv_idiv hx hb dX7_halves_115 (by decide) ?_
            refine lv_goto (tgt := 122) hx hb dX7_halves_116 (by decide) ?_
            exact hret 122 ls H locs (a1 / 2) t_wins dX7_halves_122 hf hP hD hS
        · have hf := hf.2 c4
          refine lv_bipush (v := (-6)) hx hb dX7_halves_97 (by decide) ?_
          refine lv_goto (tgt := 122) hx hb dX7_halves_99 (by decide) ?_
          exact hret 122 ls H locs (-6) t_wins dX7_halves_122 hf hP hD hS
      · have hf := hf.2 c2
        refine lv_aload_n hx hb dX7_halves_73 rfl (lv_at hl 0 rfl) ?_
        refine va_get (D := D) (ci := 7) (v := .ref q_t_wins) (C := RX7) (T := TX7) (N := 20) hx hb hts nX7_halves_X7 hown hK hP 0 rfl rfl 16 (by decide) (hts _ mX7_halves_1) (fun _ h9 => h9) rfl dX7_halves_74 ?_
        refine lv_iload_n hx hb dX7_halves_77 rfl (lv_at hl 1 rfl) ?_
        have g7 := hf.1
        have hf := hf.2
        refine xa_zald hx hb hK hP 1 1 rfl rfl (j := a1.toNatClampNeg) rfl g7 dX7_halves_78 ?_
        refine lv_if_eq (tgt := 86) hx hb dX7_halves_79 (by decide) (fun c8 => ?_) (fun c8 => ?_)
        · have hf := hf.1 c8
          refine lv_iconst (v := 0) hx hb dX7_halves_86 (by decide) ?_
          exact hret 87 ls H locs 0 t_wins dX7_halves_87 hf hP hD hS
        · have hf := hf.2 c8
          refine lv_iconst (v := 1) hx hb dX7_halves_82 (by decide) ?_
          refine lv_goto (tgt := 87) hx hb dX7_halves_83 (by decide) ?_
          exact hret 87 ls H locs 1 t_wins dX7_halves_87 hf hP hD hS
    · have hf := hf.2 c1
      refine lv_aload_n hx hb dX7_halves_30 rfl (lv_at hl 0 rfl) ?_
      refine va_get (D := D) (ci := 7) (v := .ref q_t_wins) (C := RX7) (T := TX7) (N := 20) hx hb hts nX7_halves_X7 hown hK hP 0 rfl rfl 16 (by decide) (hts _ mX7_halves_1) (fun _ h9 => h9) rfl dX7_halves_31 ?_
      refine lv_iload_n hx hb dX7_halves_34 rfl (lv_at hl 3 rfl) ?_
      refine lv_aload_n hx hb dX7_halves_35 rfl (lv_at hl 0 rfl) ?_
      refine va_get (D := D) (ci := 7) (v := .ref q_t_wins) (C := RX7) (T := TX7) (N := 20) hx hb hts nX7_halves_X7 hown hK hP 0 rfl rfl 16 (by decide) (hts _ mX7_halves_1) (fun _ h9 => h9) rfl dX7_halves_36 ?_
      refine lv_iload_n hx hb dX7_halves_39 rfl (lv_at hl 3 rfl) ?_
      refine lv_iconst (v := 1) hx hb dX7_halves_40 (by decide) ?_
      refine lv_isub hx hb dX7_halves_41 ?_
      have g9 := hf.1
      have hf := hf.2
      refine xa_zald hx hb hK hP 1 1 rfl rfl (j := (x3 - 1).toNatClampNeg) rfl g9 dX7_halves_42 ?_
      refine lv_if_eq (tgt := 57) hx hb dX7_halves_43 (by decide) (fun c10 => ?_) (fun c10 => ?_)
      · have hf := hf.1 c10
        refine lv_iconst (v := 1) hx hb dX7_halves_57 (by decide) ?_
        refine lv_goto (tgt := 62) hx hb dX7_halves_58 (by decide) ?_
        have g11 := hf.1
        have hf := hf.2
        refine xa_zast hx hb hK hP hD hS 1 1 rfl rfl (j := x3.toNatClampNeg) rfl g11 dX7_halves_62 (fun H locs hP hD hS => ?_)
        have hP : va_P D vwCl [(q_t, .inr (7, [.ref q_t_book, .ref q_t_now, .int t_shift, .int t_kneels, .int t_sights, .ref q_t_sight, .int t_signs, .ref q_t_pad, .int t_metAt, .int t_metWho, .int t_reason, .int t_acts, .ref q_t_had, .ref q_t_takes, .ref q_t_worths, .ref q_t_fitting, .ref q_t_wins, .ref q_t_ways, .ref q_t_image, .ref q_t_isKept])), (q_t_wins, .inl (cZ, 10000, .inl (upd t_wins x3.toNatClampNeg (vp_nar .boolean 1))))] H := hP
        have hD : va_D A [(q_t, .inr (7, [.ref q_t_book, .ref q_t_now, .int t_shift, .int t_kneels, .int t_sights, .ref q_t_sight, .int t_signs, .ref q_t_pad, .int t_metAt, .int t_metWho, .int t_reason, .int t_acts, .ref q_t_had, .ref q_t_takes, .ref q_t_worths, .ref q_t_fitting, .ref q_t_wins, .ref q_t_ways, .ref q_t_image, .ref q_t_isKept])), (q_t_wins, .inl (cZ, 10000, .inl (upd t_wins x3.toNatClampNeg (vp_nar .boolean 1))))] := hD
        obtain ⟨v12, ev12⟩ : ∃ y : Int32, y = x3 + 1 := ⟨_, rfl⟩
        have hf := hf v12 ev12
        refine lv_iinc (v := v12) (lv' := [(3, .int v12), (0, .ref q_t), (1, .int a1), (2, .int a2)]) hx hb dX7_halves_63 hl (k := 3) rfl (by rw [ev12]; rfl) (by decide) rfl (fun ls hl => ?_)
        refine lv_goto (tgt := 25) hx hb dX7_halves_66 (by decide) ?_
        exact ih v12 (upd t_wins x3.toNatClampNeg (vp_nar .boolean 1)) hf H locs hP hD hS ls (lv_sub hl [1, 2, 3, 0] rfl)
      · have hf := hf.2 c10
        refine lv_aload_n hx hb dX7_halves_46 rfl (lv_at hl 0 rfl) ?_
        refine va_get (D := D) (ci := 7) (v := .ref q_t_wins) (C := RX7) (T := TX7) (N := 20) hx hb hts nX7_halves_X7 hown hK hP 0 rfl rfl 16 (by decide) (hts _ mX7_halves_1) (fun _ h9 => h9) rfl dX7_halves_47 ?_
        refine lv_iload_n hx hb dX7_halves_50 rfl (lv_at hl 3 rfl) ?_
        refine lv_iconst (v := 2) hx hb dX7_halves_51 (by decide) ?_
        refine lv_idiv hx hb dX7_halves_52 (by decide) ?_
        have g13 := hf.1
        have hf := hf.2
        refine xa_zald hx hb hK hP 1 1 rfl rfl (j := (x3 / 2).toNatClampNeg) rfl g13 dX7_halves_53 ?_
        refine lv_if_ne (tgt := 61) hx hb dX7_halves_54 (by decide) (fun c14 => ?_) (fun c14 => ?_)
        · have hf := hf.1 c14
          refine lv_iconst (v := 0) hx hb dX7_halves_61 (by decide) ?_
          have g15 := hf.1
          have hf := hf.2
          refine xa_zast hx hb hK hP hD hS 1 1 rfl rfl (j := x3.toNatClampNeg) rfl g15 dX7_halves_62 (fun H locs hP hD hS => ?_)
          have hP : va_P D vwCl [(q_t, .inr (7, [.ref q_t_book, .ref q_t_now, .int t_shift, .int t_kneels, .int t_sights, .ref q_t_sight, .int t_signs, .ref q_t_pad, .int t_metAt, .int t_metWho, .int t_reason, .int t_acts, .ref q_t_had, .ref q_t_takes, .ref q_t_worths, .ref q_t_fitting, .ref q_t_wins, .ref q_t_ways, .ref q_t_image, .ref q_t_isKept])), (q_t_wins, .inl (cZ, 10000, .inl (upd t_wins x3.toNatClampNeg (vp_nar .boolean 0))))] H := hP
          have hD : va_D A [(q_t, .inr (7, [.ref q_t_book, .ref q_t_now, .int t_shift, .int t_kneels, .int t_sights, .ref q_t_sight, .int t_signs, .ref q_t_pad, .int t_metAt, .int t_metWho, .int t_reason, .int t_acts, .ref q_t_had, .ref q_t_takes, .ref q_t_worths, .ref q_t_fitting, .ref q_t_wins, .ref q_t_ways, .ref q_t_image, .ref q_t_isKept])), (q_t_wins, .inl (cZ, 10000, .inl (upd t_wins x3.toNatClampNeg (vp_nar .boolean 0))))] := hD
          obtain ⟨v16, ev16⟩ : ∃ y : Int32, y = x3 + 1 := ⟨_, rfl⟩
          have hf := hf v16 ev16
          refine lv_iinc (v := v16) (lv' := [(3, .int v16), (0, .ref q_t), (1, .int a1), (2, .int a2)]) hx hb dX7_halves_63 hl (k := 3) rfl (by rw [ev16]; rfl) (by decide) rfl (fun ls hl => ?_)
          refine lv_goto (tgt := 25) hx hb dX7_halves_66 (by decide) ?_
          exact ih v16 (upd t_wins x3.toNatClampNeg (vp_nar .boolean 0)) hf H locs hP hD hS ls (lv_sub hl [1, 2, 3, 0] rfl)
        · have hf := hf.2 c14
          refine lv_iconst (v := 1) hx hb dX7_halves_57 (by decide) ?_
          refine lv_goto (tgt := 62) hx hb dX7_halves_58 (by decide) ?_
          have g17 := hf.1
          have hf := hf.2
          refine xa_zast hx hb hK hP hD hS 1 1 rfl rfl (j := x3.toNatClampNeg) rfl g17 dX7_halves_62 (fun H locs hP hD hS => ?_)
          have hP : va_P D vwCl [(q_t, .inr (7, [.ref q_t_book, .ref q_t_now, .int t_shift, .int t_kneels, .int t_sights, .ref q_t_sight, .int t_signs, .ref q_t_pad, .int t_metAt, .int t_metWho, .int t_reason, .int t_acts, .ref q_t_had, .ref q_t_takes, .ref q_t_worths, .ref q_t_fitting, .ref q_t_wins, .ref q_t_ways, .ref q_t_image, .ref q_t_isKept])), (q_t_wins, .inl (cZ, 10000, .inl (upd t_wins x3.toNatClampNeg (vp_nar .boolean 1))))] H := hP
          have hD : va_D A [(q_t, .inr (7, [.ref q_t_book, .ref q_t_now, .int t_shift, .int t_kneels, .int t_sights, .ref q_t_sight, .int t_signs, .ref q_t_pad, .int t_metAt, .int t_metWho, .int t_reason, .int t_acts, .ref q_t_had, .ref q_t_takes, .ref q_t_worths, .ref q_t_fitting, .ref q_t_wins, .ref q_t_ways, .ref q_t_image, .ref q_t_isKept])), (q_t_wins, .inl (cZ, 10000, .inl (upd t_wins x3.toNatClampNeg (vp_nar .boolean 1))))] := hD
          obtain ⟨v18, ev18⟩ : ∃ y : Int32, y = x3 + 1 := ⟨_, rfl⟩
          have hf := hf v18 ev18
          refine lv_iinc (v := v18) (lv' := [(3, .int v18), (0, .ref q_t), (1, .int a1), (2, .int a2)]) hx hb dX7_halves_63 hl (k := 3) rfl (by rw [ev18]; rfl) (by decide) rfl (fun ls hl => ?_)
          refine lv_goto (tgt := 25) hx hb dX7_halves_66 (by decide) ?_
          exact ih v18 (upd t_wins x3.toNatClampNeg (vp_nar .boolean 1)) hf H locs hP hD hS ls (lv_sub hl [1, 2, 3, 0] rfl)

def pX7_halves (t_wins : (Nat → Int32)) (a1 : Int32) (a2 : Int32) (post : Int32 → ((Nat → Int32)) → Prop) : Prop :=
  pX7_in a1 0 9999 (fun r1 => (r1 = 0 → (post (-2) t_wins)) ∧ (¬ r1 = 0 → (pX7_in a2 0 1 (fun r3 => (¬ r3 = 0 → (∃ n1, pX7_halves_b25 a1 a2 post  n1 1 t_wins)) ∧ (r3 = 0 → (post (-2) t_wins))))))

set_option maxHeartbeats 4000000 in
set_option maxRecDepth 100000 in
theorem kX7_halves (l : Launch) (D : va_G) (cI cZ cJ cO : ClassId) (q_t q_t_wins q_t_book q_t_now q_t_sight q_t_pad q_t_had q_t_takes q_t_worths q_t_fitting q_t_ways q_t_image q_t_isKept : Nat) (sz : Nat) (t_shift : Int32) (t_kneels : Int32) (t_sights : Int32) (t_signs : Int32) (t_metAt : Int32) (t_metWho : Int32) (t_reason : Int32) (t_acts : Int32) (t_wins : (Nat → Int32)) (a1 : Int32) (a2 : Int32) (post : Int32 → ((Nat → Int32)) → Prop) (hf : pX7_halves t_wins a1 a2 post) :
    Met l yX7_halves wsX7_halves ({ frames := 1, cells := 0, slots := 0, locals := 22 } : Room) (va_Pc [.ref q_t, .int a1, .int a2] (B1 D (tyL cI cZ cJ cO) [(q_t, .inr (7, [.ref q_t_book, .ref q_t_now, .int t_shift, .int t_kneels, .int t_sights, .ref q_t_sight, .int t_signs, .ref q_t_pad, .int t_metAt, .int t_metWho, .int t_reason, .int t_acts, .ref q_t_had, .ref q_t_takes, .ref q_t_worths, .ref q_t_fitting, .ref q_t_wins, .ref q_t_ways, .ref q_t_image, .ref q_t_isKept])), (q_t_wins, .inl (cZ, 10000, .inl t_wins))] sz)) (va_Qi post (fun u t => E1 D (va_A [(q_t, .inr (7, [.ref q_t_book, .ref q_t_now, .int t_shift, .int t_kneels, .int t_sights, .ref q_t_sight, .int t_signs, .ref q_t_pad, .int t_metAt, .int t_metWho, .int t_reason, .int t_acts, .ref q_t_had, .ref q_t_takes, .ref q_t_worths, .ref q_t_fitting, .ref q_t_wins, .ref q_t_ways, .ref q_t_image, .ref q_t_isKept])), (q_t_wins, .inl (cZ, 10000, .inl t_wins))] sz) ((fun u : (Nat → Int32) => [(q_t, .inr (7, [.ref q_t_book, .ref q_t_now, .int t_shift, .int t_kneels, .int t_sights, .ref q_t_sight, .int t_signs, .ref q_t_pad, .int t_metAt, .int t_metWho, .int t_reason, .int t_acts, .ref q_t_had, .ref q_t_takes, .ref q_t_worths, .ref q_t_fitting, .ref q_t_wins, .ref q_t_ways, .ref q_t_image, .ref q_t_isKept])), (q_t_wins, .inl (cZ, 10000, .inl u))]) u) t) (va_A [(q_t, .inr (7, [.ref q_t_book, .ref q_t_now, .int t_shift, .int t_kneels, .int t_sights, .ref q_t_sight, .int t_signs, .ref q_t_pad, .int t_metAt, .int t_metWho, .int t_reason, .int t_acts, .ref q_t_had, .ref q_t_takes, .ref q_t_worths, .ref q_t_fitting, .ref q_t_wins, .ref q_t_ways, .ref q_t_image, .ref q_t_isKept])), (q_t_wins, .inl (cZ, 10000, .inl t_wins))] sz)) 0 0 (va_A [(q_t, .inr (7, [.ref q_t_book, .ref q_t_now, .int t_shift, .int t_kneels, .int t_sights, .ref q_t_sight, .int t_signs, .ref q_t_pad, .int t_metAt, .int t_metWho, .int t_reason, .int t_acts, .ref q_t_had, .ref q_t_takes, .ref q_t_worths, .ref q_t_fitting, .ref q_t_wins, .ref q_t_ways, .ref q_t_image, .ref q_t_isKept])), (q_t_wins, .inl (cZ, 10000, .inl t_wins))] sz) := by
  unfold pX7_halves at hf
  refine xm_1i (own := RX7) (by decide) rfl rfl (Nat.le_of_ble_eq_true rfl) (fun p e s m args below meth c Q A C0 hN hK hA hret hP hD ls hl => ?_)
  obtain ⟨hx, hb, hml, hown, hts⟩ := id C0
  have hl : lv_has ls 4 [(0, .ref q_t), (1, .int a1), (2, .int a2)] := hl
  have hS : va_S A s.heap s.heap [] := va_S.rf
  obtain ⟨H, hHe⟩ : ∃ H, H = s.heap := ⟨_, rfl⟩
  obtain ⟨locs, hLe⟩ : ∃ L : List Loc, L = [] := ⟨_, rfl⟩
  rw [← hLe]
  rw [← hLe] at hS
  have hP : va_P D vwCl [(q_t, .inr (7, [.ref q_t_book, .ref q_t_now, .int t_shift, .int t_kneels, .int t_sights, .ref q_t_sight, .int t_signs, .ref q_t_pad, .int t_metAt, .int t_metWho, .int t_reason, .int t_acts, .ref q_t_had, .ref q_t_takes, .ref q_t_worths, .ref q_t_fitting, .ref q_t_wins, .ref q_t_ways, .ref q_t_image, .ref q_t_isKept])), (q_t_wins, .inl (cZ, 10000, .inl t_wins))] H := by rw [hHe]; exact hP
  have hS : va_S A s.heap H locs := by rw [hHe]; exact hS
  suffices hgo : W p l e ({ frames := 1, cells := 0, slots := 0, locals := 22 } : Room) s m args below meth c H locs 0 0 Q (F0 m 0 ls []) by rw [← hHe]; exact hgo
  clear hHe hLe
  refine lv_iload_n hx hb dX7_halves_0 rfl (lv_at hl 1 rfl) ?_
  refine lv_iconst (v := 0) hx hb dX7_halves_1 (by decide) ?_
  refine lv_sipush (v := 9999) hx hb dX7_halves_2 (by decide) ?_
  refine xs_i (va_runS (As := [.int a1, .int 0, .int 9999]) (rest := []) ⟨hx, hb, hml, hown, hts⟩ (kX7_in l D cI cZ cJ cO a1 0 9999 _ hf) (va_cwS 3 hts gX7_halves_X7_in rfl rfl rfl (by decide +kernel) ⟨Nat.le_of_ble_eq_true rfl, Nat.le_of_ble_eq_true rfl⟩) (B0_pre (hP.sub (ws' := []) [] rfl) hK hN) rfl rfl hl.1 rfl (lv_room (Nat.le_of_ble_eq_true rfl)) dX7_halves_5 ⟨Nat.zero_le _, Nat.zero_le _⟩) (fun r1 hf => ?_)
  refine lv_if_eq (tgt := 20) hx hb dX7_halves_8 (by decide) (fun c2 => ?_) (fun c2 => ?_)
  · have hf := hf.1 c2
    refine lv_bipush (v := (-2)) hx hb dX7_halves_20 (by decide) ?_
    exact hret 22 ls H locs (-2) t_wins dX7_halves_22 hf hP hD hS
  · have hf := hf.2 c2
    refine lv_iload_n hx hb dX7_halves_11 rfl (lv_at hl 2 rfl) ?_
    refine lv_iconst (v := 0) hx hb dX7_halves_12 (by decide) ?_
    refine lv_iconst (v := 1) hx hb dX7_halves_13 (by decide) ?_
    refine xs_i (va_runS (As := [.int a2, .int 0, .int 1]) (rest := []) ⟨hx, hb, hml, hown, hts⟩ (kX7_in l D cI cZ cJ cO a2 0 1 _ hf) (va_cwS 3 hts gX7_halves_X7_in rfl rfl rfl (by decide +kernel) ⟨Nat.le_of_ble_eq_true rfl, Nat.le_of_ble_eq_true rfl⟩) (B0_pre (hP.sub (ws' := []) [] rfl) hK hN) rfl rfl hl.1 rfl (lv_room (Nat.le_of_ble_eq_true rfl)) dX7_halves_14 ⟨Nat.zero_le _, Nat.zero_le _⟩) (fun r3 hf => ?_)
    refine lv_if_ne (tgt := 23) hx hb dX7_halves_17 (by decide) (fun c4 => ?_) (fun c4 => ?_)
    · have hf := hf.1 c4
      refine lv_iconst (v := 1) hx hb dX7_halves_23 (by decide) ?_
      refine lv_istore_n (lv' := [(3, .int 1), (0, .ref q_t), (1, .int a1), (2, .int a2)]) hx hb dX7_halves_24 rfl hl (by decide) rfl (fun ls hl => ?_)
      obtain ⟨n1, hf⟩ := hf
      exact wX7_halves_b25 C0 hN hK hA q_t q_t_wins q_t_book q_t_now q_t_sight q_t_pad q_t_had q_t_takes q_t_worths q_t_fitting q_t_ways q_t_image q_t_isKept t_shift t_kneels t_sights t_signs t_metAt t_metWho t_reason t_acts a1 a2 post hret   n1 1 t_wins hf H locs hP hD hS ls (lv_sub hl [1, 2, 3, 0] rfl)
    · have hf := hf.2 c4
      refine lv_bipush (v := (-2)) hx hb dX7_halves_20 (by decide) ?_
      exact hret 22 ls H locs (-2) t_wins dX7_halves_22 hf hP hD hS

/-! X7_lowest -/

def pX7_lowest_b6 (a1 : Int64) (a2 : Int64) (a3 : Int32) (post : Int64 → Prop) : Nat → Int64 → Int64 → Prop
  | 0 => fun _ _ => False
  | n + 1 => fun x5 x7 => ((lg_cmp x7 0) = 0 → ((¬ a3 = 0 → (¬ x5 = 0 ∧ (post (a2 / x5)))) ∧ (a3 = 0 → (¬ x5 = 0 ∧ (post (a1 / x5)))))) ∧ (¬ (lg_cmp x7 0) = 0 → (¬ x7 = 0 ∧ (∀ v6 : Int64, v6 = (x5 - x5 / x7 * x7) → (pX7_lowest_b6 a1 a2 a3 post  n x7 v6))))

set_option maxHeartbeats 4000000 in
set_option maxRecDepth 100000 in
theorem wX7_lowest_b6 {p : Program} {l : Launch} {e : Env} {s : State} {m : MethodId} {args : Array Value} {below : List Frame} {meth : Method} {c : Code} {Q : State → Prop} {D : va_G} {cI cZ cJ cO : ClassId} (C0 : CallFix p m c cX7_lowest 11 s args wsX7_lowest RX7) (hN : nw s) (hK : va_K D vwCl (tyL cI cZ cJ cO) s)   (a1 : Int64) (a2 : Int64) (a3 : Int32) (post : Int64 → Prop) (hret : h0L p l e ({ frames := 0, cells := 0, slots := 0, locals := 0 } : Room) s m args below meth c cX7_lowest Q post) (hP : va_P D vwCl [] s.heap) :
    ∀ (n : Nat) (x5 : Int64) (x7 : Int64), pX7_lowest_b6 a1 a2 a3 post n x5 x7 → ∀ ls : Array Slot, lv_has ls 11 [(0, .long a1), (2, .long a2), (4, .int a3), (5, .long x5), (7, .long x7)] → W p l e ({ frames := 0, cells := 0, slots := 0, locals := 0 } : Room) s m args below meth c s.heap [] 0 0 Q (F0 m 6 ls []) := by
  obtain ⟨hx, hb, hml, hown, hts⟩ := id C0
  intro n
  induction n with
  | zero =>
    intro x5 x7 hf
    exact False.elim hf
  | succ n ih =>
    intro x5 x7 hf ls hl
    rw [pX7_lowest_b6] at hf
    refine lv_lload hx hb dX7_lowest_6 (lv_at hl 4 rfl) ?_
    refine lv_lconst (v := 0) hx hb dX7_lowest_8 (by decide) ?_
    refine W.lcmp hx hb dX7_lowest_9 ?_
    refine lv_if_eq (tgt := 31) hx hb dX7_lowest_10 (by decide) (fun c1 => ?_) (fun c1 => ?_)
    · have hf := hf.1 c1
      refine lv_iload hx hb dX7_lowest_31 (lv_at hl 2 rfl) ?_
      refine lv_if_ne (tgt := 43) hx hb dX7_lowest_33 (by decide) (fun c2 => ?_) (fun c2 => ?_)
      · have hf := hf.1 c2
        refine lv_lload_n hx hb dX7_lowest_43 rfl (lv_at hl 1 rfl) ?_
        refine lv_lload hx hb dX7_lowest_44 (lv_at hl 3 rfl) ?_
        have g3 := hf.1
        have hf := hf.2
        refine lv_ldiv hx hb dX7_lowest_46 g3 ?_
        exact hret 47 ls (a2 / x5) dX7_lowest_47 hf
      · have hf := hf.2 c2
        refine lv_lload_n hx hb dX7_lowest_36 rfl (lv_at hl 0 rfl) ?_
        refine lv_lload hx hb dX7_lowest_37 (lv_at hl 3 rfl) ?_
        have g4 := hf.1
        have hf := hf.2
        refine lv_ldiv hx hb dX7_lowest_39 g4 ?_
        refine lv_goto (tgt := 47) hx hb dX7_lowest_40 (by decide) ?_
        exact hret 47 ls (a1 / x5) dX7_lowest_47 hf
    · have hf := hf.2 c1
      refine lv_lload hx hb dX7_lowest_13 (lv_at hl 3 rfl) ?_
      refine lv_lload hx hb dX7_lowest_15 (lv_at hl 4 rfl) ?_
      have g5 := hf.1
      have hf := hf.2
      refine lv_lrem hx hb dX7_lowest_17 g5 ?_
      refine lv_topl (fun v6 ev6 => ?_)
      have hf := hf v6 ev6
      refine lv_lstore (lv' := [(9, .long v6), (0, .long a1), (2, .long a2), (4, .int a3), (5, .long x5), (7, .long x7)]) hx hb dX7_lowest_18 hl (by decide) rfl (fun ls hl => ?_)
      refine lv_lload hx hb dX7_lowest_20 (lv_at hl 5 rfl) ?_
      refine lv_lstore (lv' := [(5, .long x7), (9, .long v6), (0, .long a1), (2, .long a2), (4, .int a3), (7, .long x7)]) hx hb dX7_lowest_22 hl (by decide) rfl (fun ls hl => ?_)
      refine lv_lload hx hb dX7_lowest_24 (lv_at hl 1 rfl) ?_
      refine lv_lstore (lv' := [(7, .long v6), (5, .long x7), (9, .long v6), (0, .long a1), (2, .long a2), (4, .int a3)]) hx hb dX7_lowest_26 hl (by decide) rfl (fun ls hl => ?_)
      refine lv_goto (tgt := 6) hx hb dX7_lowest_28 (by decide) ?_
      exact ih x7 v6 hf ls (lv_sub hl [3, 4, 5, 1, 0] rfl)

def pX7_lowest  (a1 : Int64) (a2 : Int64) (a3 : Int32) (post : Int64 → Prop) : Prop :=
  ∃ n1, pX7_lowest_b6 a1 a2 a3 post  n1 a1 a2

set_option maxHeartbeats 4000000 in
set_option maxRecDepth 100000 in
theorem kX7_lowest (l : Launch) (D : va_G) (cI cZ cJ cO : ClassId)    (a1 : Int64) (a2 : Int64) (a3 : Int32) (post : Int64 → Prop) (hf : pX7_lowest a1 a2 a3 post) :
    Met l yX7_lowest wsX7_lowest ({ frames := 0, cells := 0, slots := 0, locals := 0 } : Room) (va_Pc [.long a1, .long a2, .int a3] (B0 D (tyL cI cZ cJ cO) [])) (vp_Sl post) 0 0 (fun _ => False) := by
  unfold pX7_lowest at hf
  refine xm_0l (own := RX7) (by decide) rfl rfl (Nat.le_of_ble_eq_true rfl) (fun p e s m args below meth c Q C0 hN hK hret hP ls hl => ?_)
  obtain ⟨hx, hb, hml, hown, hts⟩ := id C0
  have hl : lv_has ls 11 [(0, .long a1), (2, .long a2), (4, .int a3)] := hl
  refine lv_lload_n hx hb dX7_lowest_0 rfl (lv_at hl 0 rfl) ?_
  refine lv_lstore (lv' := [(5, .long a1), (0, .long a1), (2, .long a2), (4, .int a3)]) hx hb dX7_lowest_1 hl (by decide) rfl (fun ls hl => ?_)
  refine lv_lload_n hx hb dX7_lowest_3 rfl (lv_at hl 2 rfl) ?_
  refine lv_lstore (lv' := [(7, .long a2), (5, .long a1), (0, .long a1), (2, .long a2), (4, .int a3)]) hx hb dX7_lowest_4 hl (by decide) rfl (fun ls hl => ?_)
  obtain ⟨n1, hf⟩ := hf
  exact wX7_lowest_b6 C0 hN hK a1 a2 a3 post hret hP   n1 a1 a2 hf ls (lv_sub hl [2, 3, 4, 1, 0] rfl)

/-! X7_knelt -/
theorem mX7_knelt_1 : Cond.constantLong RX7 151 (-1000000000000000002) ∈ wsX7_knelt := List.mem_of_getElem? (i := 1) rfl
theorem mX7_knelt_3 : Cond.fieldLink RX7 45 "OxenKneelModel" "ways" "[J" ∈ wsX7_knelt := List.mem_of_getElem? (i := 3) rfl
theorem mX7_knelt_2 : Cond.constantLong RX7 153 (10) ∈ wsX7_knelt := List.mem_of_getElem? (i := 2) rfl
theorem nX7_knelt_X7 : ∀ w ∈ wsX70, w ∈ wsX7_knelt := fun _ h => List.mem_cons_of_mem _ (List.mem_append_right _ h)
def pX7_knelt_b195 (a1 : Int32) (a2 : Int32) (a3 : Int32) (a4 : Int32) (a5 : Int32) (post : Int64 → ((Nat → Int64)) → Prop) : Nat → Int64 → Int64 → Int32 → (Nat → Int64) → Prop
  | 0 => fun _ _ _ _ => False
  | n + 1 => fun x6 x8 x10 t_ways => (18 ≤ x10 → (pX7_lowest x8 x6 a5 (fun r2 => post r2 t_ways))) ∧ (¬ 18 ≤ x10 → (vp_in x10 18 ∧ (∀ v4 : Int64, v4 = (x8 + (t_ways x10.toNatClampNeg)) → (∀ v5 : Int32, v5 = x10 + 1 → (pX7_knelt_b195 a1 a2 a3 a4 a5 post  n x6 v4 v5 t_ways)))))

set_option maxHeartbeats 4000000 in
set_option maxRecDepth 100000 in
theorem wX7_knelt_b195 {p : Program} {l : Launch} {e : Env} {s : State} {m : MethodId} {args : Array Value} {below : List Frame} {meth : Method} {c : Code} {Q : State → Prop} {D : va_G} {cI cZ cJ cO : ClassId} {A : Nat → Prop} (C0 : CallFix p m c cX7_knelt 11 s args wsX7_knelt RX7) (hN : nw s) (hK : va_K D vwCl (tyL cI cZ cJ cO) s) (hA : ∀ q, s.heap.size ≤ q → A q) (q_t q_t_ways q_t_book q_t_now q_t_sight q_t_pad q_t_had q_t_takes q_t_worths q_t_fitting q_t_wins q_t_image q_t_isKept : Nat) (t_shift : Int32) (t_kneels : Int32) (t_sights : Int32) (t_signs : Int32) (t_metAt : Int32) (t_metWho : Int32) (t_reason : Int32) (t_acts : Int32) (a1 : Int32) (a2 : Int32) (a3 : Int32) (a4 : Int32) (a5 : Int32) (post : Int64 → ((Nat → Int64)) → Prop) (hret : hrL p l e ({ frames := 1, cells := 0, slots := 0, locals := 30 } : Room) s m args below meth c cX7_knelt D A Q post (fun u : (Nat → Int64) => [(q_t, .inr (7, [.ref q_t_book, .ref q_t_now, .int t_shift, .int t_kneels, .int t_sights, .ref q_t_sight, .int t_signs, .ref q_t_pad, .int t_metAt, .int t_metWho, .int t_reason, .int t_acts, .ref q_t_had, .ref q_t_takes, .ref q_t_worths, .ref q_t_fitting, .ref q_t_wins, .ref q_t_ways, .ref q_t_image, .ref q_t_isKept])), (q_t_ways, .inl (cJ, 18, .inr (.inl u)))])) :
    ∀ (n : Nat) (x6 : Int64) (x8 : Int64) (x10 : Int32) (t_ways : (Nat → Int64)), pX7_knelt_b195 a1 a2 a3 a4 a5 post n x6 x8 x10 t_ways → ∀ (H : Heap) (locs : List Loc), va_P D vwCl [(q_t, .inr (7, [.ref q_t_book, .ref q_t_now, .int t_shift, .int t_kneels, .int t_sights, .ref q_t_sight, .int t_signs, .ref q_t_pad, .int t_metAt, .int t_metWho, .int t_reason, .int t_acts, .ref q_t_had, .ref q_t_takes, .ref q_t_worths, .ref q_t_fitting, .ref q_t_wins, .ref q_t_ways, .ref q_t_image, .ref q_t_isKept])), (q_t_ways, .inl (cJ, 18, .inr (.inl t_ways)))] H → va_D A [(q_t, .inr (7, [.ref q_t_book, .ref q_t_now, .int t_shift, .int t_kneels, .int t_sights, .ref q_t_sight, .int t_signs, .ref q_t_pad, .int t_metAt, .int t_metWho, .int t_reason, .int t_acts, .ref q_t_had, .ref q_t_takes, .ref q_t_worths, .ref q_t_fitting, .ref q_t_wins, .ref q_t_ways, .ref q_t_image, .ref q_t_isKept])), (q_t_ways, .inl (cJ, 18, .inr (.inl t_ways)))] → va_S A s.heap H locs → ∀ ls : Array Slot, lv_has ls 11 [(0, .ref q_t), (5, .int a5), (6, .long x6), (8, .long x8), (10, .int x10)] → W p l e ({ frames := 1, cells := 0, slots := 0, locals := 30 } : Room) s m args below meth c H locs 0 0 Q (F0 m 195 ls []) := by
  obtain ⟨hx, hb, hml, hown, hts⟩ := id C0
  intro n
  induction n with
  | zero =>
    intro x6 x8 x10 t_ways hf
    exact False.elim hf
  | succ n ih =>
    intro x6 x8 x10 t_ways hf H locs hP hD hS ls hl
    rw [pX7_knelt_b195] at hf
    refine lv_iload hx hb dX7_knelt_195 (lv_at hl 4 rfl) ?_
    refine lv_bipush (v := 18) hx hb dX7_knelt_197 (by decide) ?_
    refine lv_icmp_ge (tgt := 220) hx hb dX7_knelt_199 (by decide) (fun c1 => ?_) (fun c1 => ?_)
    · have hf := hf.1 c1
      refine lv_lload hx hb dX7_knelt_220 (lv_at hl 3 rfl) ?_
      refine lv_lload hx hb dX7_knelt_222 (lv_at hl 2 rfl) ?_
      refine lv_iload hx hb dX7_knelt_224 (lv_at hl 1 rfl) ?_
      refine xs_l (va_runS (As := [.long x8, .long x6, .int a5]) (rest := []) ⟨hx, hb, hml, hown, hts⟩ (kX7_lowest l D cI cZ cJ cO x8 x6 a5 _ hf) (va_cwS 3 hts gX7_knelt_X7_lowest rfl rfl rfl (by decide +kernel) ⟨Nat.le_of_ble_eq_true rfl, Nat.le_of_ble_eq_true rfl⟩) (B0_pre (hP.sub (ws' := []) [] rfl) hK hN) rfl rfl hl.1 rfl (lv_room (Nat.le_of_ble_eq_true rfl)) dX7_knelt_226 ⟨Nat.zero_le _, Nat.zero_le _⟩) (fun r2 hf => ?_)
      exact hret 229 ls H locs r2 t_ways dX7_knelt_229 hf hP hD hS
    · have hf := hf.2 c1
      refine lv_lload hx hb dX7_knelt_202 (lv_at hl 3 rfl) ?_
      refine lv_aload_n hx hb dX7_knelt_204 rfl (lv_at hl 0 rfl) ?_
      refine va_get (D := D) (ci := 7) (v := .ref q_t_ways) (C := RX7) (T := TX7) (N := 20) hx hb hts nX7_knelt_X7 hown hK hP 0 rfl rfl 17 (by decide) (hts _ mX7_knelt_3) (fun _ h9 => h9) rfl dX7_knelt_205 ?_
      refine lv_iload hx hb dX7_knelt_208 (lv_at hl 4 rfl) ?_
      have g3 := hf.1
      have hf := hf.2
      refine xa_lald hx hb hK hP 1 2 rfl rfl (j := x10.toNatClampNeg) rfl g3 dX7_knelt_210 ?_
      refine lv_ladd hx hb dX7_knelt_211 ?_
      refine lv_topl (fun v4 ev4 => ?_)
      have hf := hf v4 ev4
      refine lv_lstore (lv' := [(8, .long v4), (0, .ref q_t), (5, .int a5), (6, .long x6), (10, .int x10)]) hx hb dX7_knelt_212 hl (by decide) rfl (fun ls hl => ?_)
      obtain ⟨v5, ev5⟩ : ∃ y : Int32, y = x10 + 1 := ⟨_, rfl⟩
      have hf := hf v5 ev5
      refine lv_iinc (v := v5) (lv' := [(10, .int v5), (8, .long v4), (0, .ref q_t), (5, .int a5), (6, .long x6)]) hx hb dX7_knelt_214 hl (k := 4) rfl (by rw [ev5]; rfl) (by decide) rfl (fun ls hl => ?_)
      refine lv_goto (tgt := 195) hx hb dX7_knelt_217 (by decide) ?_
      exact ih x6 v4 v5 t_ways hf H locs hP hD hS ls (lv_sub hl [2, 3, 4, 1, 0] rfl)

def pX7_knelt_b130 (a1 : Int32) (a2 : Int32) (a3 : Int32) (a4 : Int32) (a5 : Int32) (post : Int64 → ((Nat → Int64)) → Prop) (k112 : Int64 → Int32 → (Nat → Int64) → Prop) : Nat → Int64 → Int32 → Int32 → (Nat → Int64) → Prop
  | 0 => fun _ _ _ _ => False
  | n + 1 => fun x6 x8 x9 t_ways => (x9 < 0 → (∀ v2 : Int32, v2 = x8 + 1 → (k112 x6 v2 t_ways))) ∧ (¬ x9 < 0 → (vp_in x9 18 ∧ ((x9 ≤ 0 → (∀ v5 : Int64, v5 = (((t_ways x9.toNatClampNeg) * ((10 - a3)).toInt64) + 0) → (vp_in x9 18 ∧ (∀ v7 : Int32, v7 = x9 + (-1) → (pX7_knelt_b130 a1 a2 a3 a4 a5 post k112 n x6 x8 v7 (vp_updL t_ways x9.toNatClampNeg v5)))))) ∧ (¬ x9 ≤ 0 → (vp_in (x9 - 1) 18 ∧ (∀ v9 : Int64, v9 = (((t_ways x9.toNatClampNeg) * ((10 - a3)).toInt64) + ((t_ways (x9 - 1).toNatClampNeg) * (a3).toInt64)) → (vp_in x9 18 ∧ (∀ v11 : Int32, v11 = x9 + (-1) → (pX7_knelt_b130 a1 a2 a3 a4 a5 post k112 n x6 x8 v11 (vp_updL t_ways x9.toNatClampNeg v9))))))))))

set_option maxHeartbeats 4000000 in
set_option maxRecDepth 100000 in
theorem wX7_knelt_b130 {p : Program} {l : Launch} {e : Env} {s : State} {m : MethodId} {args : Array Value} {below : List Frame} {meth : Method} {c : Code} {Q : State → Prop} {D : va_G} {cI cZ cJ cO : ClassId} {A : Nat → Prop} (C0 : CallFix p m c cX7_knelt 11 s args wsX7_knelt RX7) (hN : nw s) (hK : va_K D vwCl (tyL cI cZ cJ cO) s) (hA : ∀ q, s.heap.size ≤ q → A q) (q_t q_t_ways q_t_book q_t_now q_t_sight q_t_pad q_t_had q_t_takes q_t_worths q_t_fitting q_t_wins q_t_image q_t_isKept : Nat) (t_shift : Int32) (t_kneels : Int32) (t_sights : Int32) (t_signs : Int32) (t_metAt : Int32) (t_metWho : Int32) (t_reason : Int32) (t_acts : Int32) (a1 : Int32) (a2 : Int32) (a3 : Int32) (a4 : Int32) (a5 : Int32) (post : Int64 → ((Nat → Int64)) → Prop) (hret : hrL p l e ({ frames := 1, cells := 0, slots := 0, locals := 30 } : Room) s m args below meth c cX7_knelt D A Q post (fun u : (Nat → Int64) => [(q_t, .inr (7, [.ref q_t_book, .ref q_t_now, .int t_shift, .int t_kneels, .int t_sights, .ref q_t_sight, .int t_signs, .ref q_t_pad, .int t_metAt, .int t_metWho, .int t_reason, .int t_acts, .ref q_t_had, .ref q_t_takes, .ref q_t_worths, .ref q_t_fitting, .ref q_t_wins, .ref q_t_ways, .ref q_t_image, .ref q_t_isKept])), (q_t_ways, .inl (cJ, 18, .inr (.inl u)))])) (k112 : Int64 → Int32 → (Nat → Int64) → Prop) (hk112 : ∀ (x6 : Int64) (x8 : Int32) (t_ways : (Nat → Int64)), k112 x6 x8 t_ways → ∀ (H : Heap) (locs : List Loc), va_P D vwCl [(q_t, .inr (7, [.ref q_t_book, .ref q_t_now, .int t_shift, .int t_kneels, .int t_sights, .ref q_t_sight, .int t_signs, .ref q_t_pad, .int t_metAt, .int t_metWho, .int t_reason, .int t_acts, .ref q_t_had, .ref q_t_takes, .ref q_t_worths, .ref q_t_fitting, .ref q_t_wins, .ref q_t_ways, .ref q_t_image, .ref q_t_isKept])), (q_t_ways, .inl (cJ, 18, .inr (.inl t_ways)))] H → va_D A [(q_t, .inr (7, [.ref q_t_book, .ref q_t_now, .int t_shift, .int t_kneels, .int t_sights, .ref q_t_sight, .int t_signs, .ref q_t_pad, .int t_metAt, .int t_metWho, .int t_reason, .int t_acts, .ref q_t_had, .ref q_t_takes, .ref q_t_worths, .ref q_t_fitting, .ref q_t_wins, .ref q_t_ways, .ref q_t_image, .ref q_t_isKept])), (q_t_ways, .inl (cJ, 18, .inr (.inl t_ways)))] → va_S A s.heap H locs → ∀ ls : Array Slot, lv_has ls 11 [(0, .ref q_t), (1, .int a1), (2, .int a2), (3, .int a3), (5, .int a5), (6, .long x6), (8, .int x8)] → W p l e ({ frames := 1, cells := 0, slots := 0, locals := 30 } : Room) s m args below meth c H locs 0 0 Q (F0 m 112 ls [])) :
    ∀ (n : Nat) (x6 : Int64) (x8 : Int32) (x9 : Int32) (t_ways : (Nat → Int64)), pX7_knelt_b130 a1 a2 a3 a4 a5 post k112 n x6 x8 x9 t_ways → ∀ (H : Heap) (locs : List Loc), va_P D vwCl [(q_t, .inr (7, [.ref q_t_book, .ref q_t_now, .int t_shift, .int t_kneels, .int t_sights, .ref q_t_sight, .int t_signs, .ref q_t_pad, .int t_metAt, .int t_metWho, .int t_reason, .int t_acts, .ref q_t_had, .ref q_t_takes, .ref q_t_worths, .ref q_t_fitting, .ref q_t_wins, .ref q_t_ways, .ref q_t_image, .ref q_t_isKept])), (q_t_ways, .inl (cJ, 18, .inr (.inl t_ways)))] H → va_D A [(q_t, .inr (7, [.ref q_t_book, .ref q_t_now, .int t_shift, .int t_kneels, .int t_sights, .ref q_t_sight, .int t_signs, .ref q_t_pad, .int t_metAt, .int t_metWho, .int t_reason, .int t_acts, .ref q_t_had, .ref q_t_takes, .ref q_t_worths, .ref q_t_fitting, .ref q_t_wins, .ref q_t_ways, .ref q_t_image, .ref q_t_isKept])), (q_t_ways, .inl (cJ, 18, .inr (.inl t_ways)))] → va_S A s.heap H locs → ∀ ls : Array Slot, lv_has ls 11 [(0, .ref q_t), (1, .int a1), (2, .int a2), (3, .int a3), (5, .int a5), (6, .long x6), (8, .int x8), (9, .int x9)] → W p l e ({ frames := 1, cells := 0, slots := 0, locals := 30 } : Room) s m args below meth c H locs 0 0 Q (F0 m 130 ls []) := by
  obtain ⟨hx, hb, hml, hown, hts⟩ := id C0
  intro n
  induction n with
  | zero =>
    intro x6 x8 x9 t_ways hf
    exact False.elim hf
  | succ n ih =>
    intro x6 x8 x9 t_ways hf H locs hP hD hS ls hl
    rw [pX7_knelt_b130] at hf
    refine lv_iload hx hb dX7_knelt_130 (lv_at hl 7 rfl) ?_
    refine lv_if_lt (tgt := 183) hx hb dX7_knelt_132 (by decide) (fun c1 => ?_) (fun c1 => ?_)
    · have hf := hf.1 c1
      obtain ⟨v2, ev2⟩ : ∃ y : Int32, y = x8 + 1 := ⟨_, rfl⟩
      have hf := hf v2 ev2
      refine lv_iinc (v := v2) (lv' := [(8, .int v2), (0, .ref q_t), (1, .int a1), (2, .int a2), (3, .int a3), (5, .int a5), (6, .long x6), (9, .int x9)]) hx hb dX7_knelt_183 hl (k := 6) rfl (by rw [ev2]; rfl) (by decide) rfl (fun ls hl => ?_)
      refine lv_goto (tgt := 112) hx hb dX7_knelt_186 (by decide) ?_
      exact hk112 x6 v2 t_ways hf H locs hP hD hS ls (lv_sub hl [1, 2, 3, 4, 5, 6, 0] rfl)
    · have hf := hf.2 c1
      refine lv_aload_n hx hb dX7_knelt_135 rfl (lv_at hl 0 rfl) ?_
      refine va_get (D := D) (ci := 7) (v := .ref q_t_ways) (C := RX7) (T := TX7) (N := 20) hx hb hts nX7_knelt_X7 hown hK hP 0 rfl rfl 17 (by decide) (hts _ mX7_knelt_3) (fun _ h9 => h9) rfl dX7_knelt_136 ?_
      refine lv_iload hx hb dX7_knelt_139 (lv_at hl 7 rfl) ?_
      refine lv_aload_n hx hb dX7_knelt_141 rfl (lv_at hl 0 rfl) ?_
      refine va_get (D := D) (ci := 7) (v := .ref q_t_ways) (C := RX7) (T := TX7) (N := 20) hx hb hts nX7_knelt_X7 hown hK hP 0 rfl rfl 17 (by decide) (hts _ mX7_knelt_3) (fun _ h9 => h9) rfl dX7_knelt_142 ?_
      refine lv_iload hx hb dX7_knelt_145 (lv_at hl 7 rfl) ?_
      have g3 := hf.1
      have hf := hf.2
      refine xa_lald hx hb hK hP 1 2 rfl rfl (j := x9.toNatClampNeg) rfl g3 dX7_knelt_147 ?_
      refine lv_bipush (v := 10) hx hb dX7_knelt_148 (by decide) ?_
      refine lv_iload_n hx hb dX7_knelt_150 rfl (lv_at hl 3 rfl) ?_
      refine lv_isub hx hb dX7_knelt_151 ?_
      refine lv_i2l hx hb dX7_knelt_152 rfl ?_
      refine lv_lmul hx hb dX7_knelt_153 ?_
      refine lv_iload hx hb dX7_knelt_154 (lv_at hl 7 rfl) ?_
      refine lv_if_le (tgt := 174) hx hb dX7_knelt_156 (by decide) (fun c4 => ?_) (fun c4 => ?_)
      · have hf := hf.1 c4
        refine lv_lconst (v := 0) hx hb dX7_knelt_174 (by decide) ?_
        refine lv_ladd hx hb dX7_knelt_175 ?_
        refine lv_topl (fun v5 ev5 => ?_)
        have hf := hf v5 ev5
        have g6 := hf.1
        have hf := hf.2
        refine xa_last hx hb hK hP hD hS 1 2 rfl rfl (j := x9.toNatClampNeg) rfl g6 dX7_knelt_176 (fun H locs hP hD hS => ?_)
        have hP : va_P D vwCl [(q_t, .inr (7, [.ref q_t_book, .ref q_t_now, .int t_shift, .int t_kneels, .int t_sights, .ref q_t_sight, .int t_signs, .ref q_t_pad, .int t_metAt, .int t_metWho, .int t_reason, .int t_acts, .ref q_t_had, .ref q_t_takes, .ref q_t_worths, .ref q_t_fitting, .ref q_t_wins, .ref q_t_ways, .ref q_t_image, .ref q_t_isKept])), (q_t_ways, .inl (cJ, 18, .inr (.inl (vp_updL t_ways x9.toNatClampNeg v5))))] H := hP
        have hD : va_D A [(q_t, .inr (7, [.ref q_t_book, .ref q_t_now, .int t_shift, .int t_kneels, .int t_sights, .ref q_t_sight, .int t_signs, .ref q_t_pad, .int t_metAt, .int t_metWho, .int t_reason, .int t_acts, .ref q_t_had, .ref q_t_takes, .ref q_t_worths, .ref q_t_fitting, .ref q_t_wins, .ref q_t_ways, .ref q_t_image, .ref q_t_isKept])), (q_t_ways, .inl (cJ, 18, .inr (.inl (vp_updL t_ways x9.toNatClampNeg v5))))] := hD
        obtain ⟨v7, ev7⟩ : ∃ y : Int32, y = x9 + (-1) := ⟨_, rfl⟩
        have hf := hf v7 ev7
        refine lv_iinc (v := v7) (lv' := [(9, .int v7), (0, .ref q_t), (1, .int a1), (2, .int a2), (3, .int a3), (5, .int a5), (6, .long x6), (8, .int x8)]) hx hb dX7_knelt_177 hl (k := 7) rfl (by rw [ev7]; rfl) (by decide) rfl (fun ls hl => ?_)
        refine lv_goto (tgt := 130) hx hb dX7_knelt_180 (by decide) ?_
        exact ih x6 x8 v7 (vp_updL t_ways x9.toNatClampNeg v5) hf H locs hP hD hS ls (lv_sub hl [1, 2, 3, 4, 5, 6, 7, 0] rfl)
      · have hf := hf.2 c4
        refine lv_aload_n hx hb dX7_knelt_159 rfl (lv_at hl 0 rfl) ?_
        refine va_get (D := D) (ci := 7) (v := .ref q_t_ways) (C := RX7) (T := TX7) (N := 20) hx hb hts nX7_knelt_X7 hown hK hP 0 rfl rfl 17 (by decide) (hts _ mX7_knelt_3) (fun _ h9 => h9) rfl dX7_knelt_160 ?_
        refine lv_iload hx hb dX7_knelt_163 (lv_at hl 7 rfl) ?_
        refine lv_iconst (v := 1) hx hb dX7_knelt_165 (by decide) ?_
        refine lv_isub hx hb dX7_knelt_166 ?_
        have g8 := hf.1
        have hf := hf.2
        refine xa_lald hx hb hK hP 1 2 rfl rfl (j := (x9 - 1).toNatClampNeg) rfl g8 dX7_knelt_167 ?_
        refine lv_iload_n hx hb dX7_knelt_168 rfl (lv_at hl 3 rfl) ?_
        refine lv_i2l hx hb dX7_knelt_169 rfl ?_
        refine lv_lmul hx hb dX7_knelt_170 ?_
        refine lv_goto (tgt := 175) hx hb dX7_knelt_171 (by decide) ?_
        refine lv_ladd hx hb dX7_knelt_175 ?_
        refine lv_topl (fun v9 ev9 => ?_)
        have hf := hf v9 ev9
        have g10 := hf.1
        have hf := hf.2
        refine xa_last hx hb hK hP hD hS 1 2 rfl rfl (j := x9.toNatClampNeg) rfl g10 dX7_knelt_176 (fun H locs hP hD hS => ?_)
        have hP : va_P D vwCl [(q_t, .inr (7, [.ref q_t_book, .ref q_t_now, .int t_shift, .int t_kneels, .int t_sights, .ref q_t_sight, .int t_signs, .ref q_t_pad, .int t_metAt, .int t_metWho, .int t_reason, .int t_acts, .ref q_t_had, .ref q_t_takes, .ref q_t_worths, .ref q_t_fitting, .ref q_t_wins, .ref q_t_ways, .ref q_t_image, .ref q_t_isKept])), (q_t_ways, .inl (cJ, 18, .inr (.inl (vp_updL t_ways x9.toNatClampNeg v9))))] H := hP
        have hD : va_D A [(q_t, .inr (7, [.ref q_t_book, .ref q_t_now, .int t_shift, .int t_kneels, .int t_sights, .ref q_t_sight, .int t_signs, .ref q_t_pad, .int t_metAt, .int t_metWho, .int t_reason, .int t_acts, .ref q_t_had, .ref q_t_takes, .ref q_t_worths, .ref q_t_fitting, .ref q_t_wins, .ref q_t_ways, .ref q_t_image, .ref q_t_isKept])), (q_t_ways, .inl (cJ, 18, .inr (.inl (vp_updL t_ways x9.toNatClampNeg v9))))] := hD
        obtain ⟨v11, ev11⟩ : ∃ y : Int32, y = x9 + (-1) := ⟨_, rfl⟩
        have hf := hf v11 ev11
        refine lv_iinc (v := v11) (lv' := [(9, .int v11), (0, .ref q_t), (1, .int a1), (2, .int a2), (3, .int a3), (5, .int a5), (6, .long x6), (8, .int x8)]) hx hb dX7_knelt_177 hl (k := 7) rfl (by rw [ev11]; rfl) (by decide) rfl (fun ls hl => ?_)
        refine lv_goto (tgt := 130) hx hb dX7_knelt_180 (by decide) ?_
        exact ih x6 x8 v11 (vp_updL t_ways x9.toNatClampNeg v9) hf H locs hP hD hS ls (lv_sub hl [1, 2, 3, 4, 5, 6, 7, 0] rfl)

def pX7_knelt_b112 (a1 : Int32) (a2 : Int32) (a3 : Int32) (a4 : Int32) (a5 : Int32) (post : Int64 → ((Nat → Int64)) → Prop) : Nat → Int64 → Int32 → (Nat → Int64) → Prop
  | 0 => fun _ _ _ => False
  | n + 1 => fun x6 x8 t_ways => (a1 ≤ x8 → (∃ n1, pX7_knelt_b195 a1 a2 a3 a4 a5 post  n1 x6 0 a2 t_ways)) ∧ (¬ a1 ≤ x8 → (∀ v2 : Int64, v2 = (x6 * 10) → (∃ n1, pX7_knelt_b130 a1 a2 a3 a4 a5 post (fun x6 x8 t_ways => pX7_knelt_b112 a1 a2 a3 a4 a5 post  n x6 x8 t_ways) n1 v2 x8 17 t_ways)))

set_option maxHeartbeats 4000000 in
set_option maxRecDepth 100000 in
theorem wX7_knelt_b112 {p : Program} {l : Launch} {e : Env} {s : State} {m : MethodId} {args : Array Value} {below : List Frame} {meth : Method} {c : Code} {Q : State → Prop} {D : va_G} {cI cZ cJ cO : ClassId} {A : Nat → Prop} (C0 : CallFix p m c cX7_knelt 11 s args wsX7_knelt RX7) (hN : nw s) (hK : va_K D vwCl (tyL cI cZ cJ cO) s) (hA : ∀ q, s.heap.size ≤ q → A q) (q_t q_t_ways q_t_book q_t_now q_t_sight q_t_pad q_t_had q_t_takes q_t_worths q_t_fitting q_t_wins q_t_image q_t_isKept : Nat) (t_shift : Int32) (t_kneels : Int32) (t_sights : Int32) (t_signs : Int32) (t_metAt : Int32) (t_metWho : Int32) (t_reason : Int32) (t_acts : Int32) (a1 : Int32) (a2 : Int32) (a3 : Int32) (a4 : Int32) (a5 : Int32) (post : Int64 → ((Nat → Int64)) → Prop) (hret : hrL p l e ({ frames := 1, cells := 0, slots := 0, locals := 30 } : Room) s m args below meth c cX7_knelt D A Q post (fun u : (Nat → Int64) => [(q_t, .inr (7, [.ref q_t_book, .ref q_t_now, .int t_shift, .int t_kneels, .int t_sights, .ref q_t_sight, .int t_signs, .ref q_t_pad, .int t_metAt, .int t_metWho, .int t_reason, .int t_acts, .ref q_t_had, .ref q_t_takes, .ref q_t_worths, .ref q_t_fitting, .ref q_t_wins, .ref q_t_ways, .ref q_t_image, .ref q_t_isKept])), (q_t_ways, .inl (cJ, 18, .inr (.inl u)))])) :
    ∀ (n : Nat) (x6 : Int64) (x8 : Int32) (t_ways : (Nat → Int64)), pX7_knelt_b112 a1 a2 a3 a4 a5 post n x6 x8 t_ways → ∀ (H : Heap) (locs : List Loc), va_P D vwCl [(q_t, .inr (7, [.ref q_t_book, .ref q_t_now, .int t_shift, .int t_kneels, .int t_sights, .ref q_t_sight, .int t_signs, .ref q_t_pad, .int t_metAt, .int t_metWho, .int t_reason, .int t_acts, .ref q_t_had, .ref q_t_takes, .ref q_t_worths, .ref q_t_fitting, .ref q_t_wins, .ref q_t_ways, .ref q_t_image, .ref q_t_isKept])), (q_t_ways, .inl (cJ, 18, .inr (.inl t_ways)))] H → va_D A [(q_t, .inr (7, [.ref q_t_book, .ref q_t_now, .int t_shift, .int t_kneels, .int t_sights, .ref q_t_sight, .int t_signs, .ref q_t_pad, .int t_metAt, .int t_metWho, .int t_reason, .int t_acts, .ref q_t_had, .ref q_t_takes, .ref q_t_worths, .ref q_t_fitting, .ref q_t_wins, .ref q_t_ways, .ref q_t_image, .ref q_t_isKept])), (q_t_ways, .inl (cJ, 18, .inr (.inl t_ways)))] → va_S A s.heap H locs → ∀ ls : Array Slot, lv_has ls 11 [(0, .ref q_t), (1, .int a1), (2, .int a2), (3, .int a3), (5, .int a5), (6, .long x6), (8, .int x8)] → W p l e ({ frames := 1, cells := 0, slots := 0, locals := 30 } : Room) s m args below meth c H locs 0 0 Q (F0 m 112 ls []) := by
  obtain ⟨hx, hb, hml, hown, hts⟩ := id C0
  intro n
  induction n with
  | zero =>
    intro x6 x8 t_ways hf
    exact False.elim hf
  | succ n ih =>
    intro x6 x8 t_ways hf H locs hP hD hS ls hl
    rw [pX7_knelt_b112] at hf
    refine lv_iload hx hb dX7_knelt_112 (lv_at hl 6 rfl) ?_
    refine lv_iload_n hx hb dX7_knelt_114 rfl (lv_at hl 1 rfl) ?_
    refine lv_icmp_ge (tgt := 189) hx hb dX7_knelt_115 (by decide) (fun c1 => ?_) (fun c1 => ?_)
    · have hf := hf.1 c1
      refine lv_lconst (v := 0) hx hb dX7_knelt_189 (by decide) ?_
      refine lv_lstore (lv' := [(8, .long 0), (0, .ref q_t), (1, .int a1), (2, .int a2), (3, .int a3), (5, .int a5), (6, .long x6)]) hx hb dX7_knelt_190 hl (by decide) rfl (fun ls hl => ?_)
      refine lv_iload_n hx hb dX7_knelt_192 rfl (lv_at hl 3 rfl) ?_
      refine lv_istore (lv' := [(10, .int a2), (8, .long 0), (0, .ref q_t), (1, .int a1), (2, .int a2), (3, .int a3), (5, .int a5), (6, .long x6)]) hx hb dX7_knelt_193 hl (by decide) rfl (fun ls hl => ?_)
      obtain ⟨n1, hf⟩ := hf
      exact wX7_knelt_b195 C0 hN hK hA q_t q_t_ways q_t_book q_t_now q_t_sight q_t_pad q_t_had q_t_takes q_t_worths q_t_fitting q_t_wins q_t_image q_t_isKept t_shift t_kneels t_sights t_signs t_metAt t_metWho t_reason t_acts a1 a2 a3 a4 a5 post hret   n1 x6 0 a2 t_ways hf H locs hP hD hS ls (lv_sub hl [2, 6, 7, 1, 0] rfl)
    · have hf := hf.2 c1
      refine lv_lload hx hb dX7_knelt_118 (lv_at hl 5 rfl) ?_
      refine lv_ldc2 (v := 10) hx hb hown (hts _ mX7_knelt_2) dX7_knelt_120 ?_
      refine lv_lmul hx hb dX7_knelt_123 ?_
      refine lv_topl (fun v2 ev2 => ?_)
      have hf := hf v2 ev2
      refine lv_lstore (lv' := [(6, .long v2), (0, .ref q_t), (1, .int a1), (2, .int a2), (3, .int a3), (5, .int a5), (8, .int x8)]) hx hb dX7_knelt_124 hl (by decide) rfl (fun ls hl => ?_)
      refine lv_bipush (v := 17) hx hb dX7_knelt_126 (by decide) ?_
      refine lv_istore (lv' := [(9, .int 17), (6, .long v2), (0, .ref q_t), (1, .int a1), (2, .int a2), (3, .int a3), (5, .int a5), (8, .int x8)]) hx hb dX7_knelt_128 hl (by decide) rfl (fun ls hl => ?_)
      obtain ⟨n1, hf⟩ := hf
      exact wX7_knelt_b130 C0 hN hK hA q_t q_t_ways q_t_book q_t_now q_t_sight q_t_pad q_t_had q_t_takes q_t_worths q_t_fitting q_t_wins q_t_image q_t_isKept t_shift t_kneels t_sights t_signs t_metAt t_metWho t_reason t_acts a1 a2 a3 a4 a5 post hret _ ih n1 v2 x8 17 t_ways hf H locs hP hD hS ls (lv_sub hl [2, 3, 4, 5, 6, 1, 7, 0] rfl)

def pX7_knelt_b79 (a1 : Int32) (a2 : Int32) (a3 : Int32) (a4 : Int32) (a5 : Int32) (post : Int64 → ((Nat → Int64)) → Prop) : Nat → Int64 → Int32 → (Nat → Int64) → Prop
  | 0 => fun _ _ _ => False
  | n + 1 => fun x6 x8 t_ways => (18 ≤ x8 → (∃ n1, pX7_knelt_b112 a1 a2 a3 a4 a5 post  n1 x6 0 t_ways)) ∧ (¬ 18 ≤ x8 → ((¬ x8 = 0 → (vp_in x8 18 ∧ (∀ v4 : Int32, v4 = x8 + 1 → (pX7_knelt_b79 a1 a2 a3 a4 a5 post  n x6 v4 (vp_updL t_ways x8.toNatClampNeg 0))))) ∧ (x8 = 0 → (vp_in x8 18 ∧ (∀ v6 : Int32, v6 = x8 + 1 → (pX7_knelt_b79 a1 a2 a3 a4 a5 post  n x6 v6 (vp_updL t_ways x8.toNatClampNeg 1)))))))

set_option maxHeartbeats 4000000 in
set_option maxRecDepth 100000 in
theorem wX7_knelt_b79 {p : Program} {l : Launch} {e : Env} {s : State} {m : MethodId} {args : Array Value} {below : List Frame} {meth : Method} {c : Code} {Q : State → Prop} {D : va_G} {cI cZ cJ cO : ClassId} {A : Nat → Prop} (C0 : CallFix p m c cX7_knelt 11 s args wsX7_knelt RX7) (hN : nw s) (hK : va_K D vwCl (tyL cI cZ cJ cO) s) (hA : ∀ q, s.heap.size ≤ q → A q) (q_t q_t_ways q_t_book q_t_now q_t_sight q_t_pad q_t_had q_t_takes q_t_worths q_t_fitting q_t_wins q_t_image q_t_isKept : Nat) (t_shift : Int32) (t_kneels : Int32) (t_sights : Int32) (t_signs : Int32) (t_metAt : Int32) (t_metWho : Int32) (t_reason : Int32) (t_acts : Int32) (a1 : Int32) (a2 : Int32) (a3 : Int32) (a4 : Int32) (a5 : Int32) (post : Int64 → ((Nat → Int64)) → Prop) (hret : hrL p l e ({ frames := 1, cells := 0, slots := 0, locals := 30 } : Room) s m args below meth c cX7_knelt D A Q post (fun u : (Nat → Int64) => [(q_t, .inr (7, [.ref q_t_book, .ref q_t_now, .int t_shift, .int t_kneels, .int t_sights, .ref q_t_sight, .int t_signs, .ref q_t_pad, .int t_metAt, .int t_metWho, .int t_reason, .int t_acts, .ref q_t_had, .ref q_t_takes, .ref q_t_worths, .ref q_t_fitting, .ref q_t_wins, .ref q_t_ways, .ref q_t_image, .ref q_t_isKept])), (q_t_ways, .inl (cJ, 18, .inr (.inl u)))])) :
    ∀ (n : Nat) (x6 : Int64) (x8 : Int32) (t_ways : (Nat → Int64)), pX7_knelt_b79 a1 a2 a3 a4 a5 post n x6 x8 t_ways → ∀ (H : Heap) (locs : List Loc), va_P D vwCl [(q_t, .inr (7, [.ref q_t_book, .ref q_t_now, .int t_shift, .int t_kneels, .int t_sights, .ref q_t_sight, .int t_signs, .ref q_t_pad, .int t_metAt, .int t_metWho, .int t_reason, .int t_acts, .ref q_t_had, .ref q_t_takes, .ref q_t_worths, .ref q_t_fitting, .ref q_t_wins, .ref q_t_ways, .ref q_t_image, .ref q_t_isKept])), (q_t_ways, .inl (cJ, 18, .inr (.inl t_ways)))] H → va_D A [(q_t, .inr (7, [.ref q_t_book, .ref q_t_now, .int t_shift, .int t_kneels, .int t_sights, .ref q_t_sight, .int t_signs, .ref q_t_pad, .int t_metAt, .int t_metWho, .int t_reason, .int t_acts, .ref q_t_had, .ref q_t_takes, .ref q_t_worths, .ref q_t_fitting, .ref q_t_wins, .ref q_t_ways, .ref q_t_image, .ref q_t_isKept])), (q_t_ways, .inl (cJ, 18, .inr (.inl t_ways)))] → va_S A s.heap H locs → ∀ ls : Array Slot, lv_has ls 11 [(0, .ref q_t), (1, .int a1), (2, .int a2), (3, .int a3), (5, .int a5), (6, .long x6), (8, .int x8)] → W p l e ({ frames := 1, cells := 0, slots := 0, locals := 30 } : Room) s m args below meth c H locs 0 0 Q (F0 m 79 ls []) := by
  obtain ⟨hx, hb, hml, hown, hts⟩ := id C0
  intro n
  induction n with
  | zero =>
    intro x6 x8 t_ways hf
    exact False.elim hf
  | succ n ih =>
    intro x6 x8 t_ways hf H locs hP hD hS ls hl
    rw [pX7_knelt_b79] at hf
    refine lv_iload hx hb dX7_knelt_79 (lv_at hl 6 rfl) ?_
    refine lv_bipush (v := 18) hx hb dX7_knelt_81 (by decide) ?_
    refine lv_icmp_ge (tgt := 109) hx hb dX7_knelt_83 (by decide) (fun c1 => ?_) (fun c1 => ?_)
    · have hf := hf.1 c1
      refine lv_iconst (v := 0) hx hb dX7_knelt_109 (by decide) ?_
      refine lv_istore (lv' := [(8, .int 0), (0, .ref q_t), (1, .int a1), (2, .int a2), (3, .int a3), (5, .int a5), (6, .long x6)]) hx hb dX7_knelt_110 hl (by decide) rfl (fun ls hl => ?_)
      obtain ⟨n1, hf⟩ := hf
      exact wX7_knelt_b112 C0 hN hK hA q_t q_t_ways q_t_book q_t_now q_t_sight q_t_pad q_t_had q_t_takes q_t_worths q_t_fitting q_t_wins q_t_image q_t_isKept t_shift t_kneels t_sights t_signs t_metAt t_metWho t_reason t_acts a1 a2 a3 a4 a5 post hret   n1 x6 0 t_ways hf H locs hP hD hS ls (lv_sub hl [1, 2, 3, 4, 5, 6, 0] rfl)
    · have hf := hf.2 c1
      refine lv_aload_n hx hb dX7_knelt_86 rfl (lv_at hl 0 rfl) ?_
      refine va_get (D := D) (ci := 7) (v := .ref q_t_ways) (C := RX7) (T := TX7) (N := 20) hx hb hts nX7_knelt_X7 hown hK hP 0 rfl rfl 17 (by decide) (hts _ mX7_knelt_3) (fun _ h9 => h9) rfl dX7_knelt_87 ?_
      refine lv_iload hx hb dX7_knelt_90 (lv_at hl 6 rfl) ?_
      refine lv_iload hx hb dX7_knelt_92 (lv_at hl 6 rfl) ?_
      refine lv_if_ne (tgt := 101) hx hb dX7_knelt_94 (by decide) (fun c2 => ?_) (fun c2 => ?_)
      · have hf := hf.1 c2
        refine lv_lconst (v := 0) hx hb dX7_knelt_101 (by decide) ?_
        have g3 := hf.1
        have hf := hf.2
        refine xa_last hx hb hK hP hD hS 1 2 rfl rfl (j := x8.toNatClampNeg) rfl g3 dX7_knelt_102 (fun H locs hP hD hS => ?_)
        have hP : va_P D vwCl [(q_t, .inr (7, [.ref q_t_book, .ref q_t_now, .int t_shift, .int t_kneels, .int t_sights, .ref q_t_sight, .int t_signs, .ref q_t_pad, .int t_metAt, .int t_metWho, .int t_reason, .int t_acts, .ref q_t_had, .ref q_t_takes, .ref q_t_worths, .ref q_t_fitting, .ref q_t_wins, .ref q_t_ways, .ref q_t_image, .ref q_t_isKept])), (q_t_ways, .inl (cJ, 18, .inr (.inl (vp_updL t_ways x8.toNatClampNeg 0))))] H := hP
        have hD : va_D A [(q_t, .inr (7, [.ref q_t_book, .ref q_t_now, .int t_shift, .int t_kneels, .int t_sights, .ref q_t_sight, .int t_signs, .ref q_t_pad, .int t_metAt, .int t_metWho, .int t_reason, .int t_acts, .ref q_t_had, .ref q_t_takes, .ref q_t_worths, .ref q_t_fitting, .ref q_t_wins, .ref q_t_ways, .ref q_t_image, .ref q_t_isKept])), (q_t_ways, .inl (cJ, 18, .inr (.inl (vp_updL t_ways x8.toNatClampNeg 0))))] := hD
        obtain ⟨v4, ev4⟩ : ∃ y : Int32, y = x8 + 1 := ⟨_, rfl⟩
        have hf := hf v4 ev4
        refine lv_iinc (v := v4) (lv' := [(8, .int v4), (0, .ref q_t), (1, .int a1), (2, .int a2), (3, .int a3), (5, .int a5), (6, .long x6)]) hx hb dX7_knelt_103 hl (k := 6) rfl (by rw [ev4]; rfl) (by decide) rfl (fun ls hl => ?_)
        refine lv_goto (tgt := 79) hx hb dX7_knelt_106 (by decide) ?_
        exact ih x6 v4 (vp_updL t_ways x8.toNatClampNeg 0) hf H locs hP hD hS ls (lv_sub hl [1, 2, 3, 4, 5, 6, 0] rfl)
      · have hf := hf.2 c2
        refine lv_lconst (v := 1) hx hb dX7_knelt_97 (by decide) ?_
        refine lv_goto (tgt := 102) hx hb dX7_knelt_98 (by decide) ?_
        have g5 := hf.1
        have hf := hf.2
        refine xa_last hx hb hK hP hD hS 1 2 rfl rfl (j := x8.toNatClampNeg) rfl g5 dX7_knelt_102 (fun H locs hP hD hS => ?_)
        have hP : va_P D vwCl [(q_t, .inr (7, [.ref q_t_book, .ref q_t_now, .int t_shift, .int t_kneels, .int t_sights, .ref q_t_sight, .int t_signs, .ref q_t_pad, .int t_metAt, .int t_metWho, .int t_reason, .int t_acts, .ref q_t_had, .ref q_t_takes, .ref q_t_worths, .ref q_t_fitting, .ref q_t_wins, .ref q_t_ways, .ref q_t_image, .ref q_t_isKept])), (q_t_ways, .inl (cJ, 18, .inr (.inl (vp_updL t_ways x8.toNatClampNeg 1))))] H := hP
        have hD : va_D A [(q_t, .inr (7, [.ref q_t_book, .ref q_t_now, .int t_shift, .int t_kneels, .int t_sights, .ref q_t_sight, .int t_signs, .ref q_t_pad, .int t_metAt, .int t_metWho, .int t_reason, .int t_acts, .ref q_t_had, .ref q_t_takes, .ref q_t_worths, .ref q_t_fitting, .ref q_t_wins, .ref q_t_ways, .ref q_t_image, .ref q_t_isKept])), (q_t_ways, .inl (cJ, 18, .inr (.inl (vp_updL t_ways x8.toNatClampNeg 1))))] := hD
        obtain ⟨v6, ev6⟩ : ∃ y : Int32, y = x8 + 1 := ⟨_, rfl⟩
        have hf := hf v6 ev6
        refine lv_iinc (v := v6) (lv' := [(8, .int v6), (0, .ref q_t), (1, .int a1), (2, .int a2), (3, .int a3), (5, .int a5), (6, .long x6)]) hx hb dX7_knelt_103 hl (k := 6) rfl (by rw [ev6]; rfl) (by decide) rfl (fun ls hl => ?_)
        refine lv_goto (tgt := 79) hx hb dX7_knelt_106 (by decide) ?_
        exact ih x6 v6 (vp_updL t_ways x8.toNatClampNeg 1) hf H locs hP hD hS ls (lv_sub hl [1, 2, 3, 4, 5, 6, 0] rfl)

def pX7_knelt (t_ways : (Nat → Int64)) (a1 : Int32) (a2 : Int32) (a3 : Int32) (a4 : Int32) (a5 : Int32) (post : Int64 → ((Nat → Int64)) → Prop) : Prop :=
  pX7_in a1 0 16 (fun r1 => (r1 = 0 → (post (-1000000000000000002) t_ways)) ∧ (¬ r1 = 0 → (pX7_in a2 0 a1 (fun r3 => (r3 = 0 → (post (-1000000000000000002) t_ways)) ∧ (¬ r3 = 0 → (pX7_in a3 0 10 (fun r5 => (r5 = 0 → (post (-1000000000000000002) t_ways)) ∧ (¬ r5 = 0 → (pX7_in a4 0 1 (fun r7 => (r7 = 0 → (post (-1000000000000000002) t_ways)) ∧ (¬ r7 = 0 → (pX7_in a5 0 1 (fun r9 => (¬ r9 = 0 → ((¬ a4 = 1 → (∃ n1, pX7_knelt_b79 a1 a2 a3 a4 a5 post  n1 1 0 t_ways)) ∧ (a4 = 1 → (pX7_lowest ((a1).toInt64 * (a3).toInt64) 10 a5 (fun r12 => post r12 t_ways))))) ∧ (r9 = 0 → (post (-1000000000000000002) t_ways)))))))))))))))

set_option maxHeartbeats 4000000 in
set_option maxRecDepth 100000 in
theorem kX7_knelt (l : Launch) (D : va_G) (cI cZ cJ cO : ClassId) (q_t q_t_ways q_t_book q_t_now q_t_sight q_t_pad q_t_had q_t_takes q_t_worths q_t_fitting q_t_wins q_t_image q_t_isKept : Nat) (sz : Nat) (t_shift : Int32) (t_kneels : Int32) (t_sights : Int32) (t_signs : Int32) (t_metAt : Int32) (t_metWho : Int32) (t_reason : Int32) (t_acts : Int32) (t_ways : (Nat → Int64)) (a1 : Int32) (a2 : Int32) (a3 : Int32) (a4 : Int32) (a5 : Int32) (post : Int64 → ((Nat → Int64)) → Prop) (hf : pX7_knelt t_ways a1 a2 a3 a4 a5 post) :
    Met l yX7_knelt wsX7_knelt ({ frames := 1, cells := 0, slots := 0, locals := 30 } : Room) (va_Pc [.ref q_t, .int a1, .int a2, .int a3, .int a4, .int a5] (B1 D (tyL cI cZ cJ cO) [(q_t, .inr (7, [.ref q_t_book, .ref q_t_now, .int t_shift, .int t_kneels, .int t_sights, .ref q_t_sight, .int t_signs, .ref q_t_pad, .int t_metAt, .int t_metWho, .int t_reason, .int t_acts, .ref q_t_had, .ref q_t_takes, .ref q_t_worths, .ref q_t_fitting, .ref q_t_wins, .ref q_t_ways, .ref q_t_image, .ref q_t_isKept])), (q_t_ways, .inl (cJ, 18, .inr (.inl t_ways)))] sz)) (va_Ql post (fun u t => E1 D (va_A [(q_t, .inr (7, [.ref q_t_book, .ref q_t_now, .int t_shift, .int t_kneels, .int t_sights, .ref q_t_sight, .int t_signs, .ref q_t_pad, .int t_metAt, .int t_metWho, .int t_reason, .int t_acts, .ref q_t_had, .ref q_t_takes, .ref q_t_worths, .ref q_t_fitting, .ref q_t_wins, .ref q_t_ways, .ref q_t_image, .ref q_t_isKept])), (q_t_ways, .inl (cJ, 18, .inr (.inl t_ways)))] sz) ((fun u : (Nat → Int64) => [(q_t, .inr (7, [.ref q_t_book, .ref q_t_now, .int t_shift, .int t_kneels, .int t_sights, .ref q_t_sight, .int t_signs, .ref q_t_pad, .int t_metAt, .int t_metWho, .int t_reason, .int t_acts, .ref q_t_had, .ref q_t_takes, .ref q_t_worths, .ref q_t_fitting, .ref q_t_wins, .ref q_t_ways, .ref q_t_image, .ref q_t_isKept])), (q_t_ways, .inl (cJ, 18, .inr (.inl u)))]) u) t) (va_A [(q_t, .inr (7, [.ref q_t_book, .ref q_t_now, .int t_shift, .int t_kneels, .int t_sights, .ref q_t_sight, .int t_signs, .ref q_t_pad, .int t_metAt, .int t_metWho, .int t_reason, .int t_acts, .ref q_t_had, .ref q_t_takes, .ref q_t_worths, .ref q_t_fitting, .ref q_t_wins, .ref q_t_ways, .ref q_t_image, .ref q_t_isKept])), (q_t_ways, .inl (cJ, 18, .inr (.inl t_ways)))] sz)) 0 0 (va_A [(q_t, .inr (7, [.ref q_t_book, .ref q_t_now, .int t_shift, .int t_kneels, .int t_sights, .ref q_t_sight, .int t_signs, .ref q_t_pad, .int t_metAt, .int t_metWho, .int t_reason, .int t_acts, .ref q_t_had, .ref q_t_takes, .ref q_t_worths, .ref q_t_fitting, .ref q_t_wins, .ref q_t_ways, .ref q_t_image, .ref q_t_isKept])), (q_t_ways, .inl (cJ, 18, .inr (.inl t_ways)))] sz) := by
  unfold pX7_knelt at hf
  refine xm_1l (own := RX7) (by decide) rfl rfl (Nat.le_of_ble_eq_true rfl) (fun p e s m args below meth c Q A C0 hN hK hA hret hP hD ls hl => ?_)
  obtain ⟨hx, hb, hml, hown, hts⟩ := id C0
  have hl : lv_has ls 11 [(0, .ref q_t), (1, .int a1), (2, .int a2), (3, .int a3), (4, .int a4), (5, .int a5)] := hl
  have hS : va_S A s.heap s.heap [] := va_S.rf
  obtain ⟨H, hHe⟩ : ∃ H, H = s.heap := ⟨_, rfl⟩
  obtain ⟨locs, hLe⟩ : ∃ L : List Loc, L = [] := ⟨_, rfl⟩
  rw [← hLe]
  rw [← hLe] at hS
  have hP : va_P D vwCl [(q_t, .inr (7, [.ref q_t_book, .ref q_t_now, .int t_shift, .int t_kneels, .int t_sights, .ref q_t_sight, .int t_signs, .ref q_t_pad, .int t_metAt, .int t_metWho, .int t_reason, .int t_acts, .ref q_t_had, .ref q_t_takes, .ref q_t_worths, .ref q_t_fitting, .ref q_t_wins, .ref q_t_ways, .ref q_t_image, .ref q_t_isKept])), (q_t_ways, .inl (cJ, 18, .inr (.inl t_ways)))] H := by rw [hHe]; exact hP
  have hS : va_S A s.heap H locs := by rw [hHe]; exact hS
  suffices hgo : W p l e ({ frames := 1, cells := 0, slots := 0, locals := 30 } : Room) s m args below meth c H locs 0 0 Q (F0 m 0 ls []) by rw [← hHe]; exact hgo
  clear hHe hLe
  refine lv_iload_n hx hb dX7_knelt_0 rfl (lv_at hl 1 rfl) ?_
  refine lv_iconst (v := 0) hx hb dX7_knelt_1 (by decide) ?_
  refine lv_bipush (v := 16) hx hb dX7_knelt_2 (by decide) ?_
  refine xs_i (va_runS (As := [.int a1, .int 0, .int 16]) (rest := []) ⟨hx, hb, hml, hown, hts⟩ (kX7_in l D cI cZ cJ cO a1 0 16 _ hf) (va_cwS 3 hts gX7_knelt_X7_in rfl rfl rfl (by decide +kernel) ⟨Nat.le_of_ble_eq_true rfl, Nat.le_of_ble_eq_true rfl⟩) (B0_pre (hP.sub (ws' := []) [] rfl) hK hN) rfl rfl hl.1 rfl (lv_room (Nat.le_of_ble_eq_true rfl)) dX7_knelt_4 ⟨Nat.zero_le _, Nat.zero_le _⟩) (fun r1 hf => ?_)
  refine lv_if_eq (tgt := 49) hx hb dX7_knelt_7 (by decide) (fun c2 => ?_) (fun c2 => ?_)
  · have hf := hf.1 c2
    refine lv_ldc2 (v := (-1000000000000000002)) hx hb hown (hts _ mX7_knelt_1) dX7_knelt_49 ?_
    exact hret 52 ls H locs (-1000000000000000002) t_ways dX7_knelt_52 hf hP hD hS
  · have hf := hf.2 c2
    refine lv_iload_n hx hb dX7_knelt_10 rfl (lv_at hl 2 rfl) ?_
    refine lv_iconst (v := 0) hx hb dX7_knelt_11 (by decide) ?_
    refine lv_iload_n hx hb dX7_knelt_12 rfl (lv_at hl 1 rfl) ?_
    refine xs_i (va_runS (As := [.int a2, .int 0, .int a1]) (rest := []) ⟨hx, hb, hml, hown, hts⟩ (kX7_in l D cI cZ cJ cO a2 0 a1 _ hf) (va_cwS 3 hts gX7_knelt_X7_in rfl rfl rfl (by decide +kernel) ⟨Nat.le_of_ble_eq_true rfl, Nat.le_of_ble_eq_true rfl⟩) (B0_pre (hP.sub (ws' := []) [] rfl) hK hN) rfl rfl hl.1 rfl (lv_room (Nat.le_of_ble_eq_true rfl)) dX7_knelt_13 ⟨Nat.zero_le _, Nat.zero_le _⟩) (fun r3 hf => ?_)
    refine lv_if_eq (tgt := 49) hx hb dX7_knelt_16 (by decide) (fun c4 => ?_) (fun c4 => ?_)
    · have hf := hf.1 c4
      refine lv_ldc2 (v := (-1000000000000000002)) hx hb hown (hts _ mX7_knelt_1) dX7_knelt_49 ?_
      exact hret 52 ls H locs (-1000000000000000002) t_ways dX7_knelt_52 hf hP hD hS
    · have hf := hf.2 c4
      refine lv_iload_n hx hb dX7_knelt_19 rfl (lv_at hl 3 rfl) ?_
      refine lv_iconst (v := 0) hx hb dX7_knelt_20 (by decide) ?_
      refine lv_bipush (v := 10) hx hb dX7_knelt_21 (by decide) ?_
      refine xs_i (va_runS (As := [.int a3, .int 0, .int 10]) (rest := []) ⟨hx, hb, hml, hown, hts⟩ (kX7_in l D cI cZ cJ cO a3 0 10 _ hf) (va_cwS 3 hts gX7_knelt_X7_in rfl rfl rfl (by decide +kernel) ⟨Nat.le_of_ble_eq_true rfl, Nat.le_of_ble_eq_true rfl⟩) (B0_pre (hP.sub (ws' := []) [] rfl) hK hN) rfl rfl hl.1 rfl (lv_room (Nat.le_of_ble_eq_true rfl)) dX7_knelt_23 ⟨Nat.zero_le _, Nat.zero_le _⟩) (fun r5 hf => ?_)
      refine lv_if_eq (tgt := 49) hx hb dX7_knelt_26 (by decide) (fun c6 => ?_) (fun c6 => ?_)
      · have hf := hf.1 c6
        refine lv_ldc2 (v := (-1000000000000000002)) hx hb hown (hts _ mX7_knelt_1) dX7_knelt_49 ?_
        exact hret 52 ls H locs (-1000000000000000002) t_ways dX7_knelt_52 hf hP hD hS
      · have hf := hf.2 c6
        refine lv_iload hx hb dX7_knelt_29 (lv_at hl 4 rfl) ?_
        refine lv_iconst (v := 0) hx hb dX7_knelt_31 (by decide) ?_
        refine lv_iconst (v := 1) hx hb dX7_knelt_32 (by decide) ?_
        refine xs_i (va_runS (As := [.int a4, .int 0, .int 1]) (rest := []) ⟨hx, hb, hml, hown, hts⟩ (kX7_in l D cI cZ cJ cO a4 0 1 _ hf) (va_cwS 3 hts gX7_knelt_X7_in rfl rfl rfl (by decide +kernel) ⟨Nat.le_of_ble_eq_true rfl, Nat.le_of_ble_eq_true rfl⟩) (B0_pre (hP.sub (ws' := []) [] rfl) hK hN) rfl rfl hl.1 rfl (lv_room (Nat.le_of_ble_eq_true rfl)) dX7_knelt_33 ⟨Nat.zero_le _, Nat.zero_le _⟩) (fun r7 hf => ?_)
        refine lv_if_eq (tgt := 49) hx hb dX7_knelt_36 (by decide) (fun c8 => ?_) (fun c8 => ?_)
        · have hf := hf.1 c8
          refine lv_ldc2 (v := (-1000000000000000002)) hx hb hown (hts _ mX7_knelt_1) dX7_knelt_49 ?_
          exact hret 52 ls H locs (-1000000000000000002) t_ways dX7_knelt_52 hf hP hD hS
        · have hf := hf.2 c8
          refine lv_iload hx hb dX7_knelt_39 (lv_at hl 5 rfl) ?_
          refine lv_iconst (v := 0) hx hb dX7_knelt_41 (by decide) ?_
          refine lv_iconst (v := 1) hx hb dX7_knelt_42 (by decide) ?_
          refine xs_i (va_runS (As := [.int a5, .int 0, .int 1]) (rest := []) ⟨hx, hb, hml, hown, hts⟩ (kX7_in l D cI cZ cJ cO a5 0 1 _ hf) (va_cwS 3 hts gX7_knelt_X7_in rfl rfl rfl (by decide +kernel) ⟨Nat.le_of_ble_eq_true rfl, Nat.le_of_ble_eq_true rfl⟩) (B0_pre (hP.sub (ws' := []) [] rfl) hK hN) rfl rfl hl.1 rfl (lv_room (Nat.le_of_ble_eq_true rfl)) dX7_knelt_43 ⟨Nat.zero_le _, Nat.zero_le _⟩) (fun r9 hf => ?_)
          refine lv_if_ne (tgt := 53) hx hb dX7_knelt_46 (by decide) (fun c10 => ?_) (fun c10 => ?_)
          · have hf := hf.1 c10
            refine lv_iload hx hb dX7_knelt_53 (lv_at hl 4 rfl) ?_
            refine lv_iconst (v := 1) hx hb dX7_knelt_55 (by decide) ?_
            refine lv_icmp_ne (tgt := 73) hx hb dX7_knelt_56 (by decide) (fun c11 => ?_) (fun c11 => ?_)
            · have hf := hf.1 c11
              refine lv_lconst (v := 1) hx hb dX7_knelt_73 (by decide) ?_
              refine lv_lstore (lv' := [(6, .long 1), (0, .ref q_t), (1, .int a1), (2, .int a2), (3, .int a3), (4, .int a4), (5, .int a5)]) hx hb dX7_knelt_74 hl (by decide) rfl (fun ls hl => ?_)
              refine lv_iconst (v := 0) hx hb dX7_knelt_76 (by decide) ?_
              refine lv_istore (lv' := [(8, .int 0), (6, .long 1), (0, .ref q_t), (1, .int a1), (2, .int a2), (3, .int a3), (4, .int a4), (5, .int a5)]) hx hb dX7_knelt_77 hl (by decide) rfl (fun ls hl => ?_)
              obtain ⟨n1, hf⟩ := hf
              exact wX7_knelt_b79 C0 hN hK hA q_t q_t_ways q_t_book q_t_now q_t_sight q_t_pad q_t_had q_t_takes q_t_worths q_t_fitting q_t_wins q_t_image q_t_isKept t_shift t_kneels t_sights t_signs t_metAt t_metWho t_reason t_acts a1 a2 a3 a4 a5 post hret   n1 1 0 t_ways hf H locs hP hD hS ls (lv_sub hl [2, 3, 4, 5, 7, 1, 0] rfl)
            · have hf := hf.2 c11
              refine lv_iload_n hx hb dX7_knelt_59 rfl (lv_at hl 1 rfl) ?_
              refine lv_i2l hx hb dX7_knelt_60 rfl ?_
              refine lv_iload_n hx hb dX7_knelt_61 rfl (lv_at hl 3 rfl) ?_
              refine lv_i2l hx hb dX7_knelt_62 rfl ?_
              refine lv_lmul hx hb dX7_knelt_63 ?_
              refine lv_ldc2 (v := 10) hx hb hown (hts _ mX7_knelt_2) dX7_knelt_64 ?_
              refine lv_iload hx hb dX7_knelt_67 (lv_at hl 5 rfl) ?_
              refine xs_l (va_runS (As := [.long ((a1).toInt64 * (a3).toInt64), .long 10, .int a5]) (rest := []) ⟨hx, hb, hml, hown, hts⟩ (kX7_lowest l D cI cZ cJ cO ((a1).toInt64 * (a3).toInt64) 10 a5 _ hf) (va_cwS 3 hts gX7_knelt_X7_lowest rfl rfl rfl (by decide +kernel) ⟨Nat.le_of_ble_eq_true rfl, Nat.le_of_ble_eq_true rfl⟩) (B0_pre (hP.sub (ws' := []) [] rfl) hK hN) rfl rfl hl.1 rfl (lv_room (Nat.le_of_ble_eq_true rfl)) dX7_knelt_69 ⟨Nat.zero_le _, Nat.zero_le _⟩) (fun r12 hf => ?_)
              exact hret 72 ls H locs r12 t_ways dX7_knelt_72 hf hP hD hS
          · have hf := hf.2 c10
            refine lv_ldc2 (v := (-1000000000000000002)) hx hb hown (hts _ mX7_knelt_1) dX7_knelt_49 ?_
            exact hret 52 ls H locs (-1000000000000000002) t_ways dX7_knelt_52 hf hP hD hS

/-! X7_year -/
theorem mX7_year_3 : Cond.fieldLink RX7 13 "OxenKneelModel" "now" "[I" ∈ wsX7_year := List.mem_of_getElem? (i := 3) rfl
theorem mX7_year_1 : Cond.constant RX7 159 (65537) ∈ wsX7_year := List.mem_of_getElem? (i := 1) rfl
theorem mX7_year_2 : Cond.fieldLink RX7 111 "OxenKneelModel" "reason" "I" ∈ wsX7_year := List.mem_of_getElem? (i := 2) rfl
theorem nX7_year_X7 : ∀ w ∈ wsX70, w ∈ wsX7_year := fun _ h => List.mem_cons_of_mem _ (List.mem_append_right _ h)
def pX7_year_b245 (t_shift : Int32) (t_kneels : Int32) (t_book : (Nat → Int32)) (a1 : Int32) (a2 : Int32) (a3 : Int32) (post : Int32 → (Int32 × Int32 × Int32 × (Nat → Int32)) → Prop) (k43 : Int32 → Int32 → Int32 → Int32 → Int32 → (Nat → Int32) → Prop) (x4 : Int32) (x5 : Int32) (s0 : Int32) (s1 : Int32) (t_metAt : Int32) (t_metWho : Int32) (t_reason : Int32) (t_now : (Nat → Int32)) : Prop :=
  pX7_pass t_now (s1 * s0) (fun (r1 : Int32) (u2 : (Nat → Int32)) => ∀ v3 : Int32, v3 = x5 + 1 → (k43 x4 v3 t_metAt t_metWho r1 u2))

set_option maxHeartbeats 4000000 in
set_option maxRecDepth 100000 in
theorem wX7_year_b245 {p : Program} {l : Launch} {e : Env} {s : State} {m : MethodId} {args : Array Value} {below : List Frame} {meth : Method} {c : Code} {Q : State → Prop} {D : va_G} {cI cZ cJ cO : ClassId} {A : Nat → Prop} (C0 : CallFix p m c cX7_year 8 s args wsX7_year RX7) (hN : nw s) (hK : va_K D vwCl (tyL cI cZ cJ cO) s) (hA : ∀ q, s.heap.size ≤ q → A q) (q_t q_t_book q_t_now q_t_sight q_t_pad q_t_had q_t_takes q_t_worths q_t_fitting q_t_wins q_t_ways q_t_image q_t_isKept : Nat) (t_sights : Int32) (t_signs : Int32) (t_acts : Int32) (t_shift : Int32) (t_kneels : Int32) (t_book : (Nat → Int32)) (a1 : Int32) (a2 : Int32) (a3 : Int32) (post : Int32 → (Int32 × Int32 × Int32 × (Nat → Int32)) → Prop) (hret : hrI p l e ({ frames := 2, cells := 0, slots := 0, locals := 44 } : Room) s m args below meth c cX7_year D A Q post (fun u : Int32 × Int32 × Int32 × (Nat → Int32) => [(q_t, .inr (7, [.ref q_t_book, .ref q_t_now, .int t_shift, .int t_kneels, .int t_sights, .ref q_t_sight, .int t_signs, .ref q_t_pad, .int u.1, .int u.2.1, .int u.2.2.1, .int t_acts, .ref q_t_had, .ref q_t_takes, .ref q_t_worths, .ref q_t_fitting, .ref q_t_wins, .ref q_t_ways, .ref q_t_image, .ref q_t_isKept])), (q_t_book, .inl (cI, 45, .inl t_book)), (q_t_now, .inl (cI, 45, .inl u.2.2.2))])) (k43 : Int32 → Int32 → Int32 → Int32 → Int32 → (Nat → Int32) → Prop) (hk43 : ∀ (x4 : Int32) (x5 : Int32) (t_metAt : Int32) (t_metWho : Int32) (t_reason : Int32) (t_now : (Nat → Int32)), k43 x4 x5 t_metAt t_metWho t_reason t_now → ∀ (H : Heap) (locs : List Loc), va_P D vwCl [(q_t, .inr (7, [.ref q_t_book, .ref q_t_now, .int t_shift, .int t_kneels, .int t_sights, .ref q_t_sight, .int t_signs, .ref q_t_pad, .int t_metAt, .int t_metWho, .int t_reason, .int t_acts, .ref q_t_had, .ref q_t_takes, .ref q_t_worths, .ref q_t_fitting, .ref q_t_wins, .ref q_t_ways, .ref q_t_image, .ref q_t_isKept])), (q_t_book, .inl (cI, 45, .inl t_book)), (q_t_now, .inl (cI, 45, .inl t_now))] H → va_D A [(q_t, .inr (7, [.ref q_t_book, .ref q_t_now, .int t_shift, .int t_kneels, .int t_sights, .ref q_t_sight, .int t_signs, .ref q_t_pad, .int t_metAt, .int t_metWho, .int t_reason, .int t_acts, .ref q_t_had, .ref q_t_takes, .ref q_t_worths, .ref q_t_fitting, .ref q_t_wins, .ref q_t_ways, .ref q_t_image, .ref q_t_isKept])), (q_t_book, .inl (cI, 45, .inl t_book)), (q_t_now, .inl (cI, 45, .inl t_now))] → va_S A s.heap H locs → ∀ ls : Array Slot, lv_has ls 8 [(0, .ref q_t), (2, .int a2), (3, .int a3), (4, .int x4), (5, .int x5)] → W p l e ({ frames := 2, cells := 0, slots := 0, locals := 44 } : Room) s m args below meth c H locs 0 0 Q (F0 m 43 ls [])) :
    ∀ (x4 : Int32) (x5 : Int32) (s0 : Int32) (s1 : Int32) (t_metAt : Int32) (t_metWho : Int32) (t_reason : Int32) (t_now : (Nat → Int32)), pX7_year_b245 t_shift t_kneels t_book a1 a2 a3 post k43 x4 x5 s0 s1 t_metAt t_metWho t_reason t_now → ∀ (H : Heap) (locs : List Loc), va_P D vwCl [(q_t, .inr (7, [.ref q_t_book, .ref q_t_now, .int t_shift, .int t_kneels, .int t_sights, .ref q_t_sight, .int t_signs, .ref q_t_pad, .int t_metAt, .int t_metWho, .int t_reason, .int t_acts, .ref q_t_had, .ref q_t_takes, .ref q_t_worths, .ref q_t_fitting, .ref q_t_wins, .ref q_t_ways, .ref q_t_image, .ref q_t_isKept])), (q_t_book, .inl (cI, 45, .inl t_book)), (q_t_now, .inl (cI, 45, .inl t_now))] H → va_D A [(q_t, .inr (7, [.ref q_t_book, .ref q_t_now, .int t_shift, .int t_kneels, .int t_sights, .ref q_t_sight, .int t_signs, .ref q_t_pad, .int t_metAt, .int t_metWho, .int t_reason, .int t_acts, .ref q_t_had, .ref q_t_takes, .ref q_t_worths, .ref q_t_fitting, .ref q_t_wins, .ref q_t_ways, .ref q_t_image, .ref q_t_isKept])), (q_t_book, .inl (cI, 45, .inl t_book)), (q_t_now, .inl (cI, 45, .inl t_now))] → va_S A s.heap H locs → ∀ ls : Array Slot, lv_has ls 8 [(0, .ref q_t), (2, .int a2), (3, .int a3), (4, .int x4), (5, .int x5)] → W p l e ({ frames := 2, cells := 0, slots := 0, locals := 44 } : Room) s m args below meth c H locs 0 0 Q (F0 m 245 ls [.int s0, .int s1, .ref q_t, .ref q_t]) := by
  obtain ⟨hx, hb, hml, hown, hts⟩ := id C0
  intro x4 x5 s0 s1 t_metAt t_metWho t_reason t_now hf H locs hP hD hS ls hl
  unfold pX7_year_b245 at hf
  refine lv_imul hx hb dX7_year_245 ?_
  refine xc_i (wr := [(q_t_book, .inl (cI, 45, .inl t_book))]) (va_runV (As := [.int (s1 * s0)]) (rest := [.ref q_t]) ⟨hx, hb, hml, hown, hts⟩ (kX7_pass l D cI cZ cJ cO q_t q_t_now q_t_book q_t_sight q_t_pad q_t_had q_t_takes q_t_worths q_t_fitting q_t_wins q_t_ways q_t_image q_t_isKept H.size t_shift t_kneels t_sights t_signs t_metAt t_metWho t_reason t_acts t_now (s1 * s0) _ hf) (cwV 1 hts gX7_year_X7_pass rfl rfl rfl (by decide +kernel) ⟨Nat.le_of_ble_eq_true rfl, Nat.le_of_ble_eq_true rfl⟩) (B1_preV (ci := 7) (q0 := 0) hP rfl rfl (hP.sub (ws' := [(q_t, .inr (7, [.ref q_t_book, .ref q_t_now, .int t_shift, .int t_kneels, .int t_sights, .ref q_t_sight, .int t_signs, .ref q_t_pad, .int t_metAt, .int t_metWho, .int t_reason, .int t_acts, .ref q_t_had, .ref q_t_takes, .ref q_t_worths, .ref q_t_fitting, .ref q_t_wins, .ref q_t_ways, .ref q_t_image, .ref q_t_isKept])), (q_t_now, .inl (cI, 45, .inl t_now))]) [0, 2] rfl) hK hN (hD.sub (ws' := [(q_t, .inr (7, [.ref q_t_book, .ref q_t_now, .int t_shift, .int t_kneels, .int t_sights, .ref q_t_sight, .int t_signs, .ref q_t_pad, .int t_metAt, .int t_metWho, .int t_reason, .int t_acts, .ref q_t_had, .ref q_t_takes, .ref q_t_worths, .ref q_t_fitting, .ref q_t_wins, .ref q_t_ways, .ref q_t_image, .ref q_t_isKept])), (q_t_now, .inl (cI, 45, .inl t_now))]) [0, 2] (by decide) rfl)) rfl rfl hl.1 rfl (lv_room (Nat.le_of_ble_eq_true rfl)) dX7_year_246 ⟨Nat.zero_le _, Nat.zero_le _⟩) hP hD hS hA [0, 2] [1] rfl rfl (by decide) (by decide) (fun r1 u2 H locs hf hP hD hS => ?_)
  have hP : va_P D vwCl [(q_t_book, .inl (cI, 45, .inl t_book)), (q_t, .inr (7, [.ref q_t_book, .ref q_t_now, .int t_shift, .int t_kneels, .int t_sights, .ref q_t_sight, .int t_signs, .ref q_t_pad, .int t_metAt, .int t_metWho, .int t_reason, .int t_acts, .ref q_t_had, .ref q_t_takes, .ref q_t_worths, .ref q_t_fitting, .ref q_t_wins, .ref q_t_ways, .ref q_t_image, .ref q_t_isKept])), (q_t_now, .inl (cI, 45, .inl u2))] H := hP
  have hD : va_D A [(q_t_book, .inl (cI, 45, .inl t_book)), (q_t, .inr (7, [.ref q_t_book, .ref q_t_now, .int t_shift, .int t_kneels, .int t_sights, .ref q_t_sight, .int t_signs, .ref q_t_pad, .int t_metAt, .int t_metWho, .int t_reason, .int t_acts, .ref q_t_had, .ref q_t_takes, .ref q_t_worths, .ref q_t_fitting, .ref q_t_wins, .ref q_t_ways, .ref q_t_image, .ref q_t_isKept])), (q_t_now, .inl (cI, 45, .inl u2))] := hD
  refine va_put (D := D) (ci := 7) (v := .int r1) (ty := .int) (C := RX7) (T := TX7) (N := 20) hx hb hts nX7_year_X7 tyX7 tyX7_ok nmX7 hown hK hP hD hS 1 rfl rfl 10 (by decide) (hts _ mX7_year_2) (fun _ h9 => h9) rfl (by decide +kernel) rfl rfl (Nat.le_of_ble_eq_true rfl) dX7_year_249 (fun H locs hP hD hS => ?_)
  have hP : va_P D vwCl [(q_t_book, .inl (cI, 45, .inl t_book)), (q_t, .inr (7, [.ref q_t_book, .ref q_t_now, .int t_shift, .int t_kneels, .int t_sights, .ref q_t_sight, .int t_signs, .ref q_t_pad, .int t_metAt, .int t_metWho, .int r1, .int t_acts, .ref q_t_had, .ref q_t_takes, .ref q_t_worths, .ref q_t_fitting, .ref q_t_wins, .ref q_t_ways, .ref q_t_image, .ref q_t_isKept])), (q_t_now, .inl (cI, 45, .inl u2))] H := hP
  have hD : va_D A [(q_t_book, .inl (cI, 45, .inl t_book)), (q_t, .inr (7, [.ref q_t_book, .ref q_t_now, .int t_shift, .int t_kneels, .int t_sights, .ref q_t_sight, .int t_signs, .ref q_t_pad, .int t_metAt, .int t_metWho, .int r1, .int t_acts, .ref q_t_had, .ref q_t_takes, .ref q_t_worths, .ref q_t_fitting, .ref q_t_wins, .ref q_t_ways, .ref q_t_image, .ref q_t_isKept])), (q_t_now, .inl (cI, 45, .inl u2))] := hD
  refine lv_goto (tgt := 263) hx hb dX7_year_252 (by decide) ?_
  obtain ⟨v3, ev3⟩ : ∃ y : Int32, y = x5 + 1 := ⟨_, rfl⟩
  have hf := hf v3 ev3
  refine lv_iinc (v := v3) (lv' := [(5, .int v3), (0, .ref q_t), (2, .int a2), (3, .int a3), (4, .int x4)]) hx hb dX7_year_263 hl (k := 4) rfl (by rw [ev3]; rfl) (by decide) rfl (fun ls hl => ?_)
  refine lv_goto (tgt := 43) hx hb dX7_year_266 (by decide) ?_
  exact hk43 x4 v3 t_metAt t_metWho r1 u2 hf H locs (hP.sub [1, 0, 2] rfl) (hD.sub [1, 0, 2] (by decide) rfl) hS ls (lv_sub hl [1, 2, 3, 4, 0] rfl)

def pX7_year_b218 (t_shift : Int32) (t_kneels : Int32) (t_book : (Nat → Int32)) (a1 : Int32) (a2 : Int32) (a3 : Int32) (post : Int32 → (Int32 × Int32 × Int32 × (Nat → Int32)) → Prop) (k43 : Int32 → Int32 → Int32 → Int32 → Int32 → (Nat → Int32) → Prop) (x4 : Int32) (x5 : Int32) (x7 : Int32) (t_metAt : Int32) (t_metWho : Int32) (t_reason : Int32) (t_now : (Nat → Int32)) : Prop :=
  (¬ ((x4 / 6) - (x4 / 6) / 8 * 8) = 5 → (pX7_year_b245 t_shift t_kneels t_book a1 a2 a3 post k43 x4 x5 24 (1 + (x7 - x7 / 9 * 9)) t_metAt t_metWho t_reason t_now)) ∧ (((x4 / 6) - (x4 / 6) / 8 * 8) = 5 → (pX7_year_b245 t_shift t_kneels t_book a1 a2 a3 post k43 x4 x5 1 (1 + (x7 - x7 / 9 * 9)) t_metAt t_metWho t_reason t_now))

set_option maxHeartbeats 4000000 in
set_option maxRecDepth 100000 in
theorem wX7_year_b218 {p : Program} {l : Launch} {e : Env} {s : State} {m : MethodId} {args : Array Value} {below : List Frame} {meth : Method} {c : Code} {Q : State → Prop} {D : va_G} {cI cZ cJ cO : ClassId} {A : Nat → Prop} (C0 : CallFix p m c cX7_year 8 s args wsX7_year RX7) (hN : nw s) (hK : va_K D vwCl (tyL cI cZ cJ cO) s) (hA : ∀ q, s.heap.size ≤ q → A q) (q_t q_t_book q_t_now q_t_sight q_t_pad q_t_had q_t_takes q_t_worths q_t_fitting q_t_wins q_t_ways q_t_image q_t_isKept : Nat) (t_sights : Int32) (t_signs : Int32) (t_acts : Int32) (t_shift : Int32) (t_kneels : Int32) (t_book : (Nat → Int32)) (a1 : Int32) (a2 : Int32) (a3 : Int32) (post : Int32 → (Int32 × Int32 × Int32 × (Nat → Int32)) → Prop) (hret : hrI p l e ({ frames := 2, cells := 0, slots := 0, locals := 44 } : Room) s m args below meth c cX7_year D A Q post (fun u : Int32 × Int32 × Int32 × (Nat → Int32) => [(q_t, .inr (7, [.ref q_t_book, .ref q_t_now, .int t_shift, .int t_kneels, .int t_sights, .ref q_t_sight, .int t_signs, .ref q_t_pad, .int u.1, .int u.2.1, .int u.2.2.1, .int t_acts, .ref q_t_had, .ref q_t_takes, .ref q_t_worths, .ref q_t_fitting, .ref q_t_wins, .ref q_t_ways, .ref q_t_image, .ref q_t_isKept])), (q_t_book, .inl (cI, 45, .inl t_book)), (q_t_now, .inl (cI, 45, .inl u.2.2.2))])) (k43 : Int32 → Int32 → Int32 → Int32 → Int32 → (Nat → Int32) → Prop) (hk43 : ∀ (x4 : Int32) (x5 : Int32) (t_metAt : Int32) (t_metWho : Int32) (t_reason : Int32) (t_now : (Nat → Int32)), k43 x4 x5 t_metAt t_metWho t_reason t_now → ∀ (H : Heap) (locs : List Loc), va_P D vwCl [(q_t, .inr (7, [.ref q_t_book, .ref q_t_now, .int t_shift, .int t_kneels, .int t_sights, .ref q_t_sight, .int t_signs, .ref q_t_pad, .int t_metAt, .int t_metWho, .int t_reason, .int t_acts, .ref q_t_had, .ref q_t_takes, .ref q_t_worths, .ref q_t_fitting, .ref q_t_wins, .ref q_t_ways, .ref q_t_image, .ref q_t_isKept])), (q_t_book, .inl (cI, 45, .inl t_book)), (q_t_now, .inl (cI, 45, .inl t_now))] H → va_D A [(q_t, .inr (7, [.ref q_t_book, .ref q_t_now, .int t_shift, .int t_kneels, .int t_sights, .ref q_t_sight, .int t_signs, .ref q_t_pad, .int t_metAt, .int t_metWho, .int t_reason, .int t_acts, .ref q_t_had, .ref q_t_takes, .ref q_t_worths, .ref q_t_fitting, .ref q_t_wins, .ref q_t_ways, .ref q_t_image, .ref q_t_isKept])), (q_t_book, .inl (cI, 45, .inl t_book)), (q_t_now, .inl (cI, 45, .inl t_now))] → va_S A s.heap H locs → ∀ ls : Array Slot, lv_has ls 8 [(0, .ref q_t), (2, .int a2), (3, .int a3), (4, .int x4), (5, .int x5)] → W p l e ({ frames := 2, cells := 0, slots := 0, locals := 44 } : Room) s m args below meth c H locs 0 0 Q (F0 m 43 ls [])) :
    ∀ (x4 : Int32) (x5 : Int32) (x7 : Int32) (t_metAt : Int32) (t_metWho : Int32) (t_reason : Int32) (t_now : (Nat → Int32)), pX7_year_b218 t_shift t_kneels t_book a1 a2 a3 post k43 x4 x5 x7 t_metAt t_metWho t_reason t_now → ∀ (H : Heap) (locs : List Loc), va_P D vwCl [(q_t, .inr (7, [.ref q_t_book, .ref q_t_now, .int t_shift, .int t_kneels, .int t_sights, .ref q_t_sight, .int t_signs, .ref q_t_pad, .int t_metAt, .int t_metWho, .int t_reason, .int t_acts, .ref q_t_had, .ref q_t_takes, .ref q_t_worths, .ref q_t_fitting, .ref q_t_wins, .ref q_t_ways, .ref q_t_image, .ref q_t_isKept])), (q_t_book, .inl (cI, 45, .inl t_book)), (q_t_now, .inl (cI, 45, .inl t_now))] H → va_D A [(q_t, .inr (7, [.ref q_t_book, .ref q_t_now, .int t_shift, .int t_kneels, .int t_sights, .ref q_t_sight, .int t_signs, .ref q_t_pad, .int t_metAt, .int t_metWho, .int t_reason, .int t_acts, .ref q_t_had, .ref q_t_takes, .ref q_t_worths, .ref q_t_fitting, .ref q_t_wins, .ref q_t_ways, .ref q_t_image, .ref q_t_isKept])), (q_t_book, .inl (cI, 45, .inl t_book)), (q_t_now, .inl (cI, 45, .inl t_now))] → va_S A s.heap H locs → ∀ ls : Array Slot, lv_has ls 8 [(0, .ref q_t), (2, .int a2), (3, .int a3), (4, .int x4), (5, .int x5), (7, .int x7)] → W p l e ({ frames := 2, cells := 0, slots := 0, locals := 44 } : Room) s m args below meth c H locs 0 0 Q (F0 m 218 ls []) := by
  obtain ⟨hx, hb, hml, hown, hts⟩ := id C0
  intro x4 x5 x7 t_metAt t_metWho t_reason t_now hf H locs hP hD hS ls hl
  unfold pX7_year_b218 at hf
  refine lv_aload_n hx hb dX7_year_218 rfl (lv_at hl 0 rfl) ?_
  refine lv_aload_n hx hb dX7_year_219 rfl (lv_at hl 0 rfl) ?_
  refine lv_iconst (v := 1) hx hb dX7_year_220 (by decide) ?_
  refine lv_iload hx hb dX7_year_221 (lv_at hl 5 rfl) ?_
  refine lv_bipush (v := 9) hx hb dX7_year_223 (by decide) ?_
  refine lv_irem hx hb dX7_year_225 (by decide) ?_
  refine lv_iadd hx hb dX7_year_226 ?_
  refine lv_iload hx hb dX7_year_227 (lv_at hl 3 rfl) ?_
  refine lv_bipush (v := 6) hx hb dX7_year_229 (by decide) ?_
  refine lv_idiv hx hb dX7_year_231 (by decide) ?_
  refine lv_bipush (v := 8) hx hb dX7_year_232 (by decide) ?_
  refine lv_irem hx hb dX7_year_234 (by decide) ?_
  refine lv_iconst (v := 5) hx hb dX7_year_235 (by decide) ?_
  refine lv_icmp_ne (tgt := 243) hx hb dX7_year_236 (by decide) (fun c1 => ?_) (fun c1 => ?_)
  · have hf := hf.1 c1
    refine lv_bipush (v := 24) hx hb dX7_year_243 (by decide) ?_
    exact wX7_year_b245 C0 hN hK hA q_t q_t_book q_t_now q_t_sight q_t_pad q_t_had q_t_takes q_t_worths q_t_fitting q_t_wins q_t_ways q_t_image q_t_isKept t_sights t_signs t_acts t_shift t_kneels t_book a1 a2 a3 post hret _ hk43 x4 x5 24 (1 + (x7 - x7 / 9 * 9)) t_metAt t_metWho t_reason t_now hf H locs hP hD hS ls (lv_sub hl [0, 1, 2, 3, 4] rfl)
  · have hf := hf.2 c1
    refine lv_iconst (v := 1) hx hb dX7_year_239 (by decide) ?_
    refine lv_goto (tgt := 245) hx hb dX7_year_240 (by decide) ?_
    exact wX7_year_b245 C0 hN hK hA q_t q_t_book q_t_now q_t_sight q_t_pad q_t_had q_t_takes q_t_worths q_t_fitting q_t_wins q_t_ways q_t_image q_t_isKept t_sights t_signs t_acts t_shift t_kneels t_book a1 a2 a3 post hret _ hk43 x4 x5 1 (1 + (x7 - x7 / 9 * 9)) t_metAt t_metWho t_reason t_now hf H locs hP hD hS ls (lv_sub hl [0, 1, 2, 3, 4] rfl)

def pX7_year_b43 (t_shift : Int32) (t_kneels : Int32) (t_book : (Nat → Int32)) (a1 : Int32) (a2 : Int32) (a3 : Int32) (post : Int32 → (Int32 × Int32 × Int32 × (Nat → Int32)) → Prop) : Nat → Int32 → Int32 → Int32 → Int32 → Int32 → (Nat → Int32) → Prop
  | 0 => fun _ _ _ _ _ _ => False
  | n + 1 => fun x4 x5 t_metAt t_metWho t_reason t_now => (a2 ≤ x5 → ((¬ a3 = 0 → ((¬ a3 = 1 → (post (t_now 44) (t_metAt, t_metWho, t_reason, t_now))) ∧ (a3 = 1 → (pX7_lying t_now (fun r4 => post r4 (t_metAt, t_metWho, t_reason, t_now)))))) ∧ (a3 = 0 → (pX7_within t_now (fun r5 => pX7_bits r5 (fun r6 => post r6 (t_metAt, t_metWho, t_reason, t_now))))))) ∧ (¬ a2 ≤ x5 → (∀ v7 : Int32, v7 = (((75 * x4) + 74) - ((75 * x4) + 74) / 65537 * 65537) → (∀ v8 : Int32, v8 = (v7 - v7 / 6 * 6) → (∀ v9 : Int32, v9 = (v7 / 48) → (∀ v10 : Int32, v10 = ((v7 / 6) - (v7 / 6) / 8 * 8) → ((v10 = 0 → (pX7_stepOver t_shift t_kneels t_now v8 (fun (r12 : Int32) (u13 : (Nat → Int32)) => ∀ v14 : Int32, v14 = x5 + 1 → (pX7_year_b43 t_shift t_kneels t_book a1 a2 a3 post  n v7 v14 t_metAt t_metWho r12 u13)))) ∧ ((v10 = 1 → ((¬ (v9 - v9 / 4 * 4) = 0 → (pX7_walk t_shift t_now v8 1 (fun (r17 : Int32) (u18 : (Nat → Int32)) => ∀ v19 : Int32, v19 = x5 + 1 → (pX7_year_b43 t_shift t_kneels t_book a1 a2 a3 post  n v7 v19 t_metAt t_metWho r17 u18)))) ∧ ((v9 - v9 / 4 * 4) = 0 → (pX7_comeOut t_kneels t_now v8 (fun (r20 : Int32) (u21 : (Nat → Int32)) => ∀ v22 : Int32, v22 = x5 + 1 → (pX7_year_b43 t_shift t_kneels t_book a1 a2 a3 post  n v7 v22 t_metAt t_metWho r20 u21)))))) ∧ ((v10 = 2 → (pX7_walk t_shift t_now v8 (-1) (fun (r24 : Int32) (u25 : (Nat → Int32)) => ∀ v26 : Int32, v26 = x5 + 1 → (pX7_year_b43 t_shift t_kneels t_book a1 a2 a3 post  n v7 v26 t_metAt t_metWho r24 u25)))) ∧ ((v10 = 3 → (pX7_leave t_now v8 (1 + (v9 - v9 / 9 * 9)) (fun (r28 : Int32) (u29 : (Nat → Int32)) => ∀ v30 : Int32, v30 = x5 + 1 → (pX7_year_b43 t_shift t_kneels t_book a1 a2 a3 post  n v7 v30 t_metAt t_metWho r28 u29)))) ∧ ((v10 = 4 → (pX7_find t_now v8 (fun (r32 : Int32) (u33 : (Nat → Int32)) => ∀ v34 : Int32, v34 = x5 + 1 → (pX7_year_b43 t_shift t_kneels t_book a1 a2 a3 post  n v7 v34 t_metAt t_metWho r32 u33)))) ∧ ((v10 = 5 → (pX7_year_b218 t_shift t_kneels t_book a1 a2 a3 post (fun x4 x5 t_metAt t_metWho t_reason t_now => pX7_year_b43 t_shift t_kneels t_book a1 a2 a3 post  n x4 x5 t_metAt t_metWho t_reason t_now) v7 x5 v9 t_metAt t_metWho t_reason t_now)) ∧ ((v10 = 6 → (pX7_year_b218 t_shift t_kneels t_book a1 a2 a3 post (fun x4 x5 t_metAt t_metWho t_reason t_now => pX7_year_b43 t_shift t_kneels t_book a1 a2 a3 post  n x4 x5 t_metAt t_metWho t_reason t_now) v7 x5 v9 t_metAt t_metWho t_reason t_now)) ∧ ((¬ v10 = 0 → ¬ v10 = 1 → ¬ v10 = 2 → ¬ v10 = 3 → ¬ v10 = 4 → ¬ v10 = 5 → ¬ v10 = 6 → (pX7_nextTime t_kneels t_now (fun (r37 : Int32) (u38 : (Nat → Int32)) => ∀ v39 : Int32, v39 = x5 + 1 → (pX7_year_b43 t_shift t_kneels t_book a1 a2 a3 post  n v7 v39 t_metAt t_metWho r37 u38)))))))))))))))))

set_option maxHeartbeats 4000000 in
set_option maxRecDepth 100000 in
theorem wX7_year_b43 {p : Program} {l : Launch} {e : Env} {s : State} {m : MethodId} {args : Array Value} {below : List Frame} {meth : Method} {c : Code} {Q : State → Prop} {D : va_G} {cI cZ cJ cO : ClassId} {A : Nat → Prop} (C0 : CallFix p m c cX7_year 8 s args wsX7_year RX7) (hN : nw s) (hK : va_K D vwCl (tyL cI cZ cJ cO) s) (hA : ∀ q, s.heap.size ≤ q → A q) (q_t q_t_book q_t_now q_t_sight q_t_pad q_t_had q_t_takes q_t_worths q_t_fitting q_t_wins q_t_ways q_t_image q_t_isKept : Nat) (t_sights : Int32) (t_signs : Int32) (t_acts : Int32) (t_shift : Int32) (t_kneels : Int32) (t_book : (Nat → Int32)) (a1 : Int32) (a2 : Int32) (a3 : Int32) (post : Int32 → (Int32 × Int32 × Int32 × (Nat → Int32)) → Prop) (hret : hrI p l e ({ frames := 2, cells := 0, slots := 0, locals := 44 } : Room) s m args below meth c cX7_year D A Q post (fun u : Int32 × Int32 × Int32 × (Nat → Int32) => [(q_t, .inr (7, [.ref q_t_book, .ref q_t_now, .int t_shift, .int t_kneels, .int t_sights, .ref q_t_sight, .int t_signs, .ref q_t_pad, .int u.1, .int u.2.1, .int u.2.2.1, .int t_acts, .ref q_t_had, .ref q_t_takes, .ref q_t_worths, .ref q_t_fitting, .ref q_t_wins, .ref q_t_ways, .ref q_t_image, .ref q_t_isKept])), (q_t_book, .inl (cI, 45, .inl t_book)), (q_t_now, .inl (cI, 45, .inl u.2.2.2))])) :
    ∀ (n : Nat) (x4 : Int32) (x5 : Int32) (t_metAt : Int32) (t_metWho : Int32) (t_reason : Int32) (t_now : (Nat → Int32)), pX7_year_b43 t_shift t_kneels t_book a1 a2 a3 post n x4 x5 t_metAt t_metWho t_reason t_now → ∀ (H : Heap) (locs : List Loc), va_P D vwCl [(q_t, .inr (7, [.ref q_t_book, .ref q_t_now, .int t_shift, .int t_kneels, .int t_sights, .ref q_t_sight, .int t_signs, .ref q_t_pad, .int t_metAt, .int t_metWho, .int t_reason, .int t_acts, .ref q_t_had, .ref q_t_takes, .ref q_t_worths, .ref q_t_fitting, .ref q_t_wins, .ref q_t_ways, .ref q_t_image, .ref q_t_isKept])), (q_t_book, .inl (cI, 45, .inl t_book)), (q_t_now, .inl (cI, 45, .inl t_now))] H → va_D A [(q_t, .inr (7, [.ref q_t_book, .ref q_t_now, .int t_shift, .int t_kneels, .int t_sights, .ref q_t_sight, .int t_signs, .ref q_t_pad, .int t_metAt, .int t_metWho, .int t_reason, .int t_acts, .ref q_t_had, .ref q_t_takes, .ref q_t_worths, .ref q_t_fitting, .ref q_t_wins, .ref q_t_ways, .ref q_t_image, .ref q_t_isKept])), (q_t_book, .inl (cI, 45, .inl t_book)), (q_t_now, .inl (cI, 45, .inl t_now))] → va_S A s.heap H locs → ∀ ls : Array Slot, lv_has ls 8 [(0, .ref q_t), (2, .int a2), (3, .int a3), (4, .int x4), (5, .int x5)] → W p l e ({ frames := 2, cells := 0, slots := 0, locals := 44 } : Room) s m args below meth c H locs 0 0 Q (F0 m 43 ls []) := by
  obtain ⟨hx, hb, hml, hown, hts⟩ := id C0
  intro n
  induction n with
  | zero =>
    intro x4 x5 t_metAt t_metWho t_reason t_now hf
    exact False.elim hf
  | succ n ih =>
    intro x4 x5 t_metAt t_metWho t_reason t_now hf H locs hP hD hS ls hl
    rw [pX7_year_b43] at hf
    refine lv_iload hx hb dX7_year_43 (lv_at hl 4 rfl) ?_
    refine lv_iload_n hx hb dX7_year_45 rfl (lv_at hl 1 rfl) ?_
    refine lv_icmp_ge (tgt := 269) hx hb dX7_year_46 (by decide) (fun c1 => ?_) (fun c1 => ?_)
    · have hf := hf.1 c1
      refine lv_iload_n hx hb dX7_year_269 rfl (lv_at hl 2 rfl) ?_
      refine lv_if_ne (tgt := 283) hx hb dX7_year_270 (by decide) (fun c2 => ?_) (fun c2 => ?_)
      · have hf := hf.1 c2
        refine lv_iload_n hx hb dX7_year_283 rfl (lv_at hl 2 rfl) ?_
        refine lv_iconst (v := 1) hx hb dX7_year_284 (by decide) ?_
        refine lv_icmp_ne (tgt := 295) hx hb dX7_year_285 (by decide) (fun c3 => ?_) (fun c3 => ?_)
        · have hf := hf.1 c3
          refine lv_aload_n hx hb dX7_year_295 rfl (lv_at hl 0 rfl) ?_
          refine va_get (D := D) (ci := 7) (v := .ref q_t_now) (C := RX7) (T := TX7) (N := 20) hx hb hts nX7_year_X7 hown hK hP 0 rfl rfl 1 (by decide) (hts _ mX7_year_3) (fun _ h9 => h9) rfl dX7_year_296 ?_
          refine lv_bipush (v := 44) hx hb dX7_year_299 (by decide) ?_
          refine xa_iald hx hb hK hP 2 0 rfl rfl (j := 44) (by decide) (vpc rfl) dX7_year_301 ?_
          exact hret 302 ls H locs (t_now 44) (t_metAt, t_metWho, t_reason, t_now) dX7_year_302 hf hP hD hS
        · have hf := hf.2 c3
          refine lv_aload_n hx hb dX7_year_288 rfl (lv_at hl 0 rfl) ?_
          refine xs_i (va_runV (As := []) (rest := []) ⟨hx, hb, hml, hown, hts⟩ (kX7_lying l D cI cZ cJ cO q_t q_t_now q_t_book q_t_sight q_t_pad q_t_had q_t_takes q_t_worths q_t_fitting q_t_wins q_t_ways q_t_image q_t_isKept t_shift t_kneels t_sights t_signs t_metAt t_metWho t_reason t_acts t_now _ hf) (cwV 0 hts gX7_year_X7_lying rfl rfl rfl (by decide +kernel) ⟨Nat.le_of_ble_eq_true rfl, Nat.le_of_ble_eq_true rfl⟩) (B0_preV (ci := 7) (q0 := 0) hP rfl rfl (hP.sub (ws' := [(q_t, .inr (7, [.ref q_t_book, .ref q_t_now, .int t_shift, .int t_kneels, .int t_sights, .ref q_t_sight, .int t_signs, .ref q_t_pad, .int t_metAt, .int t_metWho, .int t_reason, .int t_acts, .ref q_t_had, .ref q_t_takes, .ref q_t_worths, .ref q_t_fitting, .ref q_t_wins, .ref q_t_ways, .ref q_t_image, .ref q_t_isKept])), (q_t_now, .inl (cI, 45, .inl t_now))]) [0, 2] rfl) hK hN) rfl rfl hl.1 rfl (lv_room (Nat.le_of_ble_eq_true rfl)) dX7_year_289 ⟨Nat.zero_le _, Nat.zero_le _⟩) (fun r4 hf => ?_)
          refine lv_goto (tgt := 302) hx hb dX7_year_292 (by decide) ?_
          exact hret 302 ls H locs r4 (t_metAt, t_metWho, t_reason, t_now) dX7_year_302 hf hP hD hS
      · have hf := hf.2 c2
        refine lv_aload_n hx hb dX7_year_273 rfl (lv_at hl 0 rfl) ?_
        refine xs_i (va_runV (As := []) (rest := []) ⟨hx, hb, hml, hown, hts⟩ (kX7_within l D cI cZ cJ cO q_t q_t_now q_t_book q_t_sight q_t_pad q_t_had q_t_takes q_t_worths q_t_fitting q_t_wins q_t_ways q_t_image q_t_isKept t_shift t_kneels t_sights t_signs t_metAt t_metWho t_reason t_acts t_now _ hf) (cwV 0 hts gX7_year_X7_within rfl rfl rfl (by decide +kernel) ⟨Nat.le_of_ble_eq_true rfl, Nat.le_of_ble_eq_true rfl⟩) (B0_preV (ci := 7) (q0 := 0) hP rfl rfl (hP.sub (ws' := [(q_t, .inr (7, [.ref q_t_book, .ref q_t_now, .int t_shift, .int t_kneels, .int t_sights, .ref q_t_sight, .int t_signs, .ref q_t_pad, .int t_metAt, .int t_metWho, .int t_reason, .int t_acts, .ref q_t_had, .ref q_t_takes, .ref q_t_worths, .ref q_t_fitting, .ref q_t_wins, .ref q_t_ways, .ref q_t_image, .ref q_t_isKept])), (q_t_now, .inl (cI, 45, .inl t_now))]) [0, 2] rfl) hK hN) rfl rfl hl.1 rfl (lv_room (Nat.le_of_ble_eq_true rfl)) dX7_year_274 ⟨Nat.zero_le _, Nat.zero_le _⟩) (fun r5 hf => ?_)
        refine xs_i (va_runS (As := [.int r5]) (rest := []) ⟨hx, hb, hml, hown, hts⟩ (kX7_bits l D cI cZ cJ cO r5 _ hf) (va_cwS 1 hts gX7_year_X7_bits rfl rfl rfl (by decide +kernel) ⟨Nat.le_of_ble_eq_true rfl, Nat.le_of_ble_eq_true rfl⟩) (B0_pre (hP.sub (ws' := []) [] rfl) hK hN) rfl rfl hl.1 rfl (lv_room (Nat.le_of_ble_eq_true rfl)) dX7_year_277 ⟨Nat.zero_le _, Nat.zero_le _⟩) (fun r6 hf => ?_)
        refine lv_goto (tgt := 302) hx hb dX7_year_280 (by decide) ?_
        exact hret 302 ls H locs r6 (t_metAt, t_metWho, t_reason, t_now) dX7_year_302 hf hP hD hS
    · have hf := hf.2 c1
      refine lv_bipush (v := 75) hx hb dX7_year_49 (by decide) ?_
      refine lv_iload hx hb dX7_year_51 (lv_at hl 3 rfl) ?_
      refine lv_imul hx hb dX7_year_53 ?_
      refine lv_bipush (v := 74) hx hb dX7_year_54 (by decide) ?_
      refine lv_iadd hx hb dX7_year_56 ?_
      refine lv_ldc (v := 65537) hx hb hown (hts _ mX7_year_1) dX7_year_57 ?_
      refine lv_irem hx hb dX7_year_59 (by decide) ?_
      refine lv_topi (fun v7 ev7 => ?_)
      have hf := hf v7 ev7
      refine lv_istore (lv' := [(4, .int v7), (0, .ref q_t), (2, .int a2), (3, .int a3), (5, .int x5)]) hx hb dX7_year_60 hl (by decide) rfl (fun ls hl => ?_)
      refine lv_iload hx hb dX7_year_62 (lv_at hl 0 rfl) ?_
      refine lv_bipush (v := 6) hx hb dX7_year_64 (by decide) ?_
      refine lv_irem hx hb dX7_year_66 (by decide) ?_
      refine lv_topi (fun v8 ev8 => ?_)
      have hf := hf v8 ev8
      refine lv_istore (lv' := [(6, .int v8), (4, .int v7), (0, .ref q_t), (2, .int a2), (3, .int a3), (5, .int x5)]) hx hb dX7_year_67 hl (by decide) rfl (fun ls hl => ?_)
      refine lv_iload hx hb dX7_year_69 (lv_at hl 1 rfl) ?_
      refine lv_bipush (v := 48) hx hb dX7_year_71 (by decide) ?_
      refine lv_idiv hx hb dX7_year_73 (by decide) ?_
      refine lv_topi (fun v9 ev9 => ?_)
      have hf := hf v9 ev9
      refine lv_istore (lv' := [(7, .int v9), (6, .int v8), (4, .int v7), (0, .ref q_t), (2, .int a2), (3, .int a3), (5, .int x5)]) hx hb dX7_year_74 hl (by decide) rfl (fun ls hl => ?_)
      refine lv_iload hx hb dX7_year_76 (lv_at hl 2 rfl) ?_
      refine lv_bipush (v := 6) hx hb dX7_year_78 (by decide) ?_
      refine lv_idiv hx hb dX7_year_80 (by decide) ?_
      refine lv_bipush (v := 8) hx hb dX7_year_81 (by decide) ?_
      refine lv_irem hx hb dX7_year_83 (by decide) ?_
      refine lv_topi (fun v10 ev10 => ?_)
      have hf := hf v10 ev10
      by_cases z11 : v10 = 0
      · have hf := hf.1 z11
        refine lv_tableIn (off := 44) (tgt := 128) hx hb dX7_year_84 (by rw [z11]; decide) (by rw [z11]; decide) (by rw [z11]; decide) (by decide) ?_
        refine lv_aload_n hx hb dX7_year_128 rfl (lv_at hl 3 rfl) ?_
        refine lv_aload_n hx hb dX7_year_129 rfl (lv_at hl 3 rfl) ?_
        refine lv_iload hx hb dX7_year_130 (lv_at hl 1 rfl) ?_
        refine xc_i (wr := [(q_t_book, .inl (cI, 45, .inl t_book))]) (va_runV (As := [.int v8]) (rest := [.ref q_t]) ⟨hx, hb, hml, hown, hts⟩ (kX7_stepOver l D cI cZ cJ cO q_t q_t_now q_t_book q_t_sight q_t_pad q_t_had q_t_takes q_t_worths q_t_fitting q_t_wins q_t_ways q_t_image q_t_isKept H.size t_sights t_signs t_metAt t_metWho t_reason t_acts t_shift t_kneels t_now v8 _ hf) (cwV 1 hts gX7_year_X7_stepOver rfl rfl rfl (by decide +kernel) ⟨Nat.le_of_ble_eq_true rfl, Nat.le_of_ble_eq_true rfl⟩) (B1_preV (ci := 7) (q0 := 0) hP rfl rfl (hP.sub (ws' := [(q_t, .inr (7, [.ref q_t_book, .ref q_t_now, .int t_shift, .int t_kneels, .int t_sights, .ref q_t_sight, .int t_signs, .ref q_t_pad, .int t_metAt, .int t_metWho, .int t_reason, .int t_acts, .ref q_t_had, .ref q_t_takes, .ref q_t_worths, .ref q_t_fitting, .ref q_t_wins, .ref q_t_ways, .ref q_t_image, .ref q_t_isKept])), (q_t_now, .inl (cI, 45, .inl t_now))]) [0, 2] rfl) hK hN (hD.sub (ws' := [(q_t, .inr (7, [.ref q_t_book, .ref q_t_now, .int t_shift, .int t_kneels, .int t_sights, .ref q_t_sight, .int t_signs, .ref q_t_pad, .int t_metAt, .int t_metWho, .int t_reason, .int t_acts, .ref q_t_had, .ref q_t_takes, .ref q_t_worths, .ref q_t_fitting, .ref q_t_wins, .ref q_t_ways, .ref q_t_image, .ref q_t_isKept])), (q_t_now, .inl (cI, 45, .inl t_now))]) [0, 2] (by decide) rfl)) rfl rfl hl.1 rfl (lv_room (Nat.le_of_ble_eq_true rfl)) dX7_year_132 ⟨Nat.zero_le _, Nat.zero_le _⟩) hP hD hS hA [0, 2] [1] rfl rfl (by decide) (by decide) (fun r12 u13 H locs hf hP hD hS => ?_)
        have hP : va_P D vwCl [(q_t_book, .inl (cI, 45, .inl t_book)), (q_t, .inr (7, [.ref q_t_book, .ref q_t_now, .int t_shift, .int t_kneels, .int t_sights, .ref q_t_sight, .int t_signs, .ref q_t_pad, .int t_metAt, .int t_metWho, .int t_reason, .int t_acts, .ref q_t_had, .ref q_t_takes, .ref q_t_worths, .ref q_t_fitting, .ref q_t_wins, .ref q_t_ways, .ref q_t_image, .ref q_t_isKept])), (q_t_now, .inl (cI, 45, .inl u13))] H := hP
        have hD : va_D A [(q_t_book, .inl (cI, 45, .inl t_book)), (q_t, .inr (7, [.ref q_t_book, .ref q_t_now, .int t_shift, .int t_kneels, .int t_sights, .ref q_t_sight, .int t_signs, .ref q_t_pad, .int t_metAt, .int t_metWho, .int t_reason, .int t_acts, .ref q_t_had, .ref q_t_takes, .ref q_t_worths, .ref q_t_fitting, .ref q_t_wins, .ref q_t_ways, .ref q_t_image, .ref q_t_isKept])), (q_t_now, .inl (cI, 45, .inl u13))] := hD
        refine va_put (D := D) (ci := 7) (v := .int r12) (ty := .int) (C := RX7) (T := TX7) (N := 20) hx hb hts nX7_year_X7 tyX7 tyX7_ok nmX7 hown hK hP hD hS 1 rfl rfl 10 (by decide) (hts _ mX7_year_2) (fun _ h9 => h9) rfl (by decide +kernel) rfl rfl (Nat.le_of_ble_eq_true rfl) dX7_year_135 (fun H locs hP hD hS => ?_)
        have hP : va_P D vwCl [(q_t_book, .inl (cI, 45, .inl t_book)), (q_t, .inr (7, [.ref q_t_book, .ref q_t_now, .int t_shift, .int t_kneels, .int t_sights, .ref q_t_sight, .int t_signs, .ref q_t_pad, .int t_metAt, .int t_metWho, .int r12, .int t_acts, .ref q_t_had, .ref q_t_takes, .ref q_t_worths, .ref q_t_fitting, .ref q_t_wins, .ref q_t_ways, .ref q_t_image, .ref q_t_isKept])), (q_t_now, .inl (cI, 45, .inl u13))] H := hP
        have hD : va_D A [(q_t_book, .inl (cI, 45, .inl t_book)), (q_t, .inr (7, [.ref q_t_book, .ref q_t_now, .int t_shift, .int t_kneels, .int t_sights, .ref q_t_sight, .int t_signs, .ref q_t_pad, .int t_metAt, .int t_metWho, .int r12, .int t_acts, .ref q_t_had, .ref q_t_takes, .ref q_t_worths, .ref q_t_fitting, .ref q_t_wins, .ref q_t_ways, .ref q_t_image, .ref q_t_isKept])), (q_t_now, .inl (cI, 45, .inl u13))] := hD
        refine lv_goto (tgt := 263) hx hb dX7_year_138 (by decide) ?_
        obtain ⟨v14, ev14⟩ : ∃ y : Int32, y = x5 + 1 := ⟨_, rfl⟩
        have hf := hf v14 ev14
        refine lv_iinc (v := v14) (lv' := [(5, .int v14), (7, .int v9), (6, .int v8), (4, .int v7), (0, .ref q_t), (2, .int a2), (3, .int a3)]) hx hb dX7_year_263 hl (k := 6) rfl (by rw [ev14]; rfl) (by decide) rfl (fun ls hl => ?_)
        refine lv_goto (tgt := 43) hx hb dX7_year_266 (by decide) ?_
        exact ih v7 v14 t_metAt t_metWho r12 u13 hf H locs (hP.sub [1, 0, 2] rfl) (hD.sub [1, 0, 2] (by decide) rfl) hS ls (lv_sub hl [4, 5, 6, 3, 0] rfl)
      · have hf := hf.2
        by_cases z15 : v10 = 1
        · have hf := hf.1 z15
          refine lv_tableIn (off := 57) (tgt := 141) hx hb dX7_year_84 (by rw [z15]; decide) (by rw [z15]; decide) (by rw [z15]; decide) (by decide) ?_
          refine lv_aload_n hx hb dX7_year_141 rfl (lv_at hl 3 rfl) ?_
          refine lv_iload hx hb dX7_year_142 (lv_at hl 0 rfl) ?_
          refine lv_iconst (v := 4) hx hb dX7_year_144 (by decide) ?_
          refine lv_irem hx hb dX7_year_145 (by decide) ?_
          refine lv_if_ne (tgt := 158) hx hb dX7_year_146 (by decide) (fun c16 => ?_) (fun c16 => ?_)
          · have hf := hf.1 c16
            refine lv_aload_n hx hb dX7_year_158 rfl (lv_at hl 3 rfl) ?_
            refine lv_iload hx hb dX7_year_159 (lv_at hl 1 rfl) ?_
            refine lv_iconst (v := 1) hx hb dX7_year_161 (by decide) ?_
            refine xc_i (wr := [(q_t_book, .inl (cI, 45, .inl t_book))]) (va_runV (As := [.int v8, .int 1]) (rest := [.ref q_t]) ⟨hx, hb, hml, hown, hts⟩ (kX7_walk l D cI cZ cJ cO q_t q_t_now q_t_book q_t_sight q_t_pad q_t_had q_t_takes q_t_worths q_t_fitting q_t_wins q_t_ways q_t_image q_t_isKept H.size t_kneels t_sights t_signs t_metAt t_metWho t_reason t_acts t_shift t_now v8 1 _ hf) (cwV 2 hts gX7_year_X7_walk rfl rfl rfl (by decide +kernel) ⟨Nat.le_of_ble_eq_true rfl, Nat.le_of_ble_eq_true rfl⟩) (B1_preV (ci := 7) (q0 := 0) hP rfl rfl (hP.sub (ws' := [(q_t, .inr (7, [.ref q_t_book, .ref q_t_now, .int t_shift, .int t_kneels, .int t_sights, .ref q_t_sight, .int t_signs, .ref q_t_pad, .int t_metAt, .int t_metWho, .int t_reason, .int t_acts, .ref q_t_had, .ref q_t_takes, .ref q_t_worths, .ref q_t_fitting, .ref q_t_wins, .ref q_t_ways, .ref q_t_image, .ref q_t_isKept])), (q_t_now, .inl (cI, 45, .inl t_now))]) [0, 2] rfl) hK hN (hD.sub (ws' := [(q_t, .inr (7, [.ref q_t_book, .ref q_t_now, .int t_shift, .int t_kneels, .int t_sights, .ref q_t_sight, .int t_signs, .ref q_t_pad, .int t_metAt, .int t_metWho, .int t_reason, .int t_acts, .ref q_t_had, .ref q_t_takes, .ref q_t_worths, .ref q_t_fitting, .ref q_t_wins, .ref q_t_ways, .ref q_t_image, .ref q_t_isKept])), (q_t_now, .inl (cI, 45, .inl t_now))]) [0, 2] (by decide) rfl)) rfl rfl hl.1 rfl (lv_room (Nat.le_of_ble_eq_true rfl)) dX7_year_162 ⟨Nat.zero_le _, Nat.zero_le _⟩) hP hD hS hA [0, 2] [1] rfl rfl (by decide) (by decide) (fun r17 u18 H locs hf hP hD hS => ?_)
            have hP : va_P D vwCl [(q_t_book, .inl (cI, 45, .inl t_book)), (q_t, .inr (7, [.ref q_t_book, .ref q_t_now, .int t_shift, .int t_kneels, .int t_sights, .ref q_t_sight, .int t_signs, .ref q_t_pad, .int t_metAt, .int t_metWho, .int t_reason, .int t_acts, .ref q_t_had, .ref q_t_takes, .ref q_t_worths, .ref q_t_fitting, .ref q_t_wins, .ref q_t_ways, .ref q_t_image, .ref q_t_isKept])), (q_t_now, .inl (cI, 45, .inl u18))] H := hP
            have hD : va_D A [(q_t_book, .inl (cI, 45, .inl t_book)), (q_t, .inr (7, [.ref q_t_book, .ref q_t_now, .int t_shift, .int t_kneels, .int t_sights, .ref q_t_sight, .int t_signs, .ref q_t_pad, .int t_metAt, .int t_metWho, .int t_reason, .int t_acts, .ref q_t_had, .ref q_t_takes, .ref q_t_worths, .ref q_t_fitting, .ref q_t_wins, .ref q_t_ways, .ref q_t_image, .ref q_t_isKept])), (q_t_now, .inl (cI, 45, .inl u18))] := hD
            refine va_put (D := D) (ci := 7) (v := .int r17) (ty := .int) (C := RX7) (T := TX7) (N := 20) hx hb hts nX7_year_X7 tyX7 tyX7_ok nmX7 hown hK hP hD hS 1 rfl rfl 10 (by decide) (hts _ mX7_year_2) (fun _ h9 => h9) rfl (by decide +kernel) rfl rfl (Nat.le_of_ble_eq_true rfl) dX7_year_165 (fun H locs hP hD hS => ?_)
            have hP : va_P D vwCl [(q_t_book, .inl (cI, 45, .inl t_book)), (q_t, .inr (7, [.ref q_t_book, .ref q_t_now, .int t_shift, .int t_kneels, .int t_sights, .ref q_t_sight, .int t_signs, .ref q_t_pad, .int t_metAt, .int t_metWho, .int r17, .int t_acts, .ref q_t_had, .ref q_t_takes, .ref q_t_worths, .ref q_t_fitting, .ref q_t_wins, .ref q_t_ways, .ref q_t_image, .ref q_t_isKept])), (q_t_now, .inl (cI, 45, .inl u18))] H := hP
            have hD : va_D A [(q_t_book, .inl (cI, 45, .inl t_book)), (q_t, .inr (7, [.ref q_t_book, .ref q_t_now, .int t_shift, .int t_kneels, .int t_sights, .ref q_t_sight, .int t_signs, .ref q_t_pad, .int t_metAt, .int t_metWho, .int r17, .int t_acts, .ref q_t_had, .ref q_t_takes, .ref q_t_worths, .ref q_t_fitting, .ref q_t_wins, .ref q_t_ways, .ref q_t_image, .ref q_t_isKept])), (q_t_now, .inl (cI, 45, .inl u18))] := hD
            refine lv_goto (tgt := 263) hx hb dX7_year_168 (by decide) ?_
            obtain ⟨v19, ev19⟩ : ∃ y : Int32, y = x5 + 1 := ⟨_, rfl⟩
            have hf := hf v19 ev19
            refine lv_iinc (v := v19) (lv' := [(5, .int v19), (7, .int v9), (6, .int v8), (4, .int v7), (0, .ref q_t), (2, .int a2), (3, .int a3)]) hx hb dX7_year_263 hl (k := 6) rfl (by rw [ev19]; rfl) (by decide) rfl (fun ls hl => ?_)
            refine lv_goto (tgt := 43) hx hb dX7_year_266 (by decide) ?_
            exact ih v7 v19 t_metAt t_metWho r17 u18 hf H locs (hP.sub [1, 0, 2] rfl) (hD.sub [1, 0, 2] (by decide) rfl) hS ls (lv_sub hl [4, 5, 6, 3, 0] rfl)
          · have hf := hf.2 c16
            refine lv_aload_n hx hb dX7_year_149 rfl (lv_at hl 3 rfl) ?_
            refine lv_iload hx hb dX7_year_150 (lv_at hl 1 rfl) ?_
            refine xc_i (wr := [(q_t_book, .inl (cI, 45, .inl t_book))]) (va_runV (As := [.int v8]) (rest := [.ref q_t]) ⟨hx, hb, hml, hown, hts⟩ (kX7_comeOut l D cI cZ cJ cO q_t q_t_now q_t_book q_t_sight q_t_pad q_t_had q_t_takes q_t_worths q_t_fitting q_t_wins q_t_ways q_t_image q_t_isKept H.size t_shift t_sights t_signs t_metAt t_metWho t_reason t_acts t_kneels t_now v8 _ hf) (cwV 1 hts gX7_year_X7_comeOut rfl rfl rfl (by decide +kernel) ⟨Nat.le_of_ble_eq_true rfl, Nat.le_of_ble_eq_true rfl⟩) (B1_preV (ci := 7) (q0 := 0) hP rfl rfl (hP.sub (ws' := [(q_t, .inr (7, [.ref q_t_book, .ref q_t_now, .int t_shift, .int t_kneels, .int t_sights, .ref q_t_sight, .int t_signs, .ref q_t_pad, .int t_metAt, .int t_metWho, .int t_reason, .int t_acts, .ref q_t_had, .ref q_t_takes, .ref q_t_worths, .ref q_t_fitting, .ref q_t_wins, .ref q_t_ways, .ref q_t_image, .ref q_t_isKept])), (q_t_now, .inl (cI, 45, .inl t_now))]) [0, 2] rfl) hK hN (hD.sub (ws' := [(q_t, .inr (7, [.ref q_t_book, .ref q_t_now, .int t_shift, .int t_kneels, .int t_sights, .ref q_t_sight, .int t_signs, .ref q_t_pad, .int t_metAt, .int t_metWho, .int t_reason, .int t_acts, .ref q_t_had, .ref q_t_takes, .ref q_t_worths, .ref q_t_fitting, .ref q_t_wins, .ref q_t_ways, .ref q_t_image, .ref q_t_isKept])), (q_t_now, .inl (cI, 45, .inl t_now))]) [0, 2] (by decide) rfl)) rfl rfl hl.1 rfl (lv_room (Nat.le_of_ble_eq_true rfl)) dX7_year_152 ⟨Nat.zero_le _, Nat.zero_le _⟩) hP hD hS hA [0, 2] [1] rfl rfl (by decide) (by decide) (fun r20 u21 H locs hf hP hD hS => ?_)
            have hP : va_P D vwCl [(q_t_book, .inl (cI, 45, .inl t_book)), (q_t, .inr (7, [.ref q_t_book, .ref q_t_now, .int t_shift, .int t_kneels, .int t_sights, .ref q_t_sight, .int t_signs, .ref q_t_pad, .int t_metAt, .int t_metWho, .int t_reason, .int t_acts, .ref q_t_had, .ref q_t_takes, .ref q_t_worths, .ref q_t_fitting, .ref q_t_wins, .ref q_t_ways, .ref q_t_image, .ref q_t_isKept])), (q_t_now, .inl (cI, 45, .inl u21))] H := hP
            have hD : va_D A [(q_t_book, .inl (cI, 45, .inl t_book)), (q_t, .inr (7, [.ref q_t_book, .ref q_t_now, .int t_shift, .int t_kneels, .int t_sights, .ref q_t_sight, .int t_signs, .ref q_t_pad, .int t_metAt, .int t_metWho, .int t_reason, .int t_acts, .ref q_t_had, .ref q_t_takes, .ref q_t_worths, .ref q_t_fitting, .ref q_t_wins, .ref q_t_ways, .ref q_t_image, .ref q_t_isKept])), (q_t_now, .inl (cI, 45, .inl u21))] := hD
            refine lv_goto (tgt := 165) hx hb dX7_year_155 (by decide) ?_
            refine va_put (D := D) (ci := 7) (v := .int r20) (ty := .int) (C := RX7) (T := TX7) (N := 20) hx hb hts nX7_year_X7 tyX7 tyX7_ok nmX7 hown hK hP hD hS 1 rfl rfl 10 (by decide) (hts _ mX7_year_2) (fun _ h9 => h9) rfl (by decide +kernel) rfl rfl (Nat.le_of_ble_eq_true rfl) dX7_year_165 (fun H locs hP hD hS => ?_)
            have hP : va_P D vwCl [(q_t_book, .inl (cI, 45, .inl t_book)), (q_t, .inr (7, [.ref q_t_book, .ref q_t_now, .int t_shift, .int t_kneels, .int t_sights, .ref q_t_sight, .int t_signs, .ref q_t_pad, .int t_metAt, .int t_metWho, .int r20, .int t_acts, .ref q_t_had, .ref q_t_takes, .ref q_t_worths, .ref q_t_fitting, .ref q_t_wins, .ref q_t_ways, .ref q_t_image, .ref q_t_isKept])), (q_t_now, .inl (cI, 45, .inl u21))] H := hP
            have hD : va_D A [(q_t_book, .inl (cI, 45, .inl t_book)), (q_t, .inr (7, [.ref q_t_book, .ref q_t_now, .int t_shift, .int t_kneels, .int t_sights, .ref q_t_sight, .int t_signs, .ref q_t_pad, .int t_metAt, .int t_metWho, .int r20, .int t_acts, .ref q_t_had, .ref q_t_takes, .ref q_t_worths, .ref q_t_fitting, .ref q_t_wins, .ref q_t_ways, .ref q_t_image, .ref q_t_isKept])), (q_t_now, .inl (cI, 45, .inl u21))] := hD
            refine lv_goto (tgt := 263) hx hb dX7_year_168 (by decide) ?_
            obtain ⟨v22, ev22⟩ : ∃ y : Int32, y = x5 + 1 := ⟨_, rfl⟩
            have hf := hf v22 ev22
            refine lv_iinc (v := v22) (lv' := [(5, .int v22), (7, .int v9), (6, .int v8), (4, .int v7), (0, .ref q_t), (2, .int a2), (3, .int a3)]) hx hb dX7_year_263 hl (k := 6) rfl (by rw [ev22]; rfl) (by decide) rfl (fun ls hl => ?_)
            refine lv_goto (tgt := 43) hx hb dX7_year_266 (by decide) ?_
            exact ih v7 v22 t_metAt t_metWho r20 u21 hf H locs (hP.sub [1, 0, 2] rfl) (hD.sub [1, 0, 2] (by decide) rfl) hS ls (lv_sub hl [4, 5, 6, 3, 0] rfl)
        · have hf := hf.2
          by_cases z23 : v10 = 2
          · have hf := hf.1 z23
            refine lv_tableIn (off := 87) (tgt := 171) hx hb dX7_year_84 (by rw [z23]; decide) (by rw [z23]; decide) (by rw [z23]; decide) (by decide) ?_
            refine lv_aload_n hx hb dX7_year_171 rfl (lv_at hl 3 rfl) ?_
            refine lv_aload_n hx hb dX7_year_172 rfl (lv_at hl 3 rfl) ?_
            refine lv_iload hx hb dX7_year_173 (lv_at hl 1 rfl) ?_
            refine lv_iconst (v := (-1)) hx hb dX7_year_175 (by decide) ?_
            refine xc_i (wr := [(q_t_book, .inl (cI, 45, .inl t_book))]) (va_runV (As := [.int v8, .int (-1)]) (rest := [.ref q_t]) ⟨hx, hb, hml, hown, hts⟩ (kX7_walk l D cI cZ cJ cO q_t q_t_now q_t_book q_t_sight q_t_pad q_t_had q_t_takes q_t_worths q_t_fitting q_t_wins q_t_ways q_t_image q_t_isKept H.size t_kneels t_sights t_signs t_metAt t_metWho t_reason t_acts t_shift t_now v8 (-1) _ hf) (cwV 2 hts gX7_year_X7_walk rfl rfl rfl (by decide +kernel) ⟨Nat.le_of_ble_eq_true rfl, Nat.le_of_ble_eq_true rfl⟩) (B1_preV (ci := 7) (q0 := 0) hP rfl rfl (hP.sub (ws' := [(q_t, .inr (7, [.ref q_t_book, .ref q_t_now, .int t_shift, .int t_kneels, .int t_sights, .ref q_t_sight, .int t_signs, .ref q_t_pad, .int t_metAt, .int t_metWho, .int t_reason, .int t_acts, .ref q_t_had, .ref q_t_takes, .ref q_t_worths, .ref q_t_fitting, .ref q_t_wins, .ref q_t_ways, .ref q_t_image, .ref q_t_isKept])), (q_t_now, .inl (cI, 45, .inl t_now))]) [0, 2] rfl) hK hN (hD.sub (ws' := [(q_t, .inr (7, [.ref q_t_book, .ref q_t_now, .int t_shift, .int t_kneels, .int t_sights, .ref q_t_sight, .int t_signs, .ref q_t_pad, .int t_metAt, .int t_metWho, .int t_reason, .int t_acts, .ref q_t_had, .ref q_t_takes, .ref q_t_worths, .ref q_t_fitting, .ref q_t_wins, .ref q_t_ways, .ref q_t_image, .ref q_t_isKept])), (q_t_now, .inl (cI, 45, .inl t_now))]) [0, 2] (by decide) rfl)) rfl rfl hl.1 rfl (lv_room (Nat.le_of_ble_eq_true rfl)) dX7_year_176 ⟨Nat.zero_le _, Nat.zero_le _⟩) hP hD hS hA [0, 2] [1] rfl rfl (by decide) (by decide) (fun r24 u25 H locs hf hP hD hS => ?_)
            have hP : va_P D vwCl [(q_t_book, .inl (cI, 45, .inl t_book)), (q_t, .inr (7, [.ref q_t_book, .ref q_t_now, .int t_shift, .int t_kneels, .int t_sights, .ref q_t_sight, .int t_signs, .ref q_t_pad, .int t_metAt, .int t_metWho, .int t_reason, .int t_acts, .ref q_t_had, .ref q_t_takes, .ref q_t_worths, .ref q_t_fitting, .ref q_t_wins, .ref q_t_ways, .ref q_t_image, .ref q_t_isKept])), (q_t_now, .inl (cI, 45, .inl u25))] H := hP
            have hD : va_D A [(q_t_book, .inl (cI, 45, .inl t_book)), (q_t, .inr (7, [.ref q_t_book, .ref q_t_now, .int t_shift, .int t_kneels, .int t_sights, .ref q_t_sight, .int t_signs, .ref q_t_pad, .int t_metAt, .int t_metWho, .int t_reason, .int t_acts, .ref q_t_had, .ref q_t_takes, .ref q_t_worths, .ref q_t_fitting, .ref q_t_wins, .ref q_t_ways, .ref q_t_image, .ref q_t_isKept])), (q_t_now, .inl (cI, 45, .inl u25))] := hD
            refine va_put (D := D) (ci := 7) (v := .int r24) (ty := .int) (C := RX7) (T := TX7) (N := 20) hx hb hts nX7_year_X7 tyX7 tyX7_ok nmX7 hown hK hP hD hS 1 rfl rfl 10 (by decide) (hts _ mX7_year_2) (fun _ h9 => h9) rfl (by decide +kernel) rfl rfl (Nat.le_of_ble_eq_true rfl) dX7_year_179 (fun H locs hP hD hS => ?_)
            have hP : va_P D vwCl [(q_t_book, .inl (cI, 45, .inl t_book)), (q_t, .inr (7, [.ref q_t_book, .ref q_t_now, .int t_shift, .int t_kneels, .int t_sights, .ref q_t_sight, .int t_signs, .ref q_t_pad, .int t_metAt, .int t_metWho, .int r24, .int t_acts, .ref q_t_had, .ref q_t_takes, .ref q_t_worths, .ref q_t_fitting, .ref q_t_wins, .ref q_t_ways, .ref q_t_image, .ref q_t_isKept])), (q_t_now, .inl (cI, 45, .inl u25))] H := hP
            have hD : va_D A [(q_t_book, .inl (cI, 45, .inl t_book)), (q_t, .inr (7, [.ref q_t_book, .ref q_t_now, .int t_shift, .int t_kneels, .int t_sights, .ref q_t_sight, .int t_signs, .ref q_t_pad, .int t_metAt, .int t_metWho, .int r24, .int t_acts, .ref q_t_had, .ref q_t_takes, .ref q_t_worths, .ref q_t_fitting, .ref q_t_wins, .ref q_t_ways, .ref q_t_image, .ref q_t_isKept])), (q_t_now, .inl (cI, 45, .inl u25))] := hD
            refine lv_goto (tgt := 263) hx hb dX7_year_182 (by decide) ?_
            obtain ⟨v26, ev26⟩ : ∃ y : Int32, y = x5 + 1 := ⟨_, rfl⟩
            have hf := hf v26 ev26
            refine lv_iinc (v := v26) (lv' := [(5, .int v26), (7, .int v9), (6, .int v8), (4, .int v7), (0, .ref q_t), (2, .int a2), (3, .int a3)]) hx hb dX7_year_263 hl (k := 6) rfl (by rw [ev26]; rfl) (by decide) rfl (fun ls hl => ?_)
            refine lv_goto (tgt := 43) hx hb dX7_year_266 (by decide) ?_
            exact ih v7 v26 t_metAt t_metWho r24 u25 hf H locs (hP.sub [1, 0, 2] rfl) (hD.sub [1, 0, 2] (by decide) rfl) hS ls (lv_sub hl [4, 5, 6, 3, 0] rfl)
          · have hf := hf.2
            by_cases z27 : v10 = 3
            · have hf := hf.1 z27
              refine lv_tableIn (off := 101) (tgt := 185) hx hb dX7_year_84 (by rw [z27]; decide) (by rw [z27]; decide) (by rw [z27]; decide) (by decide) ?_
              refine lv_aload_n hx hb dX7_year_185 rfl (lv_at hl 3 rfl) ?_
              refine lv_aload_n hx hb dX7_year_186 rfl (lv_at hl 3 rfl) ?_
              refine lv_iload hx hb dX7_year_187 (lv_at hl 1 rfl) ?_
              refine lv_iconst (v := 1) hx hb dX7_year_189 (by decide) ?_
              refine lv_iload hx hb dX7_year_190 (lv_at hl 0 rfl) ?_
              refine lv_bipush (v := 9) hx hb dX7_year_192 (by decide) ?_
              refine lv_irem hx hb dX7_year_194 (by decide) ?_
              refine lv_iadd hx hb dX7_year_195 ?_
              refine xc_i (wr := [(q_t_book, .inl (cI, 45, .inl t_book))]) (va_runV (As := [.int v8, .int (1 + (v9 - v9 / 9 * 9))]) (rest := [.ref q_t]) ⟨hx, hb, hml, hown, hts⟩ (kX7_leave l D cI cZ cJ cO q_t q_t_now q_t_book q_t_sight q_t_pad q_t_had q_t_takes q_t_worths q_t_fitting q_t_wins q_t_ways q_t_image q_t_isKept H.size t_shift t_kneels t_sights t_signs t_metAt t_metWho t_reason t_acts t_now v8 (1 + (v9 - v9 / 9 * 9)) _ hf) (cwV 2 hts gX7_year_X7_leave rfl rfl rfl (by decide +kernel) ⟨Nat.le_of_ble_eq_true rfl, Nat.le_of_ble_eq_true rfl⟩) (B1_preV (ci := 7) (q0 := 0) hP rfl rfl (hP.sub (ws' := [(q_t, .inr (7, [.ref q_t_book, .ref q_t_now, .int t_shift, .int t_kneels, .int t_sights, .ref q_t_sight, .int t_signs, .ref q_t_pad, .int t_metAt, .int t_metWho, .int t_reason, .int t_acts, .ref q_t_had, .ref q_t_takes, .ref q_t_worths, .ref q_t_fitting, .ref q_t_wins, .ref q_t_ways, .ref q_t_image, .ref q_t_isKept])), (q_t_now, .inl (cI, 45, .inl t_now))]) [0, 2] rfl) hK hN (hD.sub (ws' := [(q_t, .inr (7, [.ref q_t_book, .ref q_t_now, .int t_shift, .int t_kneels, .int t_sights, .ref q_t_sight, .int t_signs, .ref q_t_pad, .int t_metAt, .int t_metWho, .int t_reason, .int t_acts, .ref q_t_had, .ref q_t_takes, .ref q_t_worths, .ref q_t_fitting, .ref q_t_wins, .ref q_t_ways, .ref q_t_image, .ref q_t_isKept])), (q_t_now, .inl (cI, 45, .inl t_now))]) [0, 2] (by decide) rfl)) rfl rfl hl.1 rfl (lv_room (Nat.le_of_ble_eq_true rfl)) dX7_year_196 ⟨Nat.zero_le _, Nat.zero_le _⟩) hP hD hS hA [0, 2] [1] rfl rfl (by decide) (by decide) (fun r28 u29 H locs hf hP hD hS => ?_)
              have hP : va_P D vwCl [(q_t_book, .inl (cI, 45, .inl t_book)), (q_t, .inr (7, [.ref q_t_book, .ref q_t_now, .int t_shift, .int t_kneels, .int t_sights, .ref q_t_sight, .int t_signs, .ref q_t_pad, .int t_metAt, .int t_metWho, .int t_reason, .int t_acts, .ref q_t_had, .ref q_t_takes, .ref q_t_worths, .ref q_t_fitting, .ref q_t_wins, .ref q_t_ways, .ref q_t_image, .ref q_t_isKept])), (q_t_now, .inl (cI, 45, .inl u29))] H := hP
              have hD : va_D A [(q_t_book, .inl (cI, 45, .inl t_book)), (q_t, .inr (7, [.ref q_t_book, .ref q_t_now, .int t_shift, .int t_kneels, .int t_sights, .ref q_t_sight, .int t_signs, .ref q_t_pad, .int t_metAt, .int t_metWho, .int t_reason, .int t_acts, .ref q_t_had, .ref q_t_takes, .ref q_t_worths, .ref q_t_fitting, .ref q_t_wins, .ref q_t_ways, .ref q_t_image, .ref q_t_isKept])), (q_t_now, .inl (cI, 45, .inl u29))] := hD
              refine va_put (D := D) (ci := 7) (v := .int r28) (ty := .int) (C := RX7) (T := TX7) (N := 20) hx hb hts nX7_year_X7 tyX7 tyX7_ok nmX7 hown hK hP hD hS 1 rfl rfl 10 (by decide) (hts _ mX7_year_2) (fun _ h9 => h9) rfl (by decide +kernel) rfl rfl (Nat.le_of_ble_eq_true rfl) dX7_year_199 (fun H locs hP hD hS => ?_)
              have hP : va_P D vwCl [(q_t_book, .inl (cI, 45, .inl t_book)), (q_t, .inr (7, [.ref q_t_book, .ref q_t_now, .int t_shift, .int t_kneels, .int t_sights, .ref q_t_sight, .int t_signs, .ref q_t_pad, .int t_metAt, .int t_metWho, .int r28, .int t_acts, .ref q_t_had, .ref q_t_takes, .ref q_t_worths, .ref q_t_fitting, .ref q_t_wins, .ref q_t_ways, .ref q_t_image, .ref q_t_isKept])), (q_t_now, .inl (cI, 45, .inl u29))] H := hP
              have hD : va_D A [(q_t_book, .inl (cI, 45, .inl t_book)), (q_t, .inr (7, [.ref q_t_book, .ref q_t_now, .int t_shift, .int t_kneels, .int t_sights, .ref q_t_sight, .int t_signs, .ref q_t_pad, .int t_metAt, .int t_metWho, .int r28, .int t_acts, .ref q_t_had, .ref q_t_takes, .ref q_t_worths, .ref q_t_fitting, .ref q_t_wins, .ref q_t_ways, .ref q_t_image, .ref q_t_isKept])), (q_t_now, .inl (cI, 45, .inl u29))] := hD
              refine lv_goto (tgt := 263) hx hb dX7_year_202 (by decide) ?_
              obtain ⟨v30, ev30⟩ : ∃ y : Int32, y = x5 + 1 := ⟨_, rfl⟩
              have hf := hf v30 ev30
              refine lv_iinc (v := v30) (lv' := [(5, .int v30), (7, .int v9), (6, .int v8), (4, .int v7), (0, .ref q_t), (2, .int a2), (3, .int a3)]) hx hb dX7_year_263 hl (k := 6) rfl (by rw [ev30]; rfl) (by decide) rfl (fun ls hl => ?_)
              refine lv_goto (tgt := 43) hx hb dX7_year_266 (by decide) ?_
              exact ih v7 v30 t_metAt t_metWho r28 u29 hf H locs (hP.sub [1, 0, 2] rfl) (hD.sub [1, 0, 2] (by decide) rfl) hS ls (lv_sub hl [4, 5, 6, 3, 0] rfl)
            · have hf := hf.2
              by_cases z31 : v10 = 4
              · have hf := hf.1 z31
                refine lv_tableIn (off := 121) (tgt := 205) hx hb dX7_year_84 (by rw [z31]; decide) (by rw [z31]; decide) (by rw [z31]; decide) (by decide) ?_
                refine lv_aload_n hx hb dX7_year_205 rfl (lv_at hl 3 rfl) ?_
                refine lv_aload_n hx hb dX7_year_206 rfl (lv_at hl 3 rfl) ?_
                refine lv_iload hx hb dX7_year_207 (lv_at hl 1 rfl) ?_
                refine xc_i (wr := [(q_t_book, .inl (cI, 45, .inl t_book))]) (va_runV (As := [.int v8]) (rest := [.ref q_t]) ⟨hx, hb, hml, hown, hts⟩ (kX7_find l D cI cZ cJ cO q_t q_t_now q_t_book q_t_sight q_t_pad q_t_had q_t_takes q_t_worths q_t_fitting q_t_wins q_t_ways q_t_image q_t_isKept H.size t_shift t_kneels t_sights t_signs t_metAt t_metWho t_reason t_acts t_now v8 _ hf) (cwV 1 hts gX7_year_X7_find rfl rfl rfl (by decide +kernel) ⟨Nat.le_of_ble_eq_true rfl, Nat.le_of_ble_eq_true rfl⟩) (B1_preV (ci := 7) (q0 := 0) hP rfl rfl (hP.sub (ws' := [(q_t, .inr (7, [.ref q_t_book, .ref q_t_now, .int t_shift, .int t_kneels, .int t_sights, .ref q_t_sight, .int t_signs, .ref q_t_pad, .int t_metAt, .int t_metWho, .int t_reason, .int t_acts, .ref q_t_had, .ref q_t_takes, .ref q_t_worths, .ref q_t_fitting, .ref q_t_wins, .ref q_t_ways, .ref q_t_image, .ref q_t_isKept])), (q_t_now, .inl (cI, 45, .inl t_now))]) [0, 2] rfl) hK hN (hD.sub (ws' := [(q_t, .inr (7, [.ref q_t_book, .ref q_t_now, .int t_shift, .int t_kneels, .int t_sights, .ref q_t_sight, .int t_signs, .ref q_t_pad, .int t_metAt, .int t_metWho, .int t_reason, .int t_acts, .ref q_t_had, .ref q_t_takes, .ref q_t_worths, .ref q_t_fitting, .ref q_t_wins, .ref q_t_ways, .ref q_t_image, .ref q_t_isKept])), (q_t_now, .inl (cI, 45, .inl t_now))]) [0, 2] (by decide) rfl)) rfl rfl hl.1 rfl (lv_room (Nat.le_of_ble_eq_true rfl)) dX7_year_209 ⟨Nat.zero_le _, Nat.zero_le _⟩) hP hD hS hA [0, 2] [1] rfl rfl (by decide) (by decide) (fun r32 u33 H locs hf hP hD hS => ?_)
                have hP : va_P D vwCl [(q_t_book, .inl (cI, 45, .inl t_book)), (q_t, .inr (7, [.ref q_t_book, .ref q_t_now, .int t_shift, .int t_kneels, .int t_sights, .ref q_t_sight, .int t_signs, .ref q_t_pad, .int t_metAt, .int t_metWho, .int t_reason, .int t_acts, .ref q_t_had, .ref q_t_takes, .ref q_t_worths, .ref q_t_fitting, .ref q_t_wins, .ref q_t_ways, .ref q_t_image, .ref q_t_isKept])), (q_t_now, .inl (cI, 45, .inl u33))] H := hP
                have hD : va_D A [(q_t_book, .inl (cI, 45, .inl t_book)), (q_t, .inr (7, [.ref q_t_book, .ref q_t_now, .int t_shift, .int t_kneels, .int t_sights, .ref q_t_sight, .int t_signs, .ref q_t_pad, .int t_metAt, .int t_metWho, .int t_reason, .int t_acts, .ref q_t_had, .ref q_t_takes, .ref q_t_worths, .ref q_t_fitting, .ref q_t_wins, .ref q_t_ways, .ref q_t_image, .ref q_t_isKept])), (q_t_now, .inl (cI, 45, .inl u33))] := hD
                refine va_put (D := D) (ci := 7) (v := .int r32) (ty := .int) (C := RX7) (T := TX7) (N := 20) hx hb hts nX7_year_X7 tyX7 tyX7_ok nmX7 hown hK hP hD hS 1 rfl rfl 10 (by decide) (hts _ mX7_year_2) (fun _ h9 => h9) rfl (by decide +kernel) rfl rfl (Nat.le_of_ble_eq_true rfl) dX7_year_212 (fun H locs hP hD hS => ?_)
                have hP : va_P D vwCl [(q_t_book, .inl (cI, 45, .inl t_book)), (q_t, .inr (7, [.ref q_t_book, .ref q_t_now, .int t_shift, .int t_kneels, .int t_sights, .ref q_t_sight, .int t_signs, .ref q_t_pad, .int t_metAt, .int t_metWho, .int r32, .int t_acts, .ref q_t_had, .ref q_t_takes, .ref q_t_worths, .ref q_t_fitting, .ref q_t_wins, .ref q_t_ways, .ref q_t_image, .ref q_t_isKept])), (q_t_now, .inl (cI, 45, .inl u33))] H := hP
                have hD : va_D A [(q_t_book, .inl (cI, 45, .inl t_book)), (q_t, .inr (7, [.ref q_t_book, .ref q_t_now, .int t_shift, .int t_kneels, .int t_sights, .ref q_t_sight, .int t_signs, .ref q_t_pad, .int t_metAt, .int t_metWho, .int r32, .int t_acts, .ref q_t_had, .ref q_t_takes, .ref q_t_worths, .ref q_t_fitting, .ref q_t_wins, .ref q_t_ways, .ref q_t_image, .ref q_t_isKept])), (q_t_now, .inl (cI, 45, .inl u33))] := hD
                refine lv_goto (tgt := 263) hx hb dX7_year_215 (by decide) ?_
                obtain ⟨v34, ev34⟩ : ∃ y : Int32, y = x5 + 1 := ⟨_, rfl⟩
                have hf := hf v34 ev34
                refine lv_iinc (v := v34) (lv' := [(5, .int v34), (7, .int v9), (6, .int v8), (4, .int v7), (0, .ref q_t), (2, .int a2), (3, .int a3)]) hx hb dX7_year_263 hl (k := 6) rfl (by rw [ev34]; rfl) (by decide) rfl (fun ls hl => ?_)
                refine lv_goto (tgt := 43) hx hb dX7_year_266 (by decide) ?_
                exact ih v7 v34 t_metAt t_metWho r32 u33 hf H locs (hP.sub [1, 0, 2] rfl) (hD.sub [1, 0, 2] (by decide) rfl) hS ls (lv_sub hl [4, 5, 6, 3, 0] rfl)
              · have hf := hf.2
                by_cases z35 : v10 = 5
                · have hf := hf.1 z35
                  refine lv_tableIn (off := 134) (tgt := 218) hx hb dX7_year_84 (by rw [z35]; decide) (by rw [z35]; decide) (by rw [z35]; decide) (by decide) ?_
                  exact wX7_year_b218 C0 hN hK hA q_t q_t_book q_t_now q_t_sight q_t_pad q_t_had q_t_takes q_t_worths q_t_fitting q_t_wins q_t_ways q_t_image q_t_isKept t_sights t_signs t_acts t_shift t_kneels t_book a1 a2 a3 post hret _ ih v7 x5 v9 t_metAt t_metWho t_reason t_now hf H locs hP hD hS ls (lv_sub hl [3, 4, 5, 2, 6, 0] rfl)
                · have hf := hf.2
                  by_cases z36 : v10 = 6
                  · have hf := hf.1 z36
                    refine lv_tableIn (off := 134) (tgt := 218) hx hb dX7_year_84 (by rw [z36]; decide) (by rw [z36]; decide) (by rw [z36]; decide) (by decide) ?_
                    exact wX7_year_b218 C0 hN hK hA q_t q_t_book q_t_now q_t_sight q_t_pad q_t_had q_t_takes q_t_worths q_t_fitting q_t_wins q_t_ways q_t_image q_t_isKept t_sights t_signs t_acts t_shift t_kneels t_book a1 a2 a3 post hret _ ih v7 x5 v9 t_metAt t_metWho t_reason t_now hf H locs hP hD hS ls (lv_sub hl [3, 4, 5, 2, 6, 0] rfl)
                  · have hf := hf.2
                    have hf := hf z11 z15 z23 z27 z31 z35 z36
                    refine lv_tableOut (tgt := 255) hx hb dX7_year_84 (by have yz11 := lv_neT (a := 0) z11 (by decide); have yz15 := lv_neT (a := 1) z15 (by decide); have yz23 := lv_neT (a := 2) z23 (by decide); have yz27 := lv_neT (a := 3) z27 (by decide); have yz31 := lv_neT (a := 4) z31 (by decide); have yz35 := lv_neT (a := 5) z35 (by decide); have yz36 := lv_neT (a := 6) z36 (by decide); omega) (by decide) ?_
                    refine lv_aload_n hx hb dX7_year_255 rfl (lv_at hl 3 rfl) ?_
                    refine lv_aload_n hx hb dX7_year_256 rfl (lv_at hl 3 rfl) ?_
                    refine xc_i (wr := [(q_t_book, .inl (cI, 45, .inl t_book))]) (va_runV (As := []) (rest := [.ref q_t]) ⟨hx, hb, hml, hown, hts⟩ (kX7_nextTime l D cI cZ cJ cO q_t q_t_now q_t_book q_t_sight q_t_pad q_t_had q_t_takes q_t_worths q_t_fitting q_t_wins q_t_ways q_t_image q_t_isKept H.size t_shift t_sights t_signs t_metAt t_metWho t_reason t_acts t_kneels t_now _ hf) (cwV 0 hts gX7_year_X7_nextTime rfl rfl rfl (by decide +kernel) ⟨Nat.le_of_ble_eq_true rfl, Nat.le_of_ble_eq_true rfl⟩) (B1_preV (ci := 7) (q0 := 0) hP rfl rfl (hP.sub (ws' := [(q_t, .inr (7, [.ref q_t_book, .ref q_t_now, .int t_shift, .int t_kneels, .int t_sights, .ref q_t_sight, .int t_signs, .ref q_t_pad, .int t_metAt, .int t_metWho, .int t_reason, .int t_acts, .ref q_t_had, .ref q_t_takes, .ref q_t_worths, .ref q_t_fitting, .ref q_t_wins, .ref q_t_ways, .ref q_t_image, .ref q_t_isKept])), (q_t_now, .inl (cI, 45, .inl t_now))]) [0, 2] rfl) hK hN (hD.sub (ws' := [(q_t, .inr (7, [.ref q_t_book, .ref q_t_now, .int t_shift, .int t_kneels, .int t_sights, .ref q_t_sight, .int t_signs, .ref q_t_pad, .int t_metAt, .int t_metWho, .int t_reason, .int t_acts, .ref q_t_had, .ref q_t_takes, .ref q_t_worths, .ref q_t_fitting, .ref q_t_wins, .ref q_t_ways, .ref q_t_image, .ref q_t_isKept])), (q_t_now, .inl (cI, 45, .inl t_now))]) [0, 2] (by decide) rfl)) rfl rfl hl.1 rfl (lv_room (Nat.le_of_ble_eq_true rfl)) dX7_year_257 ⟨Nat.zero_le _, Nat.zero_le _⟩) hP hD hS hA [0, 2] [1] rfl rfl (by decide) (by decide) (fun r37 u38 H locs hf hP hD hS => ?_)
                    have hP : va_P D vwCl [(q_t_book, .inl (cI, 45, .inl t_book)), (q_t, .inr (7, [.ref q_t_book, .ref q_t_now, .int t_shift, .int t_kneels, .int t_sights, .ref q_t_sight, .int t_signs, .ref q_t_pad, .int t_metAt, .int t_metWho, .int t_reason, .int t_acts, .ref q_t_had, .ref q_t_takes, .ref q_t_worths, .ref q_t_fitting, .ref q_t_wins, .ref q_t_ways, .ref q_t_image, .ref q_t_isKept])), (q_t_now, .inl (cI, 45, .inl u38))] H := hP
                    have hD : va_D A [(q_t_book, .inl (cI, 45, .inl t_book)), (q_t, .inr (7, [.ref q_t_book, .ref q_t_now, .int t_shift, .int t_kneels, .int t_sights, .ref q_t_sight, .int t_signs, .ref q_t_pad, .int t_metAt, .int t_metWho, .int t_reason, .int t_acts, .ref q_t_had, .ref q_t_takes, .ref q_t_worths, .ref q_t_fitting, .ref q_t_wins, .ref q_t_ways, .ref q_t_image, .ref q_t_isKept])), (q_t_now, .inl (cI, 45, .inl u38))] := hD
                    refine va_put (D := D) (ci := 7) (v := .int r37) (ty := .int) (C := RX7) (T := TX7) (N := 20) hx hb hts nX7_year_X7 tyX7 tyX7_ok nmX7 hown hK hP hD hS 1 rfl rfl 10 (by decide) (hts _ mX7_year_2) (fun _ h9 => h9) rfl (by decide +kernel) rfl rfl (Nat.le_of_ble_eq_true rfl) dX7_year_260 (fun H locs hP hD hS => ?_)
                    have hP : va_P D vwCl [(q_t_book, .inl (cI, 45, .inl t_book)), (q_t, .inr (7, [.ref q_t_book, .ref q_t_now, .int t_shift, .int t_kneels, .int t_sights, .ref q_t_sight, .int t_signs, .ref q_t_pad, .int t_metAt, .int t_metWho, .int r37, .int t_acts, .ref q_t_had, .ref q_t_takes, .ref q_t_worths, .ref q_t_fitting, .ref q_t_wins, .ref q_t_ways, .ref q_t_image, .ref q_t_isKept])), (q_t_now, .inl (cI, 45, .inl u38))] H := hP
                    have hD : va_D A [(q_t_book, .inl (cI, 45, .inl t_book)), (q_t, .inr (7, [.ref q_t_book, .ref q_t_now, .int t_shift, .int t_kneels, .int t_sights, .ref q_t_sight, .int t_signs, .ref q_t_pad, .int t_metAt, .int t_metWho, .int r37, .int t_acts, .ref q_t_had, .ref q_t_takes, .ref q_t_worths, .ref q_t_fitting, .ref q_t_wins, .ref q_t_ways, .ref q_t_image, .ref q_t_isKept])), (q_t_now, .inl (cI, 45, .inl u38))] := hD
                    obtain ⟨v39, ev39⟩ : ∃ y : Int32, y = x5 + 1 := ⟨_, rfl⟩
                    have hf := hf v39 ev39
                    refine lv_iinc (v := v39) (lv' := [(5, .int v39), (7, .int v9), (6, .int v8), (4, .int v7), (0, .ref q_t), (2, .int a2), (3, .int a3)]) hx hb dX7_year_263 hl (k := 6) rfl (by rw [ev39]; rfl) (by decide) rfl (fun ls hl => ?_)
                    refine lv_goto (tgt := 43) hx hb dX7_year_266 (by decide) ?_
                    exact ih v7 v39 t_metAt t_metWho r37 u38 hf H locs (hP.sub [1, 0, 2] rfl) (hD.sub [1, 0, 2] (by decide) rfl) hS ls (lv_sub hl [4, 5, 6, 3, 0] rfl)

def pX7_year (t_shift : Int32) (t_kneels : Int32) (t_metAt : Int32) (t_metWho : Int32) (t_reason : Int32) (t_book : (Nat → Int32)) (t_now : (Nat → Int32)) (a1 : Int32) (a2 : Int32) (a3 : Int32) (post : Int32 → (Int32 × Int32 × Int32 × (Nat → Int32)) → Prop) : Prop :=
  pX7_in a1 0 9999 (fun r1 => (r1 = 0 → (post (-2) (t_metAt, t_metWho, t_reason, t_now))) ∧ (¬ r1 = 0 → (pX7_in a2 1 99 (fun r3 => (r3 = 0 → (post (-2) (t_metAt, t_metWho, t_reason, t_now))) ∧ (¬ r3 = 0 → (pX7_in a3 0 2 (fun r5 => (¬ r5 = 0 → (pX7_asNow t_metAt t_metWho t_book t_now (fun (u8 : Int32 × Int32 × (Nat → Int32)) => ∃ n1, pX7_year_b43 t_shift t_kneels t_book a1 a2 a3 post  n1 a1 0 u8.1 u8.2.1 t_reason u8.2.2))) ∧ (r5 = 0 → (post (-2) (t_metAt, t_metWho, t_reason, t_now))))))))))

set_option maxHeartbeats 4000000 in
set_option maxRecDepth 100000 in
theorem kX7_year (l : Launch) (D : va_G) (cI cZ cJ cO : ClassId) (q_t q_t_book q_t_now q_t_sight q_t_pad q_t_had q_t_takes q_t_worths q_t_fitting q_t_wins q_t_ways q_t_image q_t_isKept : Nat) (sz : Nat) (t_sights : Int32) (t_signs : Int32) (t_acts : Int32) (t_shift : Int32) (t_kneels : Int32) (t_metAt : Int32) (t_metWho : Int32) (t_reason : Int32) (t_book : (Nat → Int32)) (t_now : (Nat → Int32)) (a1 : Int32) (a2 : Int32) (a3 : Int32) (post : Int32 → (Int32 × Int32 × Int32 × (Nat → Int32)) → Prop) (hf : pX7_year t_shift t_kneels t_metAt t_metWho t_reason t_book t_now a1 a2 a3 post) :
    Met l yX7_year wsX7_year ({ frames := 2, cells := 0, slots := 0, locals := 44 } : Room) (va_Pc [.ref q_t, .int a1, .int a2, .int a3] (B1 D (tyL cI cZ cJ cO) [(q_t, .inr (7, [.ref q_t_book, .ref q_t_now, .int t_shift, .int t_kneels, .int t_sights, .ref q_t_sight, .int t_signs, .ref q_t_pad, .int t_metAt, .int t_metWho, .int t_reason, .int t_acts, .ref q_t_had, .ref q_t_takes, .ref q_t_worths, .ref q_t_fitting, .ref q_t_wins, .ref q_t_ways, .ref q_t_image, .ref q_t_isKept])), (q_t_book, .inl (cI, 45, .inl t_book)), (q_t_now, .inl (cI, 45, .inl t_now))] sz)) (va_Qi post (fun u t => E1 D (va_A [(q_t, .inr (7, [.ref q_t_book, .ref q_t_now, .int t_shift, .int t_kneels, .int t_sights, .ref q_t_sight, .int t_signs, .ref q_t_pad, .int t_metAt, .int t_metWho, .int t_reason, .int t_acts, .ref q_t_had, .ref q_t_takes, .ref q_t_worths, .ref q_t_fitting, .ref q_t_wins, .ref q_t_ways, .ref q_t_image, .ref q_t_isKept])), (q_t_book, .inl (cI, 45, .inl t_book)), (q_t_now, .inl (cI, 45, .inl t_now))] sz) ((fun u : Int32 × Int32 × Int32 × (Nat → Int32) => [(q_t, .inr (7, [.ref q_t_book, .ref q_t_now, .int t_shift, .int t_kneels, .int t_sights, .ref q_t_sight, .int t_signs, .ref q_t_pad, .int u.1, .int u.2.1, .int u.2.2.1, .int t_acts, .ref q_t_had, .ref q_t_takes, .ref q_t_worths, .ref q_t_fitting, .ref q_t_wins, .ref q_t_ways, .ref q_t_image, .ref q_t_isKept])), (q_t_book, .inl (cI, 45, .inl t_book)), (q_t_now, .inl (cI, 45, .inl u.2.2.2))]) u) t) (va_A [(q_t, .inr (7, [.ref q_t_book, .ref q_t_now, .int t_shift, .int t_kneels, .int t_sights, .ref q_t_sight, .int t_signs, .ref q_t_pad, .int t_metAt, .int t_metWho, .int t_reason, .int t_acts, .ref q_t_had, .ref q_t_takes, .ref q_t_worths, .ref q_t_fitting, .ref q_t_wins, .ref q_t_ways, .ref q_t_image, .ref q_t_isKept])), (q_t_book, .inl (cI, 45, .inl t_book)), (q_t_now, .inl (cI, 45, .inl t_now))] sz)) 0 0 (va_A [(q_t, .inr (7, [.ref q_t_book, .ref q_t_now, .int t_shift, .int t_kneels, .int t_sights, .ref q_t_sight, .int t_signs, .ref q_t_pad, .int t_metAt, .int t_metWho, .int t_reason, .int t_acts, .ref q_t_had, .ref q_t_takes, .ref q_t_worths, .ref q_t_fitting, .ref q_t_wins, .ref q_t_ways, .ref q_t_image, .ref q_t_isKept])), (q_t_book, .inl (cI, 45, .inl t_book)), (q_t_now, .inl (cI, 45, .inl t_now))] sz) := by
  unfold pX7_year at hf
  refine xm_1i (own := RX7) (by decide) rfl rfl (Nat.le_of_ble_eq_true rfl) (fun p e s m args below meth c Q A C0 hN hK hA hret hP hD ls hl => ?_)
  obtain ⟨hx, hb, hml, hown, hts⟩ := id C0
  have hl : lv_has ls 8 [(0, .ref q_t), (1, .int a1), (2, .int a2), (3, .int a3)] := hl
  have hS : va_S A s.heap s.heap [] := va_S.rf
  obtain ⟨H, hHe⟩ : ∃ H, H = s.heap := ⟨_, rfl⟩
  obtain ⟨locs, hLe⟩ : ∃ L : List Loc, L = [] := ⟨_, rfl⟩
  rw [← hLe]
  rw [← hLe] at hS
  have hP : va_P D vwCl [(q_t, .inr (7, [.ref q_t_book, .ref q_t_now, .int t_shift, .int t_kneels, .int t_sights, .ref q_t_sight, .int t_signs, .ref q_t_pad, .int t_metAt, .int t_metWho, .int t_reason, .int t_acts, .ref q_t_had, .ref q_t_takes, .ref q_t_worths, .ref q_t_fitting, .ref q_t_wins, .ref q_t_ways, .ref q_t_image, .ref q_t_isKept])), (q_t_book, .inl (cI, 45, .inl t_book)), (q_t_now, .inl (cI, 45, .inl t_now))] H := by rw [hHe]; exact hP
  have hS : va_S A s.heap H locs := by rw [hHe]; exact hS
  suffices hgo : W p l e ({ frames := 2, cells := 0, slots := 0, locals := 44 } : Room) s m args below meth c H locs 0 0 Q (F0 m 0 ls []) by rw [← hHe]; exact hgo
  clear hHe hLe
  refine lv_iload_n hx hb dX7_year_0 rfl (lv_at hl 1 rfl) ?_
  refine lv_iconst (v := 0) hx hb dX7_year_1 (by decide) ?_
  refine lv_sipush (v := 9999) hx hb dX7_year_2 (by decide) ?_
  refine xs_i (va_runS (As := [.int a1, .int 0, .int 9999]) (rest := []) ⟨hx, hb, hml, hown, hts⟩ (kX7_in l D cI cZ cJ cO a1 0 9999 _ hf) (va_cwS 3 hts gX7_year_X7_in rfl rfl rfl (by decide +kernel) ⟨Nat.le_of_ble_eq_true rfl, Nat.le_of_ble_eq_true rfl⟩) (B0_pre (hP.sub (ws' := []) [] rfl) hK hN) rfl rfl hl.1 rfl (lv_room (Nat.le_of_ble_eq_true rfl)) dX7_year_5 ⟨Nat.zero_le _, Nat.zero_le _⟩) (fun r1 hf => ?_)
  refine lv_if_eq (tgt := 30) hx hb dX7_year_8 (by decide) (fun c2 => ?_) (fun c2 => ?_)
  · have hf := hf.1 c2
    refine lv_bipush (v := (-2)) hx hb dX7_year_30 (by decide) ?_
    exact hret 32 ls H locs (-2) (t_metAt, t_metWho, t_reason, t_now) dX7_year_32 hf hP hD hS
  · have hf := hf.2 c2
    refine lv_iload_n hx hb dX7_year_11 rfl (lv_at hl 2 rfl) ?_
    refine lv_iconst (v := 1) hx hb dX7_year_12 (by decide) ?_
    refine lv_bipush (v := 99) hx hb dX7_year_13 (by decide) ?_
    refine xs_i (va_runS (As := [.int a2, .int 1, .int 99]) (rest := []) ⟨hx, hb, hml, hown, hts⟩ (kX7_in l D cI cZ cJ cO a2 1 99 _ hf) (va_cwS 3 hts gX7_year_X7_in rfl rfl rfl (by decide +kernel) ⟨Nat.le_of_ble_eq_true rfl, Nat.le_of_ble_eq_true rfl⟩) (B0_pre (hP.sub (ws' := []) [] rfl) hK hN) rfl rfl hl.1 rfl (lv_room (Nat.le_of_ble_eq_true rfl)) dX7_year_15 ⟨Nat.zero_le _, Nat.zero_le _⟩) (fun r3 hf => ?_)
    refine lv_if_eq (tgt := 30) hx hb dX7_year_18 (by decide) (fun c4 => ?_) (fun c4 => ?_)
    · have hf := hf.1 c4
      refine lv_bipush (v := (-2)) hx hb dX7_year_30 (by decide) ?_
      exact hret 32 ls H locs (-2) (t_metAt, t_metWho, t_reason, t_now) dX7_year_32 hf hP hD hS
    · have hf := hf.2 c4
      refine lv_iload_n hx hb dX7_year_21 rfl (lv_at hl 3 rfl) ?_
      refine lv_iconst (v := 0) hx hb dX7_year_22 (by decide) ?_
      refine lv_iconst (v := 2) hx hb dX7_year_23 (by decide) ?_
      refine xs_i (va_runS (As := [.int a3, .int 0, .int 2]) (rest := []) ⟨hx, hb, hml, hown, hts⟩ (kX7_in l D cI cZ cJ cO a3 0 2 _ hf) (va_cwS 3 hts gX7_year_X7_in rfl rfl rfl (by decide +kernel) ⟨Nat.le_of_ble_eq_true rfl, Nat.le_of_ble_eq_true rfl⟩) (B0_pre (hP.sub (ws' := []) [] rfl) hK hN) rfl rfl hl.1 rfl (lv_room (Nat.le_of_ble_eq_true rfl)) dX7_year_24 ⟨Nat.zero_le _, Nat.zero_le _⟩) (fun r5 hf => ?_)
      refine lv_if_ne (tgt := 33) hx hb dX7_year_27 (by decide) (fun c6 => ?_) (fun c6 => ?_)
      · have hf := hf.1 c6
        refine lv_aload_n hx hb dX7_year_33 rfl (lv_at hl 0 rfl) ?_
        refine xc_v (wr := []) (va_runV (As := []) (rest := []) ⟨hx, hb, hml, hown, hts⟩ (kX7_asNow l D cI cZ cJ cO q_t q_t_book q_t_now q_t_sight q_t_pad q_t_had q_t_takes q_t_worths q_t_fitting q_t_wins q_t_ways q_t_image q_t_isKept H.size t_shift t_kneels t_sights t_signs t_reason t_acts t_metAt t_metWho t_book t_now _ hf) (cwV 0 hts gX7_year_X7_asNow rfl rfl rfl (by decide +kernel) ⟨Nat.le_of_ble_eq_true rfl, Nat.le_of_ble_eq_true rfl⟩) (B1_preV (ci := 7) (q0 := 0) hP rfl rfl (hP.sub (ws' := [(q_t, .inr (7, [.ref q_t_book, .ref q_t_now, .int t_shift, .int t_kneels, .int t_sights, .ref q_t_sight, .int t_signs, .ref q_t_pad, .int t_metAt, .int t_metWho, .int t_reason, .int t_acts, .ref q_t_had, .ref q_t_takes, .ref q_t_worths, .ref q_t_fitting, .ref q_t_wins, .ref q_t_ways, .ref q_t_image, .ref q_t_isKept])), (q_t_book, .inl (cI, 45, .inl t_book)), (q_t_now, .inl (cI, 45, .inl t_now))]) [0, 1, 2] rfl) hK hN (hD.sub (ws' := [(q_t, .inr (7, [.ref q_t_book, .ref q_t_now, .int t_shift, .int t_kneels, .int t_sights, .ref q_t_sight, .int t_signs, .ref q_t_pad, .int t_metAt, .int t_metWho, .int t_reason, .int t_acts, .ref q_t_had, .ref q_t_takes, .ref q_t_worths, .ref q_t_fitting, .ref q_t_wins, .ref q_t_ways, .ref q_t_image, .ref q_t_isKept])), (q_t_book, .inl (cI, 45, .inl t_book)), (q_t_now, .inl (cI, 45, .inl t_now))]) [0, 1, 2] (by decide) rfl)) rfl rfl hl.1 rfl (lv_room (Nat.le_of_ble_eq_true rfl)) dX7_year_34 ⟨Nat.zero_le _, Nat.zero_le _⟩) hP hD hS hA [0, 1, 2] [] rfl rfl (by decide) (by decide) (fun u8 H locs hf hP hD hS => ?_)
        have hP : va_P D vwCl [(q_t, .inr (7, [.ref q_t_book, .ref q_t_now, .int t_shift, .int t_kneels, .int t_sights, .ref q_t_sight, .int t_signs, .ref q_t_pad, .int u8.1, .int u8.2.1, .int t_reason, .int t_acts, .ref q_t_had, .ref q_t_takes, .ref q_t_worths, .ref q_t_fitting, .ref q_t_wins, .ref q_t_ways, .ref q_t_image, .ref q_t_isKept])), (q_t_book, .inl (cI, 45, .inl t_book)), (q_t_now, .inl (cI, 45, .inl u8.2.2))] H := hP
        have hD : va_D A [(q_t, .inr (7, [.ref q_t_book, .ref q_t_now, .int t_shift, .int t_kneels, .int t_sights, .ref q_t_sight, .int t_signs, .ref q_t_pad, .int u8.1, .int u8.2.1, .int t_reason, .int t_acts, .ref q_t_had, .ref q_t_takes, .ref q_t_worths, .ref q_t_fitting, .ref q_t_wins, .ref q_t_ways, .ref q_t_image, .ref q_t_isKept])), (q_t_book, .inl (cI, 45, .inl t_book)), (q_t_now, .inl (cI, 45, .inl u8.2.2))] := hD
        refine lv_iload_n hx hb dX7_year_37 rfl (lv_at hl 1 rfl) ?_
        refine lv_istore (lv' := [(4, .int a1), (0, .ref q_t), (1, .int a1), (2, .int a2), (3, .int a3)]) hx hb dX7_year_38 hl (by decide) rfl (fun ls hl => ?_)
        refine lv_iconst (v := 0) hx hb dX7_year_40 (by decide) ?_
        refine lv_istore (lv' := [(5, .int 0), (4, .int a1), (0, .ref q_t), (1, .int a1), (2, .int a2), (3, .int a3)]) hx hb dX7_year_41 hl (by decide) rfl (fun ls hl => ?_)
        obtain ⟨n1, hf⟩ := hf
        exact wX7_year_b43 C0 hN hK hA q_t q_t_book q_t_now q_t_sight q_t_pad q_t_had q_t_takes q_t_worths q_t_fitting q_t_wins q_t_ways q_t_image q_t_isKept t_sights t_signs t_acts t_shift t_kneels t_book a1 a2 a3 post hret   n1 a1 0 u8.1 u8.2.1 t_reason u8.2.2 hf H locs hP hD hS ls (lv_sub hl [2, 4, 5, 1, 0] rfl)
      · have hf := hf.2 c6
        refine lv_bipush (v := (-2)) hx hb dX7_year_30 (by decide) ?_
        exact hret 32 ls H locs (-2) (t_metAt, t_metWho, t_reason, t_now) dX7_year_32 hf hP hD hS

/-! X7_image -/
theorem mX7_image_1 : Cond.fieldLink RX7 49 "OxenKneelModel" "image" "[I" ∈ wsX7_image := List.mem_of_getElem? (i := 1) rfl
theorem mX7_image_4 : Cond.fieldLink RX7 16 "OxenKneelModel" "shift" "I" ∈ wsX7_image := List.mem_of_getElem? (i := 4) rfl
theorem mX7_image_5 : Cond.fieldLink RX7 20 "OxenKneelModel" "kneels" "I" ∈ wsX7_image := List.mem_of_getElem? (i := 5) rfl
theorem mX7_image_6 : Cond.fieldLink RX7 140 "OxenKneelModel" "sights" "I" ∈ wsX7_image := List.mem_of_getElem? (i := 6) rfl
theorem mX7_image_7 : Cond.fieldLink RX7 52 "OxenKneelModel" "isKept" "[Z" ∈ wsX7_image := List.mem_of_getElem? (i := 7) rfl
theorem mX7_image_3 : Cond.fieldLink RX7 23 "OxenKneelModel" "sight" "[I" ∈ wsX7_image := List.mem_of_getElem? (i := 3) rfl
theorem mX7_image_2 : Cond.fieldLink RX7 7 "OxenKneelModel" "book" "[I" ∈ wsX7_image := List.mem_of_getElem? (i := 2) rfl
theorem nX7_image_X7 : ∀ w ∈ wsX70, w ∈ wsX7_image := fun _ h => List.mem_cons_of_mem _ (List.mem_append_right _ h)
def pX7_image_b47 (t_shift : Int32) (t_kneels : Int32) (t_sights : Int32) (t_book : (Nat → Int32)) (t_sight : (Nat → Int32)) (a1 : Int32) (post : Int32 → ((Nat → Int32) × (Nat → Int32)) → Prop) : Nat → Int32 → Int32 → (Nat → Int32) → (Nat → Int32) → Prop
  | 0 => fun _ _ _ _ => False
  | n + 1 => fun x2 x3 t_image t_isKept => (16 ≤ x3 → (vp_in (x2 + 62) 140 ∧ (vp_in (x2 + 63) 140 ∧ (vp_in (x2 + 64) 140 ∧ (vp_in a1 2 ∧ (post 1 ((upd (upd (upd t_image (x2 + 62).toNatClampNeg t_shift) (x2 + 63).toNatClampNeg t_kneels) (x2 + 64).toNatClampNeg t_sights), (upd t_isKept a1.toNatClampNeg (vp_nar .boolean 1))))))))) ∧ (¬ 16 ≤ x3 → (vp_in x3 16 ∧ (∀ v7 : Int32, v7 = (t_sight x3.toNatClampNeg) → (vp_in ((x2 + 45) + x3) 140 ∧ (∀ v9 : Int32, v9 = x3 + 1 → (pX7_image_b47 t_shift t_kneels t_sights t_book t_sight a1 post  n x2 v9 (upd t_image ((x2 + 45) + x3).toNatClampNeg v7) t_isKept))))))

set_option maxHeartbeats 4000000 in
set_option maxRecDepth 100000 in
theorem wX7_image_b47 {p : Program} {l : Launch} {e : Env} {s : State} {m : MethodId} {args : Array Value} {below : List Frame} {meth : Method} {c : Code} {Q : State → Prop} {D : va_G} {cI cZ cJ cO : ClassId} {A : Nat → Prop} (C0 : CallFix p m c cX7_image 4 s args wsX7_image RX7) (hN : nw s) (hK : va_K D vwCl (tyL cI cZ cJ cO) s) (hA : ∀ q, s.heap.size ≤ q → A q) (q_t q_t_book q_t_sight q_t_image q_t_isKept q_t_now q_t_pad q_t_had q_t_takes q_t_worths q_t_fitting q_t_wins q_t_ways : Nat) (t_signs : Int32) (t_metAt : Int32) (t_metWho : Int32) (t_reason : Int32) (t_acts : Int32) (t_shift : Int32) (t_kneels : Int32) (t_sights : Int32) (t_book : (Nat → Int32)) (t_sight : (Nat → Int32)) (a1 : Int32) (post : Int32 → ((Nat → Int32) × (Nat → Int32)) → Prop) (hret : hrI p l e ({ frames := 1, cells := 0, slots := 0, locals := 22 } : Room) s m args below meth c cX7_image D A Q post (fun u : (Nat → Int32) × (Nat → Int32) => [(q_t, .inr (7, [.ref q_t_book, .ref q_t_now, .int t_shift, .int t_kneels, .int t_sights, .ref q_t_sight, .int t_signs, .ref q_t_pad, .int t_metAt, .int t_metWho, .int t_reason, .int t_acts, .ref q_t_had, .ref q_t_takes, .ref q_t_worths, .ref q_t_fitting, .ref q_t_wins, .ref q_t_ways, .ref q_t_image, .ref q_t_isKept])), (q_t_book, .inl (cI, 45, .inl t_book)), (q_t_sight, .inl (cI, 16, .inl t_sight)), (q_t_image, .inl (cI, 140, .inl u.1)), (q_t_isKept, .inl (cZ, 2, .inl u.2))])) :
    ∀ (n : Nat) (x2 : Int32) (x3 : Int32) (t_image : (Nat → Int32)) (t_isKept : (Nat → Int32)), pX7_image_b47 t_shift t_kneels t_sights t_book t_sight a1 post n x2 x3 t_image t_isKept → ∀ (H : Heap) (locs : List Loc), va_P D vwCl [(q_t, .inr (7, [.ref q_t_book, .ref q_t_now, .int t_shift, .int t_kneels, .int t_sights, .ref q_t_sight, .int t_signs, .ref q_t_pad, .int t_metAt, .int t_metWho, .int t_reason, .int t_acts, .ref q_t_had, .ref q_t_takes, .ref q_t_worths, .ref q_t_fitting, .ref q_t_wins, .ref q_t_ways, .ref q_t_image, .ref q_t_isKept])), (q_t_book, .inl (cI, 45, .inl t_book)), (q_t_sight, .inl (cI, 16, .inl t_sight)), (q_t_image, .inl (cI, 140, .inl t_image)), (q_t_isKept, .inl (cZ, 2, .inl t_isKept))] H → va_D A [(q_t, .inr (7, [.ref q_t_book, .ref q_t_now, .int t_shift, .int t_kneels, .int t_sights, .ref q_t_sight, .int t_signs, .ref q_t_pad, .int t_metAt, .int t_metWho, .int t_reason, .int t_acts, .ref q_t_had, .ref q_t_takes, .ref q_t_worths, .ref q_t_fitting, .ref q_t_wins, .ref q_t_ways, .ref q_t_image, .ref q_t_isKept])), (q_t_book, .inl (cI, 45, .inl t_book)), (q_t_sight, .inl (cI, 16, .inl t_sight)), (q_t_image, .inl (cI, 140, .inl t_image)), (q_t_isKept, .inl (cZ, 2, .inl t_isKept))] → va_S A s.heap H locs → ∀ ls : Array Slot, lv_has ls 4 [(0, .ref q_t), (1, .int a1), (2, .int x2), (3, .int x3)] → W p l e ({ frames := 1, cells := 0, slots := 0, locals := 22 } : Room) s m args below meth c H locs 0 0 Q (F0 m 47 ls []) := by
  obtain ⟨hx, hb, hml, hown, hts⟩ := id C0
  intro n
  induction n with
  | zero =>
    intro x2 x3 t_image t_isKept hf
    exact False.elim hf
  | succ n ih =>
    intro x2 x3 t_image t_isKept hf H locs hP hD hS ls hl
    rw [pX7_image_b47] at hf
    refine lv_iload_n hx hb dX7_image_47 rfl (lv_at hl 3 rfl) ?_
    refine lv_bipush (v := 16) hx hb dX7_image_48 (by decide) ?_
    refine lv_icmp_ge (tgt := 76) hx hb dX7_image_50 (by decide) (fun c1 => ?_) (fun c1 => ?_)
    · have hf := hf.1 c1
      refine lv_aload_n hx hb dX7_image_76 rfl (lv_at hl 0 rfl) ?_
      refine va_get (D := D) (ci := 7) (v := .ref q_t_image) (C := RX7) (T := TX7) (N := 20) hx hb hts nX7_image_X7 hown hK hP 0 rfl rfl 18 (by decide) (hts _ mX7_image_1) (fun _ h9 => h9) rfl dX7_image_77 ?_
      refine lv_iload_n hx hb dX7_image_80 rfl (lv_at hl 2 rfl) ?_
      refine lv_bipush (v := 62) hx hb dX7_image_81 (by decide) ?_
      refine lv_iadd hx hb dX7_image_83 ?_
      refine lv_aload_n hx hb dX7_image_84 rfl (lv_at hl 0 rfl) ?_
      refine va_get (D := D) (ci := 7) (v := .int t_shift) (C := RX7) (T := TX7) (N := 20) hx hb hts nX7_image_X7 hown hK hP 0 rfl rfl 2 (by decide) (hts _ mX7_image_4) (fun _ h9 => h9) rfl dX7_image_85 ?_
      have g2 := hf.1
      have hf := hf.2
      refine xa_iast hx hb hK hP hD hS 3 0 rfl rfl (j := (x2 + 62).toNatClampNeg) rfl g2 dX7_image_88 (fun H locs hP hD hS => ?_)
      have hP : va_P D vwCl [(q_t, .inr (7, [.ref q_t_book, .ref q_t_now, .int t_shift, .int t_kneels, .int t_sights, .ref q_t_sight, .int t_signs, .ref q_t_pad, .int t_metAt, .int t_metWho, .int t_reason, .int t_acts, .ref q_t_had, .ref q_t_takes, .ref q_t_worths, .ref q_t_fitting, .ref q_t_wins, .ref q_t_ways, .ref q_t_image, .ref q_t_isKept])), (q_t_book, .inl (cI, 45, .inl t_book)), (q_t_sight, .inl (cI, 16, .inl t_sight)), (q_t_image, .inl (cI, 140, .inl (upd t_image (x2 + 62).toNatClampNeg t_shift))), (q_t_isKept, .inl (cZ, 2, .inl t_isKept))] H := hP
      have hD : va_D A [(q_t, .inr (7, [.ref q_t_book, .ref q_t_now, .int t_shift, .int t_kneels, .int t_sights, .ref q_t_sight, .int t_signs, .ref q_t_pad, .int t_metAt, .int t_metWho, .int t_reason, .int t_acts, .ref q_t_had, .ref q_t_takes, .ref q_t_worths, .ref q_t_fitting, .ref q_t_wins, .ref q_t_ways, .ref q_t_image, .ref q_t_isKept])), (q_t_book, .inl (cI, 45, .inl t_book)), (q_t_sight, .inl (cI, 16, .inl t_sight)), (q_t_image, .inl (cI, 140, .inl (upd t_image (x2 + 62).toNatClampNeg t_shift))), (q_t_isKept, .inl (cZ, 2, .inl t_isKept))] := hD
      refine lv_aload_n hx hb dX7_image_89 rfl (lv_at hl 0 rfl) ?_
      refine va_get (D := D) (ci := 7) (v := .ref q_t_image) (C := RX7) (T := TX7) (N := 20) hx hb hts nX7_image_X7 hown hK hP 0 rfl rfl 18 (by decide) (hts _ mX7_image_1) (fun _ h9 => h9) rfl dX7_image_90 ?_
      refine lv_iload_n hx hb dX7_image_93 rfl (lv_at hl 2 rfl) ?_
      refine lv_bipush (v := 63) hx hb dX7_image_94 (by decide) ?_
      refine lv_iadd hx hb dX7_image_96 ?_
      refine lv_aload_n hx hb dX7_image_97 rfl (lv_at hl 0 rfl) ?_
      refine va_get (D := D) (ci := 7) (v := .int t_kneels) (C := RX7) (T := TX7) (N := 20) hx hb hts nX7_image_X7 hown hK hP 0 rfl rfl 3 (by decide) (hts _ mX7_image_5) (fun _ h9 => h9) rfl dX7_image_98 ?_
      have g3 := hf.1
      have hf := hf.2
      refine xa_iast hx hb hK hP hD hS 3 0 rfl rfl (j := (x2 + 63).toNatClampNeg) rfl g3 dX7_image_101 (fun H locs hP hD hS => ?_)
      have hP : va_P D vwCl [(q_t, .inr (7, [.ref q_t_book, .ref q_t_now, .int t_shift, .int t_kneels, .int t_sights, .ref q_t_sight, .int t_signs, .ref q_t_pad, .int t_metAt, .int t_metWho, .int t_reason, .int t_acts, .ref q_t_had, .ref q_t_takes, .ref q_t_worths, .ref q_t_fitting, .ref q_t_wins, .ref q_t_ways, .ref q_t_image, .ref q_t_isKept])), (q_t_book, .inl (cI, 45, .inl t_book)), (q_t_sight, .inl (cI, 16, .inl t_sight)), (q_t_image, .inl (cI, 140, .inl (upd (upd t_image (x2 + 62).toNatClampNeg t_shift) (x2 + 63).toNatClampNeg t_kneels))), (q_t_isKept, .inl (cZ, 2, .inl t_isKept))] H := hP
      have hD : va_D A [(q_t, .inr (7, [.ref q_t_book, .ref q_t_now, .int t_shift, .int t_kneels, .int t_sights, .ref q_t_sight, .int t_signs, .ref q_t_pad, .int t_metAt, .int t_metWho, .int t_reason, .int t_acts, .ref q_t_had, .ref q_t_takes, .ref q_t_worths, .ref q_t_fitting, .ref q_t_wins, .ref q_t_ways, .ref q_t_image, .ref q_t_isKept])), (q_t_book, .inl (cI, 45, .inl t_book)), (q_t_sight, .inl (cI, 16, .inl t_sight)), (q_t_image, .inl (cI, 140, .inl (upd (upd t_image (x2 + 62).toNatClampNeg t_shift) (x2 + 63).toNatClampNeg t_kneels))), (q_t_isKept, .inl (cZ, 2, .inl t_isKept))] := hD
      refine lv_aload_n hx hb dX7_image_102 rfl (lv_at hl 0 rfl) ?_
      refine va_get (D := D) (ci := 7) (v := .ref q_t_image) (C := RX7) (T := TX7) (N := 20) hx hb hts nX7_image_X7 hown hK hP 0 rfl rfl 18 (by decide) (hts _ mX7_image_1) (fun _ h9 => h9) rfl dX7_image_103 ?_
      refine lv_iload_n hx hb dX7_image_106 rfl (lv_at hl 2 rfl) ?_
      refine lv_bipush (v := 64) hx hb dX7_image_107 (by decide) ?_
      refine lv_iadd hx hb dX7_image_109 ?_
      refine lv_aload_n hx hb dX7_image_110 rfl (lv_at hl 0 rfl) ?_
      refine va_get (D := D) (ci := 7) (v := .int t_sights) (C := RX7) (T := TX7) (N := 20) hx hb hts nX7_image_X7 hown hK hP 0 rfl rfl 4 (by decide) (hts _ mX7_image_6) (fun _ h9 => h9) rfl dX7_image_111 ?_
      have g4 := hf.1
      have hf := hf.2
      refine xa_iast hx hb hK hP hD hS 3 0 rfl rfl (j := (x2 + 64).toNatClampNeg) rfl g4 dX7_image_114 (fun H locs hP hD hS => ?_)
      have hP : va_P D vwCl [(q_t, .inr (7, [.ref q_t_book, .ref q_t_now, .int t_shift, .int t_kneels, .int t_sights, .ref q_t_sight, .int t_signs, .ref q_t_pad, .int t_metAt, .int t_metWho, .int t_reason, .int t_acts, .ref q_t_had, .ref q_t_takes, .ref q_t_worths, .ref q_t_fitting, .ref q_t_wins, .ref q_t_ways, .ref q_t_image, .ref q_t_isKept])), (q_t_book, .inl (cI, 45, .inl t_book)), (q_t_sight, .inl (cI, 16, .inl t_sight)), (q_t_image, .inl (cI, 140, .inl (upd (upd (upd t_image (x2 + 62).toNatClampNeg t_shift) (x2 + 63).toNatClampNeg t_kneels) (x2 + 64).toNatClampNeg t_sights))), (q_t_isKept, .inl (cZ, 2, .inl t_isKept))] H := hP
      have hD : va_D A [(q_t, .inr (7, [.ref q_t_book, .ref q_t_now, .int t_shift, .int t_kneels, .int t_sights, .ref q_t_sight, .int t_signs, .ref q_t_pad, .int t_metAt, .int t_metWho, .int t_reason, .int t_acts, .ref q_t_had, .ref q_t_takes, .ref q_t_worths, .ref q_t_fitting, .ref q_t_wins, .ref q_t_ways, .ref q_t_image, .ref q_t_isKept])), (q_t_book, .inl (cI, 45, .inl t_book)), (q_t_sight, .inl (cI, 16, .inl t_sight)), (q_t_image, .inl (cI, 140, .inl (upd (upd (upd t_image (x2 + 62).toNatClampNeg t_shift) (x2 + 63).toNatClampNeg t_kneels) (x2 + 64).toNatClampNeg t_sights))), (q_t_isKept, .inl (cZ, 2, .inl t_isKept))] := hD
      refine lv_aload_n hx hb dX7_image_115 rfl (lv_at hl 0 rfl) ?_
      refine va_get (D := D) (ci := 7) (v := .ref q_t_isKept) (C := RX7) (T := TX7) (N := 20) hx hb hts nX7_image_X7 hown hK hP 0 rfl rfl 19 (by decide) (hts _ mX7_image_7) (fun _ h9 => h9) rfl dX7_image_116 ?_
      refine lv_iload_n hx hb dX7_image_119 rfl (lv_at hl 1 rfl) ?_
      refine lv_iconst (v := 1) hx hb dX7_image_120 (by decide) ?_
      have g5 := hf.1
      have hf := hf.2
      refine xa_zast hx hb hK hP hD hS 4 1 rfl rfl (j := a1.toNatClampNeg) rfl g5 dX7_image_121 (fun H locs hP hD hS => ?_)
      have hP : va_P D vwCl [(q_t, .inr (7, [.ref q_t_book, .ref q_t_now, .int t_shift, .int t_kneels, .int t_sights, .ref q_t_sight, .int t_signs, .ref q_t_pad, .int t_metAt, .int t_metWho, .int t_reason, .int t_acts, .ref q_t_had, .ref q_t_takes, .ref q_t_worths, .ref q_t_fitting, .ref q_t_wins, .ref q_t_ways, .ref q_t_image, .ref q_t_isKept])), (q_t_book, .inl (cI, 45, .inl t_book)), (q_t_sight, .inl (cI, 16, .inl t_sight)), (q_t_image, .inl (cI, 140, .inl (upd (upd (upd t_image (x2 + 62).toNatClampNeg t_shift) (x2 + 63).toNatClampNeg t_kneels) (x2 + 64).toNatClampNeg t_sights))), (q_t_isKept, .inl (cZ, 2, .inl (upd t_isKept a1.toNatClampNeg (vp_nar .boolean 1))))] H := hP
      have hD : va_D A [(q_t, .inr (7, [.ref q_t_book, .ref q_t_now, .int t_shift, .int t_kneels, .int t_sights, .ref q_t_sight, .int t_signs, .ref q_t_pad, .int t_metAt, .int t_metWho, .int t_reason, .int t_acts, .ref q_t_had, .ref q_t_takes, .ref q_t_worths, .ref q_t_fitting, .ref q_t_wins, .ref q_t_ways, .ref q_t_image, .ref q_t_isKept])), (q_t_book, .inl (cI, 45, .inl t_book)), (q_t_sight, .inl (cI, 16, .inl t_sight)), (q_t_image, .inl (cI, 140, .inl (upd (upd (upd t_image (x2 + 62).toNatClampNeg t_shift) (x2 + 63).toNatClampNeg t_kneels) (x2 + 64).toNatClampNeg t_sights))), (q_t_isKept, .inl (cZ, 2, .inl (upd t_isKept a1.toNatClampNeg (vp_nar .boolean 1))))] := hD
      refine lv_iconst (v := 1) hx hb dX7_image_122 (by decide) ?_
      exact hret 123 ls H locs 1 ((upd (upd (upd t_image (x2 + 62).toNatClampNeg t_shift) (x2 + 63).toNatClampNeg t_kneels) (x2 + 64).toNatClampNeg t_sights), (upd t_isKept a1.toNatClampNeg (vp_nar .boolean 1))) dX7_image_123 hf hP hD hS
    · have hf := hf.2 c1
      refine lv_aload_n hx hb dX7_image_53 rfl (lv_at hl 0 rfl) ?_
      refine va_get (D := D) (ci := 7) (v := .ref q_t_image) (C := RX7) (T := TX7) (N := 20) hx hb hts nX7_image_X7 hown hK hP 0 rfl rfl 18 (by decide) (hts _ mX7_image_1) (fun _ h9 => h9) rfl dX7_image_54 ?_
      refine lv_iload_n hx hb dX7_image_57 rfl (lv_at hl 2 rfl) ?_
      refine lv_bipush (v := 45) hx hb dX7_image_58 (by decide) ?_
      refine lv_iadd hx hb dX7_image_60 ?_
      refine lv_iload_n hx hb dX7_image_61 rfl (lv_at hl 3 rfl) ?_
      refine lv_iadd hx hb dX7_image_62 ?_
      refine lv_aload_n hx hb dX7_image_63 rfl (lv_at hl 0 rfl) ?_
      refine va_get (D := D) (ci := 7) (v := .ref q_t_sight) (C := RX7) (T := TX7) (N := 20) hx hb hts nX7_image_X7 hown hK hP 0 rfl rfl 5 (by decide) (hts _ mX7_image_3) (fun _ h9 => h9) rfl dX7_image_64 ?_
      refine lv_iload_n hx hb dX7_image_67 rfl (lv_at hl 3 rfl) ?_
      have g6 := hf.1
      have hf := hf.2
      refine xa_iald hx hb hK hP 2 0 rfl rfl (j := x3.toNatClampNeg) rfl g6 dX7_image_68 ?_
      refine lv_topi (fun v7 ev7 => ?_)
      have hf := hf v7 ev7
      have g8 := hf.1
      have hf := hf.2
      refine xa_iast hx hb hK hP hD hS 3 0 rfl rfl (j := ((x2 + 45) + x3).toNatClampNeg) rfl g8 dX7_image_69 (fun H locs hP hD hS => ?_)
      have hP : va_P D vwCl [(q_t, .inr (7, [.ref q_t_book, .ref q_t_now, .int t_shift, .int t_kneels, .int t_sights, .ref q_t_sight, .int t_signs, .ref q_t_pad, .int t_metAt, .int t_metWho, .int t_reason, .int t_acts, .ref q_t_had, .ref q_t_takes, .ref q_t_worths, .ref q_t_fitting, .ref q_t_wins, .ref q_t_ways, .ref q_t_image, .ref q_t_isKept])), (q_t_book, .inl (cI, 45, .inl t_book)), (q_t_sight, .inl (cI, 16, .inl t_sight)), (q_t_image, .inl (cI, 140, .inl (upd t_image ((x2 + 45) + x3).toNatClampNeg v7))), (q_t_isKept, .inl (cZ, 2, .inl t_isKept))] H := hP
      have hD : va_D A [(q_t, .inr (7, [.ref q_t_book, .ref q_t_now, .int t_shift, .int t_kneels, .int t_sights, .ref q_t_sight, .int t_signs, .ref q_t_pad, .int t_metAt, .int t_metWho, .int t_reason, .int t_acts, .ref q_t_had, .ref q_t_takes, .ref q_t_worths, .ref q_t_fitting, .ref q_t_wins, .ref q_t_ways, .ref q_t_image, .ref q_t_isKept])), (q_t_book, .inl (cI, 45, .inl t_book)), (q_t_sight, .inl (cI, 16, .inl t_sight)), (q_t_image, .inl (cI, 140, .inl (upd t_image ((x2 + 45) + x3).toNatClampNeg v7))), (q_t_isKept, .inl (cZ, 2, .inl t_isKept))] := hD
      obtain ⟨v9, ev9⟩ : ∃ y : Int32, y = x3 + 1 := ⟨_, rfl⟩
      have hf := hf v9 ev9
      refine lv_iinc (v := v9) (lv' := [(3, .int v9), (0, .ref q_t), (1, .int a1), (2, .int x2)]) hx hb dX7_image_70 hl (k := 3) rfl (by rw [ev9]; rfl) (by decide) rfl (fun ls hl => ?_)
      refine lv_goto (tgt := 47) hx hb dX7_image_73 (by decide) ?_
      exact ih x2 v9 (upd t_image ((x2 + 45) + x3).toNatClampNeg v7) t_isKept hf H locs hP hD hS ls (lv_sub hl [1, 2, 3, 0] rfl)

def pX7_image_b19 (t_shift : Int32) (t_kneels : Int32) (t_sights : Int32) (t_book : (Nat → Int32)) (t_sight : (Nat → Int32)) (a1 : Int32) (post : Int32 → ((Nat → Int32) × (Nat → Int32)) → Prop) : Nat → Int32 → Int32 → (Nat → Int32) → (Nat → Int32) → Prop
  | 0 => fun _ _ _ _ => False
  | n + 1 => fun x2 x3 t_image t_isKept => (45 ≤ x3 → (∃ n1, pX7_image_b47 t_shift t_kneels t_sights t_book t_sight a1 post  n1 x2 0 t_image t_isKept)) ∧ (¬ 45 ≤ x3 → (vp_in x3 45 ∧ (∀ v3 : Int32, v3 = (t_book x3.toNatClampNeg) → (vp_in (x2 + x3) 140 ∧ (∀ v5 : Int32, v5 = x3 + 1 → (pX7_image_b19 t_shift t_kneels t_sights t_book t_sight a1 post  n x2 v5 (upd t_image (x2 + x3).toNatClampNeg v3) t_isKept))))))

set_option maxHeartbeats 4000000 in
set_option maxRecDepth 100000 in
theorem wX7_image_b19 {p : Program} {l : Launch} {e : Env} {s : State} {m : MethodId} {args : Array Value} {below : List Frame} {meth : Method} {c : Code} {Q : State → Prop} {D : va_G} {cI cZ cJ cO : ClassId} {A : Nat → Prop} (C0 : CallFix p m c cX7_image 4 s args wsX7_image RX7) (hN : nw s) (hK : va_K D vwCl (tyL cI cZ cJ cO) s) (hA : ∀ q, s.heap.size ≤ q → A q) (q_t q_t_book q_t_sight q_t_image q_t_isKept q_t_now q_t_pad q_t_had q_t_takes q_t_worths q_t_fitting q_t_wins q_t_ways : Nat) (t_signs : Int32) (t_metAt : Int32) (t_metWho : Int32) (t_reason : Int32) (t_acts : Int32) (t_shift : Int32) (t_kneels : Int32) (t_sights : Int32) (t_book : (Nat → Int32)) (t_sight : (Nat → Int32)) (a1 : Int32) (post : Int32 → ((Nat → Int32) × (Nat → Int32)) → Prop) (hret : hrI p l e ({ frames := 1, cells := 0, slots := 0, locals := 22 } : Room) s m args below meth c cX7_image D A Q post (fun u : (Nat → Int32) × (Nat → Int32) => [(q_t, .inr (7, [.ref q_t_book, .ref q_t_now, .int t_shift, .int t_kneels, .int t_sights, .ref q_t_sight, .int t_signs, .ref q_t_pad, .int t_metAt, .int t_metWho, .int t_reason, .int t_acts, .ref q_t_had, .ref q_t_takes, .ref q_t_worths, .ref q_t_fitting, .ref q_t_wins, .ref q_t_ways, .ref q_t_image, .ref q_t_isKept])), (q_t_book, .inl (cI, 45, .inl t_book)), (q_t_sight, .inl (cI, 16, .inl t_sight)), (q_t_image, .inl (cI, 140, .inl u.1)), (q_t_isKept, .inl (cZ, 2, .inl u.2))])) :
    ∀ (n : Nat) (x2 : Int32) (x3 : Int32) (t_image : (Nat → Int32)) (t_isKept : (Nat → Int32)), pX7_image_b19 t_shift t_kneels t_sights t_book t_sight a1 post n x2 x3 t_image t_isKept → ∀ (H : Heap) (locs : List Loc), va_P D vwCl [(q_t, .inr (7, [.ref q_t_book, .ref q_t_now, .int t_shift, .int t_kneels, .int t_sights, .ref q_t_sight, .int t_signs, .ref q_t_pad, .int t_metAt, .int t_metWho, .int t_reason, .int t_acts, .ref q_t_had, .ref q_t_takes, .ref q_t_worths, .ref q_t_fitting, .ref q_t_wins, .ref q_t_ways, .ref q_t_image, .ref q_t_isKept])), (q_t_book, .inl (cI, 45, .inl t_book)), (q_t_sight, .inl (cI, 16, .inl t_sight)), (q_t_image, .inl (cI, 140, .inl t_image)), (q_t_isKept, .inl (cZ, 2, .inl t_isKept))] H → va_D A [(q_t, .inr (7, [.ref q_t_book, .ref q_t_now, .int t_shift, .int t_kneels, .int t_sights, .ref q_t_sight, .int t_signs, .ref q_t_pad, .int t_metAt, .int t_metWho, .int t_reason, .int t_acts, .ref q_t_had, .ref q_t_takes, .ref q_t_worths, .ref q_t_fitting, .ref q_t_wins, .ref q_t_ways, .ref q_t_image, .ref q_t_isKept])), (q_t_book, .inl (cI, 45, .inl t_book)), (q_t_sight, .inl (cI, 16, .inl t_sight)), (q_t_image, .inl (cI, 140, .inl t_image)), (q_t_isKept, .inl (cZ, 2, .inl t_isKept))] → va_S A s.heap H locs → ∀ ls : Array Slot, lv_has ls 4 [(0, .ref q_t), (1, .int a1), (2, .int x2), (3, .int x3)] → W p l e ({ frames := 1, cells := 0, slots := 0, locals := 22 } : Room) s m args below meth c H locs 0 0 Q (F0 m 19 ls []) := by
  obtain ⟨hx, hb, hml, hown, hts⟩ := id C0
  intro n
  induction n with
  | zero =>
    intro x2 x3 t_image t_isKept hf
    exact False.elim hf
  | succ n ih =>
    intro x2 x3 t_image t_isKept hf H locs hP hD hS ls hl
    rw [pX7_image_b19] at hf
    refine lv_iload_n hx hb dX7_image_19 rfl (lv_at hl 3 rfl) ?_
    refine lv_bipush (v := 45) hx hb dX7_image_20 (by decide) ?_
    refine lv_icmp_ge (tgt := 45) hx hb dX7_image_22 (by decide) (fun c1 => ?_) (fun c1 => ?_)
    · have hf := hf.1 c1
      refine lv_iconst (v := 0) hx hb dX7_image_45 (by decide) ?_
      refine lv_istore_n (lv' := [(3, .int 0), (0, .ref q_t), (1, .int a1), (2, .int x2)]) hx hb dX7_image_46 rfl hl (by decide) rfl (fun ls hl => ?_)
      obtain ⟨n1, hf⟩ := hf
      exact wX7_image_b47 C0 hN hK hA q_t q_t_book q_t_sight q_t_image q_t_isKept q_t_now q_t_pad q_t_had q_t_takes q_t_worths q_t_fitting q_t_wins q_t_ways t_signs t_metAt t_metWho t_reason t_acts t_shift t_kneels t_sights t_book t_sight a1 post hret   n1 x2 0 t_image t_isKept hf H locs hP hD hS ls (lv_sub hl [1, 2, 3, 0] rfl)
    · have hf := hf.2 c1
      refine lv_aload_n hx hb dX7_image_25 rfl (lv_at hl 0 rfl) ?_
      refine va_get (D := D) (ci := 7) (v := .ref q_t_image) (C := RX7) (T := TX7) (N := 20) hx hb hts nX7_image_X7 hown hK hP 0 rfl rfl 18 (by decide) (hts _ mX7_image_1) (fun _ h9 => h9) rfl dX7_image_26 ?_
      refine lv_iload_n hx hb dX7_image_29 rfl (lv_at hl 2 rfl) ?_
      refine lv_iload_n hx hb dX7_image_30 rfl (lv_at hl 3 rfl) ?_
      refine lv_iadd hx hb dX7_image_31 ?_
      refine lv_aload_n hx hb dX7_image_32 rfl (lv_at hl 0 rfl) ?_
      refine va_get (D := D) (ci := 7) (v := .ref q_t_book) (C := RX7) (T := TX7) (N := 20) hx hb hts nX7_image_X7 hown hK hP 0 rfl rfl 0 (by decide) (hts _ mX7_image_2) (fun _ h9 => h9) rfl dX7_image_33 ?_
      refine lv_iload_n hx hb dX7_image_36 rfl (lv_at hl 3 rfl) ?_
      have g2 := hf.1
      have hf := hf.2
      refine xa_iald hx hb hK hP 1 0 rfl rfl (j := x3.toNatClampNeg) rfl g2 dX7_image_37 ?_
      refine lv_topi (fun v3 ev3 => ?_)
      have hf := hf v3 ev3
      have g4 := hf.1
      have hf := hf.2
      refine xa_iast hx hb hK hP hD hS 3 0 rfl rfl (j := (x2 + x3).toNatClampNeg) rfl g4 dX7_image_38 (fun H locs hP hD hS => ?_)
      have hP : va_P D vwCl [(q_t, .inr (7, [.ref q_t_book, .ref q_t_now, .int t_shift, .int t_kneels, .int t_sights, .ref q_t_sight, .int t_signs, .ref q_t_pad, .int t_metAt, .int t_metWho, .int t_reason, .int t_acts, .ref q_t_had, .ref q_t_takes, .ref q_t_worths, .ref q_t_fitting, .ref q_t_wins, .ref q_t_ways, .ref q_t_image, .ref q_t_isKept])), (q_t_book, .inl (cI, 45, .inl t_book)), (q_t_sight, .inl (cI, 16, .inl t_sight)), (q_t_image, .inl (cI, 140, .inl (upd t_image (x2 + x3).toNatClampNeg v3))), (q_t_isKept, .inl (cZ, 2, .inl t_isKept))] H := hP
      have hD : va_D A [(q_t, .inr (7, [.ref q_t_book, .ref q_t_now, .int t_shift, .int t_kneels, .int t_sights, .ref q_t_sight, .int t_signs, .ref q_t_pad, .int t_metAt, .int t_metWho, .int t_reason, .int t_acts, .ref q_t_had, .ref q_t_takes, .ref q_t_worths, .ref q_t_fitting, .ref q_t_wins, .ref q_t_ways, .ref q_t_image, .ref q_t_isKept])), (q_t_book, .inl (cI, 45, .inl t_book)), (q_t_sight, .inl (cI, 16, .inl t_sight)), (q_t_image, .inl (cI, 140, .inl (upd t_image (x2 + x3).toNatClampNeg v3))), (q_t_isKept, .inl (cZ, 2, .inl t_isKept))] := hD
      obtain ⟨v5, ev5⟩ : ∃ y : Int32, y = x3 + 1 := ⟨_, rfl⟩
      have hf := hf v5 ev5
      refine lv_iinc (v := v5) (lv' := [(3, .int v5), (0, .ref q_t), (1, .int a1), (2, .int x2)]) hx hb dX7_image_39 hl (k := 3) rfl (by rw [ev5]; rfl) (by decide) rfl (fun ls hl => ?_)
      refine lv_goto (tgt := 19) hx hb dX7_image_42 (by decide) ?_
      exact ih x2 v5 (upd t_image (x2 + x3).toNatClampNeg v3) t_isKept hf H locs hP hD hS ls (lv_sub hl [1, 2, 3, 0] rfl)

def pX7_image (t_shift : Int32) (t_kneels : Int32) (t_sights : Int32) (t_book : (Nat → Int32)) (t_sight : (Nat → Int32)) (t_image : (Nat → Int32)) (t_isKept : (Nat → Int32)) (a1 : Int32) (post : Int32 → ((Nat → Int32) × (Nat → Int32)) → Prop) : Prop :=
  pX7_in a1 0 1 (fun r1 => (¬ r1 = 0 → (∀ v3 : Int32, v3 = (70 * a1) → (∃ n1, pX7_image_b19 t_shift t_kneels t_sights t_book t_sight a1 post  n1 v3 0 t_image t_isKept))) ∧ (r1 = 0 → (post (-2) (t_image, t_isKept))))

set_option maxHeartbeats 4000000 in
set_option maxRecDepth 100000 in
theorem kX7_image (l : Launch) (D : va_G) (cI cZ cJ cO : ClassId) (q_t q_t_book q_t_sight q_t_image q_t_isKept q_t_now q_t_pad q_t_had q_t_takes q_t_worths q_t_fitting q_t_wins q_t_ways : Nat) (sz : Nat) (t_signs : Int32) (t_metAt : Int32) (t_metWho : Int32) (t_reason : Int32) (t_acts : Int32) (t_shift : Int32) (t_kneels : Int32) (t_sights : Int32) (t_book : (Nat → Int32)) (t_sight : (Nat → Int32)) (t_image : (Nat → Int32)) (t_isKept : (Nat → Int32)) (a1 : Int32) (post : Int32 → ((Nat → Int32) × (Nat → Int32)) → Prop) (hf : pX7_image t_shift t_kneels t_sights t_book t_sight t_image t_isKept a1 post) :
    Met l yX7_image wsX7_image ({ frames := 1, cells := 0, slots := 0, locals := 22 } : Room) (va_Pc [.ref q_t, .int a1] (B1 D (tyL cI cZ cJ cO) [(q_t, .inr (7, [.ref q_t_book, .ref q_t_now, .int t_shift, .int t_kneels, .int t_sights, .ref q_t_sight, .int t_signs, .ref q_t_pad, .int t_metAt, .int t_metWho, .int t_reason, .int t_acts, .ref q_t_had, .ref q_t_takes, .ref q_t_worths, .ref q_t_fitting, .ref q_t_wins, .ref q_t_ways, .ref q_t_image, .ref q_t_isKept])), (q_t_book, .inl (cI, 45, .inl t_book)), (q_t_sight, .inl (cI, 16, .inl t_sight)), (q_t_image, .inl (cI, 140, .inl t_image)), (q_t_isKept, .inl (cZ, 2, .inl t_isKept))] sz)) (va_Qi post (fun u t => E1 D (va_A [(q_t, .inr (7, [.ref q_t_book, .ref q_t_now, .int t_shift, .int t_kneels, .int t_sights, .ref q_t_sight, .int t_signs, .ref q_t_pad, .int t_metAt, .int t_metWho, .int t_reason, .int t_acts, .ref q_t_had, .ref q_t_takes, .ref q_t_worths, .ref q_t_fitting, .ref q_t_wins, .ref q_t_ways, .ref q_t_image, .ref q_t_isKept])), (q_t_book, .inl (cI, 45, .inl t_book)), (q_t_sight, .inl (cI, 16, .inl t_sight)), (q_t_image, .inl (cI, 140, .inl t_image)), (q_t_isKept, .inl (cZ, 2, .inl t_isKept))] sz) ((fun u : (Nat → Int32) × (Nat → Int32) => [(q_t, .inr (7, [.ref q_t_book, .ref q_t_now, .int t_shift, .int t_kneels, .int t_sights, .ref q_t_sight, .int t_signs, .ref q_t_pad, .int t_metAt, .int t_metWho, .int t_reason, .int t_acts, .ref q_t_had, .ref q_t_takes, .ref q_t_worths, .ref q_t_fitting, .ref q_t_wins, .ref q_t_ways, .ref q_t_image, .ref q_t_isKept])), (q_t_book, .inl (cI, 45, .inl t_book)), (q_t_sight, .inl (cI, 16, .inl t_sight)), (q_t_image, .inl (cI, 140, .inl u.1)), (q_t_isKept, .inl (cZ, 2, .inl u.2))]) u) t) (va_A [(q_t, .inr (7, [.ref q_t_book, .ref q_t_now, .int t_shift, .int t_kneels, .int t_sights, .ref q_t_sight, .int t_signs, .ref q_t_pad, .int t_metAt, .int t_metWho, .int t_reason, .int t_acts, .ref q_t_had, .ref q_t_takes, .ref q_t_worths, .ref q_t_fitting, .ref q_t_wins, .ref q_t_ways, .ref q_t_image, .ref q_t_isKept])), (q_t_book, .inl (cI, 45, .inl t_book)), (q_t_sight, .inl (cI, 16, .inl t_sight)), (q_t_image, .inl (cI, 140, .inl t_image)), (q_t_isKept, .inl (cZ, 2, .inl t_isKept))] sz)) 0 0 (va_A [(q_t, .inr (7, [.ref q_t_book, .ref q_t_now, .int t_shift, .int t_kneels, .int t_sights, .ref q_t_sight, .int t_signs, .ref q_t_pad, .int t_metAt, .int t_metWho, .int t_reason, .int t_acts, .ref q_t_had, .ref q_t_takes, .ref q_t_worths, .ref q_t_fitting, .ref q_t_wins, .ref q_t_ways, .ref q_t_image, .ref q_t_isKept])), (q_t_book, .inl (cI, 45, .inl t_book)), (q_t_sight, .inl (cI, 16, .inl t_sight)), (q_t_image, .inl (cI, 140, .inl t_image)), (q_t_isKept, .inl (cZ, 2, .inl t_isKept))] sz) := by
  unfold pX7_image at hf
  refine xm_1i (own := RX7) (by decide) rfl rfl (Nat.le_of_ble_eq_true rfl) (fun p e s m args below meth c Q A C0 hN hK hA hret hP hD ls hl => ?_)
  obtain ⟨hx, hb, hml, hown, hts⟩ := id C0
  have hl : lv_has ls 4 [(0, .ref q_t), (1, .int a1)] := hl
  have hS : va_S A s.heap s.heap [] := va_S.rf
  obtain ⟨H, hHe⟩ : ∃ H, H = s.heap := ⟨_, rfl⟩
  obtain ⟨locs, hLe⟩ : ∃ L : List Loc, L = [] := ⟨_, rfl⟩
  rw [← hLe]
  rw [← hLe] at hS
  have hP : va_P D vwCl [(q_t, .inr (7, [.ref q_t_book, .ref q_t_now, .int t_shift, .int t_kneels, .int t_sights, .ref q_t_sight, .int t_signs, .ref q_t_pad, .int t_metAt, .int t_metWho, .int t_reason, .int t_acts, .ref q_t_had, .ref q_t_takes, .ref q_t_worths, .ref q_t_fitting, .ref q_t_wins, .ref q_t_ways, .ref q_t_image, .ref q_t_isKept])), (q_t_book, .inl (cI, 45, .inl t_book)), (q_t_sight, .inl (cI, 16, .inl t_sight)), (q_t_image, .inl (cI, 140, .inl t_image)), (q_t_isKept, .inl (cZ, 2, .inl t_isKept))] H := by rw [hHe]; exact hP
  have hS : va_S A s.heap H locs := by rw [hHe]; exact hS
  suffices hgo : W p l e ({ frames := 1, cells := 0, slots := 0, locals := 22 } : Room) s m args below meth c H locs 0 0 Q (F0 m 0 ls []) by rw [← hHe]; exact hgo
  clear hHe hLe
  refine lv_iload_n hx hb dX7_image_0 rfl (lv_at hl 1 rfl) ?_
  refine lv_iconst (v := 0) hx hb dX7_image_1 (by decide) ?_
  refine lv_iconst (v := 1) hx hb dX7_image_2 (by decide) ?_
  refine xs_i (va_runS (As := [.int a1, .int 0, .int 1]) (rest := []) ⟨hx, hb, hml, hown, hts⟩ (kX7_in l D cI cZ cJ cO a1 0 1 _ hf) (va_cwS 3 hts gX7_image_X7_in rfl rfl rfl (by decide +kernel) ⟨Nat.le_of_ble_eq_true rfl, Nat.le_of_ble_eq_true rfl⟩) (B0_pre (hP.sub (ws' := []) [] rfl) hK hN) rfl rfl hl.1 rfl (lv_room (Nat.le_of_ble_eq_true rfl)) dX7_image_3 ⟨Nat.zero_le _, Nat.zero_le _⟩) (fun r1 hf => ?_)
  refine lv_if_ne (tgt := 12) hx hb dX7_image_6 (by decide) (fun c2 => ?_) (fun c2 => ?_)
  · have hf := hf.1 c2
    refine lv_bipush (v := 70) hx hb dX7_image_12 (by decide) ?_
    refine lv_iload_n hx hb dX7_image_14 rfl (lv_at hl 1 rfl) ?_
    refine lv_imul hx hb dX7_image_15 ?_
    refine lv_topi (fun v3 ev3 => ?_)
    have hf := hf v3 ev3
    refine lv_istore_n (lv' := [(2, .int v3), (0, .ref q_t), (1, .int a1)]) hx hb dX7_image_16 rfl hl (by decide) rfl (fun ls hl => ?_)
    refine lv_iconst (v := 0) hx hb dX7_image_17 (by decide) ?_
    refine lv_istore_n (lv' := [(3, .int 0), (2, .int v3), (0, .ref q_t), (1, .int a1)]) hx hb dX7_image_18 rfl hl (by decide) rfl (fun ls hl => ?_)
    obtain ⟨n1, hf⟩ := hf
    exact wX7_image_b19 C0 hN hK hA q_t q_t_book q_t_sight q_t_image q_t_isKept q_t_now q_t_pad q_t_had q_t_takes q_t_worths q_t_fitting q_t_wins q_t_ways t_signs t_metAt t_metWho t_reason t_acts t_shift t_kneels t_sights t_book t_sight a1 post hret   n1 v3 0 t_image t_isKept hf H locs hP hD hS ls (lv_sub hl [2, 3, 1, 0] rfl)
  · have hf := hf.2 c2
    refine lv_bipush (v := (-2)) hx hb dX7_image_9 (by decide) ?_
    exact hret 11 ls H locs (-2) (t_image, t_isKept) dX7_image_11 hf hP hD hS

/-! X7_restore -/
theorem mX7_restore_1 : Cond.fieldLink RX7 52 "OxenKneelModel" "isKept" "[Z" ∈ wsX7_restore := List.mem_of_getElem? (i := 1) rfl
theorem mX7_restore_3 : Cond.fieldLink RX7 49 "OxenKneelModel" "image" "[I" ∈ wsX7_restore := List.mem_of_getElem? (i := 3) rfl
theorem mX7_restore_5 : Cond.fieldLink RX7 16 "OxenKneelModel" "shift" "I" ∈ wsX7_restore := List.mem_of_getElem? (i := 5) rfl
theorem mX7_restore_6 : Cond.fieldLink RX7 20 "OxenKneelModel" "kneels" "I" ∈ wsX7_restore := List.mem_of_getElem? (i := 6) rfl
theorem mX7_restore_7 : Cond.fieldLink RX7 140 "OxenKneelModel" "sights" "I" ∈ wsX7_restore := List.mem_of_getElem? (i := 7) rfl
theorem mX7_restore_4 : Cond.fieldLink RX7 23 "OxenKneelModel" "sight" "[I" ∈ wsX7_restore := List.mem_of_getElem? (i := 4) rfl
theorem mX7_restore_2 : Cond.fieldLink RX7 7 "OxenKneelModel" "book" "[I" ∈ wsX7_restore := List.mem_of_getElem? (i := 2) rfl
theorem nX7_restore_X7 : ∀ w ∈ wsX70, w ∈ wsX7_restore := fun _ h => List.mem_cons_of_mem _ (List.mem_append_right _ h)
def pX7_restore_b59 (t_image : (Nat → Int32)) (t_isKept : (Nat → Int32)) (a1 : Int32) (post : Int32 → (Int32 × Int32 × Int32 × (Nat → Int32) × (Nat → Int32)) → Prop) : Nat → Int32 → Int32 → Int32 → Int32 → Int32 → (Nat → Int32) → (Nat → Int32) → Prop
  | 0 => fun _ _ _ _ _ _ _ => False
  | n + 1 => fun x2 x3 t_shift t_kneels t_sights t_book t_sight => (16 ≤ x3 → (vp_in (x2 + 62) 140 ∧ (∀ v3 : Int32, v3 = (t_image (x2 + 62).toNatClampNeg) → (vp_in (x2 + 63) 140 ∧ (∀ v5 : Int32, v5 = (t_image (x2 + 63).toNatClampNeg) → (vp_in (x2 + 64) 140 ∧ (∀ v7 : Int32, v7 = (t_image (x2 + 64).toNatClampNeg) → (post 1 (v3, v5, v7, t_book, t_sight))))))))) ∧ (¬ 16 ≤ x3 → (vp_in ((x2 + 45) + x3) 140 ∧ (∀ v9 : Int32, v9 = (t_image ((x2 + 45) + x3).toNatClampNeg) → (vp_in x3 16 ∧ (∀ v11 : Int32, v11 = x3 + 1 → (pX7_restore_b59 t_image t_isKept a1 post  n x2 v11 t_shift t_kneels t_sights t_book (upd t_sight x3.toNatClampNeg v9)))))))

set_option maxHeartbeats 4000000 in
set_option maxRecDepth 100000 in
theorem wX7_restore_b59 {p : Program} {l : Launch} {e : Env} {s : State} {m : MethodId} {args : Array Value} {below : List Frame} {meth : Method} {c : Code} {Q : State → Prop} {D : va_G} {cI cZ cJ cO : ClassId} {A : Nat → Prop} (C0 : CallFix p m c cX7_restore 4 s args wsX7_restore RX7) (hN : nw s) (hK : va_K D vwCl (tyL cI cZ cJ cO) s) (hA : ∀ q, s.heap.size ≤ q → A q) (q_t q_t_book q_t_sight q_t_image q_t_isKept q_t_now q_t_pad q_t_had q_t_takes q_t_worths q_t_fitting q_t_wins q_t_ways : Nat) (t_signs : Int32) (t_metAt : Int32) (t_metWho : Int32) (t_reason : Int32) (t_acts : Int32) (t_image : (Nat → Int32)) (t_isKept : (Nat → Int32)) (a1 : Int32) (post : Int32 → (Int32 × Int32 × Int32 × (Nat → Int32) × (Nat → Int32)) → Prop) (hret : hrI p l e ({ frames := 1, cells := 0, slots := 0, locals := 22 } : Room) s m args below meth c cX7_restore D A Q post (fun u : Int32 × Int32 × Int32 × (Nat → Int32) × (Nat → Int32) => [(q_t, .inr (7, [.ref q_t_book, .ref q_t_now, .int u.1, .int u.2.1, .int u.2.2.1, .ref q_t_sight, .int t_signs, .ref q_t_pad, .int t_metAt, .int t_metWho, .int t_reason, .int t_acts, .ref q_t_had, .ref q_t_takes, .ref q_t_worths, .ref q_t_fitting, .ref q_t_wins, .ref q_t_ways, .ref q_t_image, .ref q_t_isKept])), (q_t_book, .inl (cI, 45, .inl u.2.2.2.1)), (q_t_sight, .inl (cI, 16, .inl u.2.2.2.2)), (q_t_image, .inl (cI, 140, .inl t_image)), (q_t_isKept, .inl (cZ, 2, .inl t_isKept))])) :
    ∀ (n : Nat) (x2 : Int32) (x3 : Int32) (t_shift : Int32) (t_kneels : Int32) (t_sights : Int32) (t_book : (Nat → Int32)) (t_sight : (Nat → Int32)), pX7_restore_b59 t_image t_isKept a1 post n x2 x3 t_shift t_kneels t_sights t_book t_sight → ∀ (H : Heap) (locs : List Loc), va_P D vwCl [(q_t, .inr (7, [.ref q_t_book, .ref q_t_now, .int t_shift, .int t_kneels, .int t_sights, .ref q_t_sight, .int t_signs, .ref q_t_pad, .int t_metAt, .int t_metWho, .int t_reason, .int t_acts, .ref q_t_had, .ref q_t_takes, .ref q_t_worths, .ref q_t_fitting, .ref q_t_wins, .ref q_t_ways, .ref q_t_image, .ref q_t_isKept])), (q_t_book, .inl (cI, 45, .inl t_book)), (q_t_sight, .inl (cI, 16, .inl t_sight)), (q_t_image, .inl (cI, 140, .inl t_image)), (q_t_isKept, .inl (cZ, 2, .inl t_isKept))] H → va_D A [(q_t, .inr (7, [.ref q_t_book, .ref q_t_now, .int t_shift, .int t_kneels, .int t_sights, .ref q_t_sight, .int t_signs, .ref q_t_pad, .int t_metAt, .int t_metWho, .int t_reason, .int t_acts, .ref q_t_had, .ref q_t_takes, .ref q_t_worths, .ref q_t_fitting, .ref q_t_wins, .ref q_t_ways, .ref q_t_image, .ref q_t_isKept])), (q_t_book, .inl (cI, 45, .inl t_book)), (q_t_sight, .inl (cI, 16, .inl t_sight)), (q_t_image, .inl (cI, 140, .inl t_image)), (q_t_isKept, .inl (cZ, 2, .inl t_isKept))] → va_S A s.heap H locs → ∀ ls : Array Slot, lv_has ls 4 [(0, .ref q_t), (2, .int x2), (3, .int x3)] → W p l e ({ frames := 1, cells := 0, slots := 0, locals := 22 } : Room) s m args below meth c H locs 0 0 Q (F0 m 59 ls []) := by
  obtain ⟨hx, hb, hml, hown, hts⟩ := id C0
  intro n
  induction n with
  | zero =>
    intro x2 x3 t_shift t_kneels t_sights t_book t_sight hf
    exact False.elim hf
  | succ n ih =>
    intro x2 x3 t_shift t_kneels t_sights t_book t_sight hf H locs hP hD hS ls hl
    rw [pX7_restore_b59] at hf
    refine lv_iload_n hx hb dX7_restore_59 rfl (lv_at hl 2 rfl) ?_
    refine lv_bipush (v := 16) hx hb dX7_restore_60 (by decide) ?_
    refine lv_icmp_ge (tgt := 88) hx hb dX7_restore_62 (by decide) (fun c1 => ?_) (fun c1 => ?_)
    · have hf := hf.1 c1
      refine lv_aload_n hx hb dX7_restore_88 rfl (lv_at hl 0 rfl) ?_
      refine lv_aload_n hx hb dX7_restore_89 rfl (lv_at hl 0 rfl) ?_
      refine va_get (D := D) (ci := 7) (v := .ref q_t_image) (C := RX7) (T := TX7) (N := 20) hx hb hts nX7_restore_X7 hown hK hP 0 rfl rfl 18 (by decide) (hts _ mX7_restore_3) (fun _ h9 => h9) rfl dX7_restore_90 ?_
      refine lv_iload_n hx hb dX7_restore_93 rfl (lv_at hl 1 rfl) ?_
      refine lv_bipush (v := 62) hx hb dX7_restore_94 (by decide) ?_
      refine lv_iadd hx hb dX7_restore_96 ?_
      have g2 := hf.1
      have hf := hf.2
      refine xa_iald hx hb hK hP 3 0 rfl rfl (j := (x2 + 62).toNatClampNeg) rfl g2 dX7_restore_97 ?_
      refine lv_topi (fun v3 ev3 => ?_)
      have hf := hf v3 ev3
      refine va_put (D := D) (ci := 7) (v := .int v3) (ty := .int) (C := RX7) (T := TX7) (N := 20) hx hb hts nX7_restore_X7 tyX7 tyX7_ok nmX7 hown hK hP hD hS 0 rfl rfl 2 (by decide) (hts _ mX7_restore_5) (fun _ h9 => h9) rfl (by decide +kernel) rfl rfl (Nat.le_of_ble_eq_true rfl) dX7_restore_98 (fun H locs hP hD hS => ?_)
      have hP : va_P D vwCl [(q_t, .inr (7, [.ref q_t_book, .ref q_t_now, .int v3, .int t_kneels, .int t_sights, .ref q_t_sight, .int t_signs, .ref q_t_pad, .int t_metAt, .int t_metWho, .int t_reason, .int t_acts, .ref q_t_had, .ref q_t_takes, .ref q_t_worths, .ref q_t_fitting, .ref q_t_wins, .ref q_t_ways, .ref q_t_image, .ref q_t_isKept])), (q_t_book, .inl (cI, 45, .inl t_book)), (q_t_sight, .inl (cI, 16, .inl t_sight)), (q_t_image, .inl (cI, 140, .inl t_image)), (q_t_isKept, .inl (cZ, 2, .inl t_isKept))] H := hP
      have hD : va_D A [(q_t, .inr (7, [.ref q_t_book, .ref q_t_now, .int v3, .int t_kneels, .int t_sights, .ref q_t_sight, .int t_signs, .ref q_t_pad, .int t_metAt, .int t_metWho, .int t_reason, .int t_acts, .ref q_t_had, .ref q_t_takes, .ref q_t_worths, .ref q_t_fitting, .ref q_t_wins, .ref q_t_ways, .ref q_t_image, .ref q_t_isKept])), (q_t_book, .inl (cI, 45, .inl t_book)), (q_t_sight, .inl (cI, 16, .inl t_sight)), (q_t_image, .inl (cI, 140, .inl t_image)), (q_t_isKept, .inl (cZ, 2, .inl t_isKept))] := hD
      refine lv_aload_n hx hb dX7_restore_101 rfl (lv_at hl 0 rfl) ?_
      refine lv_aload_n hx hb dX7_restore_102 rfl (lv_at hl 0 rfl) ?_
      refine va_get (D := D) (ci := 7) (v := .ref q_t_image) (C := RX7) (T := TX7) (N := 20) hx hb hts nX7_restore_X7 hown hK hP 0 rfl rfl 18 (by decide) (hts _ mX7_restore_3) (fun _ h9 => h9) rfl dX7_restore_103 ?_
      refine lv_iload_n hx hb dX7_restore_106 rfl (lv_at hl 1 rfl) ?_
      refine lv_bipush (v := 63) hx hb dX7_restore_107 (by decide) ?_
      refine lv_iadd hx hb dX7_restore_109 ?_
      have g4 := hf.1
      have hf := hf.2
      refine xa_iald hx hb hK hP 3 0 rfl rfl (j := (x2 + 63).toNatClampNeg) rfl g4 dX7_restore_110 ?_
      refine lv_topi (fun v5 ev5 => ?_)
      have hf := hf v5 ev5
      refine va_put (D := D) (ci := 7) (v := .int v5) (ty := .int) (C := RX7) (T := TX7) (N := 20) hx hb hts nX7_restore_X7 tyX7 tyX7_ok nmX7 hown hK hP hD hS 0 rfl rfl 3 (by decide) (hts _ mX7_restore_6) (fun _ h9 => h9) rfl (by decide +kernel) rfl rfl (Nat.le_of_ble_eq_true rfl) dX7_restore_111 (fun H locs hP hD hS => ?_)
      have hP : va_P D vwCl [(q_t, .inr (7, [.ref q_t_book, .ref q_t_now, .int v3, .int v5, .int t_sights, .ref q_t_sight, .int t_signs, .ref q_t_pad, .int t_metAt, .int t_metWho, .int t_reason, .int t_acts, .ref q_t_had, .ref q_t_takes, .ref q_t_worths, .ref q_t_fitting, .ref q_t_wins, .ref q_t_ways, .ref q_t_image, .ref q_t_isKept])), (q_t_book, .inl (cI, 45, .inl t_book)), (q_t_sight, .inl (cI, 16, .inl t_sight)), (q_t_image, .inl (cI, 140, .inl t_image)), (q_t_isKept, .inl (cZ, 2, .inl t_isKept))] H := hP
      have hD : va_D A [(q_t, .inr (7, [.ref q_t_book, .ref q_t_now, .int v3, .int v5, .int t_sights, .ref q_t_sight, .int t_signs, .ref q_t_pad, .int t_metAt, .int t_metWho, .int t_reason, .int t_acts, .ref q_t_had, .ref q_t_takes, .ref q_t_worths, .ref q_t_fitting, .ref q_t_wins, .ref q_t_ways, .ref q_t_image, .ref q_t_isKept])), (q_t_book, .inl (cI, 45, .inl t_book)), (q_t_sight, .inl (cI, 16, .inl t_sight)), (q_t_image, .inl (cI, 140, .inl t_image)), (q_t_isKept, .inl (cZ, 2, .inl t_isKept))] := hD
      refine lv_aload_n hx hb dX7_restore_114 rfl (lv_at hl 0 rfl) ?_
      refine lv_aload_n hx hb dX7_restore_115 rfl (lv_at hl 0 rfl) ?_
      refine va_get (D := D) (ci := 7) (v := .ref q_t_image) (C := RX7) (T := TX7) (N := 20) hx hb hts nX7_restore_X7 hown hK hP 0 rfl rfl 18 (by decide) (hts _ mX7_restore_3) (fun _ h9 => h9) rfl dX7_restore_116 ?_
      refine lv_iload_n hx hb dX7_restore_119 rfl (lv_at hl 1 rfl) ?_
      refine lv_bipush (v := 64) hx hb dX7_restore_120 (by decide) ?_
      refine lv_iadd hx hb dX7_restore_122 ?_
      have g6 := hf.1
      have hf := hf.2
      refine xa_iald hx hb hK hP 3 0 rfl rfl (j := (x2 + 64).toNatClampNeg) rfl g6 dX7_restore_123 ?_
      refine lv_topi (fun v7 ev7 => ?_)
      have hf := hf v7 ev7
      refine va_put (D := D) (ci := 7) (v := .int v7) (ty := .int) (C := RX7) (T := TX7) (N := 20) hx hb hts nX7_restore_X7 tyX7 tyX7_ok nmX7 hown hK hP hD hS 0 rfl rfl 4 (by decide) (hts _ mX7_restore_7) (fun _ h9 => h9) rfl (by decide +kernel) rfl rfl (Nat.le_of_ble_eq_true rfl) dX7_restore_124 (fun H locs hP hD hS => ?_)
      have hP : va_P D vwCl [(q_t, .inr (7, [.ref q_t_book, .ref q_t_now, .int v3, .int v5, .int v7, .ref q_t_sight, .int t_signs, .ref q_t_pad, .int t_metAt, .int t_metWho, .int t_reason, .int t_acts, .ref q_t_had, .ref q_t_takes, .ref q_t_worths, .ref q_t_fitting, .ref q_t_wins, .ref q_t_ways, .ref q_t_image, .ref q_t_isKept])), (q_t_book, .inl (cI, 45, .inl t_book)), (q_t_sight, .inl (cI, 16, .inl t_sight)), (q_t_image, .inl (cI, 140, .inl t_image)), (q_t_isKept, .inl (cZ, 2, .inl t_isKept))] H := hP
      have hD : va_D A [(q_t, .inr (7, [.ref q_t_book, .ref q_t_now, .int v3, .int v5, .int v7, .ref q_t_sight, .int t_signs, .ref q_t_pad, .int t_metAt, .int t_metWho, .int t_reason, .int t_acts, .ref q_t_had, .ref q_t_takes, .ref q_t_worths, .ref q_t_fitting, .ref q_t_wins, .ref q_t_ways, .ref q_t_image, .ref q_t_isKept])), (q_t_book, .inl (cI, 45, .inl t_book)), (q_t_sight, .inl (cI, 16, .inl t_sight)), (q_t_image, .inl (cI, 140, .inl t_image)), (q_t_isKept, .inl (cZ, 2, .inl t_isKept))] := hD
      refine lv_iconst (v := 1) hx hb dX7_restore_127 (by decide) ?_
      exact hret 128 ls H locs 1 (v3, v5, v7, t_book, t_sight) dX7_restore_128 hf hP hD hS
    · have hf := hf.2 c1
      refine lv_aload_n hx hb dX7_restore_65 rfl (lv_at hl 0 rfl) ?_
      refine va_get (D := D) (ci := 7) (v := .ref q_t_sight) (C := RX7) (T := TX7) (N := 20) hx hb hts nX7_restore_X7 hown hK hP 0 rfl rfl 5 (by decide) (hts _ mX7_restore_4) (fun _ h9 => h9) rfl dX7_restore_66 ?_
      refine lv_iload_n hx hb dX7_restore_69 rfl (lv_at hl 2 rfl) ?_
      refine lv_aload_n hx hb dX7_restore_70 rfl (lv_at hl 0 rfl) ?_
      refine va_get (D := D) (ci := 7) (v := .ref q_t_image) (C := RX7) (T := TX7) (N := 20) hx hb hts nX7_restore_X7 hown hK hP 0 rfl rfl 18 (by decide) (hts _ mX7_restore_3) (fun _ h9 => h9) rfl dX7_restore_71 ?_
      refine lv_iload_n hx hb dX7_restore_74 rfl (lv_at hl 1 rfl) ?_
      refine lv_bipush (v := 45) hx hb dX7_restore_75 (by decide) ?_
      refine lv_iadd hx hb dX7_restore_77 ?_
      refine lv_iload_n hx hb dX7_restore_78 rfl (lv_at hl 2 rfl) ?_
      refine lv_iadd hx hb dX7_restore_79 ?_
      have g8 := hf.1
      have hf := hf.2
      refine xa_iald hx hb hK hP 3 0 rfl rfl (j := ((x2 + 45) + x3).toNatClampNeg) rfl g8 dX7_restore_80 ?_
      refine lv_topi (fun v9 ev9 => ?_)
      have hf := hf v9 ev9
      have g10 := hf.1
      have hf := hf.2
      refine xa_iast hx hb hK hP hD hS 2 0 rfl rfl (j := x3.toNatClampNeg) rfl g10 dX7_restore_81 (fun H locs hP hD hS => ?_)
      have hP : va_P D vwCl [(q_t, .inr (7, [.ref q_t_book, .ref q_t_now, .int t_shift, .int t_kneels, .int t_sights, .ref q_t_sight, .int t_signs, .ref q_t_pad, .int t_metAt, .int t_metWho, .int t_reason, .int t_acts, .ref q_t_had, .ref q_t_takes, .ref q_t_worths, .ref q_t_fitting, .ref q_t_wins, .ref q_t_ways, .ref q_t_image, .ref q_t_isKept])), (q_t_book, .inl (cI, 45, .inl t_book)), (q_t_sight, .inl (cI, 16, .inl (upd t_sight x3.toNatClampNeg v9))), (q_t_image, .inl (cI, 140, .inl t_image)), (q_t_isKept, .inl (cZ, 2, .inl t_isKept))] H := hP
      have hD : va_D A [(q_t, .inr (7, [.ref q_t_book, .ref q_t_now, .int t_shift, .int t_kneels, .int t_sights, .ref q_t_sight, .int t_signs, .ref q_t_pad, .int t_metAt, .int t_metWho, .int t_reason, .int t_acts, .ref q_t_had, .ref q_t_takes, .ref q_t_worths, .ref q_t_fitting, .ref q_t_wins, .ref q_t_ways, .ref q_t_image, .ref q_t_isKept])), (q_t_book, .inl (cI, 45, .inl t_book)), (q_t_sight, .inl (cI, 16, .inl (upd t_sight x3.toNatClampNeg v9))), (q_t_image, .inl (cI, 140, .inl t_image)), (q_t_isKept, .inl (cZ, 2, .inl t_isKept))] := hD
      obtain ⟨v11, ev11⟩ : ∃ y : Int32, y = x3 + 1 := ⟨_, rfl⟩
      have hf := hf v11 ev11
      refine lv_iinc (v := v11) (lv' := [(3, .int v11), (0, .ref q_t), (2, .int x2)]) hx hb dX7_restore_82 hl (k := 2) rfl (by rw [ev11]; rfl) (by decide) rfl (fun ls hl => ?_)
      refine lv_goto (tgt := 59) hx hb dX7_restore_85 (by decide) ?_
      exact ih x2 v11 t_shift t_kneels t_sights t_book (upd t_sight x3.toNatClampNeg v9) hf H locs hP hD hS ls (lv_sub hl [1, 2, 0] rfl)

def pX7_restore_b31 (t_image : (Nat → Int32)) (t_isKept : (Nat → Int32)) (a1 : Int32) (post : Int32 → (Int32 × Int32 × Int32 × (Nat → Int32) × (Nat → Int32)) → Prop) : Nat → Int32 → Int32 → Int32 → Int32 → Int32 → (Nat → Int32) → (Nat → Int32) → Prop
  | 0 => fun _ _ _ _ _ _ _ => False
  | n + 1 => fun x2 x3 t_shift t_kneels t_sights t_book t_sight => (45 ≤ x3 → (∃ n1, pX7_restore_b59 t_image t_isKept a1 post  n1 x2 0 t_shift t_kneels t_sights t_book t_sight)) ∧ (¬ 45 ≤ x3 → (vp_in (x2 + x3) 140 ∧ (∀ v3 : Int32, v3 = (t_image (x2 + x3).toNatClampNeg) → (vp_in x3 45 ∧ (∀ v5 : Int32, v5 = x3 + 1 → (pX7_restore_b31 t_image t_isKept a1 post  n x2 v5 t_shift t_kneels t_sights (upd t_book x3.toNatClampNeg v3) t_sight))))))

set_option maxHeartbeats 4000000 in
set_option maxRecDepth 100000 in
theorem wX7_restore_b31 {p : Program} {l : Launch} {e : Env} {s : State} {m : MethodId} {args : Array Value} {below : List Frame} {meth : Method} {c : Code} {Q : State → Prop} {D : va_G} {cI cZ cJ cO : ClassId} {A : Nat → Prop} (C0 : CallFix p m c cX7_restore 4 s args wsX7_restore RX7) (hN : nw s) (hK : va_K D vwCl (tyL cI cZ cJ cO) s) (hA : ∀ q, s.heap.size ≤ q → A q) (q_t q_t_book q_t_sight q_t_image q_t_isKept q_t_now q_t_pad q_t_had q_t_takes q_t_worths q_t_fitting q_t_wins q_t_ways : Nat) (t_signs : Int32) (t_metAt : Int32) (t_metWho : Int32) (t_reason : Int32) (t_acts : Int32) (t_image : (Nat → Int32)) (t_isKept : (Nat → Int32)) (a1 : Int32) (post : Int32 → (Int32 × Int32 × Int32 × (Nat → Int32) × (Nat → Int32)) → Prop) (hret : hrI p l e ({ frames := 1, cells := 0, slots := 0, locals := 22 } : Room) s m args below meth c cX7_restore D A Q post (fun u : Int32 × Int32 × Int32 × (Nat → Int32) × (Nat → Int32) => [(q_t, .inr (7, [.ref q_t_book, .ref q_t_now, .int u.1, .int u.2.1, .int u.2.2.1, .ref q_t_sight, .int t_signs, .ref q_t_pad, .int t_metAt, .int t_metWho, .int t_reason, .int t_acts, .ref q_t_had, .ref q_t_takes, .ref q_t_worths, .ref q_t_fitting, .ref q_t_wins, .ref q_t_ways, .ref q_t_image, .ref q_t_isKept])), (q_t_book, .inl (cI, 45, .inl u.2.2.2.1)), (q_t_sight, .inl (cI, 16, .inl u.2.2.2.2)), (q_t_image, .inl (cI, 140, .inl t_image)), (q_t_isKept, .inl (cZ, 2, .inl t_isKept))])) :
    ∀ (n : Nat) (x2 : Int32) (x3 : Int32) (t_shift : Int32) (t_kneels : Int32) (t_sights : Int32) (t_book : (Nat → Int32)) (t_sight : (Nat → Int32)), pX7_restore_b31 t_image t_isKept a1 post n x2 x3 t_shift t_kneels t_sights t_book t_sight → ∀ (H : Heap) (locs : List Loc), va_P D vwCl [(q_t, .inr (7, [.ref q_t_book, .ref q_t_now, .int t_shift, .int t_kneels, .int t_sights, .ref q_t_sight, .int t_signs, .ref q_t_pad, .int t_metAt, .int t_metWho, .int t_reason, .int t_acts, .ref q_t_had, .ref q_t_takes, .ref q_t_worths, .ref q_t_fitting, .ref q_t_wins, .ref q_t_ways, .ref q_t_image, .ref q_t_isKept])), (q_t_book, .inl (cI, 45, .inl t_book)), (q_t_sight, .inl (cI, 16, .inl t_sight)), (q_t_image, .inl (cI, 140, .inl t_image)), (q_t_isKept, .inl (cZ, 2, .inl t_isKept))] H → va_D A [(q_t, .inr (7, [.ref q_t_book, .ref q_t_now, .int t_shift, .int t_kneels, .int t_sights, .ref q_t_sight, .int t_signs, .ref q_t_pad, .int t_metAt, .int t_metWho, .int t_reason, .int t_acts, .ref q_t_had, .ref q_t_takes, .ref q_t_worths, .ref q_t_fitting, .ref q_t_wins, .ref q_t_ways, .ref q_t_image, .ref q_t_isKept])), (q_t_book, .inl (cI, 45, .inl t_book)), (q_t_sight, .inl (cI, 16, .inl t_sight)), (q_t_image, .inl (cI, 140, .inl t_image)), (q_t_isKept, .inl (cZ, 2, .inl t_isKept))] → va_S A s.heap H locs → ∀ ls : Array Slot, lv_has ls 4 [(0, .ref q_t), (2, .int x2), (3, .int x3)] → W p l e ({ frames := 1, cells := 0, slots := 0, locals := 22 } : Room) s m args below meth c H locs 0 0 Q (F0 m 31 ls []) := by
  obtain ⟨hx, hb, hml, hown, hts⟩ := id C0
  intro n
  induction n with
  | zero =>
    intro x2 x3 t_shift t_kneels t_sights t_book t_sight hf
    exact False.elim hf
  | succ n ih =>
    intro x2 x3 t_shift t_kneels t_sights t_book t_sight hf H locs hP hD hS ls hl
    rw [pX7_restore_b31] at hf
    refine lv_iload_n hx hb dX7_restore_31 rfl (lv_at hl 2 rfl) ?_
    refine lv_bipush (v := 45) hx hb dX7_restore_32 (by decide) ?_
    refine lv_icmp_ge (tgt := 57) hx hb dX7_restore_34 (by decide) (fun c1 => ?_) (fun c1 => ?_)
    · have hf := hf.1 c1
      refine lv_iconst (v := 0) hx hb dX7_restore_57 (by decide) ?_
      refine lv_istore_n (lv' := [(3, .int 0), (0, .ref q_t), (2, .int x2)]) hx hb dX7_restore_58 rfl hl (by decide) rfl (fun ls hl => ?_)
      obtain ⟨n1, hf⟩ := hf
      exact wX7_restore_b59 C0 hN hK hA q_t q_t_book q_t_sight q_t_image q_t_isKept q_t_now q_t_pad q_t_had q_t_takes q_t_worths q_t_fitting q_t_wins q_t_ways t_signs t_metAt t_metWho t_reason t_acts t_image t_isKept a1 post hret   n1 x2 0 t_shift t_kneels t_sights t_book t_sight hf H locs hP hD hS ls (lv_sub hl [1, 2, 0] rfl)
    · have hf := hf.2 c1
      refine lv_aload_n hx hb dX7_restore_37 rfl (lv_at hl 0 rfl) ?_
      refine va_get (D := D) (ci := 7) (v := .ref q_t_book) (C := RX7) (T := TX7) (N := 20) hx hb hts nX7_restore_X7 hown hK hP 0 rfl rfl 0 (by decide) (hts _ mX7_restore_2) (fun _ h9 => h9) rfl dX7_restore_38 ?_
      refine lv_iload_n hx hb dX7_restore_41 rfl (lv_at hl 2 rfl) ?_
      refine lv_aload_n hx hb dX7_restore_42 rfl (lv_at hl 0 rfl) ?_
      refine va_get (D := D) (ci := 7) (v := .ref q_t_image) (C := RX7) (T := TX7) (N := 20) hx hb hts nX7_restore_X7 hown hK hP 0 rfl rfl 18 (by decide) (hts _ mX7_restore_3) (fun _ h9 => h9) rfl dX7_restore_43 ?_
      refine lv_iload_n hx hb dX7_restore_46 rfl (lv_at hl 1 rfl) ?_
      refine lv_iload_n hx hb dX7_restore_47 rfl (lv_at hl 2 rfl) ?_
      refine lv_iadd hx hb dX7_restore_48 ?_
      have g2 := hf.1
      have hf := hf.2
      refine xa_iald hx hb hK hP 3 0 rfl rfl (j := (x2 + x3).toNatClampNeg) rfl g2 dX7_restore_49 ?_
      refine lv_topi (fun v3 ev3 => ?_)
      have hf := hf v3 ev3
      have g4 := hf.1
      have hf := hf.2
      refine xa_iast hx hb hK hP hD hS 1 0 rfl rfl (j := x3.toNatClampNeg) rfl g4 dX7_restore_50 (fun H locs hP hD hS => ?_)
      have hP : va_P D vwCl [(q_t, .inr (7, [.ref q_t_book, .ref q_t_now, .int t_shift, .int t_kneels, .int t_sights, .ref q_t_sight, .int t_signs, .ref q_t_pad, .int t_metAt, .int t_metWho, .int t_reason, .int t_acts, .ref q_t_had, .ref q_t_takes, .ref q_t_worths, .ref q_t_fitting, .ref q_t_wins, .ref q_t_ways, .ref q_t_image, .ref q_t_isKept])), (q_t_book, .inl (cI, 45, .inl (upd t_book x3.toNatClampNeg v3))), (q_t_sight, .inl (cI, 16, .inl t_sight)), (q_t_image, .inl (cI, 140, .inl t_image)), (q_t_isKept, .inl (cZ, 2, .inl t_isKept))] H := hP
      have hD : va_D A [(q_t, .inr (7, [.ref q_t_book, .ref q_t_now, .int t_shift, .int t_kneels, .int t_sights, .ref q_t_sight, .int t_signs, .ref q_t_pad, .int t_metAt, .int t_metWho, .int t_reason, .int t_acts, .ref q_t_had, .ref q_t_takes, .ref q_t_worths, .ref q_t_fitting, .ref q_t_wins, .ref q_t_ways, .ref q_t_image, .ref q_t_isKept])), (q_t_book, .inl (cI, 45, .inl (upd t_book x3.toNatClampNeg v3))), (q_t_sight, .inl (cI, 16, .inl t_sight)), (q_t_image, .inl (cI, 140, .inl t_image)), (q_t_isKept, .inl (cZ, 2, .inl t_isKept))] := hD
      obtain ⟨v5, ev5⟩ : ∃ y : Int32, y = x3 + 1 := ⟨_, rfl⟩
      have hf := hf v5 ev5
      refine lv_iinc (v := v5) (lv' := [(3, .int v5), (0, .ref q_t), (2, .int x2)]) hx hb dX7_restore_51 hl (k := 2) rfl (by rw [ev5]; rfl) (by decide) rfl (fun ls hl => ?_)
      refine lv_goto (tgt := 31) hx hb dX7_restore_54 (by decide) ?_
      exact ih x2 v5 t_shift t_kneels t_sights (upd t_book x3.toNatClampNeg v3) t_sight hf H locs hP hD hS ls (lv_sub hl [1, 2, 0] rfl)

def pX7_restore (t_shift : Int32) (t_kneels : Int32) (t_sights : Int32) (t_book : (Nat → Int32)) (t_sight : (Nat → Int32)) (t_image : (Nat → Int32)) (t_isKept : (Nat → Int32)) (a1 : Int32) (post : Int32 → (Int32 × Int32 × Int32 × (Nat → Int32) × (Nat → Int32)) → Prop) : Prop :=
  pX7_in a1 0 1 (fun r1 => (¬ r1 = 0 → (vp_in a1 2 ∧ ((¬ (t_isKept a1.toNatClampNeg) = 0 → (∀ v5 : Int32, v5 = (70 * a1) → (∃ n1, pX7_restore_b31 t_image t_isKept a1 post  n1 v5 0 t_shift t_kneels t_sights t_book t_sight))) ∧ ((t_isKept a1.toNatClampNeg) = 0 → (post (-3) (t_shift, t_kneels, t_sights, t_book, t_sight)))))) ∧ (r1 = 0 → (post (-2) (t_shift, t_kneels, t_sights, t_book, t_sight))))

set_option maxHeartbeats 4000000 in
set_option maxRecDepth 100000 in
theorem kX7_restore (l : Launch) (D : va_G) (cI cZ cJ cO : ClassId) (q_t q_t_book q_t_sight q_t_image q_t_isKept q_t_now q_t_pad q_t_had q_t_takes q_t_worths q_t_fitting q_t_wins q_t_ways : Nat) (sz : Nat) (t_signs : Int32) (t_metAt : Int32) (t_metWho : Int32) (t_reason : Int32) (t_acts : Int32) (t_shift : Int32) (t_kneels : Int32) (t_sights : Int32) (t_book : (Nat → Int32)) (t_sight : (Nat → Int32)) (t_image : (Nat → Int32)) (t_isKept : (Nat → Int32)) (a1 : Int32) (post : Int32 → (Int32 × Int32 × Int32 × (Nat → Int32) × (Nat → Int32)) → Prop) (hf : pX7_restore t_shift t_kneels t_sights t_book t_sight t_image t_isKept a1 post) :
    Met l yX7_restore wsX7_restore ({ frames := 1, cells := 0, slots := 0, locals := 22 } : Room) (va_Pc [.ref q_t, .int a1] (B1 D (tyL cI cZ cJ cO) [(q_t, .inr (7, [.ref q_t_book, .ref q_t_now, .int t_shift, .int t_kneels, .int t_sights, .ref q_t_sight, .int t_signs, .ref q_t_pad, .int t_metAt, .int t_metWho, .int t_reason, .int t_acts, .ref q_t_had, .ref q_t_takes, .ref q_t_worths, .ref q_t_fitting, .ref q_t_wins, .ref q_t_ways, .ref q_t_image, .ref q_t_isKept])), (q_t_book, .inl (cI, 45, .inl t_book)), (q_t_sight, .inl (cI, 16, .inl t_sight)), (q_t_image, .inl (cI, 140, .inl t_image)), (q_t_isKept, .inl (cZ, 2, .inl t_isKept))] sz)) (va_Qi post (fun u t => E1 D (va_A [(q_t, .inr (7, [.ref q_t_book, .ref q_t_now, .int t_shift, .int t_kneels, .int t_sights, .ref q_t_sight, .int t_signs, .ref q_t_pad, .int t_metAt, .int t_metWho, .int t_reason, .int t_acts, .ref q_t_had, .ref q_t_takes, .ref q_t_worths, .ref q_t_fitting, .ref q_t_wins, .ref q_t_ways, .ref q_t_image, .ref q_t_isKept])), (q_t_book, .inl (cI, 45, .inl t_book)), (q_t_sight, .inl (cI, 16, .inl t_sight)), (q_t_image, .inl (cI, 140, .inl t_image)), (q_t_isKept, .inl (cZ, 2, .inl t_isKept))] sz) ((fun u : Int32 × Int32 × Int32 × (Nat → Int32) × (Nat → Int32) => [(q_t, .inr (7, [.ref q_t_book, .ref q_t_now, .int u.1, .int u.2.1, .int u.2.2.1, .ref q_t_sight, .int t_signs, .ref q_t_pad, .int t_metAt, .int t_metWho, .int t_reason, .int t_acts, .ref q_t_had, .ref q_t_takes, .ref q_t_worths, .ref q_t_fitting, .ref q_t_wins, .ref q_t_ways, .ref q_t_image, .ref q_t_isKept])), (q_t_book, .inl (cI, 45, .inl u.2.2.2.1)), (q_t_sight, .inl (cI, 16, .inl u.2.2.2.2)), (q_t_image, .inl (cI, 140, .inl t_image)), (q_t_isKept, .inl (cZ, 2, .inl t_isKept))]) u) t) (va_A [(q_t, .inr (7, [.ref q_t_book, .ref q_t_now, .int t_shift, .int t_kneels, .int t_sights, .ref q_t_sight, .int t_signs, .ref q_t_pad, .int t_metAt, .int t_metWho, .int t_reason, .int t_acts, .ref q_t_had, .ref q_t_takes, .ref q_t_worths, .ref q_t_fitting, .ref q_t_wins, .ref q_t_ways, .ref q_t_image, .ref q_t_isKept])), (q_t_book, .inl (cI, 45, .inl t_book)), (q_t_sight, .inl (cI, 16, .inl t_sight)), (q_t_image, .inl (cI, 140, .inl t_image)), (q_t_isKept, .inl (cZ, 2, .inl t_isKept))] sz)) 0 0 (va_A [(q_t, .inr (7, [.ref q_t_book, .ref q_t_now, .int t_shift, .int t_kneels, .int t_sights, .ref q_t_sight, .int t_signs, .ref q_t_pad, .int t_metAt, .int t_metWho, .int t_reason, .int t_acts, .ref q_t_had, .ref q_t_takes, .ref q_t_worths, .ref q_t_fitting, .ref q_t_wins, .ref q_t_ways, .ref q_t_image, .ref q_t_isKept])), (q_t_book, .inl (cI, 45, .inl t_book)), (q_t_sight, .inl (cI, 16, .inl t_sight)), (q_t_image, .inl (cI, 140, .inl t_image)), (q_t_isKept, .inl (cZ, 2, .inl t_isKept))] sz) := by
  unfold pX7_restore at hf
  refine xm_1i (own := RX7) (by decide) rfl rfl (Nat.le_of_ble_eq_true rfl) (fun p e s m args below meth c Q A C0 hN hK hA hret hP hD ls hl => ?_)
  obtain ⟨hx, hb, hml, hown, hts⟩ := id C0
  have hl : lv_has ls 4 [(0, .ref q_t), (1, .int a1)] := hl
  have hS : va_S A s.heap s.heap [] := va_S.rf
  obtain ⟨H, hHe⟩ : ∃ H, H = s.heap := ⟨_, rfl⟩
  obtain ⟨locs, hLe⟩ : ∃ L : List Loc, L = [] := ⟨_, rfl⟩
  rw [← hLe]
  rw [← hLe] at hS
  have hP : va_P D vwCl [(q_t, .inr (7, [.ref q_t_book, .ref q_t_now, .int t_shift, .int t_kneels, .int t_sights, .ref q_t_sight, .int t_signs, .ref q_t_pad, .int t_metAt, .int t_metWho, .int t_reason, .int t_acts, .ref q_t_had, .ref q_t_takes, .ref q_t_worths, .ref q_t_fitting, .ref q_t_wins, .ref q_t_ways, .ref q_t_image, .ref q_t_isKept])), (q_t_book, .inl (cI, 45, .inl t_book)), (q_t_sight, .inl (cI, 16, .inl t_sight)), (q_t_image, .inl (cI, 140, .inl t_image)), (q_t_isKept, .inl (cZ, 2, .inl t_isKept))] H := by rw [hHe]; exact hP
  have hS : va_S A s.heap H locs := by rw [hHe]; exact hS
  suffices hgo : W p l e ({ frames := 1, cells := 0, slots := 0, locals := 22 } : Room) s m args below meth c H locs 0 0 Q (F0 m 0 ls []) by rw [← hHe]; exact hgo
  clear hHe hLe
  refine lv_iload_n hx hb dX7_restore_0 rfl (lv_at hl 1 rfl) ?_
  refine lv_iconst (v := 0) hx hb dX7_restore_1 (by decide) ?_
  refine lv_iconst (v := 1) hx hb dX7_restore_2 (by decide) ?_
  refine xs_i (va_runS (As := [.int a1, .int 0, .int 1]) (rest := []) ⟨hx, hb, hml, hown, hts⟩ (kX7_in l D cI cZ cJ cO a1 0 1 _ hf) (va_cwS 3 hts gX7_restore_X7_in rfl rfl rfl (by decide +kernel) ⟨Nat.le_of_ble_eq_true rfl, Nat.le_of_ble_eq_true rfl⟩) (B0_pre (hP.sub (ws' := []) [] rfl) hK hN) rfl rfl hl.1 rfl (lv_room (Nat.le_of_ble_eq_true rfl)) dX7_restore_3 ⟨Nat.zero_le _, Nat.zero_le _⟩) (fun r1 hf => ?_)
  refine lv_if_ne (tgt := 12) hx hb dX7_restore_6 (by decide) (fun c2 => ?_) (fun c2 => ?_)
  · have hf := hf.1 c2
    refine lv_aload_n hx hb dX7_restore_12 rfl (lv_at hl 0 rfl) ?_
    refine va_get (D := D) (ci := 7) (v := .ref q_t_isKept) (C := RX7) (T := TX7) (N := 20) hx hb hts nX7_restore_X7 hown hK hP 0 rfl rfl 19 (by decide) (hts _ mX7_restore_1) (fun _ h9 => h9) rfl dX7_restore_13 ?_
    refine lv_iload_n hx hb dX7_restore_16 rfl (lv_at hl 1 rfl) ?_
    have g3 := hf.1
    have hf := hf.2
    refine xa_zald hx hb hK hP 4 1 rfl rfl (j := a1.toNatClampNeg) rfl g3 dX7_restore_17 ?_
    refine lv_if_ne (tgt := 24) hx hb dX7_restore_18 (by decide) (fun c4 => ?_) (fun c4 => ?_)
    · have hf := hf.1 c4
      refine lv_bipush (v := 70) hx hb dX7_restore_24 (by decide) ?_
      refine lv_iload_n hx hb dX7_restore_26 rfl (lv_at hl 1 rfl) ?_
      refine lv_imul hx hb dX7_restore_27 ?_
      refine lv_topi (fun v5 ev5 => ?_)
      have hf := hf v5 ev5
      refine lv_istore_n (lv' := [(2, .int v5), (0, .ref q_t), (1, .int a1)]) hx hb dX7_restore_28 rfl hl (by decide) rfl (fun ls hl => ?_)
      refine lv_iconst (v := 0) hx hb dX7_restore_29 (by decide) ?_
      refine lv_istore_n (lv' := [(3, .int 0), (2, .int v5), (0, .ref q_t), (1, .int a1)]) hx hb dX7_restore_30 rfl hl (by decide) rfl (fun ls hl => ?_)
      obtain ⟨n1, hf⟩ := hf
      exact wX7_restore_b31 C0 hN hK hA q_t q_t_book q_t_sight q_t_image q_t_isKept q_t_now q_t_pad q_t_had q_t_takes q_t_worths q_t_fitting q_t_wins q_t_ways t_signs t_metAt t_metWho t_reason t_acts t_image t_isKept a1 post hret   n1 v5 0 t_shift t_kneels t_sights t_book t_sight hf H locs hP hD hS ls (lv_sub hl [2, 1, 0] rfl)
    · have hf := hf.2 c4
      refine lv_bipush (v := (-3)) hx hb dX7_restore_21 (by decide) ?_
      exact hret 23 ls H locs (-3) (t_shift, t_kneels, t_sights, t_book, t_sight) dX7_restore_23 hf hP hD hS
  · have hf := hf.2 c2
    refine lv_bipush (v := (-2)) hx hb dX7_restore_9 (by decide) ?_
    exact hret 11 ls H locs (-2) (t_shift, t_kneels, t_sights, t_book, t_sight) dX7_restore_11 hf hP hD hS

/-! X7_told -/
theorem mX7_told_2 : Cond.fieldLink RX7 69 "OxenKneelModel" "signs" "I" ∈ wsX7_told := List.mem_of_getElem? (i := 2) rfl
theorem mX7_told_1 : Cond.fieldLink RX7 7 "OxenKneelModel" "book" "[I" ∈ wsX7_told := List.mem_of_getElem? (i := 1) rfl
theorem mX7_told_3 : Cond.fieldLink RX7 16 "OxenKneelModel" "shift" "I" ∈ wsX7_told := List.mem_of_getElem? (i := 3) rfl
theorem mX7_told_4 : Cond.fieldLink RX7 20 "OxenKneelModel" "kneels" "I" ∈ wsX7_told := List.mem_of_getElem? (i := 4) rfl
theorem mX7_told_5 : Cond.fieldLink RX7 140 "OxenKneelModel" "sights" "I" ∈ wsX7_told := List.mem_of_getElem? (i := 5) rfl
theorem nX7_told_X7 : ∀ w ∈ wsX70, w ∈ wsX7_told := fun _ h => List.mem_cons_of_mem _ (List.mem_append_right _ h)
def pX7_told_b121 (t_shift : Int32) (t_kneels : Int32) (t_sights : Int32) (t_signs : Int32) (t_book : (Nat → Int32)) (a1 : Int32) (post : Int32 → (Int32 × Int32 × (Nat → Int32)) → Prop) (t_metAt : Int32) (t_metWho : Int32) (t_now : (Nat → Int32)) : Prop :=
  vp_in (41 + a1) 45 ∧ (post (t_book (41 + a1).toNatClampNeg) (t_metAt, t_metWho, t_now))

set_option maxHeartbeats 4000000 in
set_option maxRecDepth 100000 in
theorem wX7_told_b121 {p : Program} {l : Launch} {e : Env} {s : State} {m : MethodId} {args : Array Value} {below : List Frame} {meth : Method} {c : Code} {Q : State → Prop} {D : va_G} {cI cZ cJ cO : ClassId} {A : Nat → Prop} (C0 : CallFix p m c cX7_told 3 s args wsX7_told RX7) (hN : nw s) (hK : va_K D vwCl (tyL cI cZ cJ cO) s) (hA : ∀ q, s.heap.size ≤ q → A q) (q_t q_t_book q_t_now q_t_sight q_t_pad q_t_had q_t_takes q_t_worths q_t_fitting q_t_wins q_t_ways q_t_image q_t_isKept : Nat) (t_reason : Int32) (t_acts : Int32) (t_shift : Int32) (t_kneels : Int32) (t_sights : Int32) (t_signs : Int32) (t_book : (Nat → Int32)) (a1 : Int32) (post : Int32 → (Int32 × Int32 × (Nat → Int32)) → Prop) (hret : hrI p l e ({ frames := 1, cells := 0, slots := 0, locals := 22 } : Room) s m args below meth c cX7_told D A Q post (fun u : Int32 × Int32 × (Nat → Int32) => [(q_t, .inr (7, [.ref q_t_book, .ref q_t_now, .int t_shift, .int t_kneels, .int t_sights, .ref q_t_sight, .int t_signs, .ref q_t_pad, .int u.1, .int u.2.1, .int t_reason, .int t_acts, .ref q_t_had, .ref q_t_takes, .ref q_t_worths, .ref q_t_fitting, .ref q_t_wins, .ref q_t_ways, .ref q_t_image, .ref q_t_isKept])), (q_t_book, .inl (cI, 45, .inl t_book)), (q_t_now, .inl (cI, 45, .inl u.2.2))])) :
    ∀ (t_metAt : Int32) (t_metWho : Int32) (t_now : (Nat → Int32)), pX7_told_b121 t_shift t_kneels t_sights t_signs t_book a1 post t_metAt t_metWho t_now → ∀ (H : Heap) (locs : List Loc), va_P D vwCl [(q_t, .inr (7, [.ref q_t_book, .ref q_t_now, .int t_shift, .int t_kneels, .int t_sights, .ref q_t_sight, .int t_signs, .ref q_t_pad, .int t_metAt, .int t_metWho, .int t_reason, .int t_acts, .ref q_t_had, .ref q_t_takes, .ref q_t_worths, .ref q_t_fitting, .ref q_t_wins, .ref q_t_ways, .ref q_t_image, .ref q_t_isKept])), (q_t_book, .inl (cI, 45, .inl t_book)), (q_t_now, .inl (cI, 45, .inl t_now))] H → va_D A [(q_t, .inr (7, [.ref q_t_book, .ref q_t_now, .int t_shift, .int t_kneels, .int t_sights, .ref q_t_sight, .int t_signs, .ref q_t_pad, .int t_metAt, .int t_metWho, .int t_reason, .int t_acts, .ref q_t_had, .ref q_t_takes, .ref q_t_worths, .ref q_t_fitting, .ref q_t_wins, .ref q_t_ways, .ref q_t_image, .ref q_t_isKept])), (q_t_book, .inl (cI, 45, .inl t_book)), (q_t_now, .inl (cI, 45, .inl t_now))] → va_S A s.heap H locs → ∀ ls : Array Slot, lv_has ls 3 [(0, .ref q_t), (1, .int a1)] → W p l e ({ frames := 1, cells := 0, slots := 0, locals := 22 } : Room) s m args below meth c H locs 0 0 Q (F0 m 121 ls []) := by
  obtain ⟨hx, hb, hml, hown, hts⟩ := id C0
  intro t_metAt t_metWho t_now hf H locs hP hD hS ls hl
  unfold pX7_told_b121 at hf
  refine lv_aload_n hx hb dX7_told_121 rfl (lv_at hl 0 rfl) ?_
  refine va_get (D := D) (ci := 7) (v := .ref q_t_book) (C := RX7) (T := TX7) (N := 20) hx hb hts nX7_told_X7 hown hK hP 0 rfl rfl 0 (by decide) (hts _ mX7_told_1) (fun _ h9 => h9) rfl dX7_told_122 ?_
  refine lv_bipush (v := 41) hx hb dX7_told_125 (by decide) ?_
  refine lv_iload_n hx hb dX7_told_127 rfl (lv_at hl 1 rfl) ?_
  refine lv_iadd hx hb dX7_told_128 ?_
  have g1 := hf.1
  have hf := hf.2
  refine xa_iald hx hb hK hP 1 0 rfl rfl (j := (41 + a1).toNatClampNeg) rfl g1 dX7_told_129 ?_
  exact hret 130 ls H locs (t_book (41 + a1).toNatClampNeg) (t_metAt, t_metWho, t_now) dX7_told_130 hf hP hD hS

def pX7_told (t_shift : Int32) (t_kneels : Int32) (t_sights : Int32) (t_signs : Int32) (t_metAt : Int32) (t_metWho : Int32) (t_book : (Nat → Int32)) (t_now : (Nat → Int32)) (a1 : Int32) (post : Int32 → (Int32 × Int32 × (Nat → Int32)) → Prop) : Prop :=
  (a1 < 30 → ((a1 < 10 → ((a1 = 0 → (post t_signs (t_metAt, t_metWho, t_now))) ∧ ((a1 = 1 → (pX7_told_b121 t_shift t_kneels t_sights t_signs t_book a1 post  t_metAt t_metWho t_now)) ∧ ((a1 = 2 → (pX7_told_b121 t_shift t_kneels t_sights t_signs t_book a1 post  t_metAt t_metWho t_now)) ∧ ((a1 = 3 → (pX7_told_b121 t_shift t_kneels t_sights t_signs t_book a1 post  t_metAt t_metWho t_now)) ∧ ((a1 = 4 → (post t_shift (t_metAt, t_metWho, t_now))) ∧ ((a1 = 5 → (post t_kneels (t_metAt, t_metWho, t_now))) ∧ ((a1 = 6 → (post t_sights (t_metAt, t_metWho, t_now))) ∧ ((¬ a1 = 0 → ¬ a1 = 1 → ¬ a1 = 2 → ¬ a1 = 3 → ¬ a1 = 4 → ¬ a1 = 5 → ¬ a1 = 6 → (pX7_asNow t_metAt t_metWho t_book t_now (fun (u11 : Int32 × Int32 × (Nat → Int32)) => (¬ a1 = 7 → (post (-2) (u11.1, u11.2.1, u11.2.2))) ∧ (a1 = 7 → (pX7_within u11.2.2 (fun r13 => post r13 (u11.1, u11.2.1, u11.2.2)))))))))))))))) ∧ (¬ a1 < 10 → (∀ v14 : Int32, v14 = (a1 - a1 / 10 * 10) → ((v14 ≤ 5 → ((20 ≤ a1 → (vp_in (6 + v14) 45 ∧ (post (t_book (6 + v14).toNatClampNeg) (t_metAt, t_metWho, t_now)))) ∧ (¬ 20 ≤ a1 → (vp_in v14 45 ∧ (post (t_book v14.toNatClampNeg) (t_metAt, t_metWho, t_now)))))) ∧ (¬ v14 ≤ 5 → (post (-2) (t_metAt, t_metWho, t_now)))))))) ∧ (¬ a1 < 30 → ((60 ≤ a1 → (post (-2) (t_metAt, t_metWho, t_now))) ∧ (¬ 60 ≤ a1 → (vp_in (a1 - 18) 45 ∧ (post (t_book (a1 - 18).toNatClampNeg) (t_metAt, t_metWho, t_now))))))

set_option maxHeartbeats 4000000 in
set_option maxRecDepth 100000 in
theorem kX7_told (l : Launch) (D : va_G) (cI cZ cJ cO : ClassId) (q_t q_t_book q_t_now q_t_sight q_t_pad q_t_had q_t_takes q_t_worths q_t_fitting q_t_wins q_t_ways q_t_image q_t_isKept : Nat) (sz : Nat) (t_reason : Int32) (t_acts : Int32) (t_shift : Int32) (t_kneels : Int32) (t_sights : Int32) (t_signs : Int32) (t_metAt : Int32) (t_metWho : Int32) (t_book : (Nat → Int32)) (t_now : (Nat → Int32)) (a1 : Int32) (post : Int32 → (Int32 × Int32 × (Nat → Int32)) → Prop) (hf : pX7_told t_shift t_kneels t_sights t_signs t_metAt t_metWho t_book t_now a1 post) :
    Met l yX7_told wsX7_told ({ frames := 1, cells := 0, slots := 0, locals := 22 } : Room) (va_Pc [.ref q_t, .int a1] (B1 D (tyL cI cZ cJ cO) [(q_t, .inr (7, [.ref q_t_book, .ref q_t_now, .int t_shift, .int t_kneels, .int t_sights, .ref q_t_sight, .int t_signs, .ref q_t_pad, .int t_metAt, .int t_metWho, .int t_reason, .int t_acts, .ref q_t_had, .ref q_t_takes, .ref q_t_worths, .ref q_t_fitting, .ref q_t_wins, .ref q_t_ways, .ref q_t_image, .ref q_t_isKept])), (q_t_book, .inl (cI, 45, .inl t_book)), (q_t_now, .inl (cI, 45, .inl t_now))] sz)) (va_Qi post (fun u t => E1 D (va_A [(q_t, .inr (7, [.ref q_t_book, .ref q_t_now, .int t_shift, .int t_kneels, .int t_sights, .ref q_t_sight, .int t_signs, .ref q_t_pad, .int t_metAt, .int t_metWho, .int t_reason, .int t_acts, .ref q_t_had, .ref q_t_takes, .ref q_t_worths, .ref q_t_fitting, .ref q_t_wins, .ref q_t_ways, .ref q_t_image, .ref q_t_isKept])), (q_t_book, .inl (cI, 45, .inl t_book)), (q_t_now, .inl (cI, 45, .inl t_now))] sz) ((fun u : Int32 × Int32 × (Nat → Int32) => [(q_t, .inr (7, [.ref q_t_book, .ref q_t_now, .int t_shift, .int t_kneels, .int t_sights, .ref q_t_sight, .int t_signs, .ref q_t_pad, .int u.1, .int u.2.1, .int t_reason, .int t_acts, .ref q_t_had, .ref q_t_takes, .ref q_t_worths, .ref q_t_fitting, .ref q_t_wins, .ref q_t_ways, .ref q_t_image, .ref q_t_isKept])), (q_t_book, .inl (cI, 45, .inl t_book)), (q_t_now, .inl (cI, 45, .inl u.2.2))]) u) t) (va_A [(q_t, .inr (7, [.ref q_t_book, .ref q_t_now, .int t_shift, .int t_kneels, .int t_sights, .ref q_t_sight, .int t_signs, .ref q_t_pad, .int t_metAt, .int t_metWho, .int t_reason, .int t_acts, .ref q_t_had, .ref q_t_takes, .ref q_t_worths, .ref q_t_fitting, .ref q_t_wins, .ref q_t_ways, .ref q_t_image, .ref q_t_isKept])), (q_t_book, .inl (cI, 45, .inl t_book)), (q_t_now, .inl (cI, 45, .inl t_now))] sz)) 0 0 (va_A [(q_t, .inr (7, [.ref q_t_book, .ref q_t_now, .int t_shift, .int t_kneels, .int t_sights, .ref q_t_sight, .int t_signs, .ref q_t_pad, .int t_metAt, .int t_metWho, .int t_reason, .int t_acts, .ref q_t_had, .ref q_t_takes, .ref q_t_worths, .ref q_t_fitting, .ref q_t_wins, .ref q_t_ways, .ref q_t_image, .ref q_t_isKept])), (q_t_book, .inl (cI, 45, .inl t_book)), (q_t_now, .inl (cI, 45, .inl t_now))] sz) := by
  unfold pX7_told at hf
  refine xm_1i (own := RX7) (by decide) rfl rfl (Nat.le_of_ble_eq_true rfl) (fun p e s m args below meth c Q A C0 hN hK hA hret hP hD ls hl => ?_)
  obtain ⟨hx, hb, hml, hown, hts⟩ := id C0
  have hl : lv_has ls 3 [(0, .ref q_t), (1, .int a1)] := hl
  have hS : va_S A s.heap s.heap [] := va_S.rf
  obtain ⟨H, hHe⟩ : ∃ H, H = s.heap := ⟨_, rfl⟩
  obtain ⟨locs, hLe⟩ : ∃ L : List Loc, L = [] := ⟨_, rfl⟩
  rw [← hLe]
  rw [← hLe] at hS
  have hP : va_P D vwCl [(q_t, .inr (7, [.ref q_t_book, .ref q_t_now, .int t_shift, .int t_kneels, .int t_sights, .ref q_t_sight, .int t_signs, .ref q_t_pad, .int t_metAt, .int t_metWho, .int t_reason, .int t_acts, .ref q_t_had, .ref q_t_takes, .ref q_t_worths, .ref q_t_fitting, .ref q_t_wins, .ref q_t_ways, .ref q_t_image, .ref q_t_isKept])), (q_t_book, .inl (cI, 45, .inl t_book)), (q_t_now, .inl (cI, 45, .inl t_now))] H := by rw [hHe]; exact hP
  have hS : va_S A s.heap H locs := by rw [hHe]; exact hS
  suffices hgo : W p l e ({ frames := 1, cells := 0, slots := 0, locals := 22 } : Room) s m args below meth c H locs 0 0 Q (F0 m 0 ls []) by rw [← hHe]; exact hgo
  clear hHe hLe
  refine lv_iload_n hx hb dX7_told_0 rfl (lv_at hl 1 rfl) ?_
  refine lv_bipush (v := 30) hx hb dX7_told_1 (by decide) ?_
  refine lv_icmp_lt (tgt := 27) hx hb dX7_told_3 (by decide) (fun c1 => ?_) (fun c1 => ?_)
  · have hf := hf.1 c1
    refine lv_iload_n hx hb dX7_told_27 rfl (lv_at hl 1 rfl) ?_
    refine lv_bipush (v := 10) hx hb dX7_told_28 (by decide) ?_
    refine lv_icmp_lt (tgt := 73) hx hb dX7_told_30 (by decide) (fun c2 => ?_) (fun c2 => ?_)
    · have hf := hf.1 c2
      refine lv_iload_n hx hb dX7_told_73 rfl (lv_at hl 1 rfl) ?_
      by_cases z3 : a1 = 0
      · have hf := hf.1 z3
        refine lv_tableIn (off := 42) (tgt := 116) hx hb dX7_told_74 (by rw [z3]; decide) (by rw [z3]; decide) (by rw [z3]; decide) (by decide) ?_
        refine lv_aload_n hx hb dX7_told_116 rfl (lv_at hl 0 rfl) ?_
        refine va_get (D := D) (ci := 7) (v := .int t_signs) (C := RX7) (T := TX7) (N := 20) hx hb hts nX7_told_X7 hown hK hP 0 rfl rfl 6 (by decide) (hts _ mX7_told_2) (fun _ h9 => h9) rfl dX7_told_117 ?_
        exact hret 120 ls H locs t_signs (t_metAt, t_metWho, t_now) dX7_told_120 hf hP hD hS
      · have hf := hf.2
        by_cases z4 : a1 = 1
        · have hf := hf.1 z4
          refine lv_tableIn (off := 47) (tgt := 121) hx hb dX7_told_74 (by rw [z4]; decide) (by rw [z4]; decide) (by rw [z4]; decide) (by decide) ?_
          exact wX7_told_b121 C0 hN hK hA q_t q_t_book q_t_now q_t_sight q_t_pad q_t_had q_t_takes q_t_worths q_t_fitting q_t_wins q_t_ways q_t_image q_t_isKept t_reason t_acts t_shift t_kneels t_sights t_signs t_book a1 post hret   t_metAt t_metWho t_now hf H locs hP hD hS ls (lv_sub hl [0, 1] rfl)
        · have hf := hf.2
          by_cases z5 : a1 = 2
          · have hf := hf.1 z5
            refine lv_tableIn (off := 47) (tgt := 121) hx hb dX7_told_74 (by rw [z5]; decide) (by rw [z5]; decide) (by rw [z5]; decide) (by decide) ?_
            exact wX7_told_b121 C0 hN hK hA q_t q_t_book q_t_now q_t_sight q_t_pad q_t_had q_t_takes q_t_worths q_t_fitting q_t_wins q_t_ways q_t_image q_t_isKept t_reason t_acts t_shift t_kneels t_sights t_signs t_book a1 post hret   t_metAt t_metWho t_now hf H locs hP hD hS ls (lv_sub hl [0, 1] rfl)
          · have hf := hf.2
            by_cases z6 : a1 = 3
            · have hf := hf.1 z6
              refine lv_tableIn (off := 47) (tgt := 121) hx hb dX7_told_74 (by rw [z6]; decide) (by rw [z6]; decide) (by rw [z6]; decide) (by decide) ?_
              exact wX7_told_b121 C0 hN hK hA q_t q_t_book q_t_now q_t_sight q_t_pad q_t_had q_t_takes q_t_worths q_t_fitting q_t_wins q_t_ways q_t_image q_t_isKept t_reason t_acts t_shift t_kneels t_sights t_signs t_book a1 post hret   t_metAt t_metWho t_now hf H locs hP hD hS ls (lv_sub hl [0, 1] rfl)
            · have hf := hf.2
              by_cases z7 : a1 = 4
              · have hf := hf.1 z7
                refine lv_tableIn (off := 57) (tgt := 131) hx hb dX7_told_74 (by rw [z7]; decide) (by rw [z7]; decide) (by rw [z7]; decide) (by decide) ?_
                refine lv_aload_n hx hb dX7_told_131 rfl (lv_at hl 0 rfl) ?_
                refine va_get (D := D) (ci := 7) (v := .int t_shift) (C := RX7) (T := TX7) (N := 20) hx hb hts nX7_told_X7 hown hK hP 0 rfl rfl 2 (by decide) (hts _ mX7_told_3) (fun _ h9 => h9) rfl dX7_told_132 ?_
                exact hret 135 ls H locs t_shift (t_metAt, t_metWho, t_now) dX7_told_135 hf hP hD hS
              · have hf := hf.2
                by_cases z8 : a1 = 5
                · have hf := hf.1 z8
                  refine lv_tableIn (off := 62) (tgt := 136) hx hb dX7_told_74 (by rw [z8]; decide) (by rw [z8]; decide) (by rw [z8]; decide) (by decide) ?_
                  refine lv_aload_n hx hb dX7_told_136 rfl (lv_at hl 0 rfl) ?_
                  refine va_get (D := D) (ci := 7) (v := .int t_kneels) (C := RX7) (T := TX7) (N := 20) hx hb hts nX7_told_X7 hown hK hP 0 rfl rfl 3 (by decide) (hts _ mX7_told_4) (fun _ h9 => h9) rfl dX7_told_137 ?_
                  exact hret 140 ls H locs t_kneels (t_metAt, t_metWho, t_now) dX7_told_140 hf hP hD hS
                · have hf := hf.2
                  by_cases z9 : a1 = 6
                  · have hf := hf.1 z9
                    refine lv_tableIn (off := 67) (tgt := 141) hx hb dX7_told_74 (by rw [z9]; decide) (by rw [z9]; decide) (by rw [z9]; decide) (by decide) ?_
                    refine lv_aload_n hx hb dX7_told_141 rfl (lv_at hl 0 rfl) ?_
                    refine va_get (D := D) (ci := 7) (v := .int t_sights) (C := RX7) (T := TX7) (N := 20) hx hb hts nX7_told_X7 hown hK hP 0 rfl rfl 4 (by decide) (hts _ mX7_told_5) (fun _ h9 => h9) rfl dX7_told_142 ?_
                    exact hret 145 ls H locs t_sights (t_metAt, t_metWho, t_now) dX7_told_145 hf hP hD hS
                  · have hf := hf.2
                    have hf := hf z3 z4 z5 z6 z7 z8 z9
                    refine lv_tableOut (tgt := 146) hx hb dX7_told_74 (by have yz3 := lv_neT (a := 0) z3 (by decide); have yz4 := lv_neT (a := 1) z4 (by decide); have yz5 := lv_neT (a := 2) z5 (by decide); have yz6 := lv_neT (a := 3) z6 (by decide); have yz7 := lv_neT (a := 4) z7 (by decide); have yz8 := lv_neT (a := 5) z8 (by decide); have yz9 := lv_neT (a := 6) z9 (by decide); omega) (by decide) ?_
                    refine lv_aload_n hx hb dX7_told_146 rfl (lv_at hl 0 rfl) ?_
                    refine xc_v (wr := []) (va_runV (As := []) (rest := []) ⟨hx, hb, hml, hown, hts⟩ (kX7_asNow l D cI cZ cJ cO q_t q_t_book q_t_now q_t_sight q_t_pad q_t_had q_t_takes q_t_worths q_t_fitting q_t_wins q_t_ways q_t_image q_t_isKept H.size t_shift t_kneels t_sights t_signs t_reason t_acts t_metAt t_metWho t_book t_now _ hf) (cwV 0 hts gX7_told_X7_asNow rfl rfl rfl (by decide +kernel) ⟨Nat.le_of_ble_eq_true rfl, Nat.le_of_ble_eq_true rfl⟩) (B1_preV (ci := 7) (q0 := 0) hP rfl rfl (hP.sub (ws' := [(q_t, .inr (7, [.ref q_t_book, .ref q_t_now, .int t_shift, .int t_kneels, .int t_sights, .ref q_t_sight, .int t_signs, .ref q_t_pad, .int t_metAt, .int t_metWho, .int t_reason, .int t_acts, .ref q_t_had, .ref q_t_takes, .ref q_t_worths, .ref q_t_fitting, .ref q_t_wins, .ref q_t_ways, .ref q_t_image, .ref q_t_isKept])), (q_t_book, .inl (cI, 45, .inl t_book)), (q_t_now, .inl (cI, 45, .inl t_now))]) [0, 1, 2] rfl) hK hN (hD.sub (ws' := [(q_t, .inr (7, [.ref q_t_book, .ref q_t_now, .int t_shift, .int t_kneels, .int t_sights, .ref q_t_sight, .int t_signs, .ref q_t_pad, .int t_metAt, .int t_metWho, .int t_reason, .int t_acts, .ref q_t_had, .ref q_t_takes, .ref q_t_worths, .ref q_t_fitting, .ref q_t_wins, .ref q_t_ways, .ref q_t_image, .ref q_t_isKept])), (q_t_book, .inl (cI, 45, .inl t_book)), (q_t_now, .inl (cI, 45, .inl t_now))]) [0, 1, 2] (by decide) rfl)) rfl rfl hl.1 rfl (lv_room (Nat.le_of_ble_eq_true rfl)) dX7_told_147 ⟨Nat.zero_le _, Nat.zero_le _⟩) hP hD hS hA [0, 1, 2] [] rfl rfl (by decide) (by decide) (fun u11 H locs hf hP hD hS => ?_)
                    have hP : va_P D vwCl [(q_t, .inr (7, [.ref q_t_book, .ref q_t_now, .int t_shift, .int t_kneels, .int t_sights, .ref q_t_sight, .int t_signs, .ref q_t_pad, .int u11.1, .int u11.2.1, .int t_reason, .int t_acts, .ref q_t_had, .ref q_t_takes, .ref q_t_worths, .ref q_t_fitting, .ref q_t_wins, .ref q_t_ways, .ref q_t_image, .ref q_t_isKept])), (q_t_book, .inl (cI, 45, .inl t_book)), (q_t_now, .inl (cI, 45, .inl u11.2.2))] H := hP
                    have hD : va_D A [(q_t, .inr (7, [.ref q_t_book, .ref q_t_now, .int t_shift, .int t_kneels, .int t_sights, .ref q_t_sight, .int t_signs, .ref q_t_pad, .int u11.1, .int u11.2.1, .int t_reason, .int t_acts, .ref q_t_had, .ref q_t_takes, .ref q_t_worths, .ref q_t_fitting, .ref q_t_wins, .ref q_t_ways, .ref q_t_image, .ref q_t_isKept])), (q_t_book, .inl (cI, 45, .inl t_book)), (q_t_now, .inl (cI, 45, .inl u11.2.2))] := hD
                    refine lv_iload_n hx hb dX7_told_150 rfl (lv_at hl 1 rfl) ?_
                    refine lv_bipush (v := 7) hx hb dX7_told_151 (by decide) ?_
                    refine lv_icmp_ne (tgt := 163) hx hb dX7_told_153 (by decide) (fun c12 => ?_) (fun c12 => ?_)
                    · have hf := hf.1 c12
                      refine lv_bipush (v := (-2)) hx hb dX7_told_163 (by decide) ?_
                      exact hret 165 ls H locs (-2) (u11.1, u11.2.1, u11.2.2) dX7_told_165 hf hP hD hS
                    · have hf := hf.2 c12
                      refine lv_aload_n hx hb dX7_told_156 rfl (lv_at hl 0 rfl) ?_
                      refine xs_i (va_runV (As := []) (rest := []) ⟨hx, hb, hml, hown, hts⟩ (kX7_within l D cI cZ cJ cO q_t q_t_now q_t_book q_t_sight q_t_pad q_t_had q_t_takes q_t_worths q_t_fitting q_t_wins q_t_ways q_t_image q_t_isKept t_shift t_kneels t_sights t_signs u11.1 u11.2.1 t_reason t_acts u11.2.2 _ hf) (cwV 0 hts gX7_told_X7_within rfl rfl rfl (by decide +kernel) ⟨Nat.le_of_ble_eq_true rfl, Nat.le_of_ble_eq_true rfl⟩) (B0_preV (ci := 7) (q0 := 0) hP rfl rfl (hP.sub (ws' := [(q_t, .inr (7, [.ref q_t_book, .ref q_t_now, .int t_shift, .int t_kneels, .int t_sights, .ref q_t_sight, .int t_signs, .ref q_t_pad, .int u11.1, .int u11.2.1, .int t_reason, .int t_acts, .ref q_t_had, .ref q_t_takes, .ref q_t_worths, .ref q_t_fitting, .ref q_t_wins, .ref q_t_ways, .ref q_t_image, .ref q_t_isKept])), (q_t_now, .inl (cI, 45, .inl u11.2.2))]) [0, 2] rfl) hK hN) rfl rfl hl.1 rfl (lv_room (Nat.le_of_ble_eq_true rfl)) dX7_told_157 ⟨Nat.zero_le _, Nat.zero_le _⟩) (fun r13 hf => ?_)
                      refine lv_goto (tgt := 165) hx hb dX7_told_160 (by decide) ?_
                      exact hret 165 ls H locs r13 (u11.1, u11.2.1, u11.2.2) dX7_told_165 hf hP hD hS
    · have hf := hf.2 c2
      refine lv_iload_n hx hb dX7_told_33 rfl (lv_at hl 1 rfl) ?_
      refine lv_bipush (v := 10) hx hb dX7_told_34 (by decide) ?_
      refine lv_irem hx hb dX7_told_36 (by decide) ?_
      refine lv_topi (fun v14 ev14 => ?_)
      have hf := hf v14 ev14
      refine lv_istore_n (lv' := [(2, .int v14), (0, .ref q_t), (1, .int a1)]) hx hb dX7_told_37 rfl hl (by decide) rfl (fun ls hl => ?_)
      refine lv_iload_n hx hb dX7_told_38 rfl (lv_at hl 0 rfl) ?_
      refine lv_iconst (v := 5) hx hb dX7_told_39 (by decide) ?_
      refine lv_icmp_le (tgt := 48) hx hb dX7_told_40 (by decide) (fun c15 => ?_) (fun c15 => ?_)
      · have hf := hf.1 c15
        refine lv_iload_n hx hb dX7_told_48 rfl (lv_at hl 2 rfl) ?_
        refine lv_bipush (v := 20) hx hb dX7_told_49 (by decide) ?_
        refine lv_icmp_ge (tgt := 63) hx hb dX7_told_51 (by decide) (fun c16 => ?_) (fun c16 => ?_)
        · have hf := hf.1 c16
          refine lv_aload_n hx hb dX7_told_63 rfl (lv_at hl 1 rfl) ?_
          refine va_get (D := D) (ci := 7) (v := .ref q_t_book) (C := RX7) (T := TX7) (N := 20) hx hb hts nX7_told_X7 hown hK hP 0 rfl rfl 0 (by decide) (hts _ mX7_told_1) (fun _ h9 => h9) rfl dX7_told_64 ?_
          refine lv_bipush (v := 6) hx hb dX7_told_67 (by decide) ?_
          refine lv_iload_n hx hb dX7_told_69 rfl (lv_at hl 0 rfl) ?_
          refine lv_iadd hx hb dX7_told_70 ?_
          have g17 := hf.1
          have hf := hf.2
          refine xa_iald hx hb hK hP 1 0 rfl rfl (j := (6 + v14).toNatClampNeg) rfl g17 dX7_told_71 ?_
          exact hret 72 ls H locs (t_book (6 + v14).toNatClampNeg) (t_metAt, t_metWho, t_now) dX7_told_72 hf hP hD hS
        · have hf := hf.2 c16
          refine lv_aload_n hx hb dX7_told_54 rfl (lv_at hl 1 rfl) ?_
          refine va_get (D := D) (ci := 7) (v := .ref q_t_book) (C := RX7) (T := TX7) (N := 20) hx hb hts nX7_told_X7 hown hK hP 0 rfl rfl 0 (by decide) (hts _ mX7_told_1) (fun _ h9 => h9) rfl dX7_told_55 ?_
          refine lv_iload_n hx hb dX7_told_58 rfl (lv_at hl 0 rfl) ?_
          have g18 := hf.1
          have hf := hf.2
          refine xa_iald hx hb hK hP 1 0 rfl rfl (j := v14.toNatClampNeg) rfl g18 dX7_told_59 ?_
          refine lv_goto (tgt := 72) hx hb dX7_told_60 (by decide) ?_
          exact hret 72 ls H locs (t_book v14.toNatClampNeg) (t_metAt, t_metWho, t_now) dX7_told_72 hf hP hD hS
      · have hf := hf.2 c15
        refine lv_bipush (v := (-2)) hx hb dX7_told_43 (by decide) ?_
        refine lv_goto (tgt := 72) hx hb dX7_told_45 (by decide) ?_
        exact hret 72 ls H locs (-2) (t_metAt, t_metWho, t_now) dX7_told_72 hf hP hD hS
  · have hf := hf.2 c1
    refine lv_iload_n hx hb dX7_told_6 rfl (lv_at hl 1 rfl) ?_
    refine lv_bipush (v := 60) hx hb dX7_told_7 (by decide) ?_
    refine lv_icmp_ge (tgt := 24) hx hb dX7_told_9 (by decide) (fun c19 => ?_) (fun c19 => ?_)
    · have hf := hf.1 c19
      refine lv_bipush (v := (-2)) hx hb dX7_told_24 (by decide) ?_
      exact hret 26 ls H locs (-2) (t_metAt, t_metWho, t_now) dX7_told_26 hf hP hD hS
    · have hf := hf.2 c19
      refine lv_aload_n hx hb dX7_told_12 rfl (lv_at hl 0 rfl) ?_
      refine va_get (D := D) (ci := 7) (v := .ref q_t_book) (C := RX7) (T := TX7) (N := 20) hx hb hts nX7_told_X7 hown hK hP 0 rfl rfl 0 (by decide) (hts _ mX7_told_1) (fun _ h9 => h9) rfl dX7_told_13 ?_
      refine lv_iload_n hx hb dX7_told_16 rfl (lv_at hl 1 rfl) ?_
      refine lv_bipush (v := 18) hx hb dX7_told_17 (by decide) ?_
      refine lv_isub hx hb dX7_told_19 ?_
      have g20 := hf.1
      have hf := hf.2
      refine xa_iald hx hb hK hP 1 0 rfl rfl (j := (a1 - 18).toNatClampNeg) rfl g20 dX7_told_20 ?_
      refine lv_goto (tgt := 26) hx hb dX7_told_21 (by decide) ?_
      exact hret 26 ls H locs (t_book (a1 - 18).toNatClampNeg) (t_metAt, t_metWho, t_now) dX7_told_26 hf hP hD hS
