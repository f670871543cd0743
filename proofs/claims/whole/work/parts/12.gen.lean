/-! X6_then -/
theorem mX6_then_1 : Cond.fieldLink RX6 33 "OxenKneel" "tale" "LOxenKneel$Tale;" ∈ wsX6_then := List.mem_of_getElem? (i := 1) rfl
theorem mX6_then_2 : Cond.fieldLink RX6 102 "OxenKneel$Tale" "world" "LOxenKneel$World;" ∈ wsX6_then := List.mem_of_getElem? (i := 2) rfl
theorem mX6_then_3 : Cond.fieldLink RX6 62 "OxenKneel$World" "date" "I" ∈ wsX6_then := List.mem_of_getElem? (i := 3) rfl
theorem mX6_then_4 : Cond.fieldLink RX6 65 "OxenKneel$World" "hour" "I" ∈ wsX6_then := List.mem_of_getElem? (i := 4) rfl
theorem mX6_then_5 : Cond.fieldLink RX6 68 "OxenKneel$World" "year" "I" ∈ wsX6_then := List.mem_of_getElem? (i := 5) rfl
theorem mX6_then_6 : Cond.fieldLink RX6 121 "OxenKneel$Tale" "metAct" "I" ∈ wsX6_then := List.mem_of_getElem? (i := 6) rfl
theorem mX6_then_7 : Cond.fieldLink RX6 124 "OxenKneel$Tale" "metTwo" "I" ∈ wsX6_then := List.mem_of_getElem? (i := 7) rfl
theorem nX6_then_X6 : ∀ w ∈ wsX60, w ∈ wsX6_then := fun _ h => List.mem_cons_of_mem _ (List.mem_append_left _ (List.mem_append_left _ (List.mem_append_left _ (List.mem_append_left _ (List.mem_append_right _ h)))))
theorem nX6_then_X4 : ∀ w ∈ wsX40, w ∈ wsX6_then := fun _ h => List.mem_cons_of_mem _ (List.mem_append_left _ (List.mem_append_left _ (List.mem_append_left _ (List.mem_append_right _ h))))
theorem nX6_then_X5 : ∀ w ∈ wsX50, w ∈ wsX6_then := fun _ h => List.mem_cons_of_mem _ (List.mem_append_left _ (List.mem_append_left _ (List.mem_append_right _ h)))
def pX6_then (t_now_date : Int32) (t_now_hour : Int32) (t_now_year : Int32) (t_now_shift : Int32) (t_now_kneelDate : Int32) (t_now_places : (Nat → Int32)) (t_now_coins : (Nat → Int32)) (t_now_lying : (Nat → Int32)) (t_pad_count : Int32) (t_pad_signs : (Nat → Int32)) (t_tale_acts : Int32) (t_tale_failedAct : Int32) (t_tale_failedWhy : Int32) (t_tale_metAct : Int32) (t_tale_metTwo : Int32) (t_tale_world_date : Int32) (t_tale_world_hour : Int32) (t_tale_world_year : Int32) (t_tale_world_shift : Int32) (t_tale_world_kneelDate : Int32) (t_tale_world_places : (Nat → Int32)) (t_tale_world_coins : (Nat → Int32)) (t_tale_world_lying : (Nat → Int32)) (t_tale_act_sign : Int32) (t_tale_act_person : Int32) (t_tale_act_number : Int32) (a1 : Int32) (post : Int32 → (Int32 × Int32 × Int32 × Int32 × Int32 × Int32 × Int32 × Int32 × Int32 × Int32 × (Nat → Int32) × (Nat → Int32) × (Nat → Int32) × Int32 × Int32 × Int32) → Prop) : Prop :=
  pX6_isIn a1 0 7 (fun r1 => (¬ r1 = 0 → (pX6_canBeTold t_now_date t_now_hour t_now_year t_now_shift t_now_kneelDate t_now_places t_now_coins t_now_lying t_pad_count t_pad_signs t_tale_acts t_tale_failedAct t_tale_failedWhy t_tale_metAct t_tale_metTwo t_tale_world_date t_tale_world_hour t_tale_world_year t_tale_world_shift t_tale_world_kneelDate t_tale_world_places t_tale_world_coins t_tale_world_lying t_tale_act_sign t_tale_act_person t_tale_act_number (fun (r3 : Int32) (u4 : Int32 × Int32 × Int32 × Int32 × Int32 × Int32 × Int32 × Int32 × Int32 × Int32 × (Nat → Int32) × (Nat → Int32) × (Nat → Int32) × Int32 × Int32 × Int32) => (¬ r3 = 0 → ((a1 = 0 → (post u4.2.2.2.2.2.1 (u4.1, u4.2.1, u4.2.2.1, u4.2.2.2.1, u4.2.2.2.2.1, u4.2.2.2.2.2.1, u4.2.2.2.2.2.2.1, u4.2.2.2.2.2.2.2.1, u4.2.2.2.2.2.2.2.2.1, u4.2.2.2.2.2.2.2.2.2.1, u4.2.2.2.2.2.2.2.2.2.2.1, u4.2.2.2.2.2.2.2.2.2.2.2.1, u4.2.2.2.2.2.2.2.2.2.2.2.2.1, u4.2.2.2.2.2.2.2.2.2.2.2.2.2.1, u4.2.2.2.2.2.2.2.2.2.2.2.2.2.2.1, u4.2.2.2.2.2.2.2.2.2.2.2.2.2.2.2))) ∧ ((a1 = 1 → (pX5_dateByNewCount u4.2.2.2.2.2.1 u4.2.2.2.2.2.2.2.2.1 (fun r8 => post r8 (u4.1, u4.2.1, u4.2.2.1, u4.2.2.2.1, u4.2.2.2.2.1, u4.2.2.2.2.2.1, u4.2.2.2.2.2.2.1, u4.2.2.2.2.2.2.2.1, u4.2.2.2.2.2.2.2.2.1, u4.2.2.2.2.2.2.2.2.2.1, u4.2.2.2.2.2.2.2.2.2.2.1, u4.2.2.2.2.2.2.2.2.2.2.2.1, u4.2.2.2.2.2.2.2.2.2.2.2.2.1, u4.2.2.2.2.2.2.2.2.2.2.2.2.2.1, u4.2.2.2.2.2.2.2.2.2.2.2.2.2.2.1, u4.2.2.2.2.2.2.2.2.2.2.2.2.2.2.2)))) ∧ ((a1 = 2 → (post u4.2.2.2.2.2.2.1 (u4.1, u4.2.1, u4.2.2.1, u4.2.2.2.1, u4.2.2.2.2.1, u4.2.2.2.2.2.1, u4.2.2.2.2.2.2.1, u4.2.2.2.2.2.2.2.1, u4.2.2.2.2.2.2.2.2.1, u4.2.2.2.2.2.2.2.2.2.1, u4.2.2.2.2.2.2.2.2.2.2.1, u4.2.2.2.2.2.2.2.2.2.2.2.1, u4.2.2.2.2.2.2.2.2.2.2.2.2.1, u4.2.2.2.2.2.2.2.2.2.2.2.2.2.1, u4.2.2.2.2.2.2.2.2.2.2.2.2.2.2.1, u4.2.2.2.2.2.2.2.2.2.2.2.2.2.2.2))) ∧ ((a1 = 3 → (post u4.2.2.2.2.2.2.2.1 (u4.1, u4.2.1, u4.2.2.1, u4.2.2.2.1, u4.2.2.2.2.1, u4.2.2.2.2.2.1, u4.2.2.2.2.2.2.1, u4.2.2.2.2.2.2.2.1, u4.2.2.2.2.2.2.2.2.1, u4.2.2.2.2.2.2.2.2.2.1, u4.2.2.2.2.2.2.2.2.2.2.1, u4.2.2.2.2.2.2.2.2.2.2.2.1, u4.2.2.2.2.2.2.2.2.2.2.2.2.1, u4.2.2.2.2.2.2.2.2.2.2.2.2.2.1, u4.2.2.2.2.2.2.2.2.2.2.2.2.2.2.1, u4.2.2.2.2.2.2.2.2.2.2.2.2.2.2.2))) ∧ ((a1 = 4 → (pX5_whoIsWithin u4.2.2.2.2.2.2.2.2.2.2.1 (fun r12 => post r12 (u4.1, u4.2.1, u4.2.2.1, u4.2.2.2.1, u4.2.2.2.2.1, u4.2.2.2.2.2.1, u4.2.2.2.2.2.2.1, u4.2.2.2.2.2.2.2.1, u4.2.2.2.2.2.2.2.2.1, u4.2.2.2.2.2.2.2.2.2.1, u4.2.2.2.2.2.2.2.2.2.2.1, u4.2.2.2.2.2.2.2.2.2.2.2.1, u4.2.2.2.2.2.2.2.2.2.2.2.2.1, u4.2.2.2.2.2.2.2.2.2.2.2.2.2.1, u4.2.2.2.2.2.2.2.2.2.2.2.2.2.2.1, u4.2.2.2.2.2.2.2.2.2.2.2.2.2.2.2)))) ∧ ((a1 = 5 → (pX5_liesInAll u4.2.2.2.2.2.2.2.2.2.2.2.2.1 (fun r14 => post r14 (u4.1, u4.2.1, u4.2.2.1, u4.2.2.2.1, u4.2.2.2.2.1, u4.2.2.2.2.2.1, u4.2.2.2.2.2.2.1, u4.2.2.2.2.2.2.2.1, u4.2.2.2.2.2.2.2.2.1, u4.2.2.2.2.2.2.2.2.2.1, u4.2.2.2.2.2.2.2.2.2.2.1, u4.2.2.2.2.2.2.2.2.2.2.2.1, u4.2.2.2.2.2.2.2.2.2.2.2.2.1, u4.2.2.2.2.2.2.2.2.2.2.2.2.2.1, u4.2.2.2.2.2.2.2.2.2.2.2.2.2.2.1, u4.2.2.2.2.2.2.2.2.2.2.2.2.2.2.2)))) ∧ ((a1 = 6 → (post u4.2.2.2.1 (u4.1, u4.2.1, u4.2.2.1, u4.2.2.2.1, u4.2.2.2.2.1, u4.2.2.2.2.2.1, u4.2.2.2.2.2.2.1, u4.2.2.2.2.2.2.2.1, u4.2.2.2.2.2.2.2.2.1, u4.2.2.2.2.2.2.2.2.2.1, u4.2.2.2.2.2.2.2.2.2.2.1, u4.2.2.2.2.2.2.2.2.2.2.2.1, u4.2.2.2.2.2.2.2.2.2.2.2.2.1, u4.2.2.2.2.2.2.2.2.2.2.2.2.2.1, u4.2.2.2.2.2.2.2.2.2.2.2.2.2.2.1, u4.2.2.2.2.2.2.2.2.2.2.2.2.2.2.2))) ∧ ((¬ a1 = 0 → ¬ a1 = 1 → ¬ a1 = 2 → ¬ a1 = 3 → ¬ a1 = 4 → ¬ a1 = 5 → ¬ a1 = 6 → (post u4.2.2.2.2.1 (u4.1, u4.2.1, u4.2.2.1, u4.2.2.2.1, u4.2.2.2.2.1, u4.2.2.2.2.2.1, u4.2.2.2.2.2.2.1, u4.2.2.2.2.2.2.2.1, u4.2.2.2.2.2.2.2.2.1, u4.2.2.2.2.2.2.2.2.2.1, u4.2.2.2.2.2.2.2.2.2.2.1, u4.2.2.2.2.2.2.2.2.2.2.2.1, u4.2.2.2.2.2.2.2.2.2.2.2.2.1, u4.2.2.2.2.2.2.2.2.2.2.2.2.2.1, u4.2.2.2.2.2.2.2.2.2.2.2.2.2.2.1, u4.2.2.2.2.2.2.2.2.2.2.2.2.2.2.2)))))))))))) ∧ (r3 = 0 → (post (-5) (u4.1, u4.2.1, u4.2.2.1, u4.2.2.2.1, u4.2.2.2.2.1, u4.2.2.2.2.2.1, u4.2.2.2.2.2.2.1, u4.2.2.2.2.2.2.2.1, u4.2.2.2.2.2.2.2.2.1, u4.2.2.2.2.2.2.2.2.2.1, u4.2.2.2.2.2.2.2.2.2.2.1, u4.2.2.2.2.2.2.2.2.2.2.2.1, u4.2.2.2.2.2.2.2.2.2.2.2.2.1, u4.2.2.2.2.2.2.2.2.2.2.2.2.2.1, u4.2.2.2.2.2.2.2.2.2.2.2.2.2.2.1, u4.2.2.2.2.2.2.2.2.2.2.2.2.2.2.2)))))) ∧ (r1 = 0 → (post (-2) (t_tale_acts, t_tale_failedAct, t_tale_failedWhy, t_tale_metAct, t_tale_metTwo, t_tale_world_date, t_tale_world_hour, t_tale_world_year, t_tale_world_shift, t_tale_world_kneelDate, t_tale_world_places, t_tale_world_coins, t_tale_world_lying, t_tale_act_sign, t_tale_act_person, t_tale_act_number))))

set_option maxHeartbeats 4000000 in
set_option maxRecDepth 100000 in
theorem kX6_then (l : Launch) (D : va_G) (cI cZ cJ cO : ClassId) (q_t q_t_now q_t_now_places q_t_now_coins q_t_now_lying q_t_pad q_t_pad_signs q_t_tale q_t_tale_world q_t_tale_world_places q_t_tale_world_coins q_t_tale_world_lying q_t_tale_act q_t_sights q_t_images : Nat) (sz : Nat)  (t_now_date : Int32) (t_now_hour : Int32) (t_now_year : Int32) (t_now_shift : Int32) (t_now_kneelDate : Int32) (t_now_places : (Nat → Int32)) (t_now_coins : (Nat → Int32)) (t_now_lying : (Nat → Int32)) (t_pad_count : Int32) (t_pad_signs : (Nat → Int32)) (t_tale_acts : Int32) (t_tale_failedAct : Int32) (t_tale_failedWhy : Int32) (t_tale_metAct : Int32) (t_tale_metTwo : Int32) (t_tale_world_date : Int32) (t_tale_world_hour : Int32) (t_tale_world_year : Int32) (t_tale_world_shift : Int32) (t_tale_world_kneelDate : Int32) (t_tale_world_places : (Nat → Int32)) (t_tale_world_coins : (Nat → Int32)) (t_tale_world_lying : (Nat → Int32)) (t_tale_act_sign : Int32) (t_tale_act_person : Int32) (t_tale_act_number : Int32) (a1 : Int32) (post : Int32 → (Int32 × Int32 × Int32 × Int32 × Int32 × Int32 × Int32 × Int32 × Int32 × Int32 × (Nat → Int32) × (Nat → Int32) × (Nat → Int32) × Int32 × Int32 × Int32) → Prop) (hf : pX6_then t_now_date t_now_hour t_now_year t_now_shift t_now_kneelDate t_now_places t_now_coins t_now_lying t_pad_count t_pad_signs t_tale_acts t_tale_failedAct t_tale_failedWhy t_tale_metAct t_tale_metTwo t_tale_world_date t_tale_world_hour t_tale_world_year t_tale_world_shift t_tale_world_kneelDate t_tale_world_places t_tale_world_coins t_tale_world_lying t_tale_act_sign t_tale_act_person t_tale_act_number a1 post) :
    Met l yX6_then wsX6_then ({ frames := 6, cells := 0, slots := 0, locals := 132 } : Room) (va_Pc [.ref q_t, .int a1] (B1 D (tyL cI cZ cJ cO) [(q_t, .inr (6, [.ref q_t_now, .ref q_t_sights, .ref q_t_pad, .ref q_t_tale, .ref q_t_images])), (q_t_now, .inr (5, [.int t_now_date, .int t_now_hour, .int t_now_year, .int t_now_shift, .int t_now_kneelDate, .ref q_t_now_places, .ref q_t_now_coins, .ref q_t_now_lying])), (q_t_now_places, .inl (cI, 6, .inl t_now_places)), (q_t_now_coins, .inl (cI, 6, .inl t_now_coins)), (q_t_now_lying, .inl (cI, 30, .inl t_now_lying)), (q_t_pad, .inr (2, [.int t_pad_count, .ref q_t_pad_signs])), (q_t_pad_signs, .inl (cI, 60, .inl t_pad_signs)), (q_t_tale, .inr (4, [.ref q_t_tale_world, .int t_tale_acts, .int t_tale_failedAct, .int t_tale_failedWhy, .int t_tale_metAct, .int t_tale_metTwo, .ref q_t_tale_act])), (q_t_tale_world, .inr (5, [.int t_tale_world_date, .int t_tale_world_hour, .int t_tale_world_year, .int t_tale_world_shift, .int t_tale_world_kneelDate, .ref q_t_tale_world_places, .ref q_t_tale_world_coins, .ref q_t_tale_world_lying])), (q_t_tale_world_places, .inl (cI, 6, .inl t_tale_world_places)), (q_t_tale_world_coins, .inl (cI, 6, .inl t_tale_world_coins)), (q_t_tale_world_lying, .inl (cI, 30, .inl t_tale_world_lying)), (q_t_tale_act, .inr (0, [.int t_tale_act_sign, .int t_tale_act_person, .int t_tale_act_number]))] sz)) (va_Qi post (fun u t => E1 D (va_A [(q_t, .inr (6, [.ref q_t_now, .ref q_t_sights, .ref q_t_pad, .ref q_t_tale, .ref q_t_images])), (q_t_now, .inr (5, [.int t_now_date, .int t_now_hour, .int t_now_year, .int t_now_shift, .int t_now_kneelDate, .ref q_t_now_places, .ref q_t_now_coins, .ref q_t_now_lying])), (q_t_now_places, .inl (cI, 6, .inl t_now_places)), (q_t_now_coins, .inl (cI, 6, .inl t_now_coins)), (q_t_now_lying, .inl (cI, 30, .inl t_now_lying)), (q_t_pad, .inr (2, [.int t_pad_count, .ref q_t_pad_signs])), (q_t_pad_signs, .inl (cI, 60, .inl t_pad_signs)), (q_t_tale, .inr (4, [.ref q_t_tale_world, .int t_tale_acts, .int t_tale_failedAct, .int t_tale_failedWhy, .int t_tale_metAct, .int t_tale_metTwo, .ref q_t_tale_act])), (q_t_tale_world, .inr (5, [.int t_tale_world_date, .int t_tale_world_hour, .int t_tale_world_year, .int t_tale_world_shift, .int t_tale_world_kneelDate, .ref q_t_tale_world_places, .ref q_t_tale_world_coins, .ref q_t_tale_world_lying])), (q_t_tale_world_places, .inl (cI, 6, .inl t_tale_world_places)), (q_t_tale_world_coins, .inl (cI, 6, .inl t_tale_world_coins)), (q_t_tale_world_lying, .inl (cI, 30, .inl t_tale_world_lying)), (q_t_tale_act, .inr (0, [.int t_tale_act_sign, .int t_tale_act_person, .int t_tale_act_number]))] sz) ((fun u : Int32 × Int32 × Int32 × Int32 × Int32 × Int32 × Int32 × Int32 × Int32 × Int32 × (Nat → Int32) × (Nat → Int32) × (Nat → Int32) × Int32 × Int32 × Int32 => [(q_t, .inr (6, [.ref q_t_now, .ref q_t_sights, .ref q_t_pad, .ref q_t_tale, .ref q_t_images])), (q_t_now, .inr (5, [.int t_now_date, .int t_now_hour, .int t_now_year, .int t_now_shift, .int t_now_kneelDate, .ref q_t_now_places, .ref q_t_now_coins, .ref q_t_now_lying])), (q_t_now_places, .inl (cI, 6, .inl t_now_places)), (q_t_now_coins, .inl (cI, 6, .inl t_now_coins)), (q_t_now_lying, .inl (cI, 30, .inl t_now_lying)), (q_t_pad, .inr (2, [.int t_pad_count, .ref q_t_pad_signs])), (q_t_pad_signs, .inl (cI, 60, .inl t_pad_signs)), (q_t_tale, .inr (4, [.ref q_t_tale_world, .int u.1, .int u.2.1, .int u.2.2.1, .int u.2.2.2.1, .int u.2.2.2.2.1, .ref q_t_tale_act])), (q_t_tale_world, .inr (5, [.int u.2.2.2.2.2.1, .int u.2.2.2.2.2.2.1, .int u.2.2.2.2.2.2.2.1, .int u.2.2.2.2.2.2.2.2.1, .int u.2.2.2.2.2.2.2.2.2.1, .ref q_t_tale_world_places, .ref q_t_tale_world_coins, .ref q_t_tale_world_lying])), (q_t_tale_world_places, .inl (cI, 6, .inl u.2.2.2.2.2.2.2.2.2.2.1)), (q_t_tale_world_coins, .inl (cI, 6, .inl u.2.2.2.2.2.2.2.2.2.2.2.1)), (q_t_tale_world_lying, .inl (cI, 30, .inl u.2.2.2.2.2.2.2.2.2.2.2.2.1)), (q_t_tale_act, .inr (0, [.int u.2.2.2.2.2.2.2.2.2.2.2.2.2.1, .int u.2.2.2.2.2.2.2.2.2.2.2.2.2.2.1, .int u.2.2.2.2.2.2.2.2.2.2.2.2.2.2.2]))]) u) t) (va_A [(q_t, .inr (6, [.ref q_t_now, .ref q_t_sights, .ref q_t_pad, .ref q_t_tale, .ref q_t_images])), (q_t_now, .inr (5, [.int t_now_date, .int t_now_hour, .int t_now_year, .int t_now_shift, .int t_now_kneelDate, .ref q_t_now_places, .ref q_t_now_coins, .ref q_t_now_lying])), (q_t_now_places, .inl (cI, 6, .inl t_now_places)), (q_t_now_coins, .inl (cI, 6, .inl t_now_coins)), (q_t_now_lying, .inl (cI, 30, .inl t_now_lying)), (q_t_pad, .inr (2, [.int t_pad_count, .ref q_t_pad_signs])), (q_t_pad_signs, .inl (cI, 60, .inl t_pad_signs)), (q_t_tale, .inr (4, [.ref q_t_tale_world, .int t_tale_acts, .int t_tale_failedAct, .int t_tale_failedWhy, .int t_tale_metAct, .int t_tale_metTwo, .ref q_t_tale_act])), (q_t_tale_world, .inr (5, [.int t_tale_world_date, .int t_tale_world_hour, .int t_tale_world_year, .int t_tale_world_shift, .int t_tale_world_kneelDate, .ref q_t_tale_world_places, .ref q_t_tale_world_coins, .ref q_t_tale_world_lying])), (q_t_tale_world_places, .inl (cI, 6, .inl t_tale_world_places)), (q_t_tale_world_coins, .inl (cI, 6, .inl t_tale_world_coins)), (q_t_tale_world_lying, .inl (cI, 30, .inl t_tale_world_lying)), (q_t_tale_act, .inr (0, [.int t_tale_act_sign, .int t_tale_act_person, .int t_tale_act_number]))] sz)) 0 0 (va_A [(q_t, .inr (6, [.ref q_t_now, .ref q_t_sights, .ref q_t_pad, .ref q_t_tale, .ref q_t_images])), (q_t_now, .inr (5, [.int t_now_date, .int t_now_hour, .int t_now_year, .int t_now_shift, .int t_now_kneelDate, .ref q_t_now_places, .ref q_t_now_coins, .ref q_t_now_lying])), (q_t_now_places, .inl (cI, 6, .inl t_now_places)), (q_t_now_coins, .inl (cI, 6, .inl t_now_coins)), (q_t_now_lying, .inl (cI, 30, .inl t_now_lying)), (q_t_pad, .inr (2, [.int t_pad_count, .ref q_t_pad_signs])), (q_t_pad_signs, .inl (cI, 60, .inl t_pad_signs)), (q_t_tale, .inr (4, [.ref q_t_tale_world, .int t_tale_acts, .int t_tale_failedAct, .int t_tale_failedWhy, .int t_tale_metAct, .int t_tale_metTwo, .ref q_t_tale_act])), (q_t_tale_world, .inr (5, [.int t_tale_world_date, .int t_tale_world_hour, .int t_tale_world_year, .int t_tale_world_shift, .int t_tale_world_kneelDate, .ref q_t_tale_world_places, .ref q_t_tale_world_coins, .ref q_t_tale_world_lying])), (q_t_tale_world_places, .inl (cI, 6, .inl t_tale_world_places)), (q_t_tale_world_coins, .inl (cI, 6, .inl t_tale_world_coins)), (q_t_tale_world_lying, .inl (cI, 30, .inl t_tale_world_lying)), (q_t_tale_act, .inr (0, [.int t_tale_act_sign, .int t_tale_act_person, .int t_tale_act_number]))] sz) := by
  unfold pX6_then at hf
  refine xm_1i (own := RX6) (by decide) rfl rfl (Nat.le_of_ble_eq_true rfl) (fun p e s m args below meth c Q A C0 hN hK hA hret hP hD ls hl => ?_)
  obtain ⟨hx, hb, hml, hown, hts⟩ := id C0
  have hl : lv_has ls 2 [(0, .ref q_t), (1, .int a1)] := hl
  have hS : va_S A s.heap s.heap [] := va_S.rf
  obtain ⟨H, hHe⟩ : ∃ H, H = s.heap := ⟨_, rfl⟩
  obtain ⟨locs, hLe⟩ : ∃ L : List Loc, L = [] := ⟨_, rfl⟩
  rw [← hLe]
  rw [← hLe] at hS
  have hP : va_P D vwCl [(q_t, .inr (6, [.ref q_t_now, .ref q_t_sights, .ref q_t_pad, .ref q_t_tale, .ref q_t_images])), (q_t_now, .inr (5, [.int t_now_date, .int t_now_hour, .int t_now_year, .int t_now_shift, .int t_now_kneelDate, .ref q_t_now_places, .ref q_t_now_coins, .ref q_t_now_lying])), (q_t_now_places, .inl (cI, 6, .inl t_now_places)), (q_t_now_coins, .inl (cI, 6, .inl t_now_coins)), (q_t_now_lying, .inl (cI, 30, .inl t_now_lying)), (q_t_pad, .inr (2, [.int t_pad_count, .ref q_t_pad_signs])), (q_t_pad_signs, .inl (cI, 60, .inl t_pad_signs)), (q_t_tale, .inr (4, [.ref q_t_tale_world, .int t_tale_acts, .int t_tale_failedAct, .int t_tale_failedWhy, .int t_tale_metAct, .int t_tale_metTwo, .ref q_t_tale_act])), (q_t_tale_world, .inr (5, [.int t_tale_world_date, .int t_tale_world_hour, .int t_tale_world_year, .int t_tale_world_shift, .int t_tale_world_kneelDate, .ref q_t_tale_world_places, .ref q_t_tale_world_coins, .ref q_t_tale_world_lying])), (q_t_tale_world_places, .inl (cI, 6, .inl t_tale_world_places)), (q_t_tale_world_coins, .inl (cI, 6, .inl t_tale_world_coins)), (q_t_tale_world_lying, .inl (cI, 30, .inl t_tale_world_lying)), (q_t_tale_act, .inr (0, [.int t_tale_act_sign, .int t_tale_act_person, .int t_tale_act_number]))] H := by rw [hHe]; exact hP
  have hS : va_S A s.heap H locs := by rw [hHe]; exact hS
  suffices hgo : W p l e ({ frames := 6, cells := 0, slots := 0, locals := 132 } : Room) s m args below meth c H locs 0 0 Q (F0 m 0 ls []) by rw [← hHe]; exact hgo
  clear hHe hLe
  refine lv_iload_n hx hb dX6_then_0 rfl (lv_at hl 1 rfl) ?_
  refine lv_iconst (v := 0) hx hb dX6_then_1 (by decide) ?_
  refine lv_bipush (v := 7) hx hb dX6_then_2 (by decide) ?_
  refine xs_i (va_runS (As := [.int a1, .int 0, .int 7]) (rest := []) ⟨hx, hb, hml, hown, hts⟩ (kX6_isIn l D cI cZ cJ cO a1 0 7 _ hf) (va_cwS 3 hts gX6_then_X6_isIn rfl rfl rfl (by decide +kernel) ⟨Nat.le_of_ble_eq_true rfl, Nat.le_of_ble_eq_true rfl⟩) (B0_pre (hP.sub (ws' := []) [] rfl) hK hN) rfl rfl hl.1 rfl (lv_room (Nat.le_of_ble_eq_true rfl)) dX6_then_4 ⟨Nat.zero_le _, Nat.zero_le _⟩) (fun r1 hf => ?_)
  refine lv_if_ne (tgt := 13) hx hb dX6_then_7 (by decide) (fun c2 => ?_) (fun c2 => ?_)
  · have hf := hf.1 c2
    refine lv_aload_n hx hb dX6_then_13 rfl (lv_at hl 0 rfl) ?_
    refine xc_i (wr := []) (va_runV (As := []) (rest := []) ⟨hx, hb, hml, hown, hts⟩ (kX6_canBeTold l D cI cZ cJ cO q_t q_t_now q_t_now_places q_t_now_coins q_t_now_lying q_t_pad q_t_pad_signs q_t_tale q_t_tale_world q_t_tale_world_places q_t_tale_world_coins q_t_tale_world_lying q_t_tale_act q_t_sights q_t_images H.size t_now_date t_now_hour t_now_year t_now_shift t_now_kneelDate t_now_places t_now_coins t_now_lying t_pad_count t_pad_signs t_tale_acts t_tale_failedAct t_tale_failedWhy t_tale_metAct t_tale_metTwo t_tale_world_date t_tale_world_hour t_tale_world_year t_tale_world_shift t_tale_world_kneelDate t_tale_world_places t_tale_world_coins t_tale_world_lying t_tale_act_sign t_tale_act_person t_tale_act_number _ hf) (cwV 0 hts gX6_then_X6_canBeTold rfl rfl rfl (by decide +kernel) ⟨Nat.le_of_ble_eq_true rfl, Nat.le_of_ble_eq_true rfl⟩) (B1_preV (ci := 6) (q0 := 0) hP rfl rfl (hP.sub (ws' := [(q_t, .inr (6, [.ref q_t_now, .ref q_t_sights, .ref q_t_pad, .ref q_t_tale, .ref q_t_images])), (q_t_now, .inr (5, [.int t_now_date, .int t_now_hour, .int t_now_year, .int t_now_shift, .int t_now_kneelDate, .ref q_t_now_places, .ref q_t_now_coins, .ref q_t_now_lying])), (q_t_now_places, .inl (cI, 6, .inl t_now_places)), (q_t_now_coins, .inl (cI, 6, .inl t_now_coins)), (q_t_now_lying, .inl (cI, 30, .inl t_now_lying)), (q_t_pad, .inr (2, [.int t_pad_count, .ref q_t_pad_signs])), (q_t_pad_signs, .inl (cI, 60, .inl t_pad_signs)), (q_t_tale, .inr (4, [.ref q_t_tale_world, .int t_tale_acts, .int t_tale_failedAct, .int t_tale_failedWhy, .int t_tale_metAct, .int t_tale_metTwo, .ref q_t_tale_act])), (q_t_tale_world, .inr (5, [.int t_tale_world_date, .int t_tale_world_hour, .int t_tale_world_year, .int t_tale_world_shift, .int t_tale_world_kneelDate, .ref q_t_tale_world_places, .ref q_t_tale_world_coins, .ref q_t_tale_world_lying])), (q_t_tale_world_places, .inl (cI, 6, .inl t_tale_world_places)), (q_t_tale_world_coins, .inl (cI, 6, .inl t_tale_world_coins)), (q_t_tale_world_lying, .inl (cI, 30, .inl t_tale_world_lying)), (q_t_tale_act, .inr (0, [.int t_tale_act_sign, .int t_tale_act_person, .int t_tale_act_number]))]) [0, 1, 2, 3, 4, 5, 6, 7, 8, 9, 10, 11, 12] rfl) hK hN (hD.sub (ws' := [(q_t, .inr (6, [.ref q_t_now, .ref q_t_sights, .ref q_t_pad, .ref q_t_tale, .ref q_t_images])), (q_t_now, .inr (5, [.int t_now_date, .int t_now_hour, .int t_now_year, .int t_now_shift, .int t_now_kneelDate, .ref q_t_now_places, .ref q_t_now_coins, .ref q_t_now_lying])), (q_t_now_places, .inl (cI, 6, .inl t_now_places)), (q_t_now_coins, .inl (cI, 6, .inl t_now_coins)), (q_t_now_lying, .inl (cI, 30, .inl t_now_lying)), (q_t_pad, .inr (2, [.int t_pad_count, .ref q_t_pad_signs])), (q_t_pad_signs, .inl (cI, 60, .inl t_pad_signs)), (q_t_tale, .inr (4, [.ref q_t_tale_world, .int t_tale_acts, .int t_tale_failedAct, .int t_tale_failedWhy, .int t_tale_metAct, .int t_tale_metTwo, .ref q_t_tale_act])), (q_t_tale_world, .inr (5, [.int t_tale_world_date, .int t_tale_world_hour, .int t_tale_world_year, .int t_tale_world_shift, .int t_tale_world_kneelDate, .ref q_t_tale_world_places, .ref q_t_tale_world_coins, .ref q_t_tale_world_lying])), (q_t_tale_world_places, .inl (cI, 6, .inl t_tale_world_places)), (q_t_tale_world_coins, .inl (cI, 6, .inl t_tale_world_coins)), (q_t_tale_world_lying, .inl (cI, 30, .inl t_tale_world_lying)), (q_t_tale_act, .inr (0, [.int t_tale_act_sign, .int t_tale_act_person, .int t_tale_act_number]))]) [0, 1, 2, 3, 4, 5, 6, 7, 8, 9, 10, 11, 12] (by decide) rfl)) rfl rfl hl.1 rfl (lv_room (Nat.le_of_ble_eq_true rfl)) dX6_then_14 ⟨Nat.zero_le _, Nat.zero_le _⟩) hP hD hS hA [0, 1, 2, 3, 4, 5, 6, 7, 8, 9, 10, 11, 12] [] rfl rfl (by decide) (by decide) (fun r3 u4 H locs hf hP hD hS => ?_)
    have hP : va_P D vwCl [(q_t, .inr (6, [.ref q_t_now, .ref q_t_sights, .ref q_t_pad, .ref q_t_tale, .ref q_t_images])), (q_t_now, .inr (5, [.int t_now_date, .int t_now_hour, .int t_now_year, .int t_now_shift, .int t_now_kneelDate, .ref q_t_now_places, .ref q_t_now_coins, .ref q_t_now_lying])), (q_t_now_places, .inl (cI, 6, .inl t_now_places)), (q_t_now_coins, .inl (cI, 6, .inl t_now_coins)), (q_t_now_lying, .inl (cI, 30, .inl t_now_lying)), (q_t_pad, .inr (2, [.int t_pad_count, .ref q_t_pad_signs])), (q_t_pad_signs, .inl (cI, 60, .inl t_pad_signs)), (q_t_tale, .inr (4, [.ref q_t_tale_world, .int u4.1, .int u4.2.1, .int u4.2.2.1, .int u4.2.2.2.1, .int u4.2.2.2.2.1, .ref q_t_tale_act])), (q_t_tale_world, .inr (5, [.int u4.2.2.2.2.2.1, .int u4.2.2.2.2.2.2.1, .int u4.2.2.2.2.2.2.2.1, .int u4.2.2.2.2.2.2.2.2.1, .int u4.2.2.2.2.2.2.2.2.2.1, .ref q_t_tale_world_places, .ref q_t_tale_world_coins, .ref q_t_tale_world_lying])), (q_t_tale_world_places, .inl (cI, 6, .inl u4.2.2.2.2.2.2.2.2.2.2.1)), (q_t_tale_world_coins, .inl (cI, 6, .inl u4.2.2.2.2.2.2.2.2.2.2.2.1)), (q_t_tale_world_lying, .inl (cI, 30, .inl u4.2.2.2.2.2.2.2.2.2.2.2.2.1)), (q_t_tale_act, .inr (0, [.int u4.2.2.2.2.2.2.2.2.2.2.2.2.2.1, .int u4.2.2.2.2.2.2.2.2.2.2.2.2.2.2.1, .int u4.2.2.2.2.2.2.2.2.2.2.2.2.2.2.2]))] H := hP
    have hD : va_D A [(q_t, .inr (6, [.ref q_t_now, .ref q_t_sights, .ref q_t_pad, .ref q_t_tale, .ref q_t_images])), (q_t_now, .inr (5, [.int t_now_date, .int t_now_hour, .int t_now_year, .int t_now_shift, .int t_now_kneelDate, .ref q_t_now_places, .ref q_t_now_coins, .ref q_t_now_lying])), (q_t_now_places, .inl (cI, 6, .inl t_now_places)), (q_t_now_coins, .inl (cI, 6, .inl t_now_coins)), (q_t_now_lying, .inl (cI, 30, .inl t_now_lying)), (q_t_pad, .inr (2, [.int t_pad_count, .ref q_t_pad_signs])), (q_t_pad_signs, .inl (cI, 60, .inl t_pad_signs)), (q_t_tale, .inr (4, [.ref q_t_tale_world, .int u4.1, .int u4.2.1, .int u4.2.2.1, .int u4.2.2.2.1, .int u4.2.2.2.2.1, .ref q_t_tale_act])), (q_t_tale_world, .inr (5, [.int u4.2.2.2.2.2.1, .int u4.2.2.2.2.2.2.1, .int u4.2.2.2.2.2.2.2.1, .int u4.2.2.2.2.2.2.2.2.1, .int u4.2.2.2.2.2.2.2.2.2.1, .ref q_t_tale_world_places, .ref q_t_tale_world_coins, .ref q_t_tale_world_lying])), (q_t_tale_world_places, .inl (cI, 6, .inl u4.2.2.2.2.2.2.2.2.2.2.1)), (q_t_tale_world_coins, .inl (cI, 6, .inl u4.2.2.2.2.2.2.2.2.2.2.2.1)), (q_t_tale_world_lying, .inl (cI, 30, .inl u4.2.2.2.2.2.2.2.2.2.2.2.2.1)), (q_t_tale_act, .inr (0, [.int u4.2.2.2.2.2.2.2.2.2.2.2.2.2.1, .int u4.2.2.2.2.2.2.2.2.2.2.2.2.2.2.1, .int u4.2.2.2.2.2.2.2.2.2.2.2.2.2.2.2]))] := hD
    refine lv_if_ne (tgt := 23) hx hb dX6_then_17 (by decide) (fun c5 => ?_) (fun c5 => ?_)
    · have hf := hf.1 c5
      refine lv_iload_n hx hb dX6_then_23 rfl (lv_at hl 1 rfl) ?_
      by_cases z6 : a1 = 0
      · have hf := hf.1 z6
        refine lv_tableIn (off := 44) (tgt := 68) hx hb dX6_then_24 (by rw [z6]; decide) (by rw [z6]; decide) (by rw [z6]; decide) (by decide) ?_
        refine lv_aload_n hx hb dX6_then_68 rfl (lv_at hl 0 rfl) ?_
        refine va_get (D := D) (ci := 6) (v := .ref q_t_tale) (C := RX6) (T := TX6) (N := 5) hx hb hts nX6_then_X6 hown hK hP 0 rfl rfl 3 (by decide) (hts _ mX6_then_1) (fun _ h9 => h9) rfl dX6_then_69 ?_
        refine va_get (D := D) (ci := 4) (v := .ref q_t_tale_world) (C := RX4) (T := TX4) (N := 7) hx hb hts nX6_then_X4 hown hK hP 7 rfl rfl 0 (by decide) (hts _ mX6_then_2) (fun _ h9 => h9) rfl dX6_then_72 ?_
        refine va_get (D := D) (ci := 5) (v := .int u4.2.2.2.2.2.1) (C := RX5) (T := TX5) (N := 8) hx hb hts nX6_then_X5 hown hK hP 8 rfl rfl 0 (by decide) (hts _ mX6_then_3) (fun _ h9 => h9) rfl dX6_then_75 ?_
        exact hret 78 ls H locs u4.2.2.2.2.2.1 (u4.1, u4.2.1, u4.2.2.1, u4.2.2.2.1, u4.2.2.2.2.1, u4.2.2.2.2.2.1, u4.2.2.2.2.2.2.1, u4.2.2.2.2.2.2.2.1, u4.2.2.2.2.2.2.2.2.1, u4.2.2.2.2.2.2.2.2.2.1, u4.2.2.2.2.2.2.2.2.2.2.1, u4.2.2.2.2.2.2.2.2.2.2.2.1, u4.2.2.2.2.2.2.2.2.2.2.2.2.1, u4.2.2.2.2.2.2.2.2.2.2.2.2.2.1, u4.2.2.2.2.2.2.2.2.2.2.2.2.2.2.1, u4.2.2.2.2.2.2.2.2.2.2.2.2.2.2.2) dX6_then_78 hf hP hD hS
      · have hf := hf.2
        by_cases z7 : a1 = 1
        · have hf := hf.1 z7
          refine lv_tableIn (off := 55) (tgt := 79) hx hb dX6_then_24 (by rw [z7]; decide) (by rw [z7]; decide) (by rw [z7]; decide) (by decide) ?_
          refine lv_aload_n hx hb dX6_then_79 rfl (lv_at hl 0 rfl) ?_
          refine va_get (D := D) (ci := 6) (v := .ref q_t_tale) (C := RX6) (T := TX6) (N := 5) hx hb hts nX6_then_X6 hown hK hP 0 rfl rfl 3 (by decide) (hts _ mX6_then_1) (fun _ h9 => h9) rfl dX6_then_80 ?_
          refine va_get (D := D) (ci := 4) (v := .ref q_t_tale_world) (C := RX4) (T := TX4) (N := 7) hx hb hts nX6_then_X4 hown hK hP 7 rfl rfl 0 (by decide) (hts _ mX6_then_2) (fun _ h9 => h9) rfl dX6_then_83 ?_
          refine xs_i (va_runV (As := []) (rest := []) ⟨hx, hb, hml, hown, hts⟩ (kX5_dateByNewCount l D cI cZ cJ cO q_t_tale_world q_t_tale_world_places q_t_tale_world_coins q_t_tale_world_lying u4.2.2.2.2.2.2.1 u4.2.2.2.2.2.2.2.1 u4.2.2.2.2.2.2.2.2.2.1 u4.2.2.2.2.2.1 u4.2.2.2.2.2.2.2.2.1 _ hf) (cwV 0 hts gX6_then_X5_dateByNewCount rfl rfl rfl (by decide +kernel) ⟨Nat.le_of_ble_eq_true rfl, Nat.le_of_ble_eq_true rfl⟩) (B0_preV (ci := 5) (q0 := 8) hP rfl rfl (hP.sub (ws' := [(q_t_tale_world, .inr (5, [.int u4.2.2.2.2.2.1, .int u4.2.2.2.2.2.2.1, .int u4.2.2.2.2.2.2.2.1, .int u4.2.2.2.2.2.2.2.2.1, .int u4.2.2.2.2.2.2.2.2.2.1, .ref q_t_tale_world_places, .ref q_t_tale_world_coins, .ref q_t_tale_world_lying]))]) [8] rfl) hK hN) rfl rfl hl.1 rfl (lv_room (Nat.le_of_ble_eq_true rfl)) dX6_then_86 ⟨Nat.zero_le _, Nat.zero_le _⟩) (fun r8 hf => ?_)
          exact hret 89 ls H locs r8 (u4.1, u4.2.1, u4.2.2.1, u4.2.2.2.1, u4.2.2.2.2.1, u4.2.2.2.2.2.1, u4.2.2.2.2.2.2.1, u4.2.2.2.2.2.2.2.1, u4.2.2.2.2.2.2.2.2.1, u4.2.2.2.2.2.2.2.2.2.1, u4.2.2.2.2.2.2.2.2.2.2.1, u4.2.2.2.2.2.2.2.2.2.2.2.1, u4.2.2.2.2.2.2.2.2.2.2.2.2.1, u4.2.2.2.2.2.2.2.2.2.2.2.2.2.1, u4.2.2.2.2.2.2.2.2.2.2.2.2.2.2.1, u4.2.2.2.2.2.2.2.2.2.2.2.2.2.2.2) dX6_then_89 hf hP hD hS
        · have hf := hf.2
          by_cases z9 : a1 = 2
          · have hf := hf.1 z9
            refine lv_tableIn (off := 66) (tgt := 90) hx hb dX6_then_24 (by rw [z9]; decide) (by rw [z9]; decide) (by rw [z9]; decide) (by decide) ?_
            refine lv_aload_n hx hb dX6_then_90 rfl (lv_at hl 0 rfl) ?_
            refine va_get (D := D) (ci := 6) (v := .ref q_t_tale) (C := RX6) (T := TX6) (N := 5) hx hb hts nX6_then_X6 hown hK hP 0 rfl rfl 3 (by decide) (hts _ mX6_then_1) (fun _ h9 => h9) rfl dX6_then_91 ?_
            refine va_get (D := D) (ci := 4) (v := .ref q_t_tale_world) (C := RX4) (T := TX4) (N := 7) hx hb hts nX6_then_X4 hown hK hP 7 rfl rfl 0 (by decide) (hts _ mX6_then_2) (fun _ h9 => h9) rfl dX6_then_94 ?_
            refine va_get (D := D) (ci := 5) (v := .int u4.2.2.2.2.2.2.1) (C := RX5) (T := TX5) (N := 8) hx hb hts nX6_then_X5 hown hK hP 8 rfl rfl 1 (by decide) (hts _ mX6_then_4) (fun _ h9 => h9) rfl dX6_then_97 ?_
            exact hret 100 ls H locs u4.2.2.2.2.2.2.1 (u4.1, u4.2.1, u4.2.2.1, u4.2.2.2.1, u4.2.2.2.2.1, u4.2.2.2.2.2.1, u4.2.2.2.2.2.2.1, u4.2.2.2.2.2.2.2.1, u4.2.2.2.2.2.2.2.2.1, u4.2.2.2.2.2.2.2.2.2.1, u4.2.2.2.2.2.2.2.2.2.2.1, u4.2.2.2.2.2.2.2.2.2.2.2.1, u4.2.2.2.2.2.2.2.2.2.2.2.2.1, u4.2.2.2.2.2.2.2.2.2.2.2.2.2.1, u4.2.2.2.2.2.2.2.2.2.2.2.2.2.2.1, u4.2.2.2.2.2.2.2.2.2.2.2.2.2.2.2) dX6_then_100 hf hP hD hS
          · have hf := hf.2
            by_cases z10 : a1 = 3
            · have hf := hf.1 z10
              refine lv_tableIn (off := 77) (tgt := 101) hx hb dX6_then_24 (by rw [z10]; decide) (by rw [z10]; decide) (by rw [z10]; decide) (by decide) ?_
              refine lv_aload_n hx hb dX6_then_101 rfl (lv_at hl 0 rfl) ?_
              refine va_get (D := D) (ci := 6) (v := .ref q_t_tale) (C := RX6) (T := TX6) (N := 5) hx hb hts nX6_then_X6 hown hK hP 0 rfl rfl 3 (by decide) (hts _ mX6_then_1) (fun _ h9 => h9) rfl dX6_then_102 ?_
              refine va_get (D := D) (ci := 4) (v := .ref q_t_tale_world) (C := RX4) (T := TX4) (N := 7) hx hb hts nX6_then_X4 hown hK hP 7 rfl rfl 0 (by decide) (hts _ mX6_then_2) (fun _ h9 => h9) rfl dX6_then_105 ?_
              refine va_get (D := D) (ci := 5) (v := .int u4.2.2.2.2.2.2.2.1) (C := RX5) (T := TX5) (N := 8) hx hb hts nX6_then_X5 hown hK hP 8 rfl rfl 2 (by decide) (hts _ mX6_then_5) (fun _ h9 => h9) rfl dX6_then_108 ?_
              exact hret 111 ls H locs u4.2.2.2.2.2.2.2.1 (u4.1, u4.2.1, u4.2.2.1, u4.2.2.2.1, u4.2.2.2.2.1, u4.2.2.2.2.2.1, u4.2.2.2.2.2.2.1, u4.2.2.2.2.2.2.2.1, u4.2.2.2.2.2.2.2.2.1, u4.2.2.2.2.2.2.2.2.2.1, u4.2.2.2.2.2.2.2.2.2.2.1, u4.2.2.2.2.2.2.2.2.2.2.2.1, u4.2.2.2.2.2.2.2.2.2.2.2.2.1, u4.2.2.2.2.2.2.2.2.2.2.2.2.2.1, u4.2.2.2.2.2.2.2.2.2.2.2.2.2.2.1, u4.2.2.2.2.2.2.2.2.2.2.2.2.2.2.2) dX6_then_111 hf hP hD hS
            · have hf := hf.2
              by_cases z11 : a1 = 4
              · have hf := hf.1 z11
                refine lv_tableIn (off := 88) (tgt := 112) hx hb dX6_then_24 (by rw [z11]; decide) (by rw [z11]; decide) (by rw [z11]; decide) (by decide) ?_
                refine lv_aload_n hx hb dX6_then_112 rfl (lv_at hl 0 rfl) ?_
                refine va_get (D := D) (ci := 6) (v := .ref q_t_tale) (C := RX6) (T := TX6) (N := 5) hx hb hts nX6_then_X6 hown hK hP 0 rfl rfl 3 (by decide) (hts _ mX6_then_1) (fun _ h9 => h9) rfl dX6_then_113 ?_
                refine va_get (D := D) (ci := 4) (v := .ref q_t_tale_world) (C := RX4) (T := TX4) (N := 7) hx hb hts nX6_then_X4 hown hK hP 7 rfl rfl 0 (by decide) (hts _ mX6_then_2) (fun _ h9 => h9) rfl dX6_then_116 ?_
                refine xs_i (va_runV (As := []) (rest := []) ⟨hx, hb, hml, hown, hts⟩ (kX5_whoIsWithin l D cI cZ cJ cO q_t_tale_world q_t_tale_world_places q_t_tale_world_coins q_t_tale_world_lying u4.2.2.2.2.2.1 u4.2.2.2.2.2.2.1 u4.2.2.2.2.2.2.2.1 u4.2.2.2.2.2.2.2.2.1 u4.2.2.2.2.2.2.2.2.2.1 u4.2.2.2.2.2.2.2.2.2.2.1 _ hf) (cwV 0 hts gX6_then_X5_whoIsWithin rfl rfl rfl (by decide +kernel) ⟨Nat.le_of_ble_eq_true rfl, Nat.le_of_ble_eq_true rfl⟩) (B0_preV (ci := 5) (q0 := 8) hP rfl rfl (hP.sub (ws' := [(q_t_tale_world, .inr (5, [.int u4.2.2.2.2.2.1, .int u4.2.2.2.2.2.2.1, .int u4.2.2.2.2.2.2.2.1, .int u4.2.2.2.2.2.2.2.2.1, .int u4.2.2.2.2.2.2.2.2.2.1, .ref q_t_tale_world_places, .ref q_t_tale_world_coins, .ref q_t_tale_world_lying])), (q_t_tale_world_places, .inl (cI, 6, .inl u4.2.2.2.2.2.2.2.2.2.2.1))]) [8, 9] rfl) hK hN) rfl rfl hl.1 rfl (lv_room (Nat.le_of_ble_eq_true rfl)) dX6_then_119 ⟨Nat.zero_le _, Nat.zero_le _⟩) (fun r12 hf => ?_)
                exact hret 122 ls H locs r12 (u4.1, u4.2.1, u4.2.2.1, u4.2.2.2.1, u4.2.2.2.2.1, u4.2.2.2.2.2.1, u4.2.2.2.2.2.2.1, u4.2.2.2.2.2.2.2.1, u4.2.2.2.2.2.2.2.2.1, u4.2.2.2.2.2.2.2.2.2.1, u4.2.2.2.2.2.2.2.2.2.2.1, u4.2.2.2.2.2.2.2.2.2.2.2.1, u4.2.2.2.2.2.2.2.2.2.2.2.2.1, u4.2.2.2.2.2.2.2.2.2.2.2.2.2.1, u4.2.2.2.2.2.2.2.2.2.2.2.2.2.2.1, u4.2.2.2.2.2.2.2.2.2.2.2.2.2.2.2) dX6_then_122 hf hP hD hS
              · have hf := hf.2
                by_cases z13 : a1 = 5
                · have hf := hf.1 z13
                  refine lv_tableIn (off := 99) (tgt := 123) hx hb dX6_then_24 (by rw [z13]; decide) (by rw [z13]; decide) (by rw [z13]; decide) (by decide) ?_
                  refine lv_aload_n hx hb dX6_then_123 rfl (lv_at hl 0 rfl) ?_
                  refine va_get (D := D) (ci := 6) (v := .ref q_t_tale) (C := RX6) (T := TX6) (N := 5) hx hb hts nX6_then_X6 hown hK hP 0 rfl rfl 3 (by decide) (hts _ mX6_then_1) (fun _ h9 => h9) rfl dX6_then_124 ?_
                  refine va_get (D := D) (ci := 4) (v := .ref q_t_tale_world) (C := RX4) (T := TX4) (N := 7) hx hb hts nX6_then_X4 hown hK hP 7 rfl rfl 0 (by decide) (hts _ mX6_then_2) (fun _ h9 => h9) rfl dX6_then_127 ?_
                  refine xs_i (va_runV (As := []) (rest := []) ⟨hx, hb, hml, hown, hts⟩ (kX5_liesInAll l D cI cZ cJ cO q_t_tale_world q_t_tale_world_lying q_t_tale_world_places q_t_tale_world_coins u4.2.2.2.2.2.1 u4.2.2.2.2.2.2.1 u4.2.2.2.2.2.2.2.1 u4.2.2.2.2.2.2.2.2.1 u4.2.2.2.2.2.2.2.2.2.1 u4.2.2.2.2.2.2.2.2.2.2.2.2.1 _ hf) (cwV 0 hts gX6_then_X5_liesInAll rfl rfl rfl (by decide +kernel) ⟨Nat.le_of_ble_eq_true rfl, Nat.le_of_ble_eq_true rfl⟩) (B0_preV (ci := 5) (q0 := 8) hP rfl rfl (hP.sub (ws' := [(q_t_tale_world, .inr (5, [.int u4.2.2.2.2.2.1, .int u4.2.2.2.2.2.2.1, .int u4.2.2.2.2.2.2.2.1, .int u4.2.2.2.2.2.2.2.2.1, .int u4.2.2.2.2.2.2.2.2.2.1, .ref q_t_tale_world_places, .ref q_t_tale_world_coins, .ref q_t_tale_world_lying])), (q_t_tale_world_lying, .inl (cI, 30, .inl u4.2.2.2.2.2.2.2.2.2.2.2.2.1))]) [8, 11] rfl) hK hN) rfl rfl hl.1 rfl (lv_room (Nat.le_of_ble_eq_true rfl)) dX6_then_130 ⟨Nat.zero_le _, Nat.zero_le _⟩) (fun r14 hf => ?_)
                  exact hret 133 ls H locs r14 (u4.1, u4.2.1, u4.2.2.1, u4.2.2.2.1, u4.2.2.2.2.1, u4.2.2.2.2.2.1, u4.2.2.2.2.2.2.1, u4.2.2.2.2.2.2.2.1, u4.2.2.2.2.2.2.2.2.1, u4.2.2.2.2.2.2.2.2.2.1, u4.2.2.2.2.2.2.2.2.2.2.1, u4.2.2.2.2.2.2.2.2.2.2.2.1, u4.2.2.2.2.2.2.2.2.2.2.2.2.1, u4.2.2.2.2.2.2.2.2.2.2.2.2.2.1, u4.2.2.2.2.2.2.2.2.2.2.2.2.2.2.1, u4.2.2.2.2.2.2.2.2.2.2.2.2.2.2.2) dX6_then_133 hf hP hD hS
                · have hf := hf.2
                  by_cases z15 : a1 = 6
                  · have hf := hf.1 z15
                    refine lv_tableIn (off := 110) (tgt := 134) hx hb dX6_then_24 (by rw [z15]; decide) (by rw [z15]; decide) (by rw [z15]; decide) (by decide) ?_
                    refine lv_aload_n hx hb dX6_then_134 rfl (lv_at hl 0 rfl) ?_
                    refine va_get (D := D) (ci := 6) (v := .ref q_t_tale) (C := RX6) (T := TX6) (N := 5) hx hb hts nX6_then_X6 hown hK hP 0 rfl rfl 3 (by decide) (hts _ mX6_then_1) (fun _ h9 => h9) rfl dX6_then_135 ?_
                    refine va_get (D := D) (ci := 4) (v := .int u4.2.2.2.1) (C := RX4) (T := TX4) (N := 7) hx hb hts nX6_then_X4 hown hK hP 7 rfl rfl 4 (by decide) (hts _ mX6_then_6) (fun _ h9 => h9) rfl dX6_then_138 ?_
                    exact hret 141 ls H locs u4.2.2.2.1 (u4.1, u4.2.1, u4.2.2.1, u4.2.2.2.1, u4.2.2.2.2.1, u4.2.2.2.2.2.1, u4.2.2.2.2.2.2.1, u4.2.2.2.2.2.2.2.1, u4.2.2.2.2.2.2.2.2.1, u4.2.2.2.2.2.2.2.2.2.1, u4.2.2.2.2.2.2.2.2.2.2.1, u4.2.2.2.2.2.2.2.2.2.2.2.1, u4.2.2.2.2.2.2.2.2.2.2.2.2.1, u4.2.2.2.2.2.2.2.2.2.2.2.2.2.1, u4.2.2.2.2.2.2.2.2.2.2.2.2.2.2.1, u4.2.2.2.2.2.2.2.2.2.2.2.2.2.2.2) dX6_then_141 hf hP hD hS
                  · have hf := hf.2
                    have hf := hf z6 z7 z9 z10 z11 z13 z15
                    refine lv_tableOut (tgt := 142) hx hb dX6_then_24 (by have yz6 := lv_neT (a := 0) z6 (by decide); have yz7 := lv_neT (a := 1) z7 (by decide); have yz9 := lv_neT (a := 2) z9 (by decide); have yz10 := lv_neT (a := 3) z10 (by decide); have yz11 := lv_neT (a := 4) z11 (by decide); have yz13 := lv_neT (a := 5) z13 (by decide); have yz15 := lv_neT (a := 6) z15 (by decide); omega) (by decide) ?_
                    refine lv_aload_n hx hb dX6_then_142 rfl (lv_at hl 0 rfl) ?_
                    refine va_get (D := D) (ci := 6) (v := .ref q_t_tale) (C := RX6) (T := TX6) (N := 5) hx hb hts nX6_then_X6 hown hK hP 0 rfl rfl 3 (by decide) (hts _ mX6_then_1) (fun _ h9 => h9) rfl dX6_then_143 ?_
                    refine va_get (D := D) (ci := 4) (v := .int u4.2.2.2.2.1) (C := RX4) (T := TX4) (N := 7) hx hb hts nX6_then_X4 hown hK hP 7 rfl rfl 5 (by decide) (hts _ mX6_then_7) (fun _ h9 => h9) rfl dX6_then_146 ?_
                    exact hret 149 ls H locs u4.2.2.2.2.1 (u4.1, u4.2.1, u4.2.2.1, u4.2.2.2.1, u4.2.2.2.2.1, u4.2.2.2.2.2.1, u4.2.2.2.2.2.2.1, u4.2.2.2.2.2.2.2.1, u4.2.2.2.2.2.2.2.2.1, u4.2.2.2.2.2.2.2.2.2.1, u4.2.2.2.2.2.2.2.2.2.2.1, u4.2.2.2.2.2.2.2.2.2.2.2.1, u4.2.2.2.2.2.2.2.2.2.2.2.2.1, u4.2.2.2.2.2.2.2.2.2.2.2.2.2.1, u4.2.2.2.2.2.2.2.2.2.2.2.2.2.2.1, u4.2.2.2.2.2.2.2.2.2.2.2.2.2.2.2) dX6_then_149 hf hP hD hS
    · have hf := hf.2 c5
      refine lv_bipush (v := (-5)) hx hb dX6_then_20 (by decide) ?_
      exact hret 22 ls H locs (-5) (u4.1, u4.2.1, u4.2.2.1, u4.2.2.2.1, u4.2.2.2.2.1, u4.2.2.2.2.2.1, u4.2.2.2.2.2.2.1, u4.2.2.2.2.2.2.2.1, u4.2.2.2.2.2.2.2.2.1, u4.2.2.2.2.2.2.2.2.2.1, u4.2.2.2.2.2.2.2.2.2.2.1, u4.2.2.2.2.2.2.2.2.2.2.2.1, u4.2.2.2.2.2.2.2.2.2.2.2.2.1, u4.2.2.2.2.2.2.2.2.2.2.2.2.2.1, u4.2.2.2.2.2.2.2.2.2.2.2.2.2.2.1, u4.2.2.2.2.2.2.2.2.2.2.2.2.2.2.2) dX6_then_22 hf hP hD hS
  · have hf := hf.2 c2
    refine lv_bipush (v := (-2)) hx hb dX6_then_10 (by decide) ?_
    exact hret 12 ls H locs (-2) (t_tale_acts, t_tale_failedAct, t_tale_failedWhy, t_tale_metAct, t_tale_metTwo, t_tale_world_date, t_tale_world_hour, t_tale_world_year, t_tale_world_shift, t_tale_world_kneelDate, t_tale_world_places, t_tale_world_coins, t_tale_world_lying, t_tale_act_sign, t_tale_act_person, t_tale_act_number) dX6_then_12 hf hP hD hS

/-! X6_agree -/

def pX6_agree_b51 (a1 : Int32) (a2 : Int32) (a3 : Int32) (a4 : Int32) (post : Int32 → Prop) : Nat → Int32 → Prop
  | 0 => fun _ => False
  | n + 1 => fun x5 => ((a1 * a3) ≤ x5 → (post (-6))) ∧ (¬ (a1 * a3) ≤ x5 → (¬ a3 = 0 ∧ ((¬ (x5 - x5 / a3 * a3) = a4 → (∀ v4 : Int32, v4 = (x5 + a1) → (pX6_agree_b51 a1 a2 a3 a4 post  n v4))) ∧ ((x5 - x5 / a3 * a3) = a4 → (post x5)))))

set_option maxHeartbeats 4000000 in
set_option maxRecDepth 100000 in
theorem wX6_agree_b51 {p : Program} {l : Launch} {e : Env} {s : State} {m : MethodId} {args : Array Value} {below : List Frame} {meth : Method} {c : Code} {Q : State → Prop} {D : va_G} {cI cZ cJ cO : ClassId} (C0 : CallFix p m c cX6_agree 6 s args wsX6_agree RX6) (hN : nw s) (hK : va_K D vwCl (tyL cI cZ cJ cO) s) (q_t : Nat)  (a1 : Int32) (a2 : Int32) (a3 : Int32) (a4 : Int32) (post : Int32 → Prop) (hret : h0I p l e ({ frames := 1, cells := 0, slots := 0, locals := 22 } : Room) s m args below meth c cX6_agree Q post) (hP : va_P D vwCl [] s.heap) :
    ∀ (n : Nat) (x5 : Int32), pX6_agree_b51 a1 a2 a3 a4 post n x5 → ∀ ls : Array Slot, lv_has ls 6 [(1, .int a1), (3, .int a3), (4, .int a4), (5, .int x5)] → W p l e ({ frames := 1, cells := 0, slots := 0, locals := 22 } : Room) s m args below meth c s.heap [] 0 0 Q (F0 m 51 ls []) := by
  obtain ⟨hx, hb, hml, hown, hts⟩ := id C0
  intro n
  induction n with
  | zero =>
    intro x5 hf
    exact False.elim hf
  | succ n ih =>
    intro x5 hf ls hl
    rw [pX6_agree_b51] at hf
    refine lv_iload hx hb dX6_agree_51 (lv_at hl 3 rfl) ?_
    refine lv_iload_n hx hb dX6_agree_53 rfl (lv_at hl 0 rfl) ?_
    refine lv_iload_n hx hb dX6_agree_54 rfl (lv_at hl 1 rfl) ?_
    refine lv_imul hx hb dX6_agree_55 ?_
    refine lv_icmp_ge (tgt := 80) hx hb dX6_agree_56 (by decide) (fun c1 => ?_) (fun c1 => ?_)
    · have hf := hf.1 c1
      refine lv_bipush (v := (-6)) hx hb dX6_agree_80 (by decide) ?_
      exact hret 82 ls (-6) dX6_agree_82 hf
    · have hf := hf.2 c1
      refine lv_iload hx hb dX6_agree_59 (lv_at hl 3 rfl) ?_
      refine lv_iload_n hx hb dX6_agree_61 rfl (lv_at hl 1 rfl) ?_
      have g2 := hf.1
      have hf := hf.2
      refine lv_irem hx hb dX6_agree_62 g2 ?_
      refine lv_iload hx hb dX6_agree_63 (lv_at hl 2 rfl) ?_
      refine lv_icmp_ne (tgt := 71) hx hb dX6_agree_65 (by decide) (fun c3 => ?_) (fun c3 => ?_)
      · have hf := hf.1 c3
        refine lv_iload hx hb dX6_agree_71 (lv_at hl 3 rfl) ?_
        refine lv_iload_n hx hb dX6_agree_73 rfl (lv_at hl 0 rfl) ?_
        refine lv_iadd hx hb dX6_agree_74 ?_
        refine lv_topi (fun v4 ev4 => ?_)
        have hf := hf v4 ev4
        refine lv_istore (lv' := [(5, .int v4), (1, .int a1), (3, .int a3), (4, .int a4)]) hx hb dX6_agree_75 hl (by decide) rfl (fun ls hl => ?_)
        refine lv_goto (tgt := 51) hx hb dX6_agree_77 (by decide) ?_
        exact ih v4 hf ls (lv_sub hl [1, 2, 3, 0] rfl)
      · have hf := hf.2 c3
        refine lv_iload hx hb dX6_agree_68 (lv_at hl 3 rfl) ?_
        exact hret 70 ls x5 dX6_agree_70 hf

def pX6_agree  (a1 : Int32) (a2 : Int32) (a3 : Int32) (a4 : Int32) (post : Int32 → Prop) : Prop :=
  pX6_isIn a1 1 999 (fun r1 => (r1 = 0 → (post (-2))) ∧ (¬ r1 = 0 → (pX6_isIn a2 0 (a1 - 1) (fun r3 => (r3 = 0 → (post (-2))) ∧ (¬ r3 = 0 → (pX6_isIn a3 1 999 (fun r5 => (r5 = 0 → (post (-2))) ∧ (¬ r5 = 0 → (pX6_isIn a4 0 (a3 - 1) (fun r7 => (¬ r7 = 0 → (∃ n1, pX6_agree_b51 a1 a2 a3 a4 post  n1 a2)) ∧ (r7 = 0 → (post (-2)))))))))))))

set_option maxHeartbeats 4000000 in
set_option maxRecDepth 100000 in
theorem kX6_agree (l : Launch) (D : va_G) (cI cZ cJ cO : ClassId) (q_t : Nat)   (a1 : Int32) (a2 : Int32) (a3 : Int32) (a4 : Int32) (post : Int32 → Prop) (hf : pX6_agree a1 a2 a3 a4 post) :
    Met l yX6_agree wsX6_agree ({ frames := 1, cells := 0, slots := 0, locals := 22 } : Room) (va_Pc [.ref q_t, .int a1, .int a2, .int a3, .int a4] (B0 D (tyL cI cZ cJ cO) [])) (vp_Si post) 0 0 (fun _ => False) := by
  unfold pX6_agree at hf
  refine xm_0i (own := RX6) (by decide) rfl rfl (Nat.le_of_ble_eq_true rfl) (fun p e s m args below meth c Q C0 hN hK hret hP ls hl => ?_)
  obtain ⟨hx, hb, hml, hown, hts⟩ := id C0
  have hl : lv_has ls 6 [(0, .ref q_t), (1, .int a1), (2, .int a2), (3, .int a3), (4, .int a4)] := hl
  refine lv_iload_n hx hb dX6_agree_0 rfl (lv_at hl 1 rfl) ?_
  refine lv_iconst (v := 1) hx hb dX6_agree_1 (by decide) ?_
  refine lv_sipush (v := 999) hx hb dX6_agree_2 (by decide) ?_
  refine xs_i (va_runS (As := [.int a1, .int 1, .int 999]) (rest := []) ⟨hx, hb, hml, hown, hts⟩ (kX6_isIn l D cI cZ cJ cO a1 1 999 _ hf) (va_cwS 3 hts gX6_agree_X6_isIn rfl rfl rfl (by decide +kernel) ⟨Nat.le_of_ble_eq_true rfl, Nat.le_of_ble_eq_true rfl⟩) (B0_pre (hP.sub (ws' := []) [] rfl) hK hN) rfl rfl hl.1 rfl (lv_room (Nat.le_of_ble_eq_true rfl)) dX6_agree_5 ⟨Nat.zero_le _, Nat.zero_le _⟩) (fun r1 hf => ?_)
  refine lv_if_eq (tgt := 45) hx hb dX6_agree_8 (by decide) (fun c2 => ?_) (fun c2 => ?_)
  · have hf := hf.1 c2
    refine lv_bipush (v := (-2)) hx hb dX6_agree_45 (by decide) ?_
    exact hret 47 ls (-2) dX6_agree_47 hf
  · have hf := hf.2 c2
    refine lv_iload_n hx hb dX6_agree_11 rfl (lv_at hl 2 rfl) ?_
    refine lv_iconst (v := 0) hx hb dX6_agree_12 (by decide) ?_
    refine lv_iload_n hx hb dX6_agree_13 rfl (lv_at hl 1 rfl) ?_
    refine lv_iconst (v := 1) hx hb dX6_agree_14 (by decide) ?_
    refine lv_isub hx hb dX6_agree_15 ?_
    refine xs_i (va_runS (As := [.int a2, .int 0, .int (a1 - 1)]) (rest := []) ⟨hx, hb, hml, hown, hts⟩ (kX6_isIn l D cI cZ cJ cO a2 0 (a1 - 1) _ hf) (va_cwS 3 hts gX6_agree_X6_isIn rfl rfl rfl (by decide +kernel) ⟨Nat.le_of_ble_eq_true rfl, Nat.le_of_ble_eq_true rfl⟩) (B0_pre (hP.sub (ws' := []) [] rfl) hK hN) rfl rfl hl.1 rfl (lv_room (Nat.le_of_ble_eq_true rfl)) dX6_agree_16 ⟨Nat.zero_le _, Nat.zero_le _⟩) (fun r3 hf => ?_)
    refine lv_if_eq (tgt := 45) hx hb dX6_agree_19 (by decide) (fun c4 => ?_) (fun c4 => ?_)
    · have hf := hf.1 c4
      refine lv_bipush (v := (-2)) hx hb dX6_agree_45 (by decide) ?_
      exact hret 47 ls (-2) dX6_agree_47 hf
    · have hf := hf.2 c4
      refine lv_iload_n hx hb dX6_agree_22 rfl (lv_at hl 3 rfl) ?_
      refine lv_iconst (v := 1) hx hb dX6_agree_23 (by decide) ?_
      refine lv_sipush (v := 999) hx hb dX6_agree_24 (by decide) ?_
      refine xs_i (va_runS (As := [.int a3, .int 1, .int 999]) (rest := []) ⟨hx, hb, hml, hown, hts⟩ (kX6_isIn l D cI cZ cJ cO a3 1 999 _ hf) (va_cwS 3 hts gX6_agree_X6_isIn rfl rfl rfl (by decide +kernel) ⟨Nat.le_of_ble_eq_true rfl, Nat.le_of_ble_eq_true rfl⟩) (B0_pre (hP.sub (ws' := []) [] rfl) hK hN) rfl rfl hl.1 rfl (lv_room (Nat.le_of_ble_eq_true rfl)) dX6_agree_27 ⟨Nat.zero_le _, Nat.zero_le _⟩) (fun r5 hf => ?_)
      refine lv_if_eq (tgt := 45) hx hb dX6_agree_30 (by decide) (fun c6 => ?_) (fun c6 => ?_)
      · have hf := hf.1 c6
        refine lv_bipush (v := (-2)) hx hb dX6_agree_45 (by decide) ?_
        exact hret 47 ls (-2) dX6_agree_47 hf
      · have hf := hf.2 c6
        refine lv_iload hx hb dX6_agree_33 (lv_at hl 4 rfl) ?_
        refine lv_iconst (v := 0) hx hb dX6_agree_35 (by decide) ?_
        refine lv_iload_n hx hb dX6_agree_36 rfl (lv_at hl 3 rfl) ?_
        refine lv_iconst (v := 1) hx hb dX6_agree_37 (by decide) ?_
        refine lv_isub hx hb dX6_agree_38 ?_
        refine xs_i (va_runS (As := [.int a4, .int 0, .int (a3 - 1)]) (rest := []) ⟨hx, hb, hml, hown, hts⟩ (kX6_isIn l D cI cZ cJ cO a4 0 (a3 - 1) _ hf) (va_cwS 3 hts gX6_agree_X6_isIn rfl rfl rfl (by decide +kernel) ⟨Nat.le_of_ble_eq_true rfl, Nat.le_of_ble_eq_true rfl⟩) (B0_pre (hP.sub (ws' := []) [] rfl) hK hN) rfl rfl hl.1 rfl (lv_room (Nat.le_of_ble_eq_true rfl)) dX6_agree_39 ⟨Nat.zero_le _, Nat.zero_le _⟩) (fun r7 hf => ?_)
        refine lv_if_ne (tgt := 48) hx hb dX6_agree_42 (by decide) (fun c8 => ?_) (fun c8 => ?_)
        · have hf := hf.1 c8
          refine lv_iload_n hx hb dX6_agree_48 rfl (lv_at hl 2 rfl) ?_
          refine lv_istore (lv' := [(5, .int a2), (0, .ref q_t), (1, .int a1), (2, .int a2), (3, .int a3), (4, .int a4)]) hx hb dX6_agree_49 hl (by decide) rfl (fun ls hl => ?_)
          obtain ⟨n1, hf⟩ := hf
          exact wX6_agree_b51 C0 hN hK q_t a1 a2 a3 a4 post hret hP   n1 a2 hf ls (lv_sub hl [2, 4, 5, 0] rfl)
        · have hf := hf.2 c8
          refine lv_bipush (v := (-2)) hx hb dX6_agree_45 (by decide) ?_
          exact hret 47 ls (-2) dX6_agree_47 hf

/-! X6_isOldLeap -/

def pX6_isOldLeap  (a1 : Int32) (post : Int32 → Prop) : Prop :=
  (¬ (a1 - a1 / 4 * 4) = 0 → (post 0)) ∧ ((a1 - a1 / 4 * 4) = 0 → (post 1))

set_option maxHeartbeats 4000000 in
set_option maxRecDepth 100000 in
theorem kX6_isOldLeap (l : Launch) (D : va_G) (cI cZ cJ cO : ClassId)    (a1 : Int32) (post : Int32 → Prop) (hf : pX6_isOldLeap a1 post) :
    Met l yX6_isOldLeap wsX6_isOldLeap ({ frames := 0, cells := 0, slots := 0, locals := 0 } : Room) (va_Pc [.int a1] (B0 D (tyL cI cZ cJ cO) [])) (vp_Si post) 0 0 (fun _ => False) := by
  unfold pX6_isOldLeap at hf
  refine xm_0z (own := RX6) (by decide) rfl rfl (Nat.le_of_ble_eq_true rfl) (fun p e s m args below meth c Q C0 hN hK hret hP ls hl => ?_)
  obtain ⟨hx, hb, hml, hown, hts⟩ := id C0
  have hl : lv_has ls 1 [(0, .int a1)] := hl
  refine lv_iload_n hx hb dX6_isOldLeap_0 rfl (lv_at hl 0 rfl) ?_
  refine lv_iconst (v := 4) hx hb dX6_isOldLeap_1 (by decide) ?_
  refine lv_irem hx hb dX6_isOldLeap_2 (by decide) ?_
  refine lv_if_ne (tgt := 10) hx hb dX6_isOldLeap_3 (by decide) (fun c1 => ?_) (fun c1 => ?_)
  · have hf := hf.1 c1
    refine lv_iconst (v := 0) hx hb dX6_isOldLeap_10 (by decide) ?_
    exact hret 11 ls 0 dX6_isOldLeap_11 rfl hf
  · have hf := hf.2 c1
    refine lv_iconst (v := 1) hx hb dX6_isOldLeap_6 (by decide) ?_
    refine lv_goto (tgt := 11) hx hb dX6_isOldLeap_7 (by decide) ?_
    exact hret 11 ls 1 dX6_isOldLeap_11 rfl hf

/-! X6_monthDays -/
theorem mX6_monthDays_1 : Cond.fieldLink RX6 149 "OxenKneel" "MONTH_DAYS" "[I" ∈ wsX6_monthDays := List.mem_of_getElem? (i := 1) rfl
def pX6_monthDays  (a1 : Int32) (a2 : Int32) (post : Int32 → Prop) : Prop :=
  pX6_isIn a1 1 12 (fun r1 => (¬ r1 = 0 → ((¬ a1 = 2 → (vp_in (a1 - 1) 12 ∧ (post (mdv (a1 - 1).toNatClampNeg)))) ∧ (a1 = 2 → ((a2 = 0 → (vp_in (a1 - 1) 12 ∧ (post (mdv (a1 - 1).toNatClampNeg)))) ∧ (¬ a2 = 0 → (vp_in (a1 - 1) 12 ∧ (post ((mdv (a1 - 1).toNatClampNeg) + 1)))))))) ∧ (r1 = 0 → (post 0)))

set_option maxHeartbeats 4000000 in
set_option maxRecDepth 100000 in
theorem kX6_monthDays (l : Launch) (D : va_G) (cI cZ cJ cO : ClassId)  (q_MD : Nat)   (a1 : Int32) (a2 : Int32) (post : Int32 → Prop) (hf : pX6_monthDays a1 a2 post) :
    Met l yX6_monthDays wsX6_monthDays ({ frames := 1, cells := 0, slots := 0, locals := 22 } : Room) (va_Pc [.int a1, .int a2] (B2 D (tyL cI cZ cJ cO) [] q_MD)) (vp_Si post) 0 0 (fun _ => False) := by
  unfold pX6_monthDays at hf
  refine xm_2i (own := RX6) (by decide) rfl rfl (Nat.le_of_ble_eq_true rfl) (fun p e s m args below meth c Q C0 hN hK hM hret hP ls hl => ?_)
  obtain ⟨hx, hb, hml, hown, hts⟩ := id C0
  have hl : lv_has ls 2 [(0, .int a1), (1, .int a2)] := hl
  refine lv_iload_n hx hb dX6_monthDays_0 rfl (lv_at hl 0 rfl) ?_
  refine lv_iconst (v := 1) hx hb dX6_monthDays_1 (by decide) ?_
  refine lv_bipush (v := 12) hx hb dX6_monthDays_2 (by decide) ?_
  refine xs_i (va_runS (As := [.int a1, .int 1, .int 12]) (rest := []) ⟨hx, hb, hml, hown, hts⟩ (kX6_isIn l D cI cZ cJ cO a1 1 12 _ hf) (va_cwS 3 hts gX6_monthDays_X6_isIn rfl rfl rfl (by decide +kernel) ⟨Nat.le_of_ble_eq_true rfl, Nat.le_of_ble_eq_true rfl⟩) (B0_pre (hP.sub (ws' := []) [] rfl) hK hN) rfl rfl hl.1 rfl (lv_room (Nat.le_of_ble_eq_true rfl)) dX6_monthDays_4 ⟨Nat.zero_le _, Nat.zero_le _⟩) (fun r1 hf => ?_)
  refine lv_if_ne (tgt := 12) hx hb dX6_monthDays_7 (by decide) (fun c2 => ?_) (fun c2 => ?_)
  · have hf := hf.1 c2
    refine lv_iload_n hx hb dX6_monthDays_12 rfl (lv_at hl 0 rfl) ?_
    refine lv_iconst (v := 2) hx hb dX6_monthDays_13 (by decide) ?_
    refine lv_icmp_ne (tgt := 33) hx hb dX6_monthDays_14 (by decide) (fun c3 => ?_) (fun c3 => ?_)
    · have hf := hf.1 c3
      refine va_gets (A := fun _ => False) hx hb hM.1 va_S.rf hown (hts _ mX6_monthDays_1) (fun _ h9 => h9) dX6_monthDays_33 ?_
      refine lv_iload_n hx hb dX6_monthDays_36 rfl (lv_at hl 0 rfl) ?_
      refine lv_iconst (v := 1) hx hb dX6_monthDays_37 (by decide) ?_
      refine lv_isub hx hb dX6_monthDays_38 ?_
      have g4 := hf.1
      have hf := hf.2
      refine va_ti (A := fun _ => False) (v := .int (mdv (a1 - 1).toNatClampNeg)) hx hb hM.2 va_S.rf g4 rfl dX6_monthDays_39 ?_
      exact hret 40 ls (mdv (a1 - 1).toNatClampNeg) dX6_monthDays_40 hf
    · have hf := hf.2 c3
      refine lv_iload_n hx hb dX6_monthDays_17 rfl (lv_at hl 1 rfl) ?_
      refine lv_if_eq (tgt := 33) hx hb dX6_monthDays_18 (by decide) (fun c5 => ?_) (fun c5 => ?_)
      · have hf := hf.1 c5
        refine va_gets (A := fun _ => False) hx hb hM.1 va_S.rf hown (hts _ mX6_monthDays_1) (fun _ h9 => h9) dX6_monthDays_33 ?_
        refine lv_iload_n hx hb dX6_monthDays_36 rfl (lv_at hl 0 rfl) ?_
        refine lv_iconst (v := 1) hx hb dX6_monthDays_37 (by decide) ?_
        refine lv_isub hx hb dX6_monthDays_38 ?_
        have g6 := hf.1
        have hf := hf.2
        refine va_ti (A := fun _ => False) (v := .int (mdv (a1 - 1).toNatClampNeg)) hx hb hM.2 va_S.rf g6 rfl dX6_monthDays_39 ?_
        exact hret 40 ls (mdv (a1 - 1).toNatClampNeg) dX6_monthDays_40 hf
      · have hf := hf.2 c5
        refine va_gets (A := fun _ => False) hx hb hM.1 va_S.rf hown (hts _ mX6_monthDays_1) (fun _ h9 => h9) dX6_monthDays_21 ?_
        refine lv_iload_n hx hb dX6_monthDays_24 rfl (lv_at hl 0 rfl) ?_
        refine lv_iconst (v := 1) hx hb dX6_monthDays_25 (by decide) ?_
        refine lv_isub hx hb dX6_monthDays_26 ?_
        have g7 := hf.1
        have hf := hf.2
        refine va_ti (A := fun _ => False) (v := .int (mdv (a1 - 1).toNatClampNeg)) hx hb hM.2 va_S.rf g7 rfl dX6_monthDays_27 ?_
        refine lv_iconst (v := 1) hx hb dX6_monthDays_28 (by decide) ?_
        refine lv_iadd hx hb dX6_monthDays_29 ?_
        refine lv_goto (tgt := 40) hx hb dX6_monthDays_30 (by decide) ?_
        exact hret 40 ls ((mdv (a1 - 1).toNatClampNeg) + 1) dX6_monthDays_40 hf
  · have hf := hf.2 c2
    refine lv_iconst (v := 0) hx hb dX6_monthDays_10 (by decide) ?_
    exact hret 11 ls 0 dX6_monthDays_11 hf

/-! X6_isOldDay -/

def pX6_isOldDay  (a1 : Int32) (a2 : Int32) (a3 : Int32) (post : Int32 → Prop) : Prop :=
  pX6_isIn a1 1000 3000 (fun r1 => (r1 = 0 → (post 0)) ∧ (¬ r1 = 0 → (pX6_isIn a2 1 12 (fun r3 => (r3 = 0 → (post 0)) ∧ (¬ r3 = 0 → (pX6_isOldLeap a1 (fun r5 => pX6_monthDays a2 r5 (fun r6 => pX6_isIn a3 1 r6 (fun r7 => (r7 = 0 → (post 0)) ∧ (¬ r7 = 0 → (post 1)))))))))))

set_option maxHeartbeats 4000000 in
set_option maxRecDepth 100000 in
theorem kX6_isOldDay (l : Launch) (D : va_G) (cI cZ cJ cO : ClassId)  (q_MD : Nat)   (a1 : Int32) (a2 : Int32) (a3 : Int32) (post : Int32 → Prop) (hf : pX6_isOldDay a1 a2 a3 post) :
    Met l yX6_isOldDay wsX6_isOldDay ({ frames := 2, cells := 0, slots := 0, locals := 43 } : Room) (va_Pc [.int a1, .int a2, .int a3] (B2 D (tyL cI cZ cJ cO) [] q_MD)) (vp_Si post) 0 0 (fun _ => False) := by
  unfold pX6_isOldDay at hf
  refine xm_2z (own := RX6) (by decide) rfl rfl (Nat.le_of_ble_eq_true rfl) (fun p e s m args below meth c Q C0 hN hK hM hret hP ls hl => ?_)
  obtain ⟨hx, hb, hml, hown, hts⟩ := id C0
  have hl : lv_has ls 3 [(0, .int a1), (1, .int a2), (2, .int a3)] := hl
  refine lv_iload_n hx hb dX6_isOldDay_0 rfl (lv_at hl 0 rfl) ?_
  refine lv_sipush (v := 1000) hx hb dX6_isOldDay_1 (by decide) ?_
  refine lv_sipush (v := 3000) hx hb dX6_isOldDay_4 (by decide) ?_
  refine xs_i (va_runS (As := [.int a1, .int 1000, .int 3000]) (rest := []) ⟨hx, hb, hml, hown, hts⟩ (kX6_isIn l D cI cZ cJ cO a1 1000 3000 _ hf) (va_cwS 3 hts gX6_isOldDay_X6_isIn rfl rfl rfl (by decide +kernel) ⟨Nat.le_of_ble_eq_true rfl, Nat.le_of_ble_eq_true rfl⟩) (B0_pre (hP.sub (ws' := []) [] rfl) hK hN) rfl rfl hl.1 rfl (lv_room (Nat.le_of_ble_eq_true rfl)) dX6_isOldDay_7 ⟨Nat.zero_le _, Nat.zero_le _⟩) (fun r1 hf => ?_)
  refine lv_if_eq (tgt := 43) hx hb dX6_isOldDay_10 (by decide) (fun c2 => ?_) (fun c2 => ?_)
  · have hf := hf.1 c2
    refine lv_iconst (v := 0) hx hb dX6_isOldDay_43 (by decide) ?_
    exact hret 44 ls 0 dX6_isOldDay_44 rfl hf
  · have hf := hf.2 c2
    refine lv_iload_n hx hb dX6_isOldDay_13 rfl (lv_at hl 1 rfl) ?_
    refine lv_iconst (v := 1) hx hb dX6_isOldDay_14 (by decide) ?_
    refine lv_bipush (v := 12) hx hb dX6_isOldDay_15 (by decide) ?_
    refine xs_i (va_runS (As := [.int a2, .int 1, .int 12]) (rest := []) ⟨hx, hb, hml, hown, hts⟩ (kX6_isIn l D cI cZ cJ cO a2 1 12 _ hf) (va_cwS 3 hts gX6_isOldDay_X6_isIn rfl rfl rfl (by decide +kernel) ⟨Nat.le_of_ble_eq_true rfl, Nat.le_of_ble_eq_true rfl⟩) (B0_pre (hP.sub (ws' := []) [] rfl) hK hN) rfl rfl hl.1 rfl (lv_room (Nat.le_of_ble_eq_true rfl)) dX6_isOldDay_17 ⟨Nat.zero_le _, Nat.zero_le _⟩) (fun r3 hf => ?_)
    refine lv_if_eq (tgt := 43) hx hb dX6_isOldDay_20 (by decide) (fun c4 => ?_) (fun c4 => ?_)
    · have hf := hf.1 c4
      refine lv_iconst (v := 0) hx hb dX6_isOldDay_43 (by decide) ?_
      exact hret 44 ls 0 dX6_isOldDay_44 rfl hf
    · have hf := hf.2 c4
      refine lv_iload_n hx hb dX6_isOldDay_23 rfl (lv_at hl 2 rfl) ?_
      refine lv_iconst (v := 1) hx hb dX6_isOldDay_24 (by decide) ?_
      refine lv_iload_n hx hb dX6_isOldDay_25 rfl (lv_at hl 1 rfl) ?_
      refine lv_iload_n hx hb dX6_isOldDay_26 rfl (lv_at hl 0 rfl) ?_
      refine xs_i (va_runS (As := [.int a1]) (rest := [.int a2, .int 1, .int a3]) ⟨hx, hb, hml, hown, hts⟩ (kX6_isOldLeap l D cI cZ cJ cO a1 _ hf) (va_cwS 1 hts gX6_isOldDay_X6_isOldLeap rfl rfl rfl (by decide +kernel) ⟨Nat.le_of_ble_eq_true rfl, Nat.le_of_ble_eq_true rfl⟩) (B0_pre (hP.sub (ws' := []) [] rfl) hK hN) rfl rfl hl.1 rfl (lv_room (Nat.le_of_ble_eq_true rfl)) dX6_isOldDay_27 ⟨Nat.zero_le _, Nat.zero_le _⟩) (fun r5 hf => ?_)
      refine xs_i (va_runS (As := [.int a2, .int r5]) (rest := [.int 1, .int a3]) ⟨hx, hb, hml, hown, hts⟩ (kX6_monthDays l D cI cZ cJ cO q_MD a2 r5 _ hf) (va_cwS 2 hts gX6_isOldDay_X6_monthDays rfl rfl rfl (by decide +kernel) ⟨Nat.le_of_ble_eq_true rfl, Nat.le_of_ble_eq_true rfl⟩) (B2_pre (hP.sub (ws' := []) [] rfl) hK hN hM) rfl rfl hl.1 rfl (lv_room (Nat.le_of_ble_eq_true rfl)) dX6_isOldDay_30 ⟨Nat.zero_le _, Nat.zero_le _⟩) (fun r6 hf => ?_)
      refine xs_i (va_runS (As := [.int a3, .int 1, .int r6]) (rest := []) ⟨hx, hb, hml, hown, hts⟩ (kX6_isIn l D cI cZ cJ cO a3 1 r6 _ hf) (va_cwS 3 hts gX6_isOldDay_X6_isIn rfl rfl rfl (by decide +kernel) ⟨Nat.le_of_ble_eq_true rfl, Nat.le_of_ble_eq_true rfl⟩) (B0_pre (hP.sub (ws' := []) [] rfl) hK hN) rfl rfl hl.1 rfl (lv_room (Nat.le_of_ble_eq_true rfl)) dX6_isOldDay_33 ⟨Nat.zero_le _, Nat.zero_le _⟩) (fun r7 hf => ?_)
      refine lv_if_eq (tgt := 43) hx hb dX6_isOldDay_36 (by decide) (fun c8 => ?_) (fun c8 => ?_)
      · have hf := hf.1 c8
        refine lv_iconst (v := 0) hx hb dX6_isOldDay_43 (by decide) ?_
        exact hret 44 ls 0 dX6_isOldDay_44 rfl hf
      · have hf := hf.2 c8
        refine lv_iconst (v := 1) hx hb dX6_isOldDay_39 (by decide) ?_
        refine lv_goto (tgt := 44) hx hb dX6_isOldDay_40 (by decide) ?_
        exact hret 44 ls 1 dX6_isOldDay_44 rfl hf

/-! X6_oldDayNumber -/

def pX6_oldDayNumber_b21 (a1 : Int32) (a2 : Int32) (a3 : Int32) (post : Int32 → Prop) : Nat → Int32 → Int32 → Prop
  | 0 => fun _ _ => False
  | n + 1 => fun x3 x4 => (a2 ≤ x4 → (post x3)) ∧ (¬ a2 ≤ x4 → (pX6_isOldLeap a1 (fun r2 => pX6_monthDays x4 r2 (fun r3 => ∀ v4 : Int32, v4 = (x3 + r3) → (∀ v5 : Int32, v5 = x4 + 1 → (pX6_oldDayNumber_b21 a1 a2 a3 post  n v4 v5))))))

set_option maxHeartbeats 4000000 in
set_option maxRecDepth 100000 in
theorem wX6_oldDayNumber_b21 {p : Program} {l : Launch} {e : Env} {s : State} {m : MethodId} {args : Array Value} {below : List Frame} {meth : Method} {c : Code} {Q : State → Prop} {D : va_G} {cI cZ cJ cO : ClassId} (C0 : CallFix p m c cX6_oldDayNumber 5 s args wsX6_oldDayNumber RX6) (hN : nw s) (hK : va_K D vwCl (tyL cI cZ cJ cO) s) (q_MD : Nat) (hM : mdH q_MD s s.heap)   (a1 : Int32) (a2 : Int32) (a3 : Int32) (post : Int32 → Prop) (hret : h0I p l e ({ frames := 2, cells := 0, slots := 0, locals := 43 } : Room) s m args below meth c cX6_oldDayNumber Q post) (hP : va_P D vwCl [] s.heap) :
    ∀ (n : Nat) (x3 : Int32) (x4 : Int32), pX6_oldDayNumber_b21 a1 a2 a3 post n x3 x4 → ∀ ls : Array Slot, lv_has ls 5 [(0, .int a1), (1, .int a2), (3, .int x3), (4, .int x4)] → W p l e ({ frames := 2, cells := 0, slots := 0, locals := 43 } : Room) s m args below meth c s.heap [] 0 0 Q (F0 m 21 ls []) := by
  obtain ⟨hx, hb, hml, hown, hts⟩ := id C0
  intro n
  induction n with
  | zero =>
    intro x3 x4 hf
    exact False.elim hf
  | succ n ih =>
    intro x3 x4 hf ls hl
    rw [pX6_oldDayNumber_b21] at hf
    refine lv_iload hx hb dX6_oldDayNumber_21 (lv_at hl 3 rfl) ?_
    refine lv_iload_n hx hb dX6_oldDayNumber_23 rfl (lv_at hl 1 rfl) ?_
    refine lv_icmp_ge (tgt := 45) hx hb dX6_oldDayNumber_24 (by decide) (fun c1 => ?_) (fun c1 => ?_)
    · have hf := hf.1 c1
      refine lv_iload_n hx hb dX6_oldDayNumber_45 rfl (lv_at hl 2 rfl) ?_
      exact hret 46 ls x3 dX6_oldDayNumber_46 hf
    · have hf := hf.2 c1
      refine lv_iload_n hx hb dX6_oldDayNumber_27 rfl (lv_at hl 2 rfl) ?_
      refine lv_iload hx hb dX6_oldDayNumber_28 (lv_at hl 3 rfl) ?_
      refine lv_iload_n hx hb dX6_oldDayNumber_30 rfl (lv_at hl 0 rfl) ?_
      refine xs_i (va_runS (As := [.int a1]) (rest := [.int x4, .int x3]) ⟨hx, hb, hml, hown, hts⟩ (kX6_isOldLeap l D cI cZ cJ cO a1 _ hf) (va_cwS 1 hts gX6_oldDayNumber_X6_isOldLeap rfl rfl rfl (by decide +kernel) ⟨Nat.le_of_ble_eq_true rfl, Nat.le_of_ble_eq_true rfl⟩) (B0_pre (hP.sub (ws' := []) [] rfl) hK hN) rfl rfl hl.1 rfl (lv_room (Nat.le_of_ble_eq_true rfl)) dX6_oldDayNumber_31 ⟨Nat.zero_le _, Nat.zero_le _⟩) (fun r2 hf => ?_)
      refine xs_i (va_runS (As := [.int x4, .int r2]) (rest := [.int x3]) ⟨hx, hb, hml, hown, hts⟩ (kX6_monthDays l D cI cZ cJ cO q_MD x4 r2 _ hf) (va_cwS 2 hts gX6_oldDayNumber_X6_monthDays rfl rfl rfl (by decide +kernel) ⟨Nat.le_of_ble_eq_true rfl, Nat.le_of_ble_eq_true rfl⟩) (B2_pre (hP.sub (ws' := []) [] rfl) hK hN hM) rfl rfl hl.1 rfl (lv_room (Nat.le_of_ble_eq_true rfl)) dX6_oldDayNumber_34 ⟨Nat.zero_le _, Nat.zero_le _⟩) (fun r3 hf => ?_)
      refine lv_iadd hx hb dX6_oldDayNumber_37 ?_
      refine lv_topi (fun v4 ev4 => ?_)
      have hf := hf v4 ev4
      refine lv_istore_n (lv' := [(3, .int v4), (0, .int a1), (1, .int a2), (4, .int x4)]) hx hb dX6_oldDayNumber_38 rfl hl (by decide) rfl (fun ls hl => ?_)
      obtain ⟨v5, ev5⟩ : ∃ y : Int32, y = x4 + 1 := ⟨_, rfl⟩
      have hf := hf v5 ev5
      refine lv_iinc (v := v5) (lv' := [(4, .int v5), (3, .int v4), (0, .int a1), (1, .int a2)]) hx hb dX6_oldDayNumber_39 hl (k := 3) rfl (by rw [ev5]; rfl) (by decide) rfl (fun ls hl => ?_)
      refine lv_goto (tgt := 21) hx hb dX6_oldDayNumber_42 (by decide) ?_
      exact ih v4 v5 hf ls (lv_sub hl [2, 3, 1, 0] rfl)

def pX6_oldDayNumber  (a1 : Int32) (a2 : Int32) (a3 : Int32) (post : Int32 → Prop) : Prop :=
  ∀ v1 : Int32, v1 = ((((365 * (a1 - 1)) + ((a1 - 1) / 4)) + a3) - 2) → (∃ n1, pX6_oldDayNumber_b21 a1 a2 a3 post  n1 v1 1)

set_option maxHeartbeats 4000000 in
set_option maxRecDepth 100000 in
theorem kX6_oldDayNumber (l : Launch) (D : va_G) (cI cZ cJ cO : ClassId)  (q_MD : Nat)   (a1 : Int32) (a2 : Int32) (a3 : Int32) (post : Int32 → Prop) (hf : pX6_oldDayNumber a1 a2 a3 post) :
    Met l yX6_oldDayNumber wsX6_oldDayNumber ({ frames := 2, cells := 0, slots := 0, locals := 43 } : Room) (va_Pc [.int a1, .int a2, .int a3] (B2 D (tyL cI cZ cJ cO) [] q_MD)) (vp_Si post) 0 0 (fun _ => False) := by
  unfold pX6_oldDayNumber at hf
  refine xm_2i (own := RX6) (by decide) rfl rfl (Nat.le_of_ble_eq_true rfl) (fun p e s m args below meth c Q C0 hN hK hM hret hP ls hl => ?_)
  obtain ⟨hx, hb, hml, hown, hts⟩ := id C0
  have hl : lv_has ls 5 [(0, .int a1), (1, .int a2), (2, .int a3)] := hl
  refine lv_sipush (v := 365) hx hb dX6_oldDayNumber_0 (by decide) ?_
  refine lv_iload_n hx hb dX6_oldDayNumber_3 rfl (lv_at hl 0 rfl) ?_
  refine lv_iconst (v := 1) hx hb dX6_oldDayNumber_4 (by decide) ?_
  refine lv_isub hx hb dX6_oldDayNumber_5 ?_
  refine lv_imul hx hb dX6_oldDayNumber_6 ?_
  refine lv_iload_n hx hb dX6_oldDayNumber_7 rfl (lv_at hl 0 rfl) ?_
  refine lv_iconst (v := 1) hx hb dX6_oldDayNumber_8 (by decide) ?_
  refine lv_isub hx hb dX6_oldDayNumber_9 ?_
  refine lv_iconst (v := 4) hx hb dX6_oldDayNumber_10 (by decide) ?_
  refine lv_idiv hx hb dX6_oldDayNumber_11 (by decide) ?_
  refine lv_iadd hx hb dX6_oldDayNumber_12 ?_
  refine lv_iload_n hx hb dX6_oldDayNumber_13 rfl (lv_at hl 2 rfl) ?_
  refine lv_iadd hx hb dX6_oldDayNumber_14 ?_
  refine lv_iconst (v := 2) hx hb dX6_oldDayNumber_15 (by decide) ?_
  refine lv_isub hx hb dX6_oldDayNumber_16 ?_
  refine lv_topi (fun v1 ev1 => ?_)
  have hf := hf v1 ev1
  refine lv_istore_n (lv' := [(3, .int v1), (0, .int a1), (1, .int a2), (2, .int a3)]) hx hb dX6_oldDayNumber_17 rfl hl (by decide) rfl (fun ls hl => ?_)
  refine lv_iconst (v := 1) hx hb dX6_oldDayNumber_18 (by decide) ?_
  refine lv_istore (lv' := [(4, .int 1), (3, .int v1), (0, .int a1), (1, .int a2), (2, .int a3)]) hx hb dX6_oldDayNumber_19 hl (by decide) rfl (fun ls hl => ?_)
  obtain ⟨n1, hf⟩ := hf
  exact wX6_oldDayNumber_b21 C0 hN hK q_MD hM a1 a2 a3 post hret hP   n1 v1 1 hf ls (lv_sub hl [2, 3, 1, 0] rfl)

/-! X6_newDaysAhead -/

def pX6_newDaysAhead  (a1 : Int32) (post : Int32 → Prop) : Prop :=
  post ((((365 * (a1 - 1)) + ((a1 - 1) / 4)) - ((a1 - 1) / 100)) + ((a1 - 1) / 400))

set_option maxHeartbeats 4000000 in
set_option maxRecDepth 100000 in
theorem kX6_newDaysAhead (l : Launch) (D : va_G) (cI cZ cJ cO : ClassId)    (a1 : Int32) (post : Int32 → Prop) (hf : pX6_newDaysAhead a1 post) :
    Met l yX6_newDaysAhead wsX6_newDaysAhead ({ frames := 0, cells := 0, slots := 0, locals := 0 } : Room) (va_Pc [.int a1] (B0 D (tyL cI cZ cJ cO) [])) (vp_Si post) 0 0 (fun _ => False) := by
  unfold pX6_newDaysAhead at hf
  refine xm_0i (own := RX6) (by decide) rfl rfl (Nat.le_of_ble_eq_true rfl) (fun p e s m args below meth c Q C0 hN hK hret hP ls hl => ?_)
  obtain ⟨hx, hb, hml, hown, hts⟩ := id C0
  have hl : lv_has ls 1 [(0, .int a1)] := hl
  refine lv_sipush (v := 365) hx hb dX6_newDaysAhead_0 (by decide) ?_
  refine lv_iload_n hx hb dX6_newDaysAhead_3 rfl (lv_at hl 0 rfl) ?_
  refine lv_iconst (v := 1) hx hb dX6_newDaysAhead_4 (by decide) ?_
  refine lv_isub hx hb dX6_newDaysAhead_5 ?_
  refine lv_imul hx hb dX6_newDaysAhead_6 ?_
  refine lv_iload_n hx hb dX6_newDaysAhead_7 rfl (lv_at hl 0 rfl) ?_
  refine lv_iconst (v := 1) hx hb dX6_newDaysAhead_8 (by decide) ?_
  refine lv_isub hx hb dX6_newDaysAhead_9 ?_
  refine lv_iconst (v := 4) hx hb dX6_newDaysAhead_10 (by decide) ?_
  refine lv_idiv hx hb dX6_newDaysAhead_11 (by decide) ?_
  refine lv_iadd hx hb dX6_newDaysAhead_12 ?_
  refine lv_iload_n hx hb dX6_newDaysAhead_13 rfl (lv_at hl 0 rfl) ?_
  refine lv_iconst (v := 1) hx hb dX6_newDaysAhead_14 (by decide) ?_
  refine lv_isub hx hb dX6_newDaysAhead_15 ?_
  refine lv_bipush (v := 100) hx hb dX6_newDaysAhead_16 (by decide) ?_
  refine lv_idiv hx hb dX6_newDaysAhead_18 (by decide) ?_
  refine lv_isub hx hb dX6_newDaysAhead_19 ?_
  refine lv_iload_n hx hb dX6_newDaysAhead_20 rfl (lv_at hl 0 rfl) ?_
  refine lv_iconst (v := 1) hx hb dX6_newDaysAhead_21 (by decide) ?_
  refine lv_isub hx hb dX6_newDaysAhead_22 ?_
  refine lv_sipush (v := 400) hx hb dX6_newDaysAhead_23 (by decide) ?_
  refine lv_idiv hx hb dX6_newDaysAhead_26 (by decide) ?_
  refine lv_iadd hx hb dX6_newDaysAhead_27 ?_
  exact hret 28 ls ((((365 * (a1 - 1)) + ((a1 - 1) / 4)) - ((a1 - 1) / 100)) + ((a1 - 1) / 400)) dX6_newDaysAhead_28 hf

/-! X6_isNewLeap -/

def pX6_isNewLeap  (a1 : Int32) (post : Int32 → Prop) : Prop :=
  (¬ (a1 - a1 / 4 * 4) = 0 → (post 0)) ∧ ((a1 - a1 / 4 * 4) = 0 → ((¬ (a1 - a1 / 100 * 100) = 0 → (post 1)) ∧ ((a1 - a1 / 100 * 100) = 0 → ((¬ (a1 - a1 / 400 * 400) = 0 → (post 0)) ∧ ((a1 - a1 / 400 * 400) = 0 → (post 1))))))

set_option maxHeartbeats 4000000 in
set_option maxRecDepth 100000 in
theorem kX6_isNewLeap (l : Launch) (D : va_G) (cI cZ cJ cO : ClassId)    (a1 : Int32) (post : Int32 → Prop) (hf : pX6_isNewLeap a1 post) :
    Met l yX6_isNewLeap wsX6_isNewLeap ({ frames := 0, cells := 0, slots := 0, locals := 0 } : Room) (va_Pc [.int a1] (B0 D (tyL cI cZ cJ cO) [])) (vp_Si post) 0 0 (fun _ => False) := by
  unfold pX6_isNewLeap at hf
  refine xm_0z (own := RX6) (by decide) rfl rfl (Nat.le_of_ble_eq_true rfl) (fun p e s m args below meth c Q C0 hN hK hret hP ls hl => ?_)
  obtain ⟨hx, hb, hml, hown, hts⟩ := id C0
  have hl : lv_has ls 1 [(0, .int a1)] := hl
  refine lv_iload_n hx hb dX6_isNewLeap_0 rfl (lv_at hl 0 rfl) ?_
  refine lv_iconst (v := 4) hx hb dX6_isNewLeap_1 (by decide) ?_
  refine lv_irem hx hb dX6_isNewLeap_2 (by decide) ?_
  refine lv_if_ne (tgt := 25) hx hb dX6_isNewLeap_3 (by decide) (fun c1 => ?_) (fun c1 => ?_)
  · have hf := hf.1 c1
    refine lv_iconst (v := 0) hx hb dX6_isNewLeap_25 (by decide) ?_
    exact hret 26 ls 0 dX6_isNewLeap_26 rfl hf
  · have hf := hf.2 c1
    refine lv_iload_n hx hb dX6_isNewLeap_6 rfl (lv_at hl 0 rfl) ?_
    refine lv_bipush (v := 100) hx hb dX6_isNewLeap_7 (by decide) ?_
    refine lv_irem hx hb dX6_isNewLeap_9 (by decide) ?_
    refine lv_if_ne (tgt := 21) hx hb dX6_isNewLeap_10 (by decide) (fun c2 => ?_) (fun c2 => ?_)
    · have hf := hf.1 c2
      refine lv_iconst (v := 1) hx hb dX6_isNewLeap_21 (by decide) ?_
      refine lv_goto (tgt := 26) hx hb dX6_isNewLeap_22 (by decide) ?_
      exact hret 26 ls 1 dX6_isNewLeap_26 rfl hf
    · have hf := hf.2 c2
      refine lv_iload_n hx hb dX6_isNewLeap_13 rfl (lv_at hl 0 rfl) ?_
      refine lv_sipush (v := 400) hx hb dX6_isNewLeap_14 (by decide) ?_
      refine lv_irem hx hb dX6_isNewLeap_17 (by decide) ?_
      refine lv_if_ne (tgt := 25) hx hb dX6_isNewLeap_18 (by decide) (fun c3 => ?_) (fun c3 => ?_)
      · have hf := hf.1 c3
        refine lv_iconst (v := 0) hx hb dX6_isNewLeap_25 (by decide) ?_
        exact hret 26 ls 0 dX6_isNewLeap_26 rfl hf
      · have hf := hf.2 c3
        refine lv_iconst (v := 1) hx hb dX6_isNewLeap_21 (by decide) ?_
        refine lv_goto (tgt := 26) hx hb dX6_isNewLeap_22 (by decide) ?_
        exact hret 26 ls 1 dX6_isNewLeap_26 rfl hf

/-! X6_newStyleDay -/

def pX6_newStyleDay_b42 (a1 : Int32) (a2 : Int32) (post : Int32 → Prop) (x3 : Int32) (x4 : Int32) : Prop :=
  post (((10000 * a1) + (100 * x3)) + x4)

set_option maxHeartbeats 4000000 in
set_option maxRecDepth 100000 in
theorem wX6_newStyleDay_b42 {p : Program} {l : Launch} {e : Env} {s : State} {m : MethodId} {args : Array Value} {below : List Frame} {meth : Method} {c : Code} {Q : State → Prop} {D : va_G} {cI cZ cJ cO : ClassId} (C0 : CallFix p m c cX6_newStyleDay 5 s args wsX6_newStyleDay RX6) (hN : nw s) (hK : va_K D vwCl (tyL cI cZ cJ cO) s) (q_MD : Nat) (hM : mdH q_MD s s.heap)   (a1 : Int32) (a2 : Int32) (post : Int32 → Prop) (hret : h0I p l e ({ frames := 2, cells := 0, slots := 0, locals := 43 } : Room) s m args below meth c cX6_newStyleDay Q post) (hP : va_P D vwCl [] s.heap) :
    ∀ (x3 : Int32) (x4 : Int32), pX6_newStyleDay_b42 a1 a2 post x3 x4 → ∀ ls : Array Slot, lv_has ls 5 [(0, .int a1), (3, .int x3), (4, .int x4)] → W p l e ({ frames := 2, cells := 0, slots := 0, locals := 43 } : Room) s m args below meth c s.heap [] 0 0 Q (F0 m 42 ls []) := by
  obtain ⟨hx, hb, hml, hown, hts⟩ := id C0
  intro x3 x4 hf ls hl
  unfold pX6_newStyleDay_b42 at hf
  refine lv_sipush (v := 10000) hx hb dX6_newStyleDay_42 (by decide) ?_
  refine lv_iload_n hx hb dX6_newStyleDay_45 rfl (lv_at hl 0 rfl) ?_
  refine lv_imul hx hb dX6_newStyleDay_46 ?_
  refine lv_bipush (v := 100) hx hb dX6_newStyleDay_47 (by decide) ?_
  refine lv_iload_n hx hb dX6_newStyleDay_49 rfl (lv_at hl 1 rfl) ?_
  refine lv_imul hx hb dX6_newStyleDay_50 ?_
  refine lv_iadd hx hb dX6_newStyleDay_51 ?_
  refine lv_iload hx hb dX6_newStyleDay_52 (lv_at hl 2 rfl) ?_
  refine lv_iadd hx hb dX6_newStyleDay_54 ?_
  exact hret 55 ls (((10000 * a1) + (100 * x3)) + x4) dX6_newStyleDay_55 hf

def pX6_newStyleDay_b10 (a1 : Int32) (a2 : Int32) (post : Int32 → Prop) : Nat → Int32 → Int32 → Int32 → Prop
  | 0 => fun _ _ _ => False
  | n + 1 => fun x2 x3 x4 => (12 ≤ x3 → (pX6_newStyleDay_b42 a1 a2 post  x3 x4)) ∧ (¬ 12 ≤ x3 → (pX6_monthDays x3 x2 (fun r2 => (x4 ≤ r2 → (pX6_newStyleDay_b42 a1 a2 post  x3 x4)) ∧ (¬ x4 ≤ r2 → (pX6_monthDays x3 x2 (fun r4 => ∀ v5 : Int32, v5 = (x4 - r4) → (∀ v6 : Int32, v6 = x3 + 1 → (pX6_newStyleDay_b10 a1 a2 post  n x2 v6 v5))))))))

set_option maxHeartbeats 4000000 in
set_option maxRecDepth 100000 in
theorem wX6_newStyleDay_b10 {p : Program} {l : Launch} {e : Env} {s : State} {m : MethodId} {args : Array Value} {below : List Frame} {meth : Method} {c : Code} {Q : State → Prop} {D : va_G} {cI cZ cJ cO : ClassId} (C0 : CallFix p m c cX6_newStyleDay 5 s args wsX6_newStyleDay RX6) (hN : nw s) (hK : va_K D vwCl (tyL cI cZ cJ cO) s) (q_MD : Nat) (hM : mdH q_MD s s.heap)   (a1 : Int32) (a2 : Int32) (post : Int32 → Prop) (hret : h0I p l e ({ frames := 2, cells := 0, slots := 0, locals := 43 } : Room) s m args below meth c cX6_newStyleDay Q post) (hP : va_P D vwCl [] s.heap) :
    ∀ (n : Nat) (x2 : Int32) (x3 : Int32) (x4 : Int32), pX6_newStyleDay_b10 a1 a2 post n x2 x3 x4 → ∀ ls : Array Slot, lv_has ls 5 [(0, .int a1), (2, .int x2), (3, .int x3), (4, .int x4)] → W p l e ({ frames := 2, cells := 0, slots := 0, locals := 43 } : Room) s m args below meth c s.heap [] 0 0 Q (F0 m 10 ls []) := by
  obtain ⟨hx, hb, hml, hown, hts⟩ := id C0
  intro n
  induction n with
  | zero =>
    intro x2 x3 x4 hf
    exact False.elim hf
  | succ n ih =>
    intro x2 x3 x4 hf ls hl
    rw [pX6_newStyleDay_b10] at hf
    refine lv_iload_n hx hb dX6_newStyleDay_10 rfl (lv_at hl 2 rfl) ?_
    refine lv_bipush (v := 12) hx hb dX6_newStyleDay_11 (by decide) ?_
    refine lv_icmp_ge (tgt := 42) hx hb dX6_newStyleDay_13 (by decide) (fun c1 => ?_) (fun c1 => ?_)
    · have hf := hf.1 c1
      exact wX6_newStyleDay_b42 C0 hN hK q_MD hM a1 a2 post hret hP   x3 x4 hf ls (lv_sub hl [0, 2, 3] rfl)
    · have hf := hf.2 c1
      refine lv_iload hx hb dX6_newStyleDay_16 (lv_at hl 3 rfl) ?_
      refine lv_iload_n hx hb dX6_newStyleDay_18 rfl (lv_at hl 2 rfl) ?_
      refine lv_iload_n hx hb dX6_newStyleDay_19 rfl (lv_at hl 1 rfl) ?_
      refine xs_i (va_runS (As := [.int x3, .int x2]) (rest := [.int x4]) ⟨hx, hb, hml, hown, hts⟩ (kX6_monthDays l D cI cZ cJ cO q_MD x3 x2 _ hf) (va_cwS 2 hts gX6_newStyleDay_X6_monthDays rfl rfl rfl (by decide +kernel) ⟨Nat.le_of_ble_eq_true rfl, Nat.le_of_ble_eq_true rfl⟩) (B2_pre (hP.sub (ws' := []) [] rfl) hK hN hM) rfl rfl hl.1 rfl (lv_room (Nat.le_of_ble_eq_true rfl)) dX6_newStyleDay_20 ⟨Nat.zero_le _, Nat.zero_le _⟩) (fun r2 hf => ?_)
      refine lv_icmp_le (tgt := 42) hx hb dX6_newStyleDay_23 (by decide) (fun c3 => ?_) (fun c3 => ?_)
      · have hf := hf.1 c3
        exact wX6_newStyleDay_b42 C0 hN hK q_MD hM a1 a2 post hret hP   x3 x4 hf ls (lv_sub hl [0, 2, 3] rfl)
      · have hf := hf.2 c3
        refine lv_iload hx hb dX6_newStyleDay_26 (lv_at hl 3 rfl) ?_
        refine lv_iload_n hx hb dX6_newStyleDay_28 rfl (lv_at hl 2 rfl) ?_
        refine lv_iload_n hx hb dX6_newStyleDay_29 rfl (lv_at hl 1 rfl) ?_
        refine xs_i (va_runS (As := [.int x3, .int x2]) (rest := [.int x4]) ⟨hx, hb, hml, hown, hts⟩ (kX6_monthDays l D cI cZ cJ cO q_MD x3 x2 _ hf) (va_cwS 2 hts gX6_newStyleDay_X6_monthDays rfl rfl rfl (by decide +kernel) ⟨Nat.le_of_ble_eq_true rfl, Nat.le_of_ble_eq_true rfl⟩) (B2_pre (hP.sub (ws' := []) [] rfl) hK hN hM) rfl rfl hl.1 rfl (lv_room (Nat.le_of_ble_eq_true rfl)) dX6_newStyleDay_30 ⟨Nat.zero_le _, Nat.zero_le _⟩) (fun r4 hf => ?_)
        refine lv_isub hx hb dX6_newStyleDay_33 ?_
        refine lv_topi (fun v5 ev5 => ?_)
        have hf := hf v5 ev5
        refine lv_istore (lv' := [(4, .int v5), (0, .int a1), (2, .int x2), (3, .int x3)]) hx hb dX6_newStyleDay_34 hl (by decide) rfl (fun ls hl => ?_)
        obtain ⟨v6, ev6⟩ : ∃ y : Int32, y = x3 + 1 := ⟨_, rfl⟩
        have hf := hf v6 ev6
        refine lv_iinc (v := v6) (lv' := [(3, .int v6), (4, .int v5), (0, .int a1), (2, .int x2)]) hx hb dX6_newStyleDay_36 hl (k := 3) rfl (by rw [ev6]; rfl) (by decide) rfl (fun ls hl => ?_)
        refine lv_goto (tgt := 10) hx hb dX6_newStyleDay_39 (by decide) ?_
        exact ih x2 v6 v5 hf ls (lv_sub hl [2, 3, 0, 1] rfl)

def pX6_newStyleDay  (a1 : Int32) (a2 : Int32) (post : Int32 → Prop) : Prop :=
  pX6_isNewLeap a1 (fun r1 => ∃ n1, pX6_newStyleDay_b10 a1 a2 post  n1 r1 1 a2)

set_option maxHeartbeats 4000000 in
set_option maxRecDepth 100000 in
theorem kX6_newStyleDay (l : Launch) (D : va_G) (cI cZ cJ cO : ClassId)  (q_MD : Nat)   (a1 : Int32) (a2 : Int32) (post : Int32 → Prop) (hf : pX6_newStyleDay a1 a2 post) :
    Met l yX6_newStyleDay wsX6_newStyleDay ({ frames := 2, cells := 0, slots := 0, locals := 43 } : Room) (va_Pc [.int a1, .int a2] (B2 D (tyL cI cZ cJ cO) [] q_MD)) (vp_Si post) 0 0 (fun _ => False) := by
  unfold pX6_newStyleDay at hf
  refine xm_2i (own := RX6) (by decide) rfl rfl (Nat.le_of_ble_eq_true rfl) (fun p e s m args below meth c Q C0 hN hK hM hret hP ls hl => ?_)
  obtain ⟨hx, hb, hml, hown, hts⟩ := id C0
  have hl : lv_has ls 5 [(0, .int a1), (1, .int a2)] := hl
  refine lv_iload_n hx hb dX6_newStyleDay_0 rfl (lv_at hl 0 rfl) ?_
  refine xs_i (va_runS (As := [.int a1]) (rest := []) ⟨hx, hb, hml, hown, hts⟩ (kX6_isNewLeap l D cI cZ cJ cO a1 _ hf) (va_cwS 1 hts gX6_newStyleDay_X6_isNewLeap rfl rfl rfl (by decide +kernel) ⟨Nat.le_of_ble_eq_true rfl, Nat.le_of_ble_eq_true rfl⟩) (B0_pre (hP.sub (ws' := []) [] rfl) hK hN) rfl rfl hl.1 rfl (lv_room (Nat.le_of_ble_eq_true rfl)) dX6_newStyleDay_1 ⟨Nat.zero_le _, Nat.zero_le _⟩) (fun r1 hf => ?_)
  refine lv_istore_n (lv' := [(2, .int r1), (0, .int a1), (1, .int a2)]) hx hb dX6_newStyleDay_4 rfl hl (by decide) rfl (fun ls hl => ?_)
  refine lv_iconst (v := 1) hx hb dX6_newStyleDay_5 (by decide) ?_
  refine lv_istore_n (lv' := [(3, .int 1), (2, .int r1), (0, .int a1), (1, .int a2)]) hx hb dX6_newStyleDay_6 rfl hl (by decide) rfl (fun ls hl => ?_)
  refine lv_iload_n hx hb dX6_newStyleDay_7 rfl (lv_at hl 3 rfl) ?_
  refine lv_istore (lv' := [(4, .int a2), (3, .int 1), (2, .int r1), (0, .int a1), (1, .int a2)]) hx hb dX6_newStyleDay_8 hl (by decide) rfl (fun ls hl => ?_)
  obtain ⟨n1, hf⟩ := hf
  exact wX6_newStyleDay_b10 C0 hN hK q_MD hM a1 a2 post hret hP   n1 r1 1 a2 hf ls (lv_sub hl [3, 2, 1, 0] rfl)

/-! X6_style -/

def pX6_style_b62 (a1 : Int32) (a2 : Int32) (a3 : Int32) (a4 : Int32) (post : Int32 → Prop) (x5 : Int32) (s0 : Int32) : Prop :=
  pX6_newDaysAhead s0 (fun r1 => ∀ v2 : Int32, v2 = (x5 - r1) → ((¬ a4 = 0 → (post v2)) ∧ (a4 = 0 → (pX6_newStyleDay s0 v2 (fun r4 => post r4)))))

set_option maxHeartbeats 4000000 in
set_option maxRecDepth 100000 in
theorem wX6_style_b62 {p : Program} {l : Launch} {e : Env} {s : State} {m : MethodId} {args : Array Value} {below : List Frame} {meth : Method} {c : Code} {Q : State → Prop} {D : va_G} {cI cZ cJ cO : ClassId} (C0 : CallFix p m c cX6_style 8 s args wsX6_style RX6) (hN : nw s) (hK : va_K D vwCl (tyL cI cZ cJ cO) s) (q_MD : Nat) (hM : mdH q_MD s s.heap) (q_t : Nat)  (a1 : Int32) (a2 : Int32) (a3 : Int32) (a4 : Int32) (post : Int32 → Prop) (hret : h0I p l e ({ frames := 3, cells := 0, slots := 0, locals := 67 } : Room) s m args below meth c cX6_style Q post) (hP : va_P D vwCl [] s.heap) :
    ∀ (x5 : Int32) (s0 : Int32), pX6_style_b62 a1 a2 a3 a4 post x5 s0 → ∀ ls : Array Slot, lv_has ls 8 [(4, .int a4), (5, .int x5)] → W p l e ({ frames := 3, cells := 0, slots := 0, locals := 67 } : Room) s m args below meth c s.heap [] 0 0 Q (F0 m 62 ls [.int s0]) := by
  obtain ⟨hx, hb, hml, hown, hts⟩ := id C0
  intro x5 s0 hf ls hl
  unfold pX6_style_b62 at hf
  refine lv_istore (lv' := [(6, .int s0), (4, .int a4), (5, .int x5)]) hx hb dX6_style_62 hl (by decide) rfl (fun ls hl => ?_)
  refine lv_iload hx hb dX6_style_64 (lv_at hl 2 rfl) ?_
  refine lv_iload hx hb dX6_style_66 (lv_at hl 0 rfl) ?_
  refine xs_i (va_runS (As := [.int s0]) (rest := [.int x5]) ⟨hx, hb, hml, hown, hts⟩ (kX6_newDaysAhead l D cI cZ cJ cO s0 _ hf) (va_cwS 1 hts gX6_style_X6_newDaysAhead rfl rfl rfl (by decide +kernel) ⟨Nat.le_of_ble_eq_true rfl, Nat.le_of_ble_eq_true rfl⟩) (B0_pre (hP.sub (ws' := []) [] rfl) hK hN) rfl rfl hl.1 rfl (lv_room (Nat.le_of_ble_eq_true rfl)) dX6_style_68 ⟨Nat.zero_le _, Nat.zero_le _⟩) (fun r1 hf => ?_)
  refine lv_isub hx hb dX6_style_71 ?_
  refine lv_topi (fun v2 ev2 => ?_)
  have hf := hf v2 ev2
  refine lv_istore (lv' := [(7, .int v2), (6, .int s0), (4, .int a4), (5, .int x5)]) hx hb dX6_style_72 hl (by decide) rfl (fun ls hl => ?_)
  refine lv_iload hx hb dX6_style_74 (lv_at hl 2 rfl) ?_
  refine lv_if_ne (tgt := 89) hx hb dX6_style_76 (by decide) (fun c3 => ?_) (fun c3 => ?_)
  · have hf := hf.1 c3
    refine lv_iload hx hb dX6_style_89 (lv_at hl 0 rfl) ?_
    exact hret 91 ls v2 dX6_style_91 hf
  · have hf := hf.2 c3
    refine lv_iload hx hb dX6_style_79 (lv_at hl 1 rfl) ?_
    refine lv_iload hx hb dX6_style_81 (lv_at hl 0 rfl) ?_
    refine xs_i (va_runS (As := [.int s0, .int v2]) (rest := []) ⟨hx, hb, hml, hown, hts⟩ (kX6_newStyleDay l D cI cZ cJ cO q_MD s0 v2 _ hf) (va_cwS 2 hts gX6_style_X6_newStyleDay rfl rfl rfl (by decide +kernel) ⟨Nat.le_of_ble_eq_true rfl, Nat.le_of_ble_eq_true rfl⟩) (B2_pre (hP.sub (ws' := []) [] rfl) hK hN hM) rfl rfl hl.1 rfl (lv_room (Nat.le_of_ble_eq_true rfl)) dX6_style_83 ⟨Nat.zero_le _, Nat.zero_le _⟩) (fun r4 hf => ?_)
    refine lv_goto (tgt := 91) hx hb dX6_style_86 (by decide) ?_
    exact hret 91 ls r4 dX6_style_91 hf

def pX6_style  (a1 : Int32) (a2 : Int32) (a3 : Int32) (a4 : Int32) (post : Int32 → Prop) : Prop :=
  pX6_isOldDay a1 a2 a3 (fun r1 => (r1 = 0 → (post (-2))) ∧ (¬ r1 = 0 → (pX6_isIn a4 0 2 (fun r3 => (¬ r3 = 0 → (pX6_oldDayNumber a1 a2 a3 (fun r5 => (¬ a4 = 1 → (pX6_newDaysAhead (a1 + 1) (fun r7 => (r5 ≤ r7 → (pX6_style_b62 a1 a2 a3 a4 post  r5 a1)) ∧ (¬ r5 ≤ r7 → (pX6_style_b62 a1 a2 a3 a4 post  r5 (a1 + 1)))))) ∧ (a4 = 1 → (post ((r5 - 1) - (r5 - 1) / 7 * 7)))))) ∧ (r3 = 0 → (post (-2)))))))

set_option maxHeartbeats 4000000 in
set_option maxRecDepth 100000 in
theorem kX6_style (l : Launch) (D : va_G) (cI cZ cJ cO : ClassId) (q_t : Nat) (q_MD : Nat)   (a1 : Int32) (a2 : Int32) (a3 : Int32) (a4 : Int32) (post : Int32 → Prop) (hf : pX6_style a1 a2 a3 a4 post) :
    Met l yX6_style wsX6_style ({ frames := 3, cells := 0, slots := 0, locals := 67 } : Room) (va_Pc [.ref q_t, .int a1, .int a2, .int a3, .int a4] (B2 D (tyL cI cZ cJ cO) [] q_MD)) (vp_Si post) 0 0 (fun _ => False) := by
  unfold pX6_style at hf
  refine xm_2i (own := RX6) (by decide) rfl rfl (Nat.le_of_ble_eq_true rfl) (fun p e s m args below meth c Q C0 hN hK hM hret hP ls hl => ?_)
  obtain ⟨hx, hb, hml, hown, hts⟩ := id C0
  have hl : lv_has ls 8 [(0, .ref q_t), (1, .int a1), (2, .int a2), (3, .int a3), (4, .int a4)] := hl
  refine lv_iload_n hx hb dX6_style_0 rfl (lv_at hl 1 rfl) ?_
  refine lv_iload_n hx hb dX6_style_1 rfl (lv_at hl 2 rfl) ?_
  refine lv_iload_n hx hb dX6_style_2 rfl (lv_at hl 3 rfl) ?_
  refine xs_i (va_runS (As := [.int a1, .int a2, .int a3]) (rest := []) ⟨hx, hb, hml, hown, hts⟩ (kX6_isOldDay l D cI cZ cJ cO q_MD a1 a2 a3 _ hf) (va_cwS 3 hts gX6_style_X6_isOldDay rfl rfl rfl (by decide +kernel) ⟨Nat.le_of_ble_eq_true rfl, Nat.le_of_ble_eq_true rfl⟩) (B2_pre (hP.sub (ws' := []) [] rfl) hK hN hM) rfl rfl hl.1 rfl (lv_room (Nat.le_of_ble_eq_true rfl)) dX6_style_3 ⟨Nat.zero_le _, Nat.zero_le _⟩) (fun r1 hf => ?_)
  refine lv_if_eq (tgt := 19) hx hb dX6_style_6 (by decide) (fun c2 => ?_) (fun c2 => ?_)
  · have hf := hf.1 c2
    refine lv_bipush (v := (-2)) hx hb dX6_style_19 (by decide) ?_
    exact hret 21 ls (-2) dX6_style_21 hf
  · have hf := hf.2 c2
    refine lv_iload hx hb dX6_style_9 (lv_at hl 4 rfl) ?_
    refine lv_iconst (v := 0) hx hb dX6_style_11 (by decide) ?_
    refine lv_iconst (v := 2) hx hb dX6_style_12 (by decide) ?_
    refine xs_i (va_runS (As := [.int a4, .int 0, .int 2]) (rest := []) ⟨hx, hb, hml, hown, hts⟩ (kX6_isIn l D cI cZ cJ cO a4 0 2 _ hf) (va_cwS 3 hts gX6_style_X6_isIn rfl rfl rfl (by decide +kernel) ⟨Nat.le_of_ble_eq_true rfl, Nat.le_of_ble_eq_true rfl⟩) (B0_pre (hP.sub (ws' := []) [] rfl) hK hN) rfl rfl hl.1 rfl (lv_room (Nat.le_of_ble_eq_true rfl)) dX6_style_13 ⟨Nat.zero_le _, Nat.zero_le _⟩) (fun r3 hf => ?_)
    refine lv_if_ne (tgt := 22) hx hb dX6_style_16 (by decide) (fun c4 => ?_) (fun c4 => ?_)
    · have hf := hf.1 c4
      refine lv_iload_n hx hb dX6_style_22 rfl (lv_at hl 1 rfl) ?_
      refine lv_iload_n hx hb dX6_style_23 rfl (lv_at hl 2 rfl) ?_
      refine lv_iload_n hx hb dX6_style_24 rfl (lv_at hl 3 rfl) ?_
      refine xs_i (va_runS (As := [.int a1, .int a2, .int a3]) (rest := []) ⟨hx, hb, hml, hown, hts⟩ (kX6_oldDayNumber l D cI cZ cJ cO q_MD a1 a2 a3 _ hf) (va_cwS 3 hts gX6_style_X6_oldDayNumber rfl rfl rfl (by decide +kernel) ⟨Nat.le_of_ble_eq_true rfl, Nat.le_of_ble_eq_true rfl⟩) (B2_pre (hP.sub (ws' := []) [] rfl) hK hN hM) rfl rfl hl.1 rfl (lv_room (Nat.le_of_ble_eq_true rfl)) dX6_style_25 ⟨Nat.zero_le _, Nat.zero_le _⟩) (fun r5 hf => ?_)
      refine lv_istore (lv' := [(5, .int r5), (0, .ref q_t), (1, .int a1), (2, .int a2), (3, .int a3), (4, .int a4)]) hx hb dX6_style_28 hl (by decide) rfl (fun ls hl => ?_)
      refine lv_iload hx hb dX6_style_30 (lv_at hl 5 rfl) ?_
      refine lv_iconst (v := 1) hx hb dX6_style_32 (by decide) ?_
      refine lv_icmp_ne (tgt := 44) hx hb dX6_style_33 (by decide) (fun c6 => ?_) (fun c6 => ?_)
      · have hf := hf.1 c6
        refine lv_iload hx hb dX6_style_44 (lv_at hl 0 rfl) ?_
        refine lv_iload_n hx hb dX6_style_46 rfl (lv_at hl 2 rfl) ?_
        refine lv_iconst (v := 1) hx hb dX6_style_47 (by decide) ?_
        refine lv_iadd hx hb dX6_style_48 ?_
        refine xs_i (va_runS (As := [.int (a1 + 1)]) (rest := [.int r5]) ⟨hx, hb, hml, hown, hts⟩ (kX6_newDaysAhead l D cI cZ cJ cO (a1 + 1) _ hf) (va_cwS 1 hts gX6_style_X6_newDaysAhead rfl rfl rfl (by decide +kernel) ⟨Nat.le_of_ble_eq_true rfl, Nat.le_of_ble_eq_true rfl⟩) (B0_pre (hP.sub (ws' := []) [] rfl) hK hN) rfl rfl hl.1 rfl (lv_room (Nat.le_of_ble_eq_true rfl)) dX6_style_49 ⟨Nat.zero_le _, Nat.zero_le _⟩) (fun r7 hf => ?_)
        refine lv_icmp_le (tgt := 61) hx hb dX6_style_52 (by decide) (fun c8 => ?_) (fun c8 => ?_)
        · have hf := hf.1 c8
          refine lv_iload_n hx hb dX6_style_61 rfl (lv_at hl 2 rfl) ?_
          exact wX6_style_b62 C0 hN hK q_MD hM q_t a1 a2 a3 a4 post hret hP   r5 a1 hf ls (lv_sub hl [5, 0] rfl)
        · have hf := hf.2 c8
          refine lv_iload_n hx hb dX6_style_55 rfl (lv_at hl 2 rfl) ?_
          refine lv_iconst (v := 1) hx hb dX6_style_56 (by decide) ?_
          refine lv_iadd hx hb dX6_style_57 ?_
          refine lv_goto (tgt := 62) hx hb dX6_style_58 (by decide) ?_
          exact wX6_style_b62 C0 hN hK q_MD hM q_t a1 a2 a3 a4 post hret hP   r5 (a1 + 1) hf ls (lv_sub hl [5, 0] rfl)
      · have hf := hf.2 c6
        refine lv_iload hx hb dX6_style_36 (lv_at hl 0 rfl) ?_
        refine lv_iconst (v := 1) hx hb dX6_style_38 (by decide) ?_
        refine lv_isub hx hb dX6_style_39 ?_
        refine lv_bipush (v := 7) hx hb dX6_style_40 (by decide) ?_
        refine lv_irem hx hb dX6_style_42 (by decide) ?_
        exact hret 43 ls ((r5 - 1) - (r5 - 1) / 7 * 7) dX6_style_43 hf
    · have hf := hf.2 c4
      refine lv_bipush (v := (-2)) hx hb dX6_style_19 (by decide) ?_
      exact hret 21 ls (-2) dX6_style_21 hf

/-! X6_isRow -/

def pX6_isRow_b4 (a1 : Int32) (a2 : Int32) (post : Int32 → Prop) : Nat → Int32 → Int32 → Prop
  | 0 => fun _ _ => False
  | n + 1 => fun x2 x3 => (a2 ≤ x3 → ((¬ x2 = 0 → (post 0)) ∧ (x2 = 0 → (post 1)))) ∧ (¬ a2 ≤ x3 → ((0 < (x2 - x2 / 10 * 10) → (∀ v4 : Int32, v4 = (x2 / 10) → (∀ v5 : Int32, v5 = x3 + 1 → (pX6_isRow_b4 a1 a2 post  n v4 v5)))) ∧ (¬ 0 < (x2 - x2 / 10 * 10) → (post 0))))

set_option maxHeartbeats 4000000 in
set_option maxRecDepth 100000 in
theorem wX6_isRow_b4 {p : Program} {l : Launch} {e : Env} {s : State} {m : MethodId} {args : Array Value} {below : List Frame} {meth : Method} {c : Code} {Q : State → Prop} {D : va_G} {cI cZ cJ cO : ClassId} (C0 : CallFix p m c cX6_isRow 4 s args wsX6_isRow RX6) (hN : nw s) (hK : va_K D vwCl (tyL cI cZ cJ cO) s)   (a1 : Int32) (a2 : Int32) (post : Int32 → Prop) (hret : h0Z p l e ({ frames := 0, cells := 0, slots := 0, locals := 0 } : Room) s m args below meth c cX6_isRow Q post) (hP : va_P D vwCl [] s.heap) :
    ∀ (n : Nat) (x2 : Int32) (x3 : Int32), pX6_isRow_b4 a1 a2 post n x2 x3 → ∀ ls : Array Slot, lv_has ls 4 [(1, .int a2), (2, .int x2), (3, .int x3)] → W p l e ({ frames := 0, cells := 0, slots := 0, locals := 0 } : Room) s m args below meth c s.heap [] 0 0 Q (F0 m 4 ls []) := by
  obtain ⟨hx, hb, hml, hown, hts⟩ := id C0
  intro n
  induction n with
  | zero =>
    intro x2 x3 hf
    exact False.elim hf
  | succ n ih =>
    intro x2 x3 hf ls hl
    rw [pX6_isRow_b4] at hf
    refine lv_iload_n hx hb dX6_isRow_4 rfl (lv_at hl 2 rfl) ?_
    refine lv_iload_n hx hb dX6_isRow_5 rfl (lv_at hl 0 rfl) ?_
    refine lv_icmp_ge (tgt := 29) hx hb dX6_isRow_6 (by decide) (fun c1 => ?_) (fun c1 => ?_)
    · have hf := hf.1 c1
      refine lv_iload_n hx hb dX6_isRow_29 rfl (lv_at hl 1 rfl) ?_
      refine lv_if_ne (tgt := 37) hx hb dX6_isRow_30 (by decide) (fun c2 => ?_) (fun c2 => ?_)
      · have hf := hf.1 c2
        refine lv_iconst (v := 0) hx hb dX6_isRow_37 (by decide) ?_
        exact hret 38 ls 0 dX6_isRow_38 rfl hf
      · have hf := hf.2 c2
        refine lv_iconst (v := 1) hx hb dX6_isRow_33 (by decide) ?_
        refine lv_goto (tgt := 38) hx hb dX6_isRow_34 (by decide) ?_
        exact hret 38 ls 1 dX6_isRow_38 rfl hf
    · have hf := hf.2 c1
      refine lv_iload_n hx hb dX6_isRow_9 rfl (lv_at hl 1 rfl) ?_
      refine lv_bipush (v := 10) hx hb dX6_isRow_10 (by decide) ?_
      refine lv_irem hx hb dX6_isRow_12 (by decide) ?_
      refine lv_if_gt (tgt := 18) hx hb dX6_isRow_13 (by decide) (fun c3 => ?_) (fun c3 => ?_)
      · have hf := hf.1 c3
        refine lv_iload_n hx hb dX6_isRow_18 rfl (lv_at hl 1 rfl) ?_
        refine lv_bipush (v := 10) hx hb dX6_isRow_19 (by decide) ?_
        refine lv_idiv hx hb dX6_isRow_21 (by decide) ?_
        refine lv_topi (fun v4 ev4 => ?_)
        have hf := hf v4 ev4
        refine lv_istore_n (lv' := [(2, .int v4), (1, .int a2), (3, .int x3)]) hx hb dX6_isRow_22 rfl hl (by decide) rfl (fun ls hl => ?_)
        obtain ⟨v5, ev5⟩ : ∃ y : Int32, y = x3 + 1 := ⟨_, rfl⟩
        have hf := hf v5 ev5
        refine lv_iinc (v := v5) (lv' := [(3, .int v5), (2, .int v4), (1, .int a2)]) hx hb dX6_isRow_23 hl (k := 2) rfl (by rw [ev5]; rfl) (by decide) rfl (fun ls hl => ?_)
        refine lv_goto (tgt := 4) hx hb dX6_isRow_26 (by decide) ?_
        exact ih v4 v5 hf ls (lv_sub hl [2, 1, 0] rfl)
      · have hf := hf.2 c3
        refine lv_iconst (v := 0) hx hb dX6_isRow_16 (by decide) ?_
        exact hret 17 ls 0 dX6_isRow_17 rfl hf

def pX6_isRow  (a1 : Int32) (a2 : Int32) (post : Int32 → Prop) : Prop :=
  ∃ n1, pX6_isRow_b4 a1 a2 post  n1 a1 0

set_option maxHeartbeats 4000000 in
set_option maxRecDepth 100000 in
theorem kX6_isRow (l : Launch) (D : va_G) (cI cZ cJ cO : ClassId)    (a1 : Int32) (a2 : Int32) (post : Int32 → Prop) (hf : pX6_isRow a1 a2 post) :
    Met l yX6_isRow wsX6_isRow ({ frames := 0, cells := 0, slots := 0, locals := 0 } : Room) (va_Pc [.int a1, .int a2] (B0 D (tyL cI cZ cJ cO) [])) (vp_Si post) 0 0 (fun _ => False) := by
  unfold pX6_isRow at hf
  refine xm_0z (own := RX6) (by decide) rfl rfl (Nat.le_of_ble_eq_true rfl) (fun p e s m args below meth c Q C0 hN hK hret hP ls hl => ?_)
  obtain ⟨hx, hb, hml, hown, hts⟩ := id C0
  have hl : lv_has ls 4 [(0, .int a1), (1, .int a2)] := hl
  refine lv_iload_n hx hb dX6_isRow_0 rfl (lv_at hl 0 rfl) ?_
  refine lv_istore_n (lv' := [(2, .int a1), (0, .int a1), (1, .int a2)]) hx hb dX6_isRow_1 rfl hl (by decide) rfl (fun ls hl => ?_)
  refine lv_iconst (v := 0) hx hb dX6_isRow_2 (by decide) ?_
  refine lv_istore_n (lv' := [(3, .int 0), (2, .int a1), (0, .int a1), (1, .int a2)]) hx hb dX6_isRow_3 rfl hl (by decide) rfl (fun ls hl => ?_)
  obtain ⟨n1, hf⟩ := hf
  exact wX6_isRow_b4 C0 hN hK a1 a2 post hret hP   n1 a1 0 hf ls (lv_sub hl [3, 1, 0] rfl)

/-! X6_sumOfChosen -/

def pX6_sumOfChosen_b33 (a1 : Int32) (a2 : Int32) (a3 : Int32) (post : Int32 → Prop) (k10 : Int32 → Int32 → Int32 → Prop) (x3 : Int32) (x4 : Int32) (x5 : Int32) : Prop :=
  ∀ v1 : Int32, v1 = (x4 / 10) → (∀ v2 : Int32, v2 = x5 + (-1) → (k10 x3 v1 v2))

set_option maxHeartbeats 4000000 in
set_option maxRecDepth 100000 in
theorem wX6_sumOfChosen_b33 {p : Program} {l : Launch} {e : Env} {s : State} {m : MethodId} {args : Array Value} {below : List Frame} {meth : Method} {c : Code} {Q : State → Prop} {D : va_G} {cI cZ cJ cO : ClassId} (C0 : CallFix p m c cX6_sumOfChosen 6 s args wsX6_sumOfChosen RX6) (hN : nw s) (hK : va_K D vwCl (tyL cI cZ cJ cO) s)   (a1 : Int32) (a2 : Int32) (a3 : Int32) (post : Int32 → Prop) (hret : h0I p l e ({ frames := 0, cells := 0, slots := 0, locals := 0 } : Room) s m args below meth c cX6_sumOfChosen Q post) (hP : va_P D vwCl [] s.heap) (k10 : Int32 → Int32 → Int32 → Prop) (hk10 : ∀ (x3 : Int32) (x4 : Int32) (x5 : Int32), k10 x3 x4 x5 → ∀ ls : Array Slot, lv_has ls 6 [(2, .int a3), (3, .int x3), (4, .int x4), (5, .int x5)] → W p l e ({ frames := 0, cells := 0, slots := 0, locals := 0 } : Room) s m args below meth c s.heap [] 0 0 Q (F0 m 10 ls [])) :
    ∀ (x3 : Int32) (x4 : Int32) (x5 : Int32), pX6_sumOfChosen_b33 a1 a2 a3 post k10 x3 x4 x5 → ∀ ls : Array Slot, lv_has ls 6 [(2, .int a3), (3, .int x3), (4, .int x4), (5, .int x5)] → W p l e ({ frames := 0, cells := 0, slots := 0, locals := 0 } : Room) s m args below meth c s.heap [] 0 0 Q (F0 m 33 ls []) := by
  obtain ⟨hx, hb, hml, hown, hts⟩ := id C0
  intro x3 x4 x5 hf ls hl
  unfold pX6_sumOfChosen_b33 at hf
  refine lv_iload hx hb dX6_sumOfChosen_33 (lv_at hl 2 rfl) ?_
  refine lv_bipush (v := 10) hx hb dX6_sumOfChosen_35 (by decide) ?_
  refine lv_idiv hx hb dX6_sumOfChosen_37 (by decide) ?_
  refine lv_topi (fun v1 ev1 => ?_)
  have hf := hf v1 ev1
  refine lv_istore (lv' := [(4, .int v1), (2, .int a3), (3, .int x3), (5, .int x5)]) hx hb dX6_sumOfChosen_38 hl (by decide) rfl (fun ls hl => ?_)
  obtain ⟨v2, ev2⟩ : ∃ y : Int32, y = x5 + (-1) := ⟨_, rfl⟩
  have hf := hf v2 ev2
  refine lv_iinc (v := v2) (lv' := [(5, .int v2), (4, .int v1), (2, .int a3), (3, .int x3)]) hx hb dX6_sumOfChosen_40 hl (k := 3) rfl (by rw [ev2]; rfl) (by decide) rfl (fun ls hl => ?_)
  refine lv_goto (tgt := 10) hx hb dX6_sumOfChosen_43 (by decide) ?_
  exact hk10 x3 v1 v2 hf ls (lv_sub hl [2, 3, 1, 0] rfl)

def pX6_sumOfChosen_b10 (a1 : Int32) (a2 : Int32) (a3 : Int32) (post : Int32 → Prop) : Nat → Int32 → Int32 → Int32 → Prop
  | 0 => fun _ _ _ => False
  | n + 1 => fun x3 x4 x5 => (x5 < 0 → (post x3)) ∧ (¬ x5 < 0 → ((¬ ((a3 >>> (x5 &&& 31)) &&& 1) = 1 → (pX6_sumOfChosen_b33 a1 a2 a3 post (fun x3 x4 x5 => pX6_sumOfChosen_b10 a1 a2 a3 post  n x3 x4 x5) x3 x4 x5)) ∧ (((a3 >>> (x5 &&& 31)) &&& 1) = 1 → (∀ v3 : Int32, v3 = (x3 + (x4 - x4 / 10 * 10)) → (pX6_sumOfChosen_b33 a1 a2 a3 post (fun x3 x4 x5 => pX6_sumOfChosen_b10 a1 a2 a3 post  n x3 x4 x5) v3 x4 x5)))))

set_option maxHeartbeats 4000000 in
set_option maxRecDepth 100000 in
theorem wX6_sumOfChosen_b10 {p : Program} {l : Launch} {e : Env} {s : State} {m : MethodId} {args : Array Value} {below : List Frame} {meth : Method} {c : Code} {Q : State → Prop} {D : va_G} {cI cZ cJ cO : ClassId} (C0 : CallFix p m c cX6_sumOfChosen 6 s args wsX6_sumOfChosen RX6) (hN : nw s) (hK : va_K D vwCl (tyL cI cZ cJ cO) s)   (a1 : Int32) (a2 : Int32) (a3 : Int32) (post : Int32 → Prop) (hret : h0I p l e ({ frames := 0, cells := 0, slots := 0, locals := 0 } : Room) s m args below meth c cX6_sumOfChosen Q post) (hP : va_P D vwCl [] s.heap) :
    ∀ (n : Nat) (x3 : Int32) (x4 : Int32) (x5 : Int32), pX6_sumOfChosen_b10 a1 a2 a3 post n x3 x4 x5 → ∀ ls : Array Slot, lv_has ls 6 [(2, .int a3), (3, .int x3), (4, .int x4), (5, .int x5)] → W p l e ({ frames := 0, cells := 0, slots := 0, locals := 0 } : Room) s m args below meth c s.heap [] 0 0 Q (F0 m 10 ls []) := by
  obtain ⟨hx, hb, hml, hown, hts⟩ := id C0
  intro n
  induction n with
  | zero =>
    intro x3 x4 x5 hf
    exact False.elim hf
  | succ n ih =>
    intro x3 x4 x5 hf ls hl
    rw [pX6_sumOfChosen_b10] at hf
    refine lv_iload hx hb dX6_sumOfChosen_10 (lv_at hl 3 rfl) ?_
    refine lv_if_lt (tgt := 46) hx hb dX6_sumOfChosen_12 (by decide) (fun c1 => ?_) (fun c1 => ?_)
    · have hf := hf.1 c1
      refine lv_iload_n hx hb dX6_sumOfChosen_46 rfl (lv_at hl 1 rfl) ?_
      exact hret 47 ls x3 dX6_sumOfChosen_47 hf
    · have hf := hf.2 c1
      refine lv_iload_n hx hb dX6_sumOfChosen_15 rfl (lv_at hl 0 rfl) ?_
      refine lv_iload hx hb dX6_sumOfChosen_16 (lv_at hl 3 rfl) ?_
      refine lv_ishr hx hb dX6_sumOfChosen_18 ?_
      refine lv_iconst (v := 1) hx hb dX6_sumOfChosen_19 (by decide) ?_
      refine lv_iand hx hb dX6_sumOfChosen_20 ?_
      refine lv_iconst (v := 1) hx hb dX6_sumOfChosen_21 (by decide) ?_
      refine lv_icmp_ne (tgt := 33) hx hb dX6_sumOfChosen_22 (by decide) (fun c2 => ?_) (fun c2 => ?_)
      · have hf := hf.1 c2
        exact wX6_sumOfChosen_b33 C0 hN hK a1 a2 a3 post hret hP _ ih x3 x4 x5 hf ls (lv_sub hl [0, 1, 2, 3] rfl)
      · have hf := hf.2 c2
        refine lv_iload_n hx hb dX6_sumOfChosen_25 rfl (lv_at hl 1 rfl) ?_
        refine lv_iload hx hb dX6_sumOfChosen_26 (lv_at hl 2 rfl) ?_
        refine lv_bipush (v := 10) hx hb dX6_sumOfChosen_28 (by decide) ?_
        refine lv_irem hx hb dX6_sumOfChosen_30 (by decide) ?_
        refine lv_iadd hx hb dX6_sumOfChosen_31 ?_
        refine lv_topi (fun v3 ev3 => ?_)
        have hf := hf v3 ev3
        refine lv_istore_n (lv' := [(3, .int v3), (2, .int a3), (4, .int x4), (5, .int x5)]) hx hb dX6_sumOfChosen_32 rfl hl (by decide) rfl (fun ls hl => ?_)
        exact wX6_sumOfChosen_b33 C0 hN hK a1 a2 a3 post hret hP _ ih v3 x4 x5 hf ls (lv_sub hl [1, 0, 2, 3] rfl)

def pX6_sumOfChosen  (a1 : Int32) (a2 : Int32) (a3 : Int32) (post : Int32 → Prop) : Prop :=
  ∀ v1 : Int32, v1 = (a2 - 1) → (∃ n1, pX6_sumOfChosen_b10 a1 a2 a3 post  n1 0 a1 v1)

set_option maxHeartbeats 4000000 in
set_option maxRecDepth 100000 in
theorem kX6_sumOfChosen (l : Launch) (D : va_G) (cI cZ cJ cO : ClassId)    (a1 : Int32) (a2 : Int32) (a3 : Int32) (post : Int32 → Prop) (hf : pX6_sumOfChosen a1 a2 a3 post) :
    Met l yX6_sumOfChosen wsX6_sumOfChosen ({ frames := 0, cells := 0, slots := 0, locals := 0 } : Room) (va_Pc [.int a1, .int a2, .int a3] (B0 D (tyL cI cZ cJ cO) [])) (vp_Si post) 0 0 (fun _ => False) := by
  unfold pX6_sumOfChosen at hf
  refine xm_0i (own := RX6) (by decide) rfl rfl (Nat.le_of_ble_eq_true rfl) (fun p e s m args below meth c Q C0 hN hK hret hP ls hl => ?_)
  obtain ⟨hx, hb, hml, hown, hts⟩ := id C0
  have hl : lv_has ls 6 [(0, .int a1), (1, .int a2), (2, .int a3)] := hl
  refine lv_iconst (v := 0) hx hb dX6_sumOfChosen_0 (by decide) ?_
  refine lv_istore_n (lv' := [(3, .int 0), (0, .int a1), (1, .int a2), (2, .int a3)]) hx hb dX6_sumOfChosen_1 rfl hl (by decide) rfl (fun ls hl => ?_)
  refine lv_iload_n hx hb dX6_sumOfChosen_2 rfl (lv_at hl 1 rfl) ?_
  refine lv_istore (lv' := [(4, .int a1), (3, .int 0), (0, .int a1), (1, .int a2), (2, .int a3)]) hx hb dX6_sumOfChosen_3 hl (by decide) rfl (fun ls hl => ?_)
  refine lv_iload_n hx hb dX6_sumOfChosen_5 rfl (lv_at hl 3 rfl) ?_
  refine lv_iconst (v := 1) hx hb dX6_sumOfChosen_6 (by decide) ?_
  refine lv_isub hx hb dX6_sumOfChosen_7 ?_
  refine lv_topi (fun v1 ev1 => ?_)
  have hf := hf v1 ev1
  refine lv_istore (lv' := [(5, .int v1), (4, .int a1), (3, .int 0), (0, .int a1), (1, .int a2), (2, .int a3)]) hx hb dX6_sumOfChosen_8 hl (by decide) rfl (fun ls hl => ?_)
  obtain ⟨n1, hf⟩ := hf
  exact wX6_sumOfChosen_b10 C0 hN hK a1 a2 a3 post hret hP   n1 0 a1 v1 hf ls (lv_sub hl [5, 2, 1, 0] rfl)

/-! X6_pack -/

def pX6_pack_b59 (a1 : Int32) (a2 : Int32) (a3 : Int32) (a4 : Int32) (a5 : Int32) (post : Int32 → Prop) : Nat → Int32 → Int32 → Int32 → Prop
  | 0 => fun _ _ _ => False
  | n + 1 => fun x6 x7 x8 => ((1 <<< (a3 &&& 31)) ≤ x8 → ((¬ a5 = 0 → (post x7)) ∧ (a5 = 0 → (post x6)))) ∧ (¬ (1 <<< (a3 &&& 31)) ≤ x8 → (pX6_sumOfChosen a2 a3 x8 (fun r3 => (r3 ≤ x6 → (∀ v5 : Int32, v5 = x8 + 1 → (pX6_pack_b59 a1 a2 a3 a4 a5 post  n x6 x7 v5))) ∧ (¬ r3 ≤ x6 → (pX6_sumOfChosen a1 a3 x8 (fun r6 => (a4 < r6 → (∀ v8 : Int32, v8 = x8 + 1 → (pX6_pack_b59 a1 a2 a3 a4 a5 post  n x6 x7 v8))) ∧ (¬ a4 < r6 → (∀ v9 : Int32, v9 = x8 + 1 → (pX6_pack_b59 a1 a2 a3 a4 a5 post  n r3 x8 v9)))))))))

set_option maxHeartbeats 4000000 in
set_option maxRecDepth 100000 in
theorem wX6_pack_b59 {p : Program} {l : Launch} {e : Env} {s : State} {m : MethodId} {args : Array Value} {below : List Frame} {meth : Method} {c : Code} {Q : State → Prop} {D : va_G} {cI cZ cJ cO : ClassId} (C0 : CallFix p m c cX6_pack 10 s args wsX6_pack RX6) (hN : nw s) (hK : va_K D vwCl (tyL cI cZ cJ cO) s) (q_t : Nat)  (a1 : Int32) (a2 : Int32) (a3 : Int32) (a4 : Int32) (a5 : Int32) (post : Int32 → Prop) (hret : h0I p l e ({ frames := 1, cells := 0, slots := 0, locals := 25 } : Room) s m args below meth c cX6_pack Q post) (hP : va_P D vwCl [] s.heap) :
    ∀ (n : Nat) (x6 : Int32) (x7 : Int32) (x8 : Int32), pX6_pack_b59 a1 a2 a3 a4 a5 post n x6 x7 x8 → ∀ ls : Array Slot, lv_has ls 10 [(1, .int a1), (2, .int a2), (3, .int a3), (4, .int a4), (5, .int a5), (6, .int x6), (7, .int x7), (8, .int x8)] → W p l e ({ frames := 1, cells := 0, slots := 0, locals := 25 } : Room) s m args below meth c s.heap [] 0 0 Q (F0 m 59 ls []) := by
  obtain ⟨hx, hb, hml, hown, hts⟩ := id C0
  intro n
  induction n with
  | zero =>
    intro x6 x7 x8 hf
    exact False.elim hf
  | succ n ih =>
    intro x6 x7 x8 hf ls hl
    rw [pX6_pack_b59] at hf
    refine lv_iload hx hb dX6_pack_59 (lv_at hl 7 rfl) ?_
    refine lv_iconst (v := 1) hx hb dX6_pack_61 (by decide) ?_
    refine lv_iload_n hx hb dX6_pack_62 rfl (lv_at hl 2 rfl) ?_
    refine lv_ishl hx hb dX6_pack_63 ?_
    refine lv_icmp_ge (tgt := 109) hx hb dX6_pack_64 (by decide) (fun c1 => ?_) (fun c1 => ?_)
    · have hf := hf.1 c1
      refine lv_iload hx hb dX6_pack_109 (lv_at hl 4 rfl) ?_
      refine lv_if_ne (tgt := 119) hx hb dX6_pack_111 (by decide) (fun c2 => ?_) (fun c2 => ?_)
      · have hf := hf.1 c2
        refine lv_iload hx hb dX6_pack_119 (lv_at hl 6 rfl) ?_
        exact hret 121 ls x7 dX6_pack_121 hf
      · have hf := hf.2 c2
        refine lv_iload hx hb dX6_pack_114 (lv_at hl 5 rfl) ?_
        refine lv_goto (tgt := 121) hx hb dX6_pack_116 (by decide) ?_
        exact hret 121 ls x6 dX6_pack_121 hf
    · have hf := hf.2 c1
      refine lv_iload_n hx hb dX6_pack_67 rfl (lv_at hl 1 rfl) ?_
      refine lv_iload_n hx hb dX6_pack_68 rfl (lv_at hl 2 rfl) ?_
      refine lv_iload hx hb dX6_pack_69 (lv_at hl 7 rfl) ?_
      refine xs_i (va_runS (As := [.int a2, .int a3, .int x8]) (rest := []) ⟨hx, hb, hml, hown, hts⟩ (kX6_sumOfChosen l D cI cZ cJ cO a2 a3 x8 _ hf) (va_cwS 3 hts gX6_pack_X6_sumOfChosen rfl rfl rfl (by decide +kernel) ⟨Nat.le_of_ble_eq_true rfl, Nat.le_of_ble_eq_true rfl⟩) (B0_pre (hP.sub (ws' := []) [] rfl) hK hN) rfl rfl hl.1 rfl (lv_room (Nat.le_of_ble_eq_true rfl)) dX6_pack_71 ⟨Nat.zero_le _, Nat.zero_le _⟩) (fun r3 hf => ?_)
      refine lv_istore (lv' := [(9, .int r3), (1, .int a1), (2, .int a2), (3, .int a3), (4, .int a4), (5, .int a5), (6, .int x6), (7, .int x7), (8, .int x8)]) hx hb dX6_pack_74 hl (by decide) rfl (fun ls hl => ?_)
      refine lv_iload hx hb dX6_pack_76 (lv_at hl 0 rfl) ?_
      refine lv_iload hx hb dX6_pack_78 (lv_at hl 6 rfl) ?_
      refine lv_icmp_le (tgt := 103) hx hb dX6_pack_80 (by decide) (fun c4 => ?_) (fun c4 => ?_)
      · have hf := hf.1 c4
        obtain ⟨v5, ev5⟩ : ∃ y : Int32, y = x8 + 1 := ⟨_, rfl⟩
        have hf := hf v5 ev5
        refine lv_iinc (v := v5) (lv' := [(8, .int v5), (9, .int r3), (1, .int a1), (2, .int a2), (3, .int a3), (4, .int a4), (5, .int a5), (6, .int x6), (7, .int x7)]) hx hb dX6_pack_103 hl (k := 8) rfl (by rw [ev5]; rfl) (by decide) rfl (fun ls hl => ?_)
        refine lv_goto (tgt := 59) hx hb dX6_pack_106 (by decide) ?_
        exact ih x6 x7 v5 hf ls (lv_sub hl [2, 3, 4, 5, 6, 7, 8, 0] rfl)
      · have hf := hf.2 c4
        refine lv_iload_n hx hb dX6_pack_83 rfl (lv_at hl 1 rfl) ?_
        refine lv_iload_n hx hb dX6_pack_84 rfl (lv_at hl 3 rfl) ?_
        refine lv_iload hx hb dX6_pack_85 (lv_at hl 8 rfl) ?_
        refine xs_i (va_runS (As := [.int a1, .int a3, .int x8]) (rest := []) ⟨hx, hb, hml, hown, hts⟩ (kX6_sumOfChosen l D cI cZ cJ cO a1 a3 x8 _ hf) (va_cwS 3 hts gX6_pack_X6_sumOfChosen rfl rfl rfl (by decide +kernel) ⟨Nat.le_of_ble_eq_true rfl, Nat.le_of_ble_eq_true rfl⟩) (B0_pre (hP.sub (ws' := []) [] rfl) hK hN) rfl rfl hl.1 rfl (lv_room (Nat.le_of_ble_eq_true rfl)) dX6_pack_87 ⟨Nat.zero_le _, Nat.zero_le _⟩) (fun r6 hf => ?_)
        refine lv_iload hx hb dX6_pack_90 (lv_at hl 4 rfl) ?_
        refine lv_icmp_gt (tgt := 103) hx hb dX6_pack_92 (by decide) (fun c7 => ?_) (fun c7 => ?_)
        · have hf := hf.1 c7
          obtain ⟨v8, ev8⟩ : ∃ y : Int32, y = x8 + 1 := ⟨_, rfl⟩
          have hf := hf v8 ev8
          refine lv_iinc (v := v8) (lv' := [(8, .int v8), (9, .int r3), (1, .int a1), (2, .int a2), (3, .int a3), (4, .int a4), (5, .int a5), (6, .int x6), (7, .int x7)]) hx hb dX6_pack_103 hl (k := 8) rfl (by rw [ev8]; rfl) (by decide) rfl (fun ls hl => ?_)
          refine lv_goto (tgt := 59) hx hb dX6_pack_106 (by decide) ?_
          exact ih x6 x7 v8 hf ls (lv_sub hl [2, 3, 4, 5, 6, 7, 8, 0] rfl)
        · have hf := hf.2 c7
          refine lv_iload hx hb dX6_pack_95 (lv_at hl 0 rfl) ?_
          refine lv_istore (lv' := [(6, .int r3), (9, .int r3), (1, .int a1), (2, .int a2), (3, .int a3), (4, .int a4), (5, .int a5), (7, .int x7), (8, .int x8)]) hx hb dX6_pack_97 hl (by decide) rfl (fun ls hl => ?_)
          refine lv_iload hx hb dX6_pack_99 (lv_at hl 8 rfl) ?_
          refine lv_istore (lv' := [(7, .int x8), (6, .int r3), (9, .int r3), (1, .int a1), (2, .int a2), (3, .int a3), (4, .int a4), (5, .int a5), (8, .int x8)]) hx hb dX6_pack_101 hl (by decide) rfl (fun ls hl => ?_)
          obtain ⟨v9, ev9⟩ : ∃ y : Int32, y = x8 + 1 := ⟨_, rfl⟩
          have hf := hf v9 ev9
          refine lv_iinc (v := v9) (lv' := [(8, .int v9), (7, .int x8), (6, .int r3), (9, .int r3), (1, .int a1), (2, .int a2), (3, .int a3), (4, .int a4), (5, .int a5)]) hx hb dX6_pack_103 hl (k := 8) rfl (by rw [ev9]; rfl) (by decide) rfl (fun ls hl => ?_)
          refine lv_goto (tgt := 59) hx hb dX6_pack_106 (by decide) ?_
          exact ih r3 x8 v9 hf ls (lv_sub hl [4, 5, 6, 7, 8, 2, 1, 0] rfl)

def pX6_pack  (a1 : Int32) (a2 : Int32) (a3 : Int32) (a4 : Int32) (a5 : Int32) (post : Int32 → Prop) : Prop :=
  pX6_isIn a3 1 9 (fun r1 => (r1 = 0 → (post (-2))) ∧ (¬ r1 = 0 → (pX6_isRow a1 a3 (fun r3 => (r3 = 0 → (post (-2))) ∧ (¬ r3 = 0 → (pX6_isRow a2 a3 (fun r5 => (r5 = 0 → (post (-2))) ∧ (¬ r5 = 0 → (pX6_isIn a4 0 99 (fun r7 => (r7 = 0 → (post (-2))) ∧ (¬ r7 = 0 → (pX6_isIn a5 0 1 (fun r9 => (¬ r9 = 0 → (∃ n1, pX6_pack_b59 a1 a2 a3 a4 a5 post  n1 0 0 1)) ∧ (r9 = 0 → (post (-2))))))))))))))))

set_option maxHeartbeats 4000000 in
set_option maxRecDepth 100000 in
theorem kX6_pack (l : Launch) (D : va_G) (cI cZ cJ cO : ClassId) (q_t : Nat)   (a1 : Int32) (a2 : Int32) (a3 : Int32) (a4 : Int32) (a5 : Int32) (post : Int32 → Prop) (hf : pX6_pack a1 a2 a3 a4 a5 post) :
    Met l yX6_pack wsX6_pack ({ frames := 1, cells := 0, slots := 0, locals := 25 } : Room) (va_Pc [.ref q_t, .int a1, .int a2, .int a3, .int a4, .int a5] (B0 D (tyL cI cZ cJ cO) [])) (vp_Si post) 0 0 (fun _ => False) := by
  unfold pX6_pack at hf
  refine xm_0i (own := RX6) (by decide) rfl rfl (Nat.le_of_ble_eq_true rfl) (fun p e s m args below meth c Q C0 hN hK hret hP ls hl => ?_)
  obtain ⟨hx, hb, hml, hown, hts⟩ := id C0
  have hl : lv_has ls 10 [(0, .ref q_t), (1, .int a1), (2, .int a2), (3, .int a3), (4, .int a4), (5, .int a5)] := hl
  refine lv_iload_n hx hb dX6_pack_0 rfl (lv_at hl 3 rfl) ?_
  refine lv_iconst (v := 1) hx hb dX6_pack_1 (by decide) ?_
  refine lv_bipush (v := 9) hx hb dX6_pack_2 (by decide) ?_
  refine xs_i (va_runS (As := [.int a3, .int 1, .int 9]) (rest := []) ⟨hx, hb, hml, hown, hts⟩ (kX6_isIn l D cI cZ cJ cO a3 1 9 _ hf) (va_cwS 3 hts gX6_pack_X6_isIn rfl rfl rfl (by decide +kernel) ⟨Nat.le_of_ble_eq_true rfl, Nat.le_of_ble_eq_true rfl⟩) (B0_pre (hP.sub (ws' := []) [] rfl) hK hN) rfl rfl hl.1 rfl (lv_room (Nat.le_of_ble_eq_true rfl)) dX6_pack_4 ⟨Nat.zero_le _, Nat.zero_le _⟩) (fun r1 hf => ?_)
  refine lv_if_eq (tgt := 47) hx hb dX6_pack_7 (by decide) (fun c2 => ?_) (fun c2 => ?_)
  · have hf := hf.1 c2
    refine lv_bipush (v := (-2)) hx hb dX6_pack_47 (by decide) ?_
    exact hret 49 ls (-2) dX6_pack_49 hf
  · have hf := hf.2 c2
    refine lv_iload_n hx hb dX6_pack_10 rfl (lv_at hl 1 rfl) ?_
    refine lv_iload_n hx hb dX6_pack_11 rfl (lv_at hl 3 rfl) ?_
    refine xs_i (va_runS (As := [.int a1, .int a3]) (rest := []) ⟨hx, hb, hml, hown, hts⟩ (kX6_isRow l D cI cZ cJ cO a1 a3 _ hf) (va_cwS 2 hts gX6_pack_X6_isRow rfl rfl rfl (by decide +kernel) ⟨Nat.le_of_ble_eq_true rfl, Nat.le_of_ble_eq_true rfl⟩) (B0_pre (hP.sub (ws' := []) [] rfl) hK hN) rfl rfl hl.1 rfl (lv_room (Nat.le_of_ble_eq_true rfl)) dX6_pack_12 ⟨Nat.zero_le _, Nat.zero_le _⟩) (fun r3 hf => ?_)
    refine lv_if_eq (tgt := 47) hx hb dX6_pack_15 (by decide) (fun c4 => ?_) (fun c4 => ?_)
    · have hf := hf.1 c4
      refine lv_bipush (v := (-2)) hx hb dX6_pack_47 (by decide) ?_
      exact hret 49 ls (-2) dX6_pack_49 hf
    · have hf := hf.2 c4
      refine lv_iload_n hx hb dX6_pack_18 rfl (lv_at hl 2 rfl) ?_
      refine lv_iload_n hx hb dX6_pack_19 rfl (lv_at hl 3 rfl) ?_
      refine xs_i (va_runS (As := [.int a2, .int a3]) (rest := []) ⟨hx, hb, hml, hown, hts⟩ (kX6_isRow l D cI cZ cJ cO a2 a3 _ hf) (va_cwS 2 hts gX6_pack_X6_isRow rfl rfl rfl (by decide +kernel) ⟨Nat.le_of_ble_eq_true rfl, Nat.le_of_ble_eq_true rfl⟩) (B0_pre (hP.sub (ws' := []) [] rfl) hK hN) rfl rfl hl.1 rfl (lv_room (Nat.le_of_ble_eq_true rfl)) dX6_pack_20 ⟨Nat.zero_le _, Nat.zero_le _⟩) (fun r5 hf => ?_)
      refine lv_if_eq (tgt := 47) hx hb dX6_pack_23 (by decide) (fun c6 => ?_) (fun c6 => ?_)
      · have hf := hf.1 c6
        refine lv_bipush (v := (-2)) hx hb dX6_pack_47 (by decide) ?_
        exact hret 49 ls (-2) dX6_pack_49 hf
      · have hf := hf.2 c6
        refine lv_iload hx hb dX6_pack_26 (lv_at hl 4 rfl) ?_
        refine lv_iconst (v := 0) hx hb dX6_pack_28 (by decide) ?_
        refine lv_bipush (v := 99) hx hb dX6_pack_29 (by decide) ?_
        refine xs_i (va_runS (As := [.int a4, .int 0, .int 99]) (rest := []) ⟨hx, hb, hml, hown, hts⟩ (kX6_isIn l D cI cZ cJ cO a4 0 99 _ hf) (va_cwS 3 hts gX6_pack_X6_isIn rfl rfl rfl (by decide +kernel) ⟨Nat.le_of_ble_eq_true rfl, Nat.le_of_ble_eq_true rfl⟩) (B0_pre (hP.sub (ws' := []) [] rfl) hK hN) rfl rfl hl.1 rfl (lv_room (Nat.le_of_ble_eq_true rfl)) dX6_pack_31 ⟨Nat.zero_le _, Nat.zero_le _⟩) (fun r7 hf => ?_)
        refine lv_if_eq (tgt := 47) hx hb dX6_pack_34 (by decide) (fun c8 => ?_) (fun c8 => ?_)
        · have hf := hf.1 c8
          refine lv_bipush (v := (-2)) hx hb dX6_pack_47 (by decide) ?_
          exact hret 49 ls (-2) dX6_pack_49 hf
        · have hf := hf.2 c8
          refine lv_iload hx hb dX6_pack_37 (lv_at hl 5 rfl) ?_
          refine lv_iconst (v := 0) hx hb dX6_pack_39 (by decide) ?_
          refine lv_iconst (v := 1) hx hb dX6_pack_40 (by decide) ?_
          refine xs_i (va_runS (As := [.int a5, .int 0, .int 1]) (rest := []) ⟨hx, hb, hml, hown, hts⟩ (kX6_isIn l D cI cZ cJ cO a5 0 1 _ hf) (va_cwS 3 hts gX6_pack_X6_isIn rfl rfl rfl (by decide +kernel) ⟨Nat.le_of_ble_eq_true rfl, Nat.le_of_ble_eq_true rfl⟩) (B0_pre (hP.sub (ws' := []) [] rfl) hK hN) rfl rfl hl.1 rfl (lv_room (Nat.le_of_ble_eq_true rfl)) dX6_pack_41 ⟨Nat.zero_le _, Nat.zero_le _⟩) (fun r9 hf => ?_)
          refine lv_if_ne (tgt := 50) hx hb dX6_pack_44 (by decide) (fun c10 => ?_) (fun c10 => ?_)
          · have hf := hf.1 c10
            refine lv_iconst (v := 0) hx hb dX6_pack_50 (by decide) ?_
            refine lv_istore (lv' := [(6, .int 0), (0, .ref q_t), (1, .int a1), (2, .int a2), (3, .int a3), (4, .int a4), (5, .int a5)]) hx hb dX6_pack_51 hl (by decide) rfl (fun ls hl => ?_)
            refine lv_iconst (v := 0) hx hb dX6_pack_53 (by decide) ?_
            refine lv_istore (lv' := [(7, .int 0), (6, .int 0), (0, .ref q_t), (1, .int a1), (2, .int a2), (3, .int a3), (4, .int a4), (5, .int a5)]) hx hb dX6_pack_54 hl (by decide) rfl (fun ls hl => ?_)
            refine lv_iconst (v := 1) hx hb dX6_pack_56 (by decide) ?_
            refine lv_istore (lv' := [(8, .int 1), (7, .int 0), (6, .int 0), (0, .ref q_t), (1, .int a1), (2, .int a2), (3, .int a3), (4, .int a4), (5, .int a5)]) hx hb dX6_pack_57 hl (by decide) rfl (fun ls hl => ?_)
            obtain ⟨n1, hf⟩ := hf
            exact wX6_pack_b59 C0 hN hK q_t a1 a2 a3 a4 a5 post hret hP   n1 0 0 1 hf ls (lv_sub hl [4, 5, 6, 7, 8, 2, 1, 0] rfl)
          · have hf := hf.2 c10
            refine lv_bipush (v := (-2)) hx hb dX6_pack_47 (by decide) ?_
            exact hret 49 ls (-2) dX6_pack_49 hf

/-! X6_seen -/
theorem mX6_seen_1 : Cond.fieldLink RX6 19 "OxenKneel" "sights" "LOxenKneel$Sights;" ∈ wsX6_seen := List.mem_of_getElem? (i := 1) rfl
theorem mX6_seen_2 : Cond.fieldLink RX6 165 "OxenKneel$Sights" "count" "I" ∈ wsX6_seen := List.mem_of_getElem? (i := 2) rfl
theorem nX6_seen_X6 : ∀ w ∈ wsX60, w ∈ wsX6_seen := fun _ h => List.mem_cons_of_mem _ (List.mem_append_left _ (List.mem_append_right _ h))
theorem nX6_seen_X3 : ∀ w ∈ wsX30, w ∈ wsX6_seen := fun _ h => List.mem_cons_of_mem _ (List.mem_append_right _ h)
def pX6_seen (t_sights_count : Int32) (t_sights_hours : (Nat → Int32)) (t_sights_rang : (Nat → Int32)) (a1 : Int32) (a2 : Int32) (post : Int32 → (Int32 × (Nat → Int32) × (Nat → Int32)) → Prop) : Prop :=
  pX6_isIn a1 0 99 (fun r1 => (¬ r1 = 0 → (pX3_add t_sights_count t_sights_hours t_sights_rang a1 a2 (fun (r3 : Int32) (u4 : Int32 × (Nat → Int32) × (Nat → Int32)) => (r3 = 0 → (post (-4) (u4.1, u4.2.1, u4.2.2))) ∧ (¬ r3 = 0 → (post u4.1 (u4.1, u4.2.1, u4.2.2)))))) ∧ (r1 = 0 → (post (-2) (t_sights_count, t_sights_hours, t_sights_rang))))

set_option maxHeartbeats 4000000 in
set_option maxRecDepth 100000 in
theorem kX6_seen (l : Launch) (D : va_G) (cI cZ cJ cO : ClassId) (q_t q_t_sights q_t_sights_hours q_t_sights_rang q_t_now q_t_pad q_t_tale q_t_images : Nat) (sz : Nat)  (t_sights_count : Int32) (t_sights_hours : (Nat → Int32)) (t_sights_rang : (Nat → Int32)) (a1 : Int32) (a2 : Int32) (post : Int32 → (Int32 × (Nat → Int32) × (Nat → Int32)) → Prop) (hf : pX6_seen t_sights_count t_sights_hours t_sights_rang a1 a2 post) :
    Met l yX6_seen wsX6_seen ({ frames := 2, cells := 0, slots := 0, locals := 44 } : Room) (va_Pc [.ref q_t, .int a1, .int a2] (B1 D (tyL cI cZ cJ cO) [(q_t, .inr (6, [.ref q_t_now, .ref q_t_sights, .ref q_t_pad, .ref q_t_tale, .ref q_t_images])), (q_t_sights, .inr (3, [.int t_sights_count, .ref q_t_sights_hours, .ref q_t_sights_rang])), (q_t_sights_hours, .inl (cI, 8, .inl t_sights_hours)), (q_t_sights_rang, .inl (cZ, 8, .inl t_sights_rang))] sz)) (va_Qi post (fun u t => E1 D (va_A [(q_t, .inr (6, [.ref q_t_now, .ref q_t_sights, .ref q_t_pad, .ref q_t_tale, .ref q_t_images])), (q_t_sights, .inr (3, [.int t_sights_count, .ref q_t_sights_hours, .ref q_t_sights_rang])), (q_t_sights_hours, .inl (cI, 8, .inl t_sights_hours)), (q_t_sights_rang, .inl (cZ, 8, .inl t_sights_rang))] sz) ((fun u : Int32 × (Nat → Int32) × (Nat → Int32) => [(q_t, .inr (6, [.ref q_t_now, .ref q_t_sights, .ref q_t_pad, .ref q_t_tale, .ref q_t_images])), (q_t_sights, .inr (3, [.int u.1, .ref q_t_sights_hours, .ref q_t_sights_rang])), (q_t_sights_hours, .inl (cI, 8, .inl u.2.1)), (q_t_sights_rang, .inl (cZ, 8, .inl u.2.2))]) u) t) (va_A [(q_t, .inr (6, [.ref q_t_now, .ref q_t_sights, .ref q_t_pad, .ref q_t_tale, .ref q_t_images])), (q_t_sights, .inr (3, [.int t_sights_count, .ref q_t_sights_hours, .ref q_t_sights_rang])), (q_t_sights_hours, .inl (cI, 8, .inl t_sights_hours)), (q_t_sights_rang, .inl (cZ, 8, .inl t_sights_rang))] sz)) 0 0 (va_A [(q_t, .inr (6, [.ref q_t_now, .ref q_t_sights, .ref q_t_pad, .ref q_t_tale, .ref q_t_images])), (q_t_sights, .inr (3, [.int t_sights_count, .ref q_t_sights_hours, .ref q_t_sights_rang])), (q_t_sights_hours, .inl (cI, 8, .inl t_sights_hours)), (q_t_sights_rang, .inl (cZ, 8, .inl t_sights_rang))] sz) := by
  unfold pX6_seen at hf
  refine xm_1i (own := RX6) (by decide) rfl rfl (Nat.le_of_ble_eq_true rfl) (fun p e s m args below meth c Q A C0 hN hK hA hret hP hD ls hl => ?_)
  obtain ⟨hx, hb, hml, hown, hts⟩ := id C0
  have hl : lv_has ls 3 [(0, .ref q_t), (1, .int a1), (2, .int a2)] := hl
  have hS : va_S A s.heap s.heap [] := va_S.rf
  obtain ⟨H, hHe⟩ : ∃ H, H = s.heap := ⟨_, rfl⟩
  obtain ⟨locs, hLe⟩ : ∃ L : List Loc, L = [] := ⟨_, rfl⟩
  rw [← hLe]
  rw [← hLe] at hS
  have hP : va_P D vwCl [(q_t, .inr (6, [.ref q_t_now, .ref q_t_sights, .ref q_t_pad, .ref q_t_tale, .ref q_t_images])), (q_t_sights, .inr (3, [.int t_sights_count, .ref q_t_sights_hours, .ref q_t_sights_rang])), (q_t_sights_hours, .inl (cI, 8, .inl t_sights_hours)), (q_t_sights_rang, .inl (cZ, 8, .inl t_sights_rang))] H := by rw [hHe]; exact hP
  have hS : va_S A s.heap H locs := by rw [hHe]; exact hS
  suffices hgo : W p l e ({ frames := 2, cells := 0, slots := 0, locals := 44 } : Room) s m args below meth c H locs 0 0 Q (F0 m 0 ls []) by rw [← hHe]; exact hgo
  clear hHe hLe
  refine lv_iload_n hx hb dX6_seen_0 rfl (lv_at hl 1 rfl) ?_
  refine lv_iconst (v := 0) hx hb dX6_seen_1 (by decide) ?_
  refine lv_bipush (v := 99) hx hb dX6_seen_2 (by decide) ?_
  refine xs_i (va_runS (As := [.int a1, .int 0, .int 99]) (rest := []) ⟨hx, hb, hml, hown, hts⟩ (kX6_isIn l D cI cZ cJ cO a1 0 99 _ hf) (va_cwS 3 hts gX6_seen_X6_isIn rfl rfl rfl (by decide +kernel) ⟨Nat.le_of_ble_eq_true rfl, Nat.le_of_ble_eq_true rfl⟩) (B0_pre (hP.sub (ws' := []) [] rfl) hK hN) rfl rfl hl.1 rfl (lv_room (Nat.le_of_ble_eq_true rfl)) dX6_seen_4 ⟨Nat.zero_le _, Nat.zero_le _⟩) (fun r1 hf => ?_)
  refine lv_if_ne (tgt := 13) hx hb dX6_seen_7 (by decide) (fun c2 => ?_) (fun c2 => ?_)
  · have hf := hf.1 c2
    refine lv_aload_n hx hb dX6_seen_13 rfl (lv_at hl 0 rfl) ?_
    refine va_get (D := D) (ci := 6) (v := .ref q_t_sights) (C := RX6) (T := TX6) (N := 5) hx hb hts nX6_seen_X6 hown hK hP 0 rfl rfl 1 (by decide) (hts _ mX6_seen_1) (fun _ h9 => h9) rfl dX6_seen_14 ?_
    refine lv_iload_n hx hb dX6_seen_17 rfl (lv_at hl 1 rfl) ?_
    refine lv_iload_n hx hb dX6_seen_18 rfl (lv_at hl 2 rfl) ?_
    refine xc_i (wr := [(q_t, .inr (6, [.ref q_t_now, .ref q_t_sights, .ref q_t_pad, .ref q_t_tale, .ref q_t_images]))]) (va_runV (As := [.int a1, .int a2]) (rest := []) ⟨hx, hb, hml, hown, hts⟩ (kX3_add l D cI cZ cJ cO q_t_sights q_t_sights_hours q_t_sights_rang H.size t_sights_count t_sights_hours t_sights_rang a1 a2 _ hf) (cwV 2 hts gX6_seen_X3_add rfl rfl rfl (by decide +kernel) ⟨Nat.le_of_ble_eq_true rfl, Nat.le_of_ble_eq_true rfl⟩) (B1_preV (ci := 3) (q0 := 1) hP rfl rfl (hP.sub (ws' := [(q_t_sights, .inr (3, [.int t_sights_count, .ref q_t_sights_hours, .ref q_t_sights_rang])), (q_t_sights_hours, .inl (cI, 8, .inl t_sights_hours)), (q_t_sights_rang, .inl (cZ, 8, .inl t_sights_rang))]) [1, 2, 3] rfl) hK hN (hD.sub (ws' := [(q_t_sights, .inr (3, [.int t_sights_count, .ref q_t_sights_hours, .ref q_t_sights_rang])), (q_t_sights_hours, .inl (cI, 8, .inl t_sights_hours)), (q_t_sights_rang, .inl (cZ, 8, .inl t_sights_rang))]) [1, 2, 3] (by decide) rfl)) rfl rfl hl.1 rfl (lv_room (Nat.le_of_ble_eq_true rfl)) dX6_seen_19 ⟨Nat.zero_le _, Nat.zero_le _⟩) hP hD hS hA [1, 2, 3] [0] rfl rfl (by decide) (by decide) (fun r3 u4 H locs hf hP hD hS => ?_)
    have hP : va_P D vwCl [(q_t, .inr (6, [.ref q_t_now, .ref q_t_sights, .ref q_t_pad, .ref q_t_tale, .ref q_t_images])), (q_t_sights, .inr (3, [.int u4.1, .ref q_t_sights_hours, .ref q_t_sights_rang])), (q_t_sights_hours, .inl (cI, 8, .inl u4.2.1)), (q_t_sights_rang, .inl (cZ, 8, .inl u4.2.2))] H := hP
    have hD : va_D A [(q_t, .inr (6, [.ref q_t_now, .ref q_t_sights, .ref q_t_pad, .ref q_t_tale, .ref q_t_images])), (q_t_sights, .inr (3, [.int u4.1, .ref q_t_sights_hours, .ref q_t_sights_rang])), (q_t_sights_hours, .inl (cI, 8, .inl u4.2.1)), (q_t_sights_rang, .inl (cZ, 8, .inl u4.2.2))] := hD
    refine lv_if_eq (tgt := 35) hx hb dX6_seen_22 (by decide) (fun c5 => ?_) (fun c5 => ?_)
    · have hf := hf.1 c5
      refine lv_bipush (v := (-4)) hx hb dX6_seen_35 (by decide) ?_
      exact hret 37 ls H locs (-4) (u4.1, u4.2.1, u4.2.2) dX6_seen_37 hf hP hD hS
    · have hf := hf.2 c5
      refine lv_aload_n hx hb dX6_seen_25 rfl (lv_at hl 0 rfl) ?_
      refine va_get (D := D) (ci := 6) (v := .ref q_t_sights) (C := RX6) (T := TX6) (N := 5) hx hb hts nX6_seen_X6 hown hK hP 0 rfl rfl 1 (by decide) (hts _ mX6_seen_1) (fun _ h9 => h9) rfl dX6_seen_26 ?_
      refine va_get (D := D) (ci := 3) (v := .int u4.1) (C := RX3) (T := TX3) (N := 3) hx hb hts nX6_seen_X3 hown hK hP 1 rfl rfl 0 (by decide) (hts _ mX6_seen_2) (fun _ h9 => h9) rfl dX6_seen_29 ?_
      refine lv_goto (tgt := 37) hx hb dX6_seen_32 (by decide) ?_
      exact hret 37 ls H locs u4.1 (u4.1, u4.2.1, u4.2.2) dX6_seen_37 hf hP hD hS
  · have hf := hf.2 c2
    refine lv_bipush (v := (-2)) hx hb dX6_seen_10 (by decide) ?_
    exact hret 12 ls H locs (-2) (t_sights_count, t_sights_hours, t_sights_rang) dX6_seen_12 hf hP hD hS

/-! X6_forget -/
theorem mX6_forget_1 : Cond.fieldLink RX6 19 "OxenKneel" "sights" "LOxenKneel$Sights;" ∈ wsX6_forget := List.mem_of_getElem? (i := 1) rfl
theorem mX6_forget_2 : Cond.fieldLink RX6 165 "OxenKneel$Sights" "count" "I" ∈ wsX6_forget := List.mem_of_getElem? (i := 2) rfl
theorem nX6_forget_X6 : ∀ w ∈ wsX60, w ∈ wsX6_forget := fun _ h => List.mem_cons_of_mem _ (List.mem_append_left _ (List.mem_append_right _ h))
theorem nX6_forget_X3 : ∀ w ∈ wsX30, w ∈ wsX6_forget := fun _ h => List.mem_cons_of_mem _ (List.mem_append_right _ h)
def pX6_forget (t_sights_count : Int32)  (post : Int32 → (Int32) → Prop) : Prop :=
  post t_sights_count 0

set_option maxHeartbeats 4000000 in
set_option maxRecDepth 100000 in
theorem kX6_forget (l : Launch) (D : va_G) (cI cZ cJ cO : ClassId) (q_t q_t_sights q_t_now q_t_pad q_t_tale q_t_images q_t_sights_hours q_t_sights_rang : Nat) (sz : Nat)  (t_sights_count : Int32)  (post : Int32 → (Int32) → Prop) (hf : pX6_forget t_sights_count post) :
    Met l yX6_forget wsX6_forget ({ frames := 0, cells := 0, slots := 0, locals := 0 } : Room) (va_Pc [.ref q_t] (B1 D (tyL cI cZ cJ cO) [(q_t, .inr (6, [.ref q_t_now, .ref q_t_sights, .ref q_t_pad, .ref q_t_tale, .ref q_t_images])), (q_t_sights, .inr (3, [.int t_sights_count, .ref q_t_sights_hours, .ref q_t_sights_rang]))] sz)) (va_Qi post (fun u t => E1 D (va_A [(q_t, .inr (6, [.ref q_t_now, .ref q_t_sights, .ref q_t_pad, .ref q_t_tale, .ref q_t_images])), (q_t_sights, .inr (3, [.int t_sights_count, .ref q_t_sights_hours, .ref q_t_sights_rang]))] sz) ((fun u : Int32 => [(q_t, .inr (6, [.ref q_t_now, .ref q_t_sights, .ref q_t_pad, .ref q_t_tale, .ref q_t_images])), (q_t_sights, .inr (3, [.int u, .ref q_t_sights_hours, .ref q_t_sights_rang]))]) u) t) (va_A [(q_t, .inr (6, [.ref q_t_now, .ref q_t_sights, .ref q_t_pad, .ref q_t_tale, .ref q_t_images])), (q_t_sights, .inr (3, [.int t_sights_count, .ref q_t_sights_hours, .ref q_t_sights_rang]))] sz)) 0 0 (va_A [(q_t, .inr (6, [.ref q_t_now, .ref q_t_sights, .ref q_t_pad, .ref q_t_tale, .ref q_t_images])), (q_t_sights, .inr (3, [.int t_sights_count, .ref q_t_sights_hours, .ref q_t_sights_rang]))] sz) := by
  unfold pX6_forget at hf
  refine xm_1i (own := RX6) (by decide) rfl rfl (Nat.le_of_ble_eq_true rfl) (fun p e s m args below meth c Q A C0 hN hK hA hret hP hD ls hl => ?_)
  obtain ⟨hx, hb, hml, hown, hts⟩ := id C0
  have hl : lv_has ls 2 [(0, .ref q_t)] := hl
  have hS : va_S A s.heap s.heap [] := va_S.rf
  obtain ⟨H, hHe⟩ : ∃ H, H = s.heap := ⟨_, rfl⟩
  obtain ⟨locs, hLe⟩ : ∃ L : List Loc, L = [] := ⟨_, rfl⟩
  rw [← hLe]
  rw [← hLe] at hS
  have hP : va_P D vwCl [(q_t, .inr (6, [.ref q_t_now, .ref q_t_sights, .ref q_t_pad, .ref q_t_tale, .ref q_t_images])), (q_t_sights, .inr (3, [.int t_sights_count, .ref q_t_sights_hours, .ref q_t_sights_rang]))] H := by rw [hHe]; exact hP
  have hS : va_S A s.heap H locs := by rw [hHe]; exact hS
  suffices hgo : W p l e ({ frames := 0, cells := 0, slots := 0, locals := 0 } : Room) s m args below meth c H locs 0 0 Q (F0 m 0 ls []) by rw [← hHe]; exact hgo
  clear hHe hLe
  refine lv_aload_n hx hb dX6_forget_0 rfl (lv_at hl 0 rfl) ?_
  refine va_get (D := D) (ci := 6) (v := .ref q_t_sights) (C := RX6) (T := TX6) (N := 5) hx hb hts nX6_forget_X6 hown hK hP 0 rfl rfl 1 (by decide) (hts _ mX6_forget_1) (fun _ h9 => h9) rfl dX6_forget_1 ?_
  refine va_get (D := D) (ci := 3) (v := .int t_sights_count) (C := RX3) (T := TX3) (N := 3) hx hb hts nX6_forget_X3 hown hK hP 1 rfl rfl 0 (by decide) (hts _ mX6_forget_2) (fun _ h9 => h9) rfl dX6_forget_4 ?_
  refine lv_istore_n (lv' := [(1, .int t_sights_count), (0, .ref q_t)]) hx hb dX6_forget_7 rfl hl (by decide) rfl (fun ls hl => ?_)
  refine lv_aload_n hx hb dX6_forget_8 rfl (lv_at hl 1 rfl) ?_
  refine va_get (D := D) (ci := 6) (v := .ref q_t_sights) (C := RX6) (T := TX6) (N := 5) hx hb hts nX6_forget_X6 hown hK hP 0 rfl rfl 1 (by decide) (hts _ mX6_forget_1) (fun _ h9 => h9) rfl dX6_forget_9 ?_
  refine lv_iconst (v := 0) hx hb dX6_forget_12 (by decide) ?_
  refine va_put (D := D) (ci := 3) (v := .int 0) (ty := .int) (C := RX3) (T := TX3) (N := 3) hx hb hts nX6_forget_X3 tyX3 tyX3_ok nmX3 hown hK hP hD hS 1 rfl rfl 0 (by decide) (hts _ mX6_forget_2) (fun _ h9 => h9) rfl (by decide +kernel) rfl rfl (Nat.le_of_ble_eq_true rfl) dX6_forget_13 (fun H locs hP hD hS => ?_)
  have hP : va_P D vwCl [(q_t, .inr (6, [.ref q_t_now, .ref q_t_sights, .ref q_t_pad, .ref q_t_tale, .ref q_t_images])), (q_t_sights, .inr (3, [.int 0, .ref q_t_sights_hours, .ref q_t_sights_rang]))] H := hP
  have hD : va_D A [(q_t, .inr (6, [.ref q_t_now, .ref q_t_sights, .ref q_t_pad, .ref q_t_tale, .ref q_t_images])), (q_t_sights, .inr (3, [.int 0, .ref q_t_sights_hours, .ref q_t_sights_rang]))] := hD
  refine lv_iload_n hx hb dX6_forget_16 rfl (lv_at hl 0 rfl) ?_
  exact hret 17 ls H locs t_sights_count 0 dX6_forget_17 hf hP hD hS

/-! X6_rounds -/
theorem mX6_rounds_1 : Cond.fieldLink RX6 19 "OxenKneel" "sights" "LOxenKneel$Sights;" ∈ wsX6_rounds := List.mem_of_getElem? (i := 1) rfl
theorem nX6_rounds_X6 : ∀ w ∈ wsX60, w ∈ wsX6_rounds := fun _ h => List.mem_cons_of_mem _ (List.mem_append_left _ (List.mem_append_right _ h))
def pX6_rounds (t_sights_count : Int32) (t_sights_hours : (Nat → Int32)) (t_sights_rang : (Nat → Int32)) (a1 : Int32) (post : Int32 → Prop) : Prop :=
  (¬ a1 = (-1) → (pX3_fittingRound t_sights_count t_sights_hours t_sights_rang a1 (fun r2 => post r2))) ∧ (a1 = (-1) → (pX3_fittingRounds t_sights_count t_sights_hours t_sights_rang (fun r3 => post r3)))

set_option maxHeartbeats 4000000 in
set_option maxRecDepth 100000 in
theorem kX6_rounds (l : Launch) (D : va_G) (cI cZ cJ cO : ClassId) (q_t q_t_sights q_t_sights_hours q_t_sights_rang q_t_now q_t_pad q_t_tale q_t_images : Nat)  (t_sights_count : Int32) (t_sights_hours : (Nat → Int32)) (t_sights_rang : (Nat → Int32)) (a1 : Int32) (post : Int32 → Prop) (hf : pX6_rounds t_sights_count t_sights_hours t_sights_rang a1 post) :
    Met l yX6_rounds wsX6_rounds ({ frames := 2, cells := 0, slots := 0, locals := 47 } : Room) (va_Pc [.ref q_t, .int a1] (B0 D (tyL cI cZ cJ cO) [(q_t, .inr (6, [.ref q_t_now, .ref q_t_sights, .ref q_t_pad, .ref q_t_tale, .ref q_t_images])), (q_t_sights, .inr (3, [.int t_sights_count, .ref q_t_sights_hours, .ref q_t_sights_rang])), (q_t_sights_hours, .inl (cI, 8, .inl t_sights_hours)), (q_t_sights_rang, .inl (cZ, 8, .inl t_sights_rang))])) (vp_Si post) 0 0 (fun _ => False) := by
  unfold pX6_rounds at hf
  refine xm_0i (own := RX6) (by decide) rfl rfl (Nat.le_of_ble_eq_true rfl) (fun p e s m args below meth c Q C0 hN hK hret hP ls hl => ?_)
  obtain ⟨hx, hb, hml, hown, hts⟩ := id C0
  have hl : lv_has ls 2 [(0, .ref q_t), (1, .int a1)] := hl
  refine lv_iload_n hx hb dX6_rounds_0 rfl (lv_at hl 1 rfl) ?_
  refine lv_iconst (v := (-1)) hx hb dX6_rounds_1 (by decide) ?_
  refine lv_icmp_ne (tgt := 15) hx hb dX6_rounds_2 (by decide) (fun c1 => ?_) (fun c1 => ?_)
  · have hf := hf.1 c1
    refine lv_aload_n hx hb dX6_rounds_15 rfl (lv_at hl 0 rfl) ?_
    refine va_get (D := D) (ci := 6) (v := .ref q_t_sights) (C := RX6) (T := TX6) (N := 5) hx hb hts nX6_rounds_X6 hown hK hP 0 rfl rfl 1 (by decide) (hts _ mX6_rounds_1) (fun _ h9 => h9) rfl dX6_rounds_16 ?_
    refine lv_iload_n hx hb dX6_rounds_19 rfl (lv_at hl 1 rfl) ?_
    refine xs_i (va_runV (As := [.int a1]) (rest := []) ⟨hx, hb, hml, hown, hts⟩ (kX3_fittingRound l D cI cZ cJ cO q_t_sights q_t_sights_hours q_t_sights_rang t_sights_count t_sights_hours t_sights_rang a1 _ hf) (cwV 1 hts gX6_rounds_X3_fittingRound rfl rfl rfl (by decide +kernel) ⟨Nat.le_of_ble_eq_true rfl, Nat.le_of_ble_eq_true rfl⟩) (B0_preV (ci := 3) (q0 := 1) hP rfl rfl (hP.sub (ws' := [(q_t_sights, .inr (3, [.int t_sights_count, .ref q_t_sights_hours, .ref q_t_sights_rang])), (q_t_sights_hours, .inl (cI, 8, .inl t_sights_hours)), (q_t_sights_rang, .inl (cZ, 8, .inl t_sights_rang))]) [1, 2, 3] rfl) hK hN) rfl rfl hl.1 rfl (lv_room (Nat.le_of_ble_eq_true rfl)) dX6_rounds_20 ⟨Nat.zero_le _, Nat.zero_le _⟩) (fun r2 hf => ?_)
    exact hret 23 ls r2 dX6_rounds_23 hf
  · have hf := hf.2 c1
    refine lv_aload_n hx hb dX6_rounds_5 rfl (lv_at hl 0 rfl) ?_
    refine va_get (D := D) (ci := 6) (v := .ref q_t_sights) (C := RX6) (T := TX6) (N := 5) hx hb hts nX6_rounds_X6 hown hK hP 0 rfl rfl 1 (by decide) (hts _ mX6_rounds_1) (fun _ h9 => h9) rfl dX6_rounds_6 ?_
    refine xs_i (va_runV (As := []) (rest := []) ⟨hx, hb, hml, hown, hts⟩ (kX3_fittingRounds l D cI cZ cJ cO q_t_sights q_t_sights_hours q_t_sights_rang t_sights_count t_sights_hours t_sights_rang _ hf) (cwV 0 hts gX6_rounds_X3_fittingRounds rfl rfl rfl (by decide +kernel) ⟨Nat.le_of_ble_eq_true rfl, Nat.le_of_ble_eq_true rfl⟩) (B0_preV (ci := 3) (q0 := 1) hP rfl rfl (hP.sub (ws' := [(q_t_sights, .inr (3, [.int t_sights_count, .ref q_t_sights_hours, .ref q_t_sights_rang])), (q_t_sights_hours, .inl (cI, 8, .inl t_sights_hours)), (q_t_sights_rang, .inl (cZ, 8, .inl t_sights_rang))]) [1, 2, 3] rfl) hK hN) rfl rfl hl.1 rfl (lv_room (Nat.le_of_ble_eq_true rfl)) dX6_rounds_9 ⟨Nat.zero_le _, Nat.zero_le _⟩) (fun r3 hf => ?_)
    refine lv_goto (tgt := 23) hx hb dX6_rounds_12 (by decide) ?_
    exact hret 23 ls r3 dX6_rounds_23 hf

/-! X6_ask -/
theorem mX6_ask_1 : Cond.fieldLink RX6 19 "OxenKneel" "sights" "LOxenKneel$Sights;" ∈ wsX6_ask := List.mem_of_getElem? (i := 1) rfl
theorem mX6_ask_2 : Cond.methodLink RX6 175 Lib.Math.max.name ∈ wsX6_ask := List.mem_of_getElem? (i := 2) rfl
theorem mX6_ask_3 : Cond.static Lib.Math.max.name ∈ wsX6_ask := List.mem_of_getElem? (i := 3) rfl
theorem mX6_ask_4 : Cond.initialized "java/lang/Math" ∈ wsX6_ask := List.mem_of_getElem? (i := 4) rfl
theorem mX6_ask_5 : Cond.code Lib.Math.max.name Lib.Math.max.code 2 (some .int) ∈ wsX6_ask := List.mem_of_getElem? (i := 5) rfl
theorem nX6_ask_X6 : ∀ w ∈ wsX60, w ∈ wsX6_ask := fun _ h => List.mem_cons_of_mem _ (List.mem_append_left _ (List.mem_append_right _ h))
def pX6_ask_b37 (t_sights_count : Int32) (t_sights_hours : (Nat → Int32)) (t_sights_rang : (Nat → Int32)) (a1 : Int32) (post : Int32 → Prop) : Nat → Int32 → Int32 → Int32 → Int32 → Prop
  | 0 => fun _ _ _ _ => False
  | n + 1 => fun x2 x3 x4 x5 => (100 ≤ x5 → ((¬ a1 = 0 → (post x4)) ∧ (a1 = 0 → (post x3)))) ∧ (¬ 100 ≤ x5 → (pX3_roundsRingingAt t_sights_count t_sights_hours t_sights_rang x5 (fun r3 => ∀ v4 : Int32, v4 = (if r3 < (x2 - r3) then (x2 - r3) else r3) → ((x4 ≤ v4 → (∀ v6 : Int32, v6 = x5 + 1 → (pX6_ask_b37 t_sights_count t_sights_hours t_sights_rang a1 post  n x2 x3 x4 v6))) ∧ (¬ x4 ≤ v4 → (∀ v7 : Int32, v7 = x5 + 1 → (pX6_ask_b37 t_sights_count t_sights_hours t_sights_rang a1 post  n x2 x5 v4 v7)))))))

set_option maxHeartbeats 4000000 in
set_option maxRecDepth 100000 in
theorem wX6_ask_b37 {p : Program} {l : Launch} {e : Env} {s : State} {m : MethodId} {args : Array Value} {below : List Frame} {meth : Method} {c : Code} {Q : State → Prop} {D : va_G} {cI cZ cJ cO : ClassId} (C0 : CallFix p m c cX6_ask 8 s args wsX6_ask RX6) (hN : nw s) (hK : va_K D vwCl (tyL cI cZ cJ cO) s) (q_t q_t_sights q_t_sights_hours q_t_sights_rang q_t_now q_t_pad q_t_tale q_t_images : Nat)  (t_sights_count : Int32) (t_sights_hours : (Nat → Int32)) (t_sights_rang : (Nat → Int32)) (a1 : Int32) (post : Int32 → Prop) (hret : h0I p l e ({ frames := 2, cells := 0, slots := 0, locals := 46 } : Room) s m args below meth c cX6_ask Q post) (hP : va_P D vwCl [(q_t, .inr (6, [.ref q_t_now, .ref q_t_sights, .ref q_t_pad, .ref q_t_tale, .ref q_t_images])), (q_t_sights, .inr (3, [.int t_sights_count, .ref q_t_sights_hours, .ref q_t_sights_rang])), (q_t_sights_hours, .inl (cI, 8, .inl t_sights_hours)), (q_t_sights_rang, .inl (cZ, 8, .inl t_sights_rang))] s.heap) :
    ∀ (n : Nat) (x2 : Int32) (x3 : Int32) (x4 : Int32) (x5 : Int32), pX6_ask_b37 t_sights_count t_sights_hours t_sights_rang a1 post n x2 x3 x4 x5 → ∀ ls : Array Slot, lv_has ls 8 [(0, .ref q_t), (1, .int a1), (2, .int x2), (3, .int x3), (4, .int x4), (5, .int x5)] → W p l e ({ frames := 2, cells := 0, slots := 0, locals := 46 } : Room) s m args below meth c s.heap [] 0 0 Q (F0 m 37 ls []) := by
  obtain ⟨hx, hb, hml, hown, hts⟩ := id C0
  intro n
  induction n with
  | zero =>
    intro x2 x3 x4 x5 hf
    exact False.elim hf
  | succ n ih =>
    intro x2 x3 x4 x5 hf ls hl
    rw [pX6_ask_b37] at hf
    refine lv_iload hx hb dX6_ask_37 (lv_at hl 5 rfl) ?_
    refine lv_bipush (v := 100) hx hb dX6_ask_39 (by decide) ?_
    refine lv_icmp_ge (tgt := 86) hx hb dX6_ask_41 (by decide) (fun c1 => ?_) (fun c1 => ?_)
    · have hf := hf.1 c1
      refine lv_iload_n hx hb dX6_ask_86 rfl (lv_at hl 1 rfl) ?_
      refine lv_if_ne (tgt := 94) hx hb dX6_ask_87 (by decide) (fun c2 => ?_) (fun c2 => ?_)
      · have hf := hf.1 c2
        refine lv_iload hx hb dX6_ask_94 (lv_at hl 4 rfl) ?_
        exact hret 96 ls x4 dX6_ask_96 hf
      · have hf := hf.2 c2
        refine lv_iload_n hx hb dX6_ask_90 rfl (lv_at hl 3 rfl) ?_
        refine lv_goto (tgt := 96) hx hb dX6_ask_91 (by decide) ?_
        exact hret 96 ls x3 dX6_ask_96 hf
    · have hf := hf.2 c1
      refine lv_aload_n hx hb dX6_ask_44 rfl (lv_at hl 0 rfl) ?_
      refine va_get (D := D) (ci := 6) (v := .ref q_t_sights) (C := RX6) (T := TX6) (N := 5) hx hb hts nX6_ask_X6 hown hK hP 0 rfl rfl 1 (by decide) (hts _ mX6_ask_1) (fun _ h9 => h9) rfl dX6_ask_45 ?_
      refine lv_iload hx hb dX6_ask_48 (lv_at hl 5 rfl) ?_
      refine xs_i (va_runV (As := [.int x5]) (rest := []) ⟨hx, hb, hml, hown, hts⟩ (kX3_roundsRingingAt l D cI cZ cJ cO q_t_sights q_t_sights_hours q_t_sights_rang t_sights_count t_sights_hours t_sights_rang x5 _ hf) (cwV 1 hts gX6_ask_X3_roundsRingingAt rfl rfl rfl (by decide +kernel) ⟨Nat.le_of_ble_eq_true rfl, Nat.le_of_ble_eq_true rfl⟩) (B0_preV (ci := 3) (q0 := 1) hP rfl rfl (hP.sub (ws' := [(q_t_sights, .inr (3, [.int t_sights_count, .ref q_t_sights_hours, .ref q_t_sights_rang])), (q_t_sights_hours, .inl (cI, 8, .inl t_sights_hours)), (q_t_sights_rang, .inl (cZ, 8, .inl t_sights_rang))]) [1, 2, 3] rfl) hK hN) rfl rfl hl.1 rfl (lv_room (Nat.le_of_ble_eq_true rfl)) dX6_ask_50 ⟨Nat.zero_le _, Nat.zero_le _⟩) (fun r3 hf => ?_)
      refine lv_istore (lv' := [(6, .int r3), (0, .ref q_t), (1, .int a1), (2, .int x2), (3, .int x3), (4, .int x4), (5, .int x5)]) hx hb dX6_ask_53 hl (by decide) rfl (fun ls hl => ?_)
      refine lv_iload hx hb dX6_ask_55 (lv_at hl 0 rfl) ?_
      refine lv_iload_n hx hb dX6_ask_57 rfl (lv_at hl 3 rfl) ?_
      refine lv_iload hx hb dX6_ask_58 (lv_at hl 0 rfl) ?_
      refine lv_isub hx hb dX6_ask_60 ?_
      refine va_mmax hx hb (hml.trans hl.1.symm) hown (hts _ mX6_ask_2) (hts _ mX6_ask_3) (hts _ mX6_ask_4) (hts _ mX6_ask_5) (Nat.le_of_ble_eq_true rfl) (Nat.le_of_ble_eq_true rfl) (Nat.zero_le _) (Nat.zero_le _) dX6_ask_61 ?_
      refine lv_topi (fun v4 ev4 => ?_)
      have hf := hf v4 ev4
      refine lv_istore (lv' := [(7, .int v4), (6, .int r3), (0, .ref q_t), (1, .int a1), (2, .int x2), (3, .int x3), (4, .int x4), (5, .int x5)]) hx hb dX6_ask_64 hl (by decide) rfl (fun ls hl => ?_)
      refine lv_iload hx hb dX6_ask_66 (lv_at hl 0 rfl) ?_
      refine lv_iload hx hb dX6_ask_68 (lv_at hl 6 rfl) ?_
      refine lv_icmp_ge (tgt := 80) hx hb dX6_ask_70 (by decide) (fun c5 => ?_) (fun c5 => ?_)
      · have hf := hf.1 c5
        obtain ⟨v6, ev6⟩ : ∃ y : Int32, y = x5 + 1 := ⟨_, rfl⟩
        have hf := hf v6 ev6
        refine lv_iinc (v := v6) (lv' := [(5, .int v6), (7, .int v4), (6, .int r3), (0, .ref q_t), (1, .int a1), (2, .int x2), (3, .int x3), (4, .int x4)]) hx hb dX6_ask_80 hl (k := 7) rfl (by rw [ev6]; rfl) (by decide) rfl (fun ls hl => ?_)
        refine lv_goto (tgt := 37) hx hb dX6_ask_83 (by decide) ?_
        exact ih x2 x3 x4 v6 hf ls (lv_sub hl [3, 4, 5, 6, 7, 0] rfl)
      · have hf := hf.2 c5
        refine lv_iload hx hb dX6_ask_73 (lv_at hl 0 rfl) ?_
        refine lv_istore (lv' := [(4, .int v4), (7, .int v4), (6, .int r3), (0, .ref q_t), (1, .int a1), (2, .int x2), (3, .int x3), (5, .int x5)]) hx hb dX6_ask_75 hl (by decide) rfl (fun ls hl => ?_)
        refine lv_iload hx hb dX6_ask_77 (lv_at hl 7 rfl) ?_
        refine lv_istore_n (lv' := [(3, .int x5), (4, .int v4), (7, .int v4), (6, .int r3), (0, .ref q_t), (1, .int a1), (2, .int x2), (5, .int x5)]) hx hb dX6_ask_79 rfl hl (by decide) rfl (fun ls hl => ?_)
        obtain ⟨v7, ev7⟩ : ∃ y : Int32, y = x5 + 1 := ⟨_, rfl⟩
        have hf := hf v7 ev7
        refine lv_iinc (v := v7) (lv' := [(5, .int v7), (3, .int x5), (4, .int v4), (7, .int v4), (6, .int r3), (0, .ref q_t), (1, .int a1), (2, .int x2)]) hx hb dX6_ask_80 hl (k := 7) rfl (by rw [ev7]; rfl) (by decide) rfl (fun ls hl => ?_)
        refine lv_goto (tgt := 37) hx hb dX6_ask_83 (by decide) ?_
        exact ih x2 x5 v4 v7 hf ls (lv_sub hl [5, 6, 7, 1, 2, 0] rfl)

def pX6_ask (t_sights_count : Int32) (t_sights_hours : (Nat → Int32)) (t_sights_rang : (Nat → Int32)) (a1 : Int32) (post : Int32 → Prop) : Prop :=
  pX6_isIn a1 0 1 (fun r1 => (¬ r1 = 0 → (pX3_fittingRounds t_sights_count t_sights_hours t_sights_rang (fun r3 => (¬ r3 = 0 → (∀ v5 : Int32, v5 = (r3 + 1) → (∃ n1, pX6_ask_b37 t_sights_count t_sights_hours t_sights_rang a1 post  n1 r3 0 v5 0))) ∧ (r3 = 0 → (post (-6)))))) ∧ (r1 = 0 → (post (-2))))

set_option maxHeartbeats 4000000 in
set_option maxRecDepth 100000 in
theorem kX6_ask (l : Launch) (D : va_G) (cI cZ cJ cO : ClassId) (q_t q_t_sights q_t_sights_hours q_t_sights_rang q_t_now q_t_pad q_t_tale q_t_images : Nat)  (t_sights_count : Int32) (t_sights_hours : (Nat → Int32)) (t_sights_rang : (Nat → Int32)) (a1 : Int32) (post : Int32 → Prop) (hf : pX6_ask t_sights_count t_sights_hours t_sights_rang a1 post) :
    Met l yX6_ask wsX6_ask ({ frames := 2, cells := 0, slots := 0, locals := 46 } : Room) (va_Pc [.ref q_t, .int a1] (B0 D (tyL cI cZ cJ cO) [(q_t, .inr (6, [.ref q_t_now, .ref q_t_sights, .ref q_t_pad, .ref q_t_tale, .ref q_t_images])), (q_t_sights, .inr (3, [.int t_sights_count, .ref q_t_sights_hours, .ref q_t_sights_rang])), (q_t_sights_hours, .inl (cI, 8, .inl t_sights_hours)), (q_t_sights_rang, .inl (cZ, 8, .inl t_sights_rang))])) (vp_Si post) 0 0 (fun _ => False) := by
  unfold pX6_ask at hf
  refine xm_0i (own := RX6) (by decide) rfl rfl (Nat.le_of_ble_eq_true rfl) (fun p e s m args below meth c Q C0 hN hK hret hP ls hl => ?_)
  obtain ⟨hx, hb, hml, hown, hts⟩ := id C0
  have hl : lv_has ls 8 [(0, .ref q_t), (1, .int a1)] := hl
  refine lv_iload_n hx hb dX6_ask_0 rfl (lv_at hl 1 rfl) ?_
  refine lv_iconst (v := 0) hx hb dX6_ask_1 (by decide) ?_
  refine lv_iconst (v := 1) hx hb dX6_ask_2 (by decide) ?_
  refine xs_i (va_runS (As := [.int a1, .int 0, .int 1]) (rest := []) ⟨hx, hb, hml, hown, hts⟩ (kX6_isIn l D cI cZ cJ cO a1 0 1 _ hf) (va_cwS 3 hts gX6_ask_X6_isIn rfl rfl rfl (by decide +kernel) ⟨Nat.le_of_ble_eq_true rfl, Nat.le_of_ble_eq_true rfl⟩) (B0_pre (hP.sub (ws' := []) [] rfl) hK hN) rfl rfl hl.1 rfl (lv_room (Nat.le_of_ble_eq_true rfl)) dX6_ask_3 ⟨Nat.zero_le _, Nat.zero_le _⟩) (fun r1 hf => ?_)
  refine lv_if_ne (tgt := 12) hx hb dX6_ask_6 (by decide) (fun c2 => ?_) (fun c2 => ?_)
  · have hf := hf.1 c2
    refine lv_aload_n hx hb dX6_ask_12 rfl (lv_at hl 0 rfl) ?_
    refine va_get (D := D) (ci := 6) (v := .ref q_t_sights) (C := RX6) (T := TX6) (N := 5) hx hb hts nX6_ask_X6 hown hK hP 0 rfl rfl 1 (by decide) (hts _ mX6_ask_1) (fun _ h9 => h9) rfl dX6_ask_13 ?_
    refine xs_i (va_runV (As := []) (rest := []) ⟨hx, hb, hml, hown, hts⟩ (kX3_fittingRounds l D cI cZ cJ cO q_t_sights q_t_sights_hours q_t_sights_rang t_sights_count t_sights_hours t_sights_rang _ hf) (cwV 0 hts gX6_ask_X3_fittingRounds rfl rfl rfl (by decide +kernel) ⟨Nat.le_of_ble_eq_true rfl, Nat.le_of_ble_eq_true rfl⟩) (B0_preV (ci := 3) (q0 := 1) hP rfl rfl (hP.sub (ws' := [(q_t_sights, .inr (3, [.int t_sights_count, .ref q_t_sights_hours, .ref q_t_sights_rang])), (q_t_sights_hours, .inl (cI, 8, .inl t_sights_hours)), (q_t_sights_rang, .inl (cZ, 8, .inl t_sights_rang))]) [1, 2, 3] rfl) hK hN) rfl rfl hl.1 rfl (lv_room (Nat.le_of_ble_eq_true rfl)) dX6_ask_16 ⟨Nat.zero_le _, Nat.zero_le _⟩) (fun r3 hf => ?_)
    refine lv_istore_n (lv' := [(2, .int r3), (0, .ref q_t), (1, .int a1)]) hx hb dX6_ask_19 rfl hl (by decide) rfl (fun ls hl => ?_)
    refine lv_iload_n hx hb dX6_ask_20 rfl (lv_at hl 0 rfl) ?_
    refine lv_if_ne (tgt := 27) hx hb dX6_ask_21 (by decide) (fun c4 => ?_) (fun c4 => ?_)
    · have hf := hf.1 c4
      refine lv_iconst (v := 0) hx hb dX6_ask_27 (by decide) ?_
      refine lv_istore_n (lv' := [(3, .int 0), (2, .int r3), (0, .ref q_t), (1, .int a1)]) hx hb dX6_ask_28 rfl hl (by decide) rfl (fun ls hl => ?_)
      refine lv_iload_n hx hb dX6_ask_29 rfl (lv_at hl 1 rfl) ?_
      refine lv_iconst (v := 1) hx hb dX6_ask_30 (by decide) ?_
      refine lv_iadd hx hb dX6_ask_31 ?_
      refine lv_topi (fun v5 ev5 => ?_)
      have hf := hf v5 ev5
      refine lv_istore (lv' := [(4, .int v5), (3, .int 0), (2, .int r3), (0, .ref q_t), (1, .int a1)]) hx hb dX6_ask_32 hl (by decide) rfl (fun ls hl => ?_)
      refine lv_iconst (v := 0) hx hb dX6_ask_34 (by decide) ?_
      refine lv_istore (lv' := [(5, .int 0), (4, .int v5), (3, .int 0), (2, .int r3), (0, .ref q_t), (1, .int a1)]) hx hb dX6_ask_35 hl (by decide) rfl (fun ls hl => ?_)
      obtain ⟨n1, hf⟩ := hf
      exact wX6_ask_b37 C0 hN hK q_t q_t_sights q_t_sights_hours q_t_sights_rang q_t_now q_t_pad q_t_tale q_t_images t_sights_count t_sights_hours t_sights_rang a1 post hret hP   n1 r3 0 v5 0 hf ls (lv_sub hl [4, 5, 3, 2, 1, 0] rfl)
    · have hf := hf.2 c4
      refine lv_bipush (v := (-6)) hx hb dX6_ask_24 (by decide) ?_
      exact hret 26 ls (-6) dX6_ask_26 hf
  · have hf := hf.2 c2
    refine lv_bipush (v := (-2)) hx hb dX6_ask_9 (by decide) ?_
    exact hret 11 ls (-2) dX6_ask_11 hf

/-! X6_canWin -/

def pX6_canWin_b31 (a1 : Int32) (post : Int32 → Prop) (k12 : Int32 → Int32 → Prop) (x2 : Int32) (s0 : Int32) : Prop :=
  ∀ v1 : Int32, v1 = (x2 / 2) → (k12 s0 v1)

set_option maxHeartbeats 4000000 in
set_option maxRecDepth 100000 in
theorem wX6_canWin_b31 {p : Program} {l : Launch} {e : Env} {s : State} {m : MethodId} {args : Array Value} {below : List Frame} {meth : Method} {c : Code} {Q : State → Prop} {D : va_G} {cI cZ cJ cO : ClassId} (C0 : CallFix p m c cX6_canWin 3 s args wsX6_canWin RX6) (hN : nw s) (hK : va_K D vwCl (tyL cI cZ cJ cO) s)   (a1 : Int32) (post : Int32 → Prop) (hret : h0Z p l e ({ frames := 0, cells := 0, slots := 0, locals := 0 } : Room) s m args below meth c cX6_canWin Q post) (hP : va_P D vwCl [] s.heap) (k12 : Int32 → Int32 → Prop) (hk12 : ∀ (x1 : Int32) (x2 : Int32), k12 x1 x2 → ∀ ls : Array Slot, lv_has ls 3 [(1, .int x1), (2, .int x2)] → W p l e ({ frames := 0, cells := 0, slots := 0, locals := 0 } : Room) s m args below meth c s.heap [] 0 0 Q (F0 m 12 ls [])) :
    ∀ (x2 : Int32) (s0 : Int32), pX6_canWin_b31 a1 post k12 x2 s0 → ∀ ls : Array Slot, lv_has ls 3 [(2, .int x2)] → W p l e ({ frames := 0, cells := 0, slots := 0, locals := 0 } : Room) s m args below meth c s.heap [] 0 0 Q (F0 m 31 ls [.int s0]) := by
  obtain ⟨hx, hb, hml, hown, hts⟩ := id C0
  intro x2 s0 hf ls hl
  unfold pX6_canWin_b31 at hf
  refine lv_istore_n (lv' := [(1, .int s0), (2, .int x2)]) hx hb dX6_canWin_31 rfl hl (by decide) rfl (fun ls hl => ?_)
  refine lv_iload_n hx hb dX6_canWin_32 rfl (lv_at hl 1 rfl) ?_
  refine lv_iconst (v := 2) hx hb dX6_canWin_33 (by decide) ?_
  refine lv_idiv hx hb dX6_canWin_34 (by decide) ?_
  refine lv_topi (fun v1 ev1 => ?_)
  have hf := hf v1 ev1
  refine lv_istore_n (lv' := [(2, .int v1), (1, .int s0)]) hx hb dX6_canWin_35 rfl hl (by decide) rfl (fun ls hl => ?_)
  refine lv_goto (tgt := 12) hx hb dX6_canWin_36 (by decide) ?_
  exact hk12 s0 v1 hf ls (lv_sub hl [1, 0] rfl)

def pX6_canWin_b12 (a1 : Int32) (post : Int32 → Prop) : Nat → Int32 → Int32 → Prop
  | 0 => fun _ _ => False
  | n + 1 => fun x1 x2 => (x2 ≤ 0 → (zb x1 ∧ post x1)) ∧ (¬ x2 ≤ 0 → ((¬ (x2 - x2 / 2 * 2) = 0 → (zb x1 ∧ post x1)) ∧ ((x2 - x2 / 2 * 2) = 0 → ((¬ x1 = 0 → (pX6_canWin_b31 a1 post (fun x1 x2 => pX6_canWin_b12 a1 post  n x1 x2) x2 0)) ∧ (x1 = 0 → (pX6_canWin_b31 a1 post (fun x1 x2 => pX6_canWin_b12 a1 post  n x1 x2) x2 1))))))

set_option maxHeartbeats 4000000 in
set_option maxRecDepth 100000 in
theorem wX6_canWin_b12 {p : Program} {l : Launch} {e : Env} {s : State} {m : MethodId} {args : Array Value} {below : List Frame} {meth : Method} {c : Code} {Q : State → Prop} {D : va_G} {cI cZ cJ cO : ClassId} (C0 : CallFix p m c cX6_canWin 3 s args wsX6_canWin RX6) (hN : nw s) (hK : va_K D vwCl (tyL cI cZ cJ cO) s)   (a1 : Int32) (post : Int32 → Prop) (hret : h0Z p l e ({ frames := 0, cells := 0, slots := 0, locals := 0 } : Room) s m args below meth c cX6_canWin Q post) (hP : va_P D vwCl [] s.heap) :
    ∀ (n : Nat) (x1 : Int32) (x2 : Int32), pX6_canWin_b12 a1 post n x1 x2 → ∀ ls : Array Slot, lv_has ls 3 [(1, .int x1), (2, .int x2)] → W p l e ({ frames := 0, cells := 0, slots := 0, locals := 0 } : Room) s m args below meth c s.heap [] 0 0 Q (F0 m 12 ls []) := by
  obtain ⟨hx, hb, hml, hown, hts⟩ := id C0
  intro n
  induction n with
  | zero =>
    intro x1 x2 hf
    exact False.elim hf
  | succ n ih =>
    intro x1 x2 hf ls hl
    rw [pX6_canWin_b12] at hf
    refine lv_iload_n hx hb dX6_canWin_12 rfl (lv_at hl 1 rfl) ?_
    refine lv_if_le (tgt := 39) hx hb dX6_canWin_13 (by decide) (fun c1 => ?_) (fun c1 => ?_)
    · have hf := hf.1 c1
      refine lv_iload_n hx hb dX6_canWin_39 rfl (lv_at hl 0 rfl) ?_
      exact hret 40 ls x1 dX6_canWin_40 hf.1 hf.2
    · have hf := hf.2 c1
      refine lv_iload_n hx hb dX6_canWin_16 rfl (lv_at hl 1 rfl) ?_
      refine lv_iconst (v := 2) hx hb dX6_canWin_17 (by decide) ?_
      refine lv_irem hx hb dX6_canWin_18 (by decide) ?_
      refine lv_if_ne (tgt := 39) hx hb dX6_canWin_19 (by decide) (fun c2 => ?_) (fun c2 => ?_)
      · have hf := hf.1 c2
        refine lv_iload_n hx hb dX6_canWin_39 rfl (lv_at hl 0 rfl) ?_
        exact hret 40 ls x1 dX6_canWin_40 hf.1 hf.2
      · have hf := hf.2 c2
        refine lv_iload_n hx hb dX6_canWin_22 rfl (lv_at hl 0 rfl) ?_
        refine lv_if_ne (tgt := 30) hx hb dX6_canWin_23 (by decide) (fun c3 => ?_) (fun c3 => ?_)
        · have hf := hf.1 c3
          refine lv_iconst (v := 0) hx hb dX6_canWin_30 (by decide) ?_
          exact wX6_canWin_b31 C0 hN hK a1 post hret hP _ ih x2 0 hf ls (lv_sub hl [1] rfl)
        · have hf := hf.2 c3
          refine lv_iconst (v := 1) hx hb dX6_canWin_26 (by decide) ?_
          refine lv_goto (tgt := 31) hx hb dX6_canWin_27 (by decide) ?_
          exact wX6_canWin_b31 C0 hN hK a1 post hret hP _ ih x2 1 hf ls (lv_sub hl [1] rfl)

def pX6_canWin  (a1 : Int32) (post : Int32 → Prop) : Prop :=
  (a1 ≤ 0 → (∃ n1, pX6_canWin_b12 a1 post  n1 0 a1)) ∧ (¬ a1 ≤ 0 → (∃ n1, pX6_canWin_b12 a1 post  n1 1 a1))

set_option maxHeartbeats 4000000 in
set_option maxRecDepth 100000 in
theorem kX6_canWin (l : Launch) (D : va_G) (cI cZ cJ cO : ClassId)    (a1 : Int32) (post : Int32 → Prop) (hf : pX6_canWin a1 post) :
    Met l yX6_canWin wsX6_canWin ({ frames := 0, cells := 0, slots := 0, locals := 0 } : Room) (va_Pc [.int a1] (B0 D (tyL cI cZ cJ cO) [])) (vp_Si post) 0 0 (fun _ => False) := by
  unfold pX6_canWin at hf
  refine xm_0z (own := RX6) (by decide) rfl rfl (Nat.le_of_ble_eq_true rfl) (fun p e s m args below meth c Q C0 hN hK hret hP ls hl => ?_)
  obtain ⟨hx, hb, hml, hown, hts⟩ := id C0
  have hl : lv_has ls 3 [(0, .int a1)] := hl
  refine lv_iload_n hx hb dX6_canWin_0 rfl (lv_at hl 0 rfl) ?_
  refine lv_if_le (tgt := 8) hx hb dX6_canWin_1 (by decide) (fun c1 => ?_) (fun c1 => ?_)
  · have hf := hf.1 c1
    refine lv_iconst (v := 0) hx hb dX6_canWin_8 (by decide) ?_
    refine lv_istore_n (lv' := [(1, .int 0), (0, .int a1)]) hx hb dX6_canWin_9 rfl hl (by decide) rfl (fun ls hl => ?_)
    refine lv_iload_n hx hb dX6_canWin_10 rfl (lv_at hl 1 rfl) ?_
    refine lv_istore_n (lv' := [(2, .int a1), (1, .int 0), (0, .int a1)]) hx hb dX6_canWin_11 rfl hl (by decide) rfl (fun ls hl => ?_)
    obtain ⟨n1, hf⟩ := hf
    exact wX6_canWin_b12 C0 hN hK a1 post hret hP   n1 0 a1 hf ls (lv_sub hl [1, 0] rfl)
  · have hf := hf.2 c1
    refine lv_iconst (v := 1) hx hb dX6_canWin_4 (by decide) ?_
    refine lv_goto (tgt := 9) hx hb dX6_canWin_5 (by decide) ?_
    refine lv_istore_n (lv' := [(1, .int 1), (0, .int a1)]) hx hb dX6_canWin_9 rfl hl (by decide) rfl (fun ls hl => ?_)
    refine lv_iload_n hx hb dX6_canWin_10 rfl (lv_at hl 1 rfl) ?_
    refine lv_istore_n (lv' := [(2, .int a1), (1, .int 1), (0, .int a1)]) hx hb dX6_canWin_11 rfl hl (by decide) rfl (fun ls hl => ?_)
    obtain ⟨n1, hf⟩ := hf
    exact wX6_canWin_b12 C0 hN hK a1 post hret hP   n1 1 a1 hf ls (lv_sub hl [1, 0] rfl)

/-! X6_halves -/

def pX6_halves  (a1 : Int32) (a2 : Int32) (post : Int32 → Prop) : Prop :=
  pX6_isIn a1 0 9999 (fun r1 => (r1 = 0 → (post (-2))) ∧ (¬ r1 = 0 → (pX6_isIn a2 0 1 (fun r3 => (¬ r3 = 0 → (pX6_canWin a1 (fun r5 => (¬ a2 = 0 → ((¬ r5 = 0 → (pX6_canWin (a1 / 2) (fun r8 => (r8 = 0 → (post (a1 / 2))) ∧ (¬ r8 = 0 → (post (a1 - 1)))))) ∧ (r5 = 0 → (post (-6))))) ∧ (a2 = 0 → ((r5 = 0 → (post 0)) ∧ (¬ r5 = 0 → (post 1))))))) ∧ (r3 = 0 → (post (-2)))))))

set_option maxHeartbeats 4000000 in
set_option maxRecDepth 100000 in
theorem kX6_halves (l : Launch) (D : va_G) (cI cZ cJ cO : ClassId) (q_t : Nat)   (a1 : Int32) (a2 : Int32) (post : Int32 → Prop) (hf : pX6_halves a1 a2 post) :
    Met l yX6_halves wsX6_halves ({ frames := 1, cells := 0, slots := 0, locals := 22 } : Room) (va_Pc [.ref q_t, .int a1, .int a2] (B0 D (tyL cI cZ cJ cO) [])) (vp_Si post) 0 0 (fun _ => False) := by
  unfold pX6_halves at hf
  refine xm_0i (own := RX6) (by decide) rfl rfl (Nat.le_of_ble_eq_true rfl) (fun p e s m args below meth c Q C0 hN hK hret hP ls hl => ?_)
  obtain ⟨hx, hb, hml, hown, hts⟩ := id C0
  have hl : lv_has ls 4 [(0, .ref q_t), (1, .int a1), (2, .int a2)] := hl
  refine lv_iload_n hx hb dX6_halves_0 rfl (lv_at hl 1 rfl) ?_
  refine lv_iconst (v := 0) hx hb dX6_halves_1 (by decide) ?_
  refine lv_sipush (v := 9999) hx hb dX6_halves_2 (by decide) ?_
  refine xs_i (va_runS (As := [.int a1, .int 0, .int 9999]) (rest := []) ⟨hx, hb, hml, hown, hts⟩ (kX6_isIn l D cI cZ cJ cO a1 0 9999 _ hf) (va_cwS 3 hts gX6_halves_X6_isIn rfl rfl rfl (by decide +kernel) ⟨Nat.le_of_ble_eq_true rfl, Nat.le_of_ble_eq_true rfl⟩) (B0_pre (hP.sub (ws' := []) [] rfl) hK hN) rfl rfl hl.1 rfl (lv_room (Nat.le_of_ble_eq_true rfl)) dX6_halves_5 ⟨Nat.zero_le _, Nat.zero_le _⟩) (fun r1 hf => ?_)
  refine lv_if_eq (tgt := 20) hx hb dX6_halves_8 (by decide) (fun c2 => ?_) (fun c2 => ?_)
  · have hf := hf.1 c2
    refine lv_bipush (v := (-2)) hx hb dX6_halves_20 (by decide) ?_
    exact hret 22 ls (-2) dX6_halves_22 hf
  · have hf := hf.2 c2
    refine lv_iload_n hx hb dX6_halves_11 rfl (lv_at hl 2 rfl) ?_
    refine lv_iconst (v := 0) hx hb dX6_halves_12 (by decide) ?_
    refine lv_iconst (v := 1) hx hb dX6_halves_13 (by decide) ?_
    refine xs_i (va_runS (As := [.int a2, .int 0, .int 1]) (rest := []) ⟨hx, hb, hml, hown, hts⟩ (kX6_isIn l D cI cZ cJ cO a2 0 1 _ hf) (va_cwS 3 hts gX6_halves_X6_isIn rfl rfl rfl (by decide +kernel) ⟨Nat.le_of_ble_eq_true rfl, Nat.le_of_ble_eq_true rfl⟩) (B0_pre (hP.sub (ws' := []) [] rfl) hK hN) rfl rfl hl.1 rfl (lv_room (Nat.le_of_ble_eq_true rfl)) dX6_halves_14 ⟨Nat.zero_le _, Nat.zero_le _⟩) (fun r3 hf => ?_)
    refine lv_if_ne (tgt := 23) hx hb dX6_halves_17 (by decide) (fun c4 => ?_) (fun c4 => ?_)
    · have hf := hf.1 c4
      refine lv_iload_n hx hb dX6_halves_23 rfl (lv_at hl 1 rfl) ?_
      refine xs_i (va_runS (As := [.int a1]) (rest := []) ⟨hx, hb, hml, hown, hts⟩ (kX6_canWin l D cI cZ cJ cO a1 _ hf) (va_cwS 1 hts gX6_halves_X6_canWin rfl rfl rfl (by decide +kernel) ⟨Nat.le_of_ble_eq_true rfl, Nat.le_of_ble_eq_true rfl⟩) (B0_pre (hP.sub (ws' := []) [] rfl) hK hN) rfl rfl hl.1 rfl (lv_room (Nat.le_of_ble_eq_true rfl)) dX6_halves_24 ⟨Nat.zero_le _, Nat.zero_le _⟩) (fun r5 hf => ?_)
      refine lv_istore_n (lv' := [(3, .int r5), (0, .ref q_t), (1, .int a1), (2, .int a2)]) hx hb dX6_halves_27 rfl hl (by decide) rfl (fun ls hl => ?_)
      refine lv_iload_n hx hb dX6_halves_28 rfl (lv_at hl 3 rfl) ?_
      refine lv_if_ne (tgt := 42) hx hb dX6_halves_29 (by decide) (fun c6 => ?_) (fun c6 => ?_)
      · have hf := hf.1 c6
        refine lv_iload_n hx hb dX6_halves_42 rfl (lv_at hl 0 rfl) ?_
        refine lv_if_ne (tgt := 49) hx hb dX6_halves_43 (by decide) (fun c7 => ?_) (fun c7 => ?_)
        · have hf := hf.1 c7
          refine lv_iload_n hx hb dX6_halves_49 rfl (lv_at hl 2 rfl) ?_
          refine lv_iconst (v := 2) hx hb dX6_halves_50 (by decide) ?_
          refine lv_idiv hx hb dX6_halves_51 (by decide) ?_
          refine xs_i (va_runS (As := [.int (a1 / 2)]) (rest := []) ⟨hx, hb, hml, hown, hts⟩ (kX6_canWin l D cI cZ cJ cO (a1 / 2) _ hf) (va_cwS 1 hts gX6_halves_X6_canWin rfl rfl rfl (by decide +kernel) ⟨Nat.le_of_ble_eq_true rfl, Nat.le_of_ble_eq_true rfl⟩) (B0_pre (hP.sub (ws' := []) [] rfl) hK hN) rfl rfl hl.1 rfl (lv_room (Nat.le_of_ble_eq_true rfl)) dX6_halves_52 ⟨Nat.zero_le _, Nat.zero_le _⟩) (fun r8 hf => ?_)
          refine lv_if_eq (tgt := 64) hx hb dX6_halves_55 (by decide) (fun c9 => ?_) (fun c9 => ?_)
          · have hf := hf.1 c9
            refine lv_iload_n hx hb dX6_halves_64 rfl (lv_at hl 2 rfl) ?_
            refine lv_iconst (v := 2) hx hb dX6_halves_65 (by decide) ?_
            refine lv_idiv hx hb dX6_halves_66 (by decide) ?_
            exact hret 67 ls (a1 / 2) dX6_halves_67 hf
          · have hf := hf.2 c9
            refine lv_iload_n hx hb dX6_halves_58 rfl (lv_at hl 2 rfl) ?_
            refine lv_iconst (v := 1) hx hb dX6_halves_59 (by decide) ?_
            refine lv_isub hx hb dX6_halves_60 ?_
            refine lv_goto (tgt := 67) hx hb dX6_halves_61 (by decide) ?_
            exact hret 67 ls (a1 - 1) dX6_halves_67 hf
        · have hf := hf.2 c7
          refine lv_bipush (v := (-6)) hx hb dX6_halves_46 (by decide) ?_
          exact hret 48 ls (-6) dX6_halves_48 hf
      · have hf := hf.2 c6
        refine lv_iload_n hx hb dX6_halves_32 rfl (lv_at hl 0 rfl) ?_
        refine lv_if_eq (tgt := 40) hx hb dX6_halves_33 (by decide) (fun c10 => ?_) (fun c10 => ?_)
        · have hf := hf.1 c10
          refine lv_iconst (v := 0) hx hb dX6_halves_40 (by decide) ?_
          exact hret 41 ls 0 dX6_halves_41 hf
        · have hf := hf.2 c10
          refine lv_iconst (v := 1) hx hb dX6_halves_36 (by decide) ?_
          refine lv_goto (tgt := 41) hx hb dX6_halves_37 (by decide) ?_
          exact hret 41 ls 1 dX6_halves_41 hf
    · have hf := hf.2 c4
      refine lv_bipush (v := (-2)) hx hb dX6_halves_20 (by decide) ?_
      exact hret 22 ls (-2) dX6_halves_22 hf

/-! X6_choices -/

def pX6_choices_b5 (a1 : Int32) (a2 : Int32) (post : Int64 → Prop) : Nat → Int64 → Int32 → Prop
  | 0 => fun _ _ => False
  | n + 1 => fun x2 x4 => (a2 < x4 → (post x2)) ∧ (¬ a2 < x4 → (¬ (x4).toInt64 = 0 ∧ (∀ v3 : Int64, v3 = ((x2 * (((a1 - a2) + x4)).toInt64) / (x4).toInt64) → (∀ v4 : Int32, v4 = x4 + 1 → (pX6_choices_b5 a1 a2 post  n v3 v4)))))

set_option maxHeartbeats 4000000 in
set_option maxRecDepth 100000 in
theorem wX6_choices_b5 {p : Program} {l : Launch} {e : Env} {s : State} {m : MethodId} {args : Array Value} {below : List Frame} {meth : Method} {c : Code} {Q : State → Prop} {D : va_G} {cI cZ cJ cO : ClassId} (C0 : CallFix p m c cX6_choices 5 s args wsX6_choices RX6) (hN : nw s) (hK : va_K D vwCl (tyL cI cZ cJ cO) s)   (a1 : Int32) (a2 : Int32) (post : Int64 → Prop) (hret : h0L p l e ({ frames := 0, cells := 0, slots := 0, locals := 0 } : Room) s m args below meth c cX6_choices Q post) (hP : va_P D vwCl [] s.heap) :
    ∀ (n : Nat) (x2 : Int64) (x4 : Int32), pX6_choices_b5 a1 a2 post n x2 x4 → ∀ ls : Array Slot, lv_has ls 5 [(0, .int a1), (1, .int a2), (2, .long x2), (4, .int x4)] → W p l e ({ frames := 0, cells := 0, slots := 0, locals := 0 } : Room) s m args below meth c s.heap [] 0 0 Q (F0 m 5 ls []) := by
  obtain ⟨hx, hb, hml, hown, hts⟩ := id C0
  intro n
  induction n with
  | zero =>
    intro x2 x4 hf
    exact False.elim hf
  | succ n ih =>
    intro x2 x4 hf ls hl
    rw [pX6_choices_b5] at hf
    refine lv_iload hx hb dX6_choices_5 (lv_at hl 3 rfl) ?_
    refine lv_iload_n hx hb dX6_choices_7 rfl (lv_at hl 1 rfl) ?_
    refine lv_icmp_gt (tgt := 31) hx hb dX6_choices_8 (by decide) (fun c1 => ?_) (fun c1 => ?_)
    · have hf := hf.1 c1
      refine lv_lload_n hx hb dX6_choices_31 rfl (lv_at hl 2 rfl) ?_
      exact hret 32 ls x2 dX6_choices_32 hf
    · have hf := hf.2 c1
      refine lv_lload_n hx hb dX6_choices_11 rfl (lv_at hl 2 rfl) ?_
      refine lv_iload_n hx hb dX6_choices_12 rfl (lv_at hl 0 rfl) ?_
      refine lv_iload_n hx hb dX6_choices_13 rfl (lv_at hl 1 rfl) ?_
      refine lv_isub hx hb dX6_choices_14 ?_
      refine lv_iload hx hb dX6_choices_15 (lv_at hl 3 rfl) ?_
      refine lv_iadd hx hb dX6_choices_17 ?_
      refine lv_i2l hx hb dX6_choices_18 rfl ?_
      refine lv_lmul hx hb dX6_choices_19 ?_
      refine lv_iload hx hb dX6_choices_20 (lv_at hl 3 rfl) ?_
      refine lv_i2l hx hb dX6_choices_22 rfl ?_
      have g2 := hf.1
      have hf := hf.2
      refine lv_ldiv hx hb dX6_choices_23 g2 ?_
      refine lv_topl (fun v3 ev3 => ?_)
      have hf := hf v3 ev3
      refine lv_lstore_n (lv' := [(2, .long v3), (0, .int a1), (1, .int a2), (4, .int x4)]) hx hb dX6_choices_24 rfl hl (by decide) rfl (fun ls hl => ?_)
      obtain ⟨v4, ev4⟩ : ∃ y : Int32, y = x4 + 1 := ⟨_, rfl⟩
      have hf := hf v4 ev4
      refine lv_iinc (v := v4) (lv' := [(4, .int v4), (2, .long v3), (0, .int a1), (1, .int a2)]) hx hb dX6_choices_25 hl (k := 3) rfl (by rw [ev4]; rfl) (by decide) rfl (fun ls hl => ?_)
      refine lv_goto (tgt := 5) hx hb dX6_choices_28 (by decide) ?_
      exact ih v3 v4 hf ls (lv_sub hl [2, 3, 1, 0] rfl)

def pX6_choices  (a1 : Int32) (a2 : Int32) (post : Int64 → Prop) : Prop :=
  ∃ n1, pX6_choices_b5 a1 a2 post  n1 1 1

set_option maxHeartbeats 4000000 in
set_option maxRecDepth 100000 in
theorem kX6_choices (l : Launch) (D : va_G) (cI cZ cJ cO : ClassId)    (a1 : Int32) (a2 : Int32) (post : Int64 → Prop) (hf : pX6_choices a1 a2 post) :
    Met l yX6_choices wsX6_choices ({ frames := 0, cells := 0, slots := 0, locals := 0 } : Room) (va_Pc [.int a1, .int a2] (B0 D (tyL cI cZ cJ cO) [])) (vp_Sl post) 0 0 (fun _ => False) := by
  unfold pX6_choices at hf
  refine xm_0l (own := RX6) (by decide) rfl rfl (Nat.le_of_ble_eq_true rfl) (fun p e s m args below meth c Q C0 hN hK hret hP ls hl => ?_)
  obtain ⟨hx, hb, hml, hown, hts⟩ := id C0
  have hl : lv_has ls 5 [(0, .int a1), (1, .int a2)] := hl
  refine lv_lconst (v := 1) hx hb dX6_choices_0 (by decide) ?_
  refine lv_lstore_n (lv' := [(2, .long 1), (0, .int a1), (1, .int a2)]) hx hb dX6_choices_1 rfl hl (by decide) rfl (fun ls hl => ?_)
  refine lv_iconst (v := 1) hx hb dX6_choices_2 (by decide) ?_
  refine lv_istore (lv' := [(4, .int 1), (2, .long 1), (0, .int a1), (1, .int a2)]) hx hb dX6_choices_3 hl (by decide) rfl (fun ls hl => ?_)
  obtain ⟨n1, hf⟩ := hf
  exact wX6_choices_b5 C0 hN hK a1 a2 post hret hP   n1 1 1 hf ls (lv_sub hl [2, 3, 1, 0] rfl)

/-! X6_power -/

def pX6_power_b5 (a1 : Int32) (a2 : Int32) (post : Int64 → Prop) : Nat → Int64 → Int32 → Prop
  | 0 => fun _ _ => False
  | n + 1 => fun x2 x4 => (a2 ≤ x4 → (post x2)) ∧ (¬ a2 ≤ x4 → (∀ v2 : Int64, v2 = (x2 * (a1).toInt64) → (∀ v3 : Int32, v3 = x4 + 1 → (pX6_power_b5 a1 a2 post  n v2 v3))))

set_option maxHeartbeats 4000000 in
set_option maxRecDepth 100000 in
theorem wX6_power_b5 {p : Program} {l : Launch} {e : Env} {s : State} {m : MethodId} {args : Array Value} {below : List Frame} {meth : Method} {c : Code} {Q : State → Prop} {D : va_G} {cI cZ cJ cO : ClassId} (C0 : CallFix p m c cX6_power 5 s args wsX6_power RX6) (hN : nw s) (hK : va_K D vwCl (tyL cI cZ cJ cO) s)   (a1 : Int32) (a2 : Int32) (post : Int64 → Prop) (hret : h0L p l e ({ frames := 0, cells := 0, slots := 0, locals := 0 } : Room) s m args below meth c cX6_power Q post) (hP : va_P D vwCl [] s.heap) :
    ∀ (n : Nat) (x2 : Int64) (x4 : Int32), pX6_power_b5 a1 a2 post n x2 x4 → ∀ ls : Array Slot, lv_has ls 5 [(0, .int a1), (1, .int a2), (2, .long x2), (4, .int x4)] → W p l e ({ frames := 0, cells := 0, slots := 0, locals := 0 } : Room) s m args below meth c s.heap [] 0 0 Q (F0 m 5 ls []) := by
  obtain ⟨hx, hb, hml, hown, hts⟩ := id C0
  intro n
  induction n with
  | zero =>
    intro x2 x4 hf
    exact False.elim hf
  | succ n ih =>
    intro x2 x4 hf ls hl
    rw [pX6_power_b5] at hf
    refine lv_iload hx hb dX6_power_5 (lv_at hl 3 rfl) ?_
    refine lv_iload_n hx hb dX6_power_7 rfl (lv_at hl 1 rfl) ?_
    refine lv_icmp_ge (tgt := 22) hx hb dX6_power_8 (by decide) (fun c1 => ?_) (fun c1 => ?_)
    · have hf := hf.1 c1
      refine lv_lload_n hx hb dX6_power_22 rfl (lv_at hl 2 rfl) ?_
      exact hret 23 ls x2 dX6_power_23 hf
    · have hf := hf.2 c1
      refine lv_lload_n hx hb dX6_power_11 rfl (lv_at hl 2 rfl) ?_
      refine lv_iload_n hx hb dX6_power_12 rfl (lv_at hl 0 rfl) ?_
      refine lv_i2l hx hb dX6_power_13 rfl ?_
      refine lv_lmul hx hb dX6_power_14 ?_
      refine lv_topl (fun v2 ev2 => ?_)
      have hf := hf v2 ev2
      refine lv_lstore_n (lv' := [(2, .long v2), (0, .int a1), (1, .int a2), (4, .int x4)]) hx hb dX6_power_15 rfl hl (by decide) rfl (fun ls hl => ?_)
      obtain ⟨v3, ev3⟩ : ∃ y : Int32, y = x4 + 1 := ⟨_, rfl⟩
      have hf := hf v3 ev3
      refine lv_iinc (v := v3) (lv' := [(4, .int v3), (2, .long v2), (0, .int a1), (1, .int a2)]) hx hb dX6_power_16 hl (k := 3) rfl (by rw [ev3]; rfl) (by decide) rfl (fun ls hl => ?_)
      refine lv_goto (tgt := 5) hx hb dX6_power_19 (by decide) ?_
      exact ih v2 v3 hf ls (lv_sub hl [2, 3, 1, 0] rfl)

def pX6_power  (a1 : Int32) (a2 : Int32) (post : Int64 → Prop) : Prop :=
  ∃ n1, pX6_power_b5 a1 a2 post  n1 1 0

set_option maxHeartbeats 4000000 in
set_option maxRecDepth 100000 in
theorem kX6_power (l : Launch) (D : va_G) (cI cZ cJ cO : ClassId)    (a1 : Int32) (a2 : Int32) (post : Int64 → Prop) (hf : pX6_power a1 a2 post) :
    Met l yX6_power wsX6_power ({ frames := 0, cells := 0, slots := 0, locals := 0 } : Room) (va_Pc [.int a1, .int a2] (B0 D (tyL cI cZ cJ cO) [])) (vp_Sl post) 0 0 (fun _ => False) := by
  unfold pX6_power at hf
  refine xm_0l (own := RX6) (by decide) rfl rfl (Nat.le_of_ble_eq_true rfl) (fun p e s m args below meth c Q C0 hN hK hret hP ls hl => ?_)
  obtain ⟨hx, hb, hml, hown, hts⟩ := id C0
  have hl : lv_has ls 5 [(0, .int a1), (1, .int a2)] := hl
  refine lv_lconst (v := 1) hx hb dX6_power_0 (by decide) ?_
  refine lv_lstore_n (lv' := [(2, .long 1), (0, .int a1), (1, .int a2)]) hx hb dX6_power_1 rfl hl (by decide) rfl (fun ls hl => ?_)
  refine lv_iconst (v := 0) hx hb dX6_power_2 (by decide) ?_
  refine lv_istore (lv' := [(4, .int 0), (2, .long 1), (0, .int a1), (1, .int a2)]) hx hb dX6_power_3 hl (by decide) rfl (fun ls hl => ?_)
  obtain ⟨n1, hf⟩ := hf
  exact wX6_power_b5 C0 hN hK a1 a2 post hret hP   n1 1 0 hf ls (lv_sub hl [2, 3, 1, 0] rfl)

/-! X6_waysToKneel -/

def pX6_waysToKneel_b5 (a1 : Int32) (a2 : Int32) (a3 : Int32) (post : Int64 → Prop) : Nat → Int64 → Int32 → Prop
  | 0 => fun _ _ => False
  | n + 1 => fun x3 x5 => (a1 < x5 → (post x3)) ∧ (¬ a1 < x5 → (pX6_choices a1 x5 (fun r2 => pX6_power a3 x5 (fun r3 => pX6_power (10 - a3) (a1 - x5) (fun r4 => ∀ v5 : Int64, v5 = (x3 + ((r2 * r3) * r4)) → (∀ v6 : Int32, v6 = x5 + 1 → (pX6_waysToKneel_b5 a1 a2 a3 post  n v5 v6)))))))

set_option maxHeartbeats 4000000 in
set_option maxRecDepth 100000 in
theorem wX6_waysToKneel_b5 {p : Program} {l : Launch} {e : Env} {s : State} {m : MethodId} {args : Array Value} {below : List Frame} {meth : Method} {c : Code} {Q : State → Prop} {D : va_G} {cI cZ cJ cO : ClassId} (C0 : CallFix p m c cX6_waysToKneel 6 s args wsX6_waysToKneel RX6) (hN : nw s) (hK : va_K D vwCl (tyL cI cZ cJ cO) s)   (a1 : Int32) (a2 : Int32) (a3 : Int32) (post : Int64 → Prop) (hret : h0L p l e ({ frames := 1, cells := 0, slots := 0, locals := 24 } : Room) s m args below meth c cX6_waysToKneel Q post) (hP : va_P D vwCl [] s.heap) :
    ∀ (n : Nat) (x3 : Int64) (x5 : Int32), pX6_waysToKneel_b5 a1 a2 a3 post n x3 x5 → ∀ ls : Array Slot, lv_has ls 6 [(0, .int a1), (2, .int a3), (3, .long x3), (5, .int x5)] → W p l e ({ frames := 1, cells := 0, slots := 0, locals := 24 } : Room) s m args below meth c s.heap [] 0 0 Q (F0 m 5 ls []) := by
  obtain ⟨hx, hb, hml, hown, hts⟩ := id C0
  intro n
  induction n with
  | zero =>
    intro x3 x5 hf
    exact False.elim hf
  | succ n ih =>
    intro x3 x5 hf ls hl
    rw [pX6_waysToKneel_b5] at hf
    refine lv_iload hx hb dX6_waysToKneel_5 (lv_at hl 3 rfl) ?_
    refine lv_iload_n hx hb dX6_waysToKneel_7 rfl (lv_at hl 0 rfl) ?_
    refine lv_icmp_gt (tgt := 45) hx hb dX6_waysToKneel_8 (by decide) (fun c1 => ?_) (fun c1 => ?_)
    · have hf := hf.1 c1
      refine lv_lload_n hx hb dX6_waysToKneel_45 rfl (lv_at hl 2 rfl) ?_
      exact hret 46 ls x3 dX6_waysToKneel_46 hf
    · have hf := hf.2 c1
      refine lv_lload_n hx hb dX6_waysToKneel_11 rfl (lv_at hl 2 rfl) ?_
      refine lv_iload_n hx hb dX6_waysToKneel_12 rfl (lv_at hl 0 rfl) ?_
      refine lv_iload hx hb dX6_waysToKneel_13 (lv_at hl 3 rfl) ?_
      refine xs_l (va_runS (As := [.int a1, .int x5]) (rest := [.long x3]) ⟨hx, hb, hml, hown, hts⟩ (kX6_choices l D cI cZ cJ cO a1 x5 _ hf) (va_cwS 2 hts gX6_waysToKneel_X6_choices rfl rfl rfl (by decide +kernel) ⟨Nat.le_of_ble_eq_true rfl, Nat.le_of_ble_eq_true rfl⟩) (B0_pre (hP.sub (ws' := []) [] rfl) hK hN) rfl rfl hl.1 rfl (lv_room (Nat.le_of_ble_eq_true rfl)) dX6_waysToKneel_15 ⟨Nat.zero_le _, Nat.zero_le _⟩) (fun r2 hf => ?_)
      refine lv_iload_n hx hb dX6_waysToKneel_18 rfl (lv_at hl 1 rfl) ?_
      refine lv_iload hx hb dX6_waysToKneel_19 (lv_at hl 3 rfl) ?_
      refine xs_l (va_runS (As := [.int a3, .int x5]) (rest := [.long r2, .long x3]) ⟨hx, hb, hml, hown, hts⟩ (kX6_power l D cI cZ cJ cO a3 x5 _ hf) (va_cwS 2 hts gX6_waysToKneel_X6_power rfl rfl rfl (by decide +kernel) ⟨Nat.le_of_ble_eq_true rfl, Nat.le_of_ble_eq_true rfl⟩) (B0_pre (hP.sub (ws' := []) [] rfl) hK hN) rfl rfl hl.1 rfl (lv_room (Nat.le_of_ble_eq_true rfl)) dX6_waysToKneel_21 ⟨Nat.zero_le _, Nat.zero_le _⟩) (fun r3 hf => ?_)
      refine lv_lmul hx hb dX6_waysToKneel_24 ?_
      refine lv_bipush (v := 10) hx hb dX6_waysToKneel_25 (by decide) ?_
      refine lv_iload_n hx hb dX6_waysToKneel_27 rfl (lv_at hl 1 rfl) ?_
      refine lv_isub hx hb dX6_waysToKneel_28 ?_
      refine lv_iload_n hx hb dX6_waysToKneel_29 rfl (lv_at hl 0 rfl) ?_
      refine lv_iload hx hb dX6_waysToKneel_30 (lv_at hl 3 rfl) ?_
      refine lv_isub hx hb dX6_waysToKneel_32 ?_
      refine xs_l (va_runS (As := [.int (10 - a3), .int (a1 - x5)]) (rest := [.long (r2 * r3), .long x3]) ⟨hx, hb, hml, hown, hts⟩ (kX6_power l D cI cZ cJ cO (10 - a3) (a1 - x5) _ hf) (va_cwS 2 hts gX6_waysToKneel_X6_power rfl rfl rfl (by decide +kernel) ⟨Nat.le_of_ble_eq_true rfl, Nat.le_of_ble_eq_true rfl⟩) (B0_pre (hP.sub (ws' := []) [] rfl) hK hN) rfl rfl hl.1 rfl (lv_room (Nat.le_of_ble_eq_true rfl)) dX6_waysToKneel_33 ⟨Nat.zero_le _, Nat.zero_le _⟩) (fun r4 hf => ?_)
      refine lv_lmul hx hb dX6_waysToKneel_36 ?_
      refine lv_ladd hx hb dX6_waysToKneel_37 ?_
      refine lv_topl (fun v5 ev5 => ?_)
      have hf := hf v5 ev5
      refine lv_lstore_n (lv' := [(3, .long v5), (0, .int a1), (2, .int a3), (5, .int x5)]) hx hb dX6_waysToKneel_38 rfl hl (by decide) rfl (fun ls hl => ?_)
      obtain ⟨v6, ev6⟩ : ∃ y : Int32, y = x5 + 1 := ⟨_, rfl⟩
      have hf := hf v6 ev6
      refine lv_iinc (v := v6) (lv' := [(5, .int v6), (3, .long v5), (0, .int a1), (2, .int a3)]) hx hb dX6_waysToKneel_39 hl (k := 3) rfl (by rw [ev6]; rfl) (by decide) rfl (fun ls hl => ?_)
      refine lv_goto (tgt := 5) hx hb dX6_waysToKneel_42 (by decide) ?_
      exact ih v5 v6 hf ls (lv_sub hl [2, 3, 1, 0] rfl)

def pX6_waysToKneel  (a1 : Int32) (a2 : Int32) (a3 : Int32) (post : Int64 → Prop) : Prop :=
  ∃ n1, pX6_waysToKneel_b5 a1 a2 a3 post  n1 0 a2

set_option maxHeartbeats 4000000 in
set_option maxRecDepth 100000 in
theorem kX6_waysToKneel (l : Launch) (D : va_G) (cI cZ cJ cO : ClassId)    (a1 : Int32) (a2 : Int32) (a3 : Int32) (post : Int64 → Prop) (hf : pX6_waysToKneel a1 a2 a3 post) :
    Met l yX6_waysToKneel wsX6_waysToKneel ({ frames := 1, cells := 0, slots := 0, locals := 24 } : Room) (va_Pc [.int a1, .int a2, .int a3] (B0 D (tyL cI cZ cJ cO) [])) (vp_Sl post) 0 0 (fun _ => False) := by
  unfold pX6_waysToKneel at hf
  refine xm_0l (own := RX6) (by decide) rfl rfl (Nat.le_of_ble_eq_true rfl) (fun p e s m args below meth c Q C0 hN hK hret hP ls hl => ?_)
  obtain ⟨hx, hb, hml, hown, hts⟩ := id C0
  have hl : lv_has ls 6 [(0, .int a1), (1, .int a2), (2, .int a3)] := hl
  refine lv_lconst (v := 0) hx hb dX6_waysToKneel_0 (by decide) ?_
  refine lv_lstore_n (lv' := [(3, .long 0), (0, .int a1), (1, .int a2), (2, .int a3)]) hx hb dX6_waysToKneel_1 rfl hl (by decide) rfl (fun ls hl => ?_)
  refine lv_iload_n hx hb dX6_waysToKneel_2 rfl (lv_at hl 2 rfl) ?_
  refine lv_istore (lv' := [(5, .int a2), (3, .long 0), (0, .int a1), (1, .int a2), (2, .int a3)]) hx hb dX6_waysToKneel_3 hl (by decide) rfl (fun ls hl => ?_)
  obtain ⟨n1, hf⟩ := hf
  exact wX6_waysToKneel_b5 C0 hN hK a1 a2 a3 post hret hP   n1 0 a2 hf ls (lv_sub hl [2, 4, 1, 0] rfl)

/-! X6_commonDivisor -/

def pX6_commonDivisor_b9 (a1 : Int64) (a2 : Int64) (post : Int64 → Prop) : Nat → Int64 → Int64 → Int32 → Prop
  | 0 => fun _ _ _ => False
  | n + 1 => fun x4 x6 x8 => (100 ≤ x8 → (post x4)) ∧ (¬ 100 ≤ x8 → (((lg_cmp x6 0) = 0 → (post x4)) ∧ (¬ (lg_cmp x6 0) = 0 → (¬ x6 = 0 ∧ (∀ v4 : Int64, v4 = (x4 - x4 / x6 * x6) → (∀ v5 : Int32, v5 = x8 + 1 → (pX6_commonDivisor_b9 a1 a2 post  n x6 v4 v5)))))))

set_option maxHeartbeats 4000000 in
set_option maxRecDepth 100000 in
theorem wX6_commonDivisor_b9 {p : Program} {l : Launch} {e : Env} {s : State} {m : MethodId} {args : Array Value} {below : List Frame} {meth : Method} {c : Code} {Q : State → Prop} {D : va_G} {cI cZ cJ cO : ClassId} (C0 : CallFix p m c cX6_commonDivisor 11 s args wsX6_commonDivisor RX6) (hN : nw s) (hK : va_K D vwCl (tyL cI cZ cJ cO) s)   (a1 : Int64) (a2 : Int64) (post : Int64 → Prop) (hret : h0L p l e ({ frames := 0, cells := 0, slots := 0, locals := 0 } : Room) s m args below meth c cX6_commonDivisor Q post) (hP : va_P D vwCl [] s.heap) :
    ∀ (n : Nat) (x4 : Int64) (x6 : Int64) (x8 : Int32), pX6_commonDivisor_b9 a1 a2 post n x4 x6 x8 → ∀ ls : Array Slot, lv_has ls 11 [(4, .long x4), (6, .long x6), (8, .int x8)] → W p l e ({ frames := 0, cells := 0, slots := 0, locals := 0 } : Room) s m args below meth c s.heap [] 0 0 Q (F0 m 9 ls []) := by
  obtain ⟨hx, hb, hml, hown, hts⟩ := id C0
  intro n
  induction n with
  | zero =>
    intro x4 x6 x8 hf
    exact False.elim hf
  | succ n ih =>
    intro x4 x6 x8 hf ls hl
    rw [pX6_commonDivisor_b9] at hf
    refine lv_iload hx hb dX6_commonDivisor_9 (lv_at hl 2 rfl) ?_
    refine lv_bipush (v := 100) hx hb dX6_commonDivisor_11 (by decide) ?_
    refine lv_icmp_ge (tgt := 44) hx hb dX6_commonDivisor_13 (by decide) (fun c1 => ?_) (fun c1 => ?_)
    · have hf := hf.1 c1
      refine lv_lload hx hb dX6_commonDivisor_44 (lv_at hl 0 rfl) ?_
      exact hret 46 ls x4 dX6_commonDivisor_46 hf
    · have hf := hf.2 c1
      refine lv_lload hx hb dX6_commonDivisor_16 (lv_at hl 1 rfl) ?_
      refine lv_lconst (v := 0) hx hb dX6_commonDivisor_18 (by decide) ?_
      refine W.lcmp hx hb dX6_commonDivisor_19 ?_
      refine lv_if_eq (tgt := 44) hx hb dX6_commonDivisor_20 (by decide) (fun c2 => ?_) (fun c2 => ?_)
      · have hf := hf.1 c2
        refine lv_lload hx hb dX6_commonDivisor_44 (lv_at hl 0 rfl) ?_
        exact hret 46 ls x4 dX6_commonDivisor_46 hf
      · have hf := hf.2 c2
        refine lv_lload hx hb dX6_commonDivisor_23 (lv_at hl 0 rfl) ?_
        refine lv_lload hx hb dX6_commonDivisor_25 (lv_at hl 1 rfl) ?_
        have g3 := hf.1
        have hf := hf.2
        refine lv_lrem hx hb dX6_commonDivisor_27 g3 ?_
        refine lv_topl (fun v4 ev4 => ?_)
        have hf := hf v4 ev4
        refine lv_lstore (lv' := [(9, .long v4), (4, .long x4), (6, .long x6), (8, .int x8)]) hx hb dX6_commonDivisor_28 hl (by decide) rfl (fun ls hl => ?_)
        refine lv_lload hx hb dX6_commonDivisor_30 (lv_at hl 2 rfl) ?_
        refine lv_lstore (lv' := [(4, .long x6), (9, .long v4), (6, .long x6), (8, .int x8)]) hx hb dX6_commonDivisor_32 hl (by decide) rfl (fun ls hl => ?_)
        refine lv_lload hx hb dX6_commonDivisor_34 (lv_at hl 1 rfl) ?_
        refine lv_lstore (lv' := [(6, .long v4), (4, .long x6), (9, .long v4), (8, .int x8)]) hx hb dX6_commonDivisor_36 hl (by decide) rfl (fun ls hl => ?_)
        obtain ⟨v5, ev5⟩ : ∃ y : Int32, y = x8 + 1 := ⟨_, rfl⟩
        have hf := hf v5 ev5
        refine lv_iinc (v := v5) (lv' := [(8, .int v5), (6, .long v4), (4, .long x6), (9, .long v4)]) hx hb dX6_commonDivisor_38 hl (k := 3) rfl (by rw [ev5]; rfl) (by decide) rfl (fun ls hl => ?_)
        refine lv_goto (tgt := 9) hx hb dX6_commonDivisor_41 (by decide) ?_
        exact ih x6 v4 v5 hf ls (lv_sub hl [2, 1, 0] rfl)

def pX6_commonDivisor  (a1 : Int64) (a2 : Int64) (post : Int64 → Prop) : Prop :=
  ∃ n1, pX6_commonDivisor_b9 a1 a2 post  n1 a1 a2 0

set_option maxHeartbeats 4000000 in
set_option maxRecDepth 100000 in
theorem kX6_commonDivisor (l : Launch) (D : va_G) (cI cZ cJ cO : ClassId)    (a1 : Int64) (a2 : Int64) (post : Int64 → Prop) (hf : pX6_commonDivisor a1 a2 post) :
    Met l yX6_commonDivisor wsX6_commonDivisor ({ frames := 0, cells := 0, slots := 0, locals := 0 } : Room) (va_Pc [.long a1, .long a2] (B0 D (tyL cI cZ cJ cO) [])) (vp_Sl post) 0 0 (fun _ => False) := by
  unfold pX6_commonDivisor at hf
  refine xm_0l (own := RX6) (by decide) rfl rfl (Nat.le_of_ble_eq_true rfl) (fun p e s m args below meth c Q C0 hN hK hret hP ls hl => ?_)
  obtain ⟨hx, hb, hml, hown, hts⟩ := id C0
  have hl : lv_has ls 11 [(0, .long a1), (2, .long a2)] := hl
  refine lv_lload_n hx hb dX6_commonDivisor_0 rfl (lv_at hl 0 rfl) ?_
  refine lv_lstore (lv' := [(4, .long a1), (0, .long a1), (2, .long a2)]) hx hb dX6_commonDivisor_1 hl (by decide) rfl (fun ls hl => ?_)
  refine lv_lload_n hx hb dX6_commonDivisor_3 rfl (lv_at hl 2 rfl) ?_
  refine lv_lstore (lv' := [(6, .long a2), (4, .long a1), (0, .long a1), (2, .long a2)]) hx hb dX6_commonDivisor_4 hl (by decide) rfl (fun ls hl => ?_)
  refine lv_iconst (v := 0) hx hb dX6_commonDivisor_6 (by decide) ?_
  refine lv_istore (lv' := [(8, .int 0), (6, .long a2), (4, .long a1), (0, .long a1), (2, .long a2)]) hx hb dX6_commonDivisor_7 hl (by decide) rfl (fun ls hl => ?_)
  obtain ⟨n1, hf⟩ := hf
  exact wX6_commonDivisor_b9 C0 hN hK a1 a2 post hret hP   n1 a1 a2 0 hf ls (lv_sub hl [2, 1, 0] rfl)

/-! X6_knelt -/
theorem mX6_knelt_1 : Cond.constantLong RX6 183 (-1000000000000000002) ∈ wsX6_knelt := List.mem_of_getElem? (i := 1) rfl
theorem mX6_knelt_2 : Cond.constantLong RX6 193 (10) ∈ wsX6_knelt := List.mem_of_getElem? (i := 2) rfl
theorem mX6_knelt_3 : Cond.constantLong RX6 199 (-1000000000000000000) ∈ wsX6_knelt := List.mem_of_getElem? (i := 3) rfl
def pX6_knelt_b91 (a1 : Int32) (a2 : Int32) (a3 : Int32) (a4 : Int32) (a5 : Int32) (post : Int64 → Prop) (x6 : Int64) (s0 : Int64) : Prop :=
  pX6_commonDivisor x6 s0 (fun r1 => (0 < (lg_cmp r1 0) → ((¬ a5 = 0 → (¬ r1 = 0 ∧ (post (s0 / r1)))) ∧ (a5 = 0 → (¬ r1 = 0 ∧ (post (x6 / r1)))))) ∧ (¬ 0 < (lg_cmp r1 0) → (post (-1000000000000000000))))

set_option maxHeartbeats 4000000 in
set_option maxRecDepth 100000 in
theorem wX6_knelt_b91 {p : Program} {l : Launch} {e : Env} {s : State} {m : MethodId} {args : Array Value} {below : List Frame} {meth : Method} {c : Code} {Q : State → Prop} {D : va_G} {cI cZ cJ cO : ClassId} (C0 : CallFix p m c cX6_knelt 12 s args wsX6_knelt RX6) (hN : nw s) (hK : va_K D vwCl (tyL cI cZ cJ cO) s) (q_t : Nat)  (a1 : Int32) (a2 : Int32) (a3 : Int32) (a4 : Int32) (a5 : Int32) (post : Int64 → Prop) (hret : h0L p l e ({ frames := 2, cells := 0, slots := 0, locals := 49 } : Room) s m args below meth c cX6_knelt Q post) (hP : va_P D vwCl [] s.heap) :
    ∀ (x6 : Int64) (s0 : Int64), pX6_knelt_b91 a1 a2 a3 a4 a5 post x6 s0 → ∀ ls : Array Slot, lv_has ls 12 [(5, .int a5), (6, .long x6)] → W p l e ({ frames := 2, cells := 0, slots := 0, locals := 49 } : Room) s m args below meth c s.heap [] 0 0 Q (F0 m 91 ls [.long s0]) := by
  obtain ⟨hx, hb, hml, hown, hts⟩ := id C0
  intro x6 s0 hf ls hl
  unfold pX6_knelt_b91 at hf
  refine lv_lstore (lv' := [(8, .long s0), (5, .int a5), (6, .long x6)]) hx hb dX6_knelt_91 hl (by decide) rfl (fun ls hl => ?_)
  refine lv_lload hx hb dX6_knelt_93 (lv_at hl 2 rfl) ?_
  refine lv_lload hx hb dX6_knelt_95 (lv_at hl 0 rfl) ?_
  refine xs_l (va_runS (As := [.long x6, .long s0]) (rest := []) ⟨hx, hb, hml, hown, hts⟩ (kX6_commonDivisor l D cI cZ cJ cO x6 s0 _ hf) (va_cwS 2 hts gX6_knelt_X6_commonDivisor rfl rfl rfl (by decide +kernel) ⟨Nat.le_of_ble_eq_true rfl, Nat.le_of_ble_eq_true rfl⟩) (B0_pre (hP.sub (ws' := []) [] rfl) hK hN) rfl rfl hl.1 rfl (lv_room (Nat.le_of_ble_eq_true rfl)) dX6_knelt_97 ⟨Nat.zero_le _, Nat.zero_le _⟩) (fun r1 hf => ?_)
  refine lv_lstore (lv' := [(10, .long r1), (8, .long s0), (5, .int a5), (6, .long x6)]) hx hb dX6_knelt_100 hl (by decide) rfl (fun ls hl => ?_)
  refine lv_lload hx hb dX6_knelt_102 (lv_at hl 0 rfl) ?_
  refine lv_lconst (v := 0) hx hb dX6_knelt_104 (by decide) ?_
  refine W.lcmp hx hb dX6_knelt_105 ?_
  refine lv_if_gt (tgt := 113) hx hb dX6_knelt_106 (by decide) (fun c2 => ?_) (fun c2 => ?_)
  · have hf := hf.1 c2
    refine lv_iload hx hb dX6_knelt_113 (lv_at hl 2 rfl) ?_
    refine lv_if_ne (tgt := 126) hx hb dX6_knelt_115 (by decide) (fun c3 => ?_) (fun c3 => ?_)
    · have hf := hf.1 c3
      refine lv_lload hx hb dX6_knelt_126 (lv_at hl 1 rfl) ?_
      refine lv_lload hx hb dX6_knelt_128 (lv_at hl 0 rfl) ?_
      have g4 := hf.1
      have hf := hf.2
      refine lv_ldiv hx hb dX6_knelt_130 g4 ?_
      exact hret 131 ls (s0 / r1) dX6_knelt_131 hf
    · have hf := hf.2 c3
      refine lv_lload hx hb dX6_knelt_118 (lv_at hl 3 rfl) ?_
      refine lv_lload hx hb dX6_knelt_120 (lv_at hl 0 rfl) ?_
      have g5 := hf.1
      have hf := hf.2
      refine lv_ldiv hx hb dX6_knelt_122 g5 ?_
      refine lv_goto (tgt := 131) hx hb dX6_knelt_123 (by decide) ?_
      exact hret 131 ls (x6 / r1) dX6_knelt_131 hf
  · have hf := hf.2 c2
    refine lv_ldc2 (v := (-1000000000000000000)) hx hb hown (hts _ mX6_knelt_3) dX6_knelt_109 ?_
    exact hret 112 ls (-1000000000000000000) dX6_knelt_112 hf

def pX6_knelt_b72 (a1 : Int32) (a2 : Int32) (a3 : Int32) (a4 : Int32) (a5 : Int32) (post : Int64 → Prop) (s0 : Int64) : Prop :=
  (¬ a4 = 0 → (pX6_knelt_b91 a1 a2 a3 a4 a5 post  s0 10)) ∧ (a4 = 0 → (pX6_power 10 a1 (fun r2 => pX6_knelt_b91 a1 a2 a3 a4 a5 post  s0 r2)))

set_option maxHeartbeats 4000000 in
set_option maxRecDepth 100000 in
theorem wX6_knelt_b72 {p : Program} {l : Launch} {e : Env} {s : State} {m : MethodId} {args : Array Value} {below : List Frame} {meth : Method} {c : Code} {Q : State → Prop} {D : va_G} {cI cZ cJ cO : ClassId} (C0 : CallFix p m c cX6_knelt 12 s args wsX6_knelt RX6) (hN : nw s) (hK : va_K D vwCl (tyL cI cZ cJ cO) s) (q_t : Nat)  (a1 : Int32) (a2 : Int32) (a3 : Int32) (a4 : Int32) (a5 : Int32) (post : Int64 → Prop) (hret : h0L p l e ({ frames := 2, cells := 0, slots := 0, locals := 49 } : Room) s m args below meth c cX6_knelt Q post) (hP : va_P D vwCl [] s.heap) :
    ∀ (s0 : Int64), pX6_knelt_b72 a1 a2 a3 a4 a5 post s0 → ∀ ls : Array Slot, lv_has ls 12 [(1, .int a1), (4, .int a4), (5, .int a5)] → W p l e ({ frames := 2, cells := 0, slots := 0, locals := 49 } : Room) s m args below meth c s.heap [] 0 0 Q (F0 m 72 ls [.long s0]) := by
  obtain ⟨hx, hb, hml, hown, hts⟩ := id C0
  intro s0 hf ls hl
  unfold pX6_knelt_b72 at hf
  refine lv_lstore (lv' := [(6, .long s0), (1, .int a1), (4, .int a4), (5, .int a5)]) hx hb dX6_knelt_72 hl (by decide) rfl (fun ls hl => ?_)
  refine lv_iload hx hb dX6_knelt_74 (lv_at hl 2 rfl) ?_
  refine lv_if_ne (tgt := 88) hx hb dX6_knelt_76 (by decide) (fun c1 => ?_) (fun c1 => ?_)
  · have hf := hf.1 c1
    refine lv_ldc2 (v := 10) hx hb hown (hts _ mX6_knelt_2) dX6_knelt_88 ?_
    exact wX6_knelt_b91 C0 hN hK q_t a1 a2 a3 a4 a5 post hret hP   s0 10 hf ls (lv_sub hl [3, 0] rfl)
  · have hf := hf.2 c1
    refine lv_bipush (v := 10) hx hb dX6_knelt_79 (by decide) ?_
    refine lv_iload_n hx hb dX6_knelt_81 rfl (lv_at hl 1 rfl) ?_
    refine xs_l (va_runS (As := [.int 10, .int a1]) (rest := []) ⟨hx, hb, hml, hown, hts⟩ (kX6_power l D cI cZ cJ cO 10 a1 _ hf) (va_cwS 2 hts gX6_knelt_X6_power rfl rfl rfl (by decide +kernel) ⟨Nat.le_of_ble_eq_true rfl, Nat.le_of_ble_eq_true rfl⟩) (B0_pre (hP.sub (ws' := []) [] rfl) hK hN) rfl rfl hl.1 rfl (lv_room (Nat.le_of_ble_eq_true rfl)) dX6_knelt_82 ⟨Nat.zero_le _, Nat.zero_le _⟩) (fun r2 hf => ?_)
    refine lv_goto (tgt := 91) hx hb dX6_knelt_85 (by decide) ?_
    exact wX6_knelt_b91 C0 hN hK q_t a1 a2 a3 a4 a5 post hret hP   s0 r2 hf ls (lv_sub hl [3, 0] rfl)

def pX6_knelt  (a1 : Int32) (a2 : Int32) (a3 : Int32) (a4 : Int32) (a5 : Int32) (post : Int64 → Prop) : Prop :=
  pX6_isIn a1 0 16 (fun r1 => (r1 = 0 → (post (-1000000000000000002))) ∧ (¬ r1 = 0 → (pX6_isIn a2 0 a1 (fun r3 => (r3 = 0 → (post (-1000000000000000002))) ∧ (¬ r3 = 0 → (pX6_isIn a3 0 10 (fun r5 => (r5 = 0 → (post (-1000000000000000002))) ∧ (¬ r5 = 0 → (pX6_isIn a4 0 1 (fun r7 => (r7 = 0 → (post (-1000000000000000002))) ∧ (¬ r7 = 0 → (pX6_isIn a5 0 1 (fun r9 => (¬ r9 = 0 → ((¬ a4 = 0 → (pX6_knelt_b72 a1 a2 a3 a4 a5 post  ((a1).toInt64 * (a3).toInt64))) ∧ (a4 = 0 → (pX6_waysToKneel a1 a2 a3 (fun r12 => pX6_knelt_b72 a1 a2 a3 a4 a5 post  r12))))) ∧ (r9 = 0 → (post (-1000000000000000002))))))))))))))))

set_option maxHeartbeats 4000000 in
set_option maxRecDepth 100000 in
theorem kX6_knelt (l : Launch) (D : va_G) (cI cZ cJ cO : ClassId) (q_t : Nat)   (a1 : Int32) (a2 : Int32) (a3 : Int32) (a4 : Int32) (a5 : Int32) (post : Int64 → Prop) (hf : pX6_knelt a1 a2 a3 a4 a5 post) :
    Met l yX6_knelt wsX6_knelt ({ frames := 2, cells := 0, slots := 0, locals := 49 } : Room) (va_Pc [.ref q_t, .int a1, .int a2, .int a3, .int a4, .int a5] (B0 D (tyL cI cZ cJ cO) [])) (vp_Sl post) 0 0 (fun _ => False) := by
  unfold pX6_knelt at hf
  refine xm_0l (own := RX6) (by decide) rfl rfl (Nat.le_of_ble_eq_true rfl) (fun p e s m args below meth c Q C0 hN hK hret hP ls hl => ?_)
  obtain ⟨hx, hb, hml, hown, hts⟩ := id C0
  have hl : lv_has ls 12 [(0, .ref q_t), (1, .int a1), (2, .int a2), (3, .int a3), (4, .int a4), (5, .int a5)] := hl
  refine lv_iload_n hx hb dX6_knelt_0 rfl (lv_at hl 1 rfl) ?_
  refine lv_iconst (v := 0) hx hb dX6_knelt_1 (by decide) ?_
  refine lv_bipush (v := 16) hx hb dX6_knelt_2 (by decide) ?_
  refine xs_i (va_runS (As := [.int a1, .int 0, .int 16]) (rest := []) ⟨hx, hb, hml, hown, hts⟩ (kX6_isIn l D cI cZ cJ cO a1 0 16 _ hf) (va_cwS 3 hts gX6_knelt_X6_isIn rfl rfl rfl (by decide +kernel) ⟨Nat.le_of_ble_eq_true rfl, Nat.le_of_ble_eq_true rfl⟩) (B0_pre (hP.sub (ws' := []) [] rfl) hK hN) rfl rfl hl.1 rfl (lv_room (Nat.le_of_ble_eq_true rfl)) dX6_knelt_4 ⟨Nat.zero_le _, Nat.zero_le _⟩) (fun r1 hf => ?_)
  refine lv_if_eq (tgt := 49) hx hb dX6_knelt_7 (by decide) (fun c2 => ?_) (fun c2 => ?_)
  · have hf := hf.1 c2
    refine lv_ldc2 (v := (-1000000000000000002)) hx hb hown (hts _ mX6_knelt_1) dX6_knelt_49 ?_
    exact hret 52 ls (-1000000000000000002) dX6_knelt_52 hf
  · have hf := hf.2 c2
    refine lv_iload_n hx hb dX6_knelt_10 rfl (lv_at hl 2 rfl) ?_
    refine lv_iconst (v := 0) hx hb dX6_knelt_11 (by decide) ?_
    refine lv_iload_n hx hb dX6_knelt_12 rfl (lv_at hl 1 rfl) ?_
    refine xs_i (va_runS (As := [.int a2, .int 0, .int a1]) (rest := []) ⟨hx, hb, hml, hown, hts⟩ (kX6_isIn l D cI cZ cJ cO a2 0 a1 _ hf) (va_cwS 3 hts gX6_knelt_X6_isIn rfl rfl rfl (by decide +kernel) ⟨Nat.le_of_ble_eq_true rfl, Nat.le_of_ble_eq_true rfl⟩) (B0_pre (hP.sub (ws' := []) [] rfl) hK hN) rfl rfl hl.1 rfl (lv_room (Nat.le_of_ble_eq_true rfl)) dX6_knelt_13 ⟨Nat.zero_le _, Nat.zero_le _⟩) (fun r3 hf => ?_)
    refine lv_if_eq (tgt := 49) hx hb dX6_knelt_16 (by decide) (fun c4 => ?_) (fun c4 => ?_)
    · have hf := hf.1 c4
      refine lv_ldc2 (v := (-1000000000000000002)) hx hb hown (hts _ mX6_knelt_1) dX6_knelt_49 ?_
      exact hret 52 ls (-1000000000000000002) dX6_knelt_52 hf
    · have hf := hf.2 c4
      refine lv_iload_n hx hb dX6_knelt_19 rfl (lv_at hl 3 rfl) ?_
      refine lv_iconst (v := 0) hx hb dX6_knelt_20 (by decide) ?_
      refine lv_bipush (v := 10) hx hb dX6_knelt_21 (by decide) ?_
      refine xs_i (va_runS (As := [.int a3, .int 0, .int 10]) (rest := []) ⟨hx, hb, hml, hown, hts⟩ (kX6_isIn l D cI cZ cJ cO a3 0 10 _ hf) (va_cwS 3 hts gX6_knelt_X6_isIn rfl rfl rfl (by decide +kernel) ⟨Nat.le_of_ble_eq_true rfl, Nat.le_of_ble_eq_true rfl⟩) (B0_pre (hP.sub (ws' := []) [] rfl) hK hN) rfl rfl hl.1 rfl (lv_room (Nat.le_of_ble_eq_true rfl)) dX6_knelt_23 ⟨Nat.zero_le _, Nat.zero_le _⟩) (fun r5 hf => ?_)
      refine lv_if_eq (tgt := 49) hx hb dX6_knelt_26 (by decide) (fun c6 => ?_) (fun c6 => ?_)
      · have hf := hf.1 c6
        refine lv_ldc2 (v := (-1000000000000000002)) hx hb hown (hts _ mX6_knelt_1) dX6_knelt_49 ?_
        exact hret 52 ls (-1000000000000000002) dX6_knelt_52 hf
      · have hf := hf.2 c6
        refine lv_iload hx hb dX6_knelt_29 (lv_at hl 4 rfl) ?_
        refine lv_iconst (v := 0) hx hb dX6_knelt_31 (by decide) ?_
        refine lv_iconst (v := 1) hx hb dX6_knelt_32 (by decide) ?_
        refine xs_i (va_runS (As := [.int a4, .int 0, .int 1]) (rest := []) ⟨hx, hb, hml, hown, hts⟩ (kX6_isIn l D cI cZ cJ cO a4 0 1 _ hf) (va_cwS 3 hts gX6_knelt_X6_isIn rfl rfl rfl (by decide +kernel) ⟨Nat.le_of_ble_eq_true rfl, Nat.le_of_ble_eq_true rfl⟩) (B0_pre (hP.sub (ws' := []) [] rfl) hK hN) rfl rfl hl.1 rfl (lv_room (Nat.le_of_ble_eq_true rfl)) dX6_knelt_33 ⟨Nat.zero_le _, Nat.zero_le _⟩) (fun r7 hf => ?_)
        refine lv_if_eq (tgt := 49) hx hb dX6_knelt_36 (by decide) (fun c8 => ?_) (fun c8 => ?_)
        · have hf := hf.1 c8
          refine lv_ldc2 (v := (-1000000000000000002)) hx hb hown (hts _ mX6_knelt_1) dX6_knelt_49 ?_
          exact hret 52 ls (-1000000000000000002) dX6_knelt_52 hf
        · have hf := hf.2 c8
          refine lv_iload hx hb dX6_knelt_39 (lv_at hl 5 rfl) ?_
          refine lv_iconst (v := 0) hx hb dX6_knelt_41 (by decide) ?_
          refine lv_iconst (v := 1) hx hb dX6_knelt_42 (by decide) ?_
          refine xs_i (va_runS (As := [.int a5, .int 0, .int 1]) (rest := []) ⟨hx, hb, hml, hown, hts⟩ (kX6_isIn l D cI cZ cJ cO a5 0 1 _ hf) (va_cwS 3 hts gX6_knelt_X6_isIn rfl rfl rfl (by decide +kernel) ⟨Nat.le_of_ble_eq_true rfl, Nat.le_of_ble_eq_true rfl⟩) (B0_pre (hP.sub (ws' := []) [] rfl) hK hN) rfl rfl hl.1 rfl (lv_room (Nat.le_of_ble_eq_true rfl)) dX6_knelt_43 ⟨Nat.zero_le _, Nat.zero_le _⟩) (fun r9 hf => ?_)
          refine lv_if_ne (tgt := 53) hx hb dX6_knelt_46 (by decide) (fun c10 => ?_) (fun c10 => ?_)
          · have hf := hf.1 c10
            refine lv_iload hx hb dX6_knelt_53 (lv_at hl 4 rfl) ?_
            refine lv_if_ne (tgt := 67) hx hb dX6_knelt_55 (by decide) (fun c11 => ?_) (fun c11 => ?_)
            · have hf := hf.1 c11
              refine lv_iload_n hx hb dX6_knelt_67 rfl (lv_at hl 1 rfl) ?_
              refine lv_i2l hx hb dX6_knelt_68 rfl ?_
              refine lv_iload_n hx hb dX6_knelt_69 rfl (lv_at hl 3 rfl) ?_
              refine lv_i2l hx hb dX6_knelt_70 rfl ?_
              refine lv_lmul hx hb dX6_knelt_71 ?_
              exact wX6_knelt_b72 C0 hN hK q_t a1 a2 a3 a4 a5 post hret hP   ((a1).toInt64 * (a3).toInt64) hf ls (lv_sub hl [1, 4, 5] rfl)
            · have hf := hf.2 c11
              refine lv_iload_n hx hb dX6_knelt_58 rfl (lv_at hl 1 rfl) ?_
              refine lv_iload_n hx hb dX6_knelt_59 rfl (lv_at hl 2 rfl) ?_
              refine lv_iload_n hx hb dX6_knelt_60 rfl (lv_at hl 3 rfl) ?_
              refine xs_l (va_runS (As := [.int a1, .int a2, .int a3]) (rest := []) ⟨hx, hb, hml, hown, hts⟩ (kX6_waysToKneel l D cI cZ cJ cO a1 a2 a3 _ hf) (va_cwS 3 hts gX6_knelt_X6_waysToKneel rfl rfl rfl (by decide +kernel) ⟨Nat.le_of_ble_eq_true rfl, Nat.le_of_ble_eq_true rfl⟩) (B0_pre (hP.sub (ws' := []) [] rfl) hK hN) rfl rfl hl.1 rfl (lv_room (Nat.le_of_ble_eq_true rfl)) dX6_knelt_61 ⟨Nat.zero_le _, Nat.zero_le _⟩) (fun r12 hf => ?_)
              refine lv_goto (tgt := 72) hx hb dX6_knelt_64 (by decide) ?_
              exact wX6_knelt_b72 C0 hN hK q_t a1 a2 a3 a4 a5 post hret hP   r12 hf ls (lv_sub hl [1, 4, 5] rfl)
          · have hf := hf.2 c10
            refine lv_ldc2 (v := (-1000000000000000002)) hx hb hown (hts _ mX6_knelt_1) dX6_knelt_49 ?_
            exact hret 52 ls (-1000000000000000002) dX6_knelt_52 hf

/-! J6_bitCount_0f7a4 -/
theorem mJ6_bitCount_0f7a4_1 : Cond.constant RJ6 265 (1431655765) ∈ wsJ6_bitCount_0f7a4 := List.mem_of_getElem? (i := 1) rfl
theorem mJ6_bitCount_0f7a4_2 : Cond.constant RJ6 266 (858993459) ∈ wsJ6_bitCount_0f7a4 := List.mem_of_getElem? (i := 2) rfl
theorem mJ6_bitCount_0f7a4_3 : Cond.constant RJ6 267 (252645135) ∈ wsJ6_bitCount_0f7a4 := List.mem_of_getElem? (i := 3) rfl
def pJ6_bitCount_0f7a4  (a1 : Int32) (post : Int32 → Prop) : Prop :=
  ∀ v1 : Int32, v1 = (a1 - ((a1.toUInt32 >>> ((1 : Int32).toUInt32 &&& Int32.toUInt32 31)).toInt32 &&& 1431655765)) → (∀ v2 : Int32, v2 = ((v1 &&& 858993459) + ((v1.toUInt32 >>> ((2 : Int32).toUInt32 &&& Int32.toUInt32 31)).toInt32 &&& 858993459)) → (∀ v3 : Int32, v3 = ((v2 + (v2.toUInt32 >>> ((4 : Int32).toUInt32 &&& Int32.toUInt32 31)).toInt32) &&& 252645135) → (∀ v4 : Int32, v4 = (v3 + (v3.toUInt32 >>> ((8 : Int32).toUInt32 &&& Int32.toUInt32 31)).toInt32) → (∀ v5 : Int32, v5 = (v4 + (v4.toUInt32 >>> ((16 : Int32).toUInt32 &&& Int32.toUInt32 31)).toInt32) → (post (v5 &&& 63))))))

set_option maxHeartbeats 4000000 in
set_option maxRecDepth 100000 in
theorem kJ6_bitCount_0f7a4 (l : Launch) (D : va_G) (cI cZ cJ cO : ClassId)    (a1 : Int32) (post : Int32 → Prop) (hf : pJ6_bitCount_0f7a4 a1 post) :
    Met l yJ6_bitCount_0f7a4 wsJ6_bitCount_0f7a4 ({ frames := 0, cells := 0, slots := 0, locals := 0 } : Room) (va_Pc [.int a1] (B0 D (tyL cI cZ cJ cO) [])) (vp_Si post) 0 0 (fun _ => False) := by
  unfold pJ6_bitCount_0f7a4 at hf
  refine xm_0i (own := RJ6) (by decide) rfl rfl (Nat.le_of_ble_eq_true rfl) (fun p e s m args below meth c Q C0 hN hK hret hP ls hl => ?_)
  obtain ⟨hx, hb, hml, hown, hts⟩ := id C0
  have hl : lv_has ls 1 [(0, .int a1)] := hl
  refine lv_iload_n hx hb dJ6_bitCount_0f7a4_0 rfl (lv_at hl 0 rfl) ?_
  refine lv_iload_n hx hb dJ6_bitCount_0f7a4_1 rfl (lv_at hl 0 rfl) ?_
  refine lv_iconst (v := 1) hx hb dJ6_bitCount_0f7a4_2 (by decide) ?_
  refine lv_iushr hx hb dJ6_bitCount_0f7a4_3 rfl ?_
  refine lv_ldcw (v := 1431655765) hx hb hown (hts _ mJ6_bitCount_0f7a4_1) dJ6_bitCount_0f7a4_4 ?_
  refine lv_iand hx hb dJ6_bitCount_0f7a4_7 ?_
  refine lv_isub hx hb dJ6_bitCount_0f7a4_8 ?_
  refine lv_topi (fun v1 ev1 => ?_)
  have hf := hf v1 ev1
  refine lv_istore_n (lv' := [(0, .int v1)]) hx hb dJ6_bitCount_0f7a4_9 rfl hl (by decide) rfl (fun ls hl => ?_)
  refine lv_iload_n hx hb dJ6_bitCount_0f7a4_10 rfl (lv_at hl 0 rfl) ?_
  refine lv_ldcw (v := 858993459) hx hb hown (hts _ mJ6_bitCount_0f7a4_2) dJ6_bitCount_0f7a4_11 ?_
  refine lv_iand hx hb dJ6_bitCount_0f7a4_14 ?_
  refine lv_iload_n hx hb dJ6_bitCount_0f7a4_15 rfl (lv_at hl 0 rfl) ?_
  refine lv_iconst (v := 2) hx hb dJ6_bitCount_0f7a4_16 (by decide) ?_
  refine lv_iushr hx hb dJ6_bitCount_0f7a4_17 rfl ?_
  refine lv_ldcw (v := 858993459) hx hb hown (hts _ mJ6_bitCount_0f7a4_2) dJ6_bitCount_0f7a4_18 ?_
  refine lv_iand hx hb dJ6_bitCount_0f7a4_21 ?_
  refine lv_iadd hx hb dJ6_bitCount_0f7a4_22 ?_
  refine lv_topi (fun v2 ev2 => ?_)
  have hf := hf v2 ev2
  refine lv_istore_n (lv' := [(0, .int v2)]) hx hb dJ6_bitCount_0f7a4_23 rfl hl (by decide) rfl (fun ls hl => ?_)
  refine lv_iload_n hx hb dJ6_bitCount_0f7a4_24 rfl (lv_at hl 0 rfl) ?_
  refine lv_iload_n hx hb dJ6_bitCount_0f7a4_25 rfl (lv_at hl 0 rfl) ?_
  refine lv_iconst (v := 4) hx hb dJ6_bitCount_0f7a4_26 (by decide) ?_
  refine lv_iushr hx hb dJ6_bitCount_0f7a4_27 rfl ?_
  refine lv_iadd hx hb dJ6_bitCount_0f7a4_28 ?_
  refine lv_ldcw (v := 252645135) hx hb hown (hts _ mJ6_bitCount_0f7a4_3) dJ6_bitCount_0f7a4_29 ?_
  refine lv_iand hx hb dJ6_bitCount_0f7a4_32 ?_
  refine lv_topi (fun v3 ev3 => ?_)
  have hf := hf v3 ev3
  refine lv_istore_n (lv' := [(0, .int v3)]) hx hb dJ6_bitCount_0f7a4_33 rfl hl (by decide) rfl (fun ls hl => ?_)
  refine lv_iload_n hx hb dJ6_bitCount_0f7a4_34 rfl (lv_at hl 0 rfl) ?_
  refine lv_iload_n hx hb dJ6_bitCount_0f7a4_35 rfl (lv_at hl 0 rfl) ?_
  refine lv_bipush (v := 8) hx hb dJ6_bitCount_0f7a4_36 (by decide) ?_
  refine lv_iushr hx hb dJ6_bitCount_0f7a4_38 rfl ?_
  refine lv_iadd hx hb dJ6_bitCount_0f7a4_39 ?_
  refine lv_topi (fun v4 ev4 => ?_)
  have hf := hf v4 ev4
  refine lv_istore_n (lv' := [(0, .int v4)]) hx hb dJ6_bitCount_0f7a4_40 rfl hl (by decide) rfl (fun ls hl => ?_)
  refine lv_iload_n hx hb dJ6_bitCount_0f7a4_41 rfl (lv_at hl 0 rfl) ?_
  refine lv_iload_n hx hb dJ6_bitCount_0f7a4_42 rfl (lv_at hl 0 rfl) ?_
  refine lv_bipush (v := 16) hx hb dJ6_bitCount_0f7a4_43 (by decide) ?_
  refine lv_iushr hx hb dJ6_bitCount_0f7a4_45 rfl ?_
  refine lv_iadd hx hb dJ6_bitCount_0f7a4_46 ?_
  refine lv_topi (fun v5 ev5 => ?_)
  have hf := hf v5 ev5
  refine lv_istore_n (lv' := [(0, .int v5)]) hx hb dJ6_bitCount_0f7a4_47 rfl hl (by decide) rfl (fun ls hl => ?_)
  refine lv_iload_n hx hb dJ6_bitCount_0f7a4_48 rfl (lv_at hl 0 rfl) ?_
  refine lv_bipush (v := 63) hx hb dJ6_bitCount_0f7a4_49 (by decide) ?_
  refine lv_iand hx hb dJ6_bitCount_0f7a4_51 ?_
  exact hret 52 ls (v5 &&& 63) dJ6_bitCount_0f7a4_52 hf

/-! X6_year -/
theorem mX6_year_1 : Cond.fieldLink RX6 33 "OxenKneel" "tale" "LOxenKneel$Tale;" ∈ wsX6_year := List.mem_of_getElem? (i := 1) rfl
theorem mX6_year_2 : Cond.fieldLink RX6 10 "OxenKneel" "now" "LOxenKneel$World;" ∈ wsX6_year := List.mem_of_getElem? (i := 2) rfl
theorem mX6_year_3 : Cond.fieldLink RX6 102 "OxenKneel$Tale" "world" "LOxenKneel$World;" ∈ wsX6_year := List.mem_of_getElem? (i := 3) rfl
theorem mX6_year_4 : Cond.fieldLink RX6 68 "OxenKneel$World" "year" "I" ∈ wsX6_year := List.mem_of_getElem? (i := 4) rfl
theorem nX6_year_X6 : ∀ w ∈ wsX60, w ∈ wsX6_year := fun _ h => List.mem_cons_of_mem _ (List.mem_append_left _ (List.mem_append_left _ (List.mem_append_left _ (List.mem_append_right _ h))))
theorem nX6_year_X4 : ∀ w ∈ wsX40, w ∈ wsX6_year := fun _ h => List.mem_cons_of_mem _ (List.mem_append_left _ (List.mem_append_left _ (List.mem_append_right _ h)))
theorem nX6_year_X5 : ∀ w ∈ wsX50, w ∈ wsX6_year := fun _ h => List.mem_cons_of_mem _ (List.mem_append_left _ (List.mem_append_right _ h))
def pX6_year (t_now_date : Int32) (t_now_hour : Int32) (t_now_year : Int32) (t_now_shift : Int32) (t_now_kneelDate : Int32) (t_now_places : (Nat → Int32)) (t_now_coins : (Nat → Int32)) (t_now_lying : (Nat → Int32)) (t_tale_world_date : Int32) (t_tale_world_hour : Int32) (t_tale_world_year : Int32) (t_tale_world_shift : Int32) (t_tale_world_kneelDate : Int32) (t_tale_world_places : (Nat → Int32)) (t_tale_world_coins : (Nat → Int32)) (t_tale_world_lying : (Nat → Int32)) (t_tale_act_sign : Int32) (t_tale_act_person : Int32) (t_tale_act_number : Int32) (a1 : Int32) (a2 : Int32) (a3 : Int32) (post : Int32 → (Int32 × Int32 × Int32 × Int32 × Int32 × (Nat → Int32) × (Nat → Int32) × (Nat → Int32) × Int32 × Int32 × Int32) → Prop) : Prop :=
  pX6_isIn a1 0 9999 (fun r1 => (r1 = 0 → (post (-2) (t_tale_world_date, t_tale_world_hour, t_tale_world_year, t_tale_world_shift, t_tale_world_kneelDate, t_tale_world_places, t_tale_world_coins, t_tale_world_lying, t_tale_act_sign, t_tale_act_person, t_tale_act_number))) ∧ (¬ r1 = 0 → (pX6_isIn a2 1 99 (fun r3 => (r3 = 0 → (post (-2) (t_tale_world_date, t_tale_world_hour, t_tale_world_year, t_tale_world_shift, t_tale_world_kneelDate, t_tale_world_places, t_tale_world_coins, t_tale_world_lying, t_tale_act_sign, t_tale_act_person, t_tale_act_number))) ∧ (¬ r3 = 0 → (pX6_isIn a3 0 2 (fun r5 => (¬ r5 = 0 → (pX4_tellByDraws t_tale_world_date t_tale_world_hour t_tale_world_year t_tale_world_shift t_tale_world_kneelDate t_tale_world_places t_tale_world_coins t_tale_world_lying t_tale_act_sign t_tale_act_person t_tale_act_number t_now_date t_now_hour t_now_year t_now_shift t_now_kneelDate t_now_places t_now_coins t_now_lying a1 a2 (fun (u8 : Int32 × Int32 × Int32 × Int32 × Int32 × (Nat → Int32) × (Nat → Int32) × (Nat → Int32) × Int32 × Int32 × Int32) => (a3 = 0 → (pX5_whoIsWithin u8.2.2.2.2.2.1 (fun r10 => pJ6_bitCount_0f7a4 r10 (fun r11 => post r11 (u8.1, u8.2.1, u8.2.2.1, u8.2.2.2.1, u8.2.2.2.2.1, u8.2.2.2.2.2.1, u8.2.2.2.2.2.2.1, u8.2.2.2.2.2.2.2.1, u8.2.2.2.2.2.2.2.2.1, u8.2.2.2.2.2.2.2.2.2.1, u8.2.2.2.2.2.2.2.2.2.2))))) ∧ ((a3 = 1 → (pX5_liesInAll u8.2.2.2.2.2.2.2.1 (fun r13 => post r13 (u8.1, u8.2.1, u8.2.2.1, u8.2.2.2.1, u8.2.2.2.2.1, u8.2.2.2.2.2.1, u8.2.2.2.2.2.2.1, u8.2.2.2.2.2.2.2.1, u8.2.2.2.2.2.2.2.2.1, u8.2.2.2.2.2.2.2.2.2.1, u8.2.2.2.2.2.2.2.2.2.2)))) ∧ ((¬ a3 = 0 → ¬ a3 = 1 → (post u8.2.2.1 (u8.1, u8.2.1, u8.2.2.1, u8.2.2.2.1, u8.2.2.2.2.1, u8.2.2.2.2.2.1, u8.2.2.2.2.2.2.1, u8.2.2.2.2.2.2.2.1, u8.2.2.2.2.2.2.2.2.1, u8.2.2.2.2.2.2.2.2.2.1, u8.2.2.2.2.2.2.2.2.2.2)))))))) ∧ (r5 = 0 → (post (-2) (t_tale_world_date, t_tale_world_hour, t_tale_world_year, t_tale_world_shift, t_tale_world_kneelDate, t_tale_world_places, t_tale_world_coins, t_tale_world_lying, t_tale_act_sign, t_tale_act_person, t_tale_act_number))))))))))

set_option maxHeartbeats 4000000 in
set_option maxRecDepth 100000 in
theorem kX6_year (l : Launch) (D : va_G) (cI cZ cJ cO : ClassId) (q_t q_t_now q_t_now_places q_t_now_coins q_t_now_lying q_t_tale q_t_tale_world q_t_tale_world_places q_t_tale_world_coins q_t_tale_world_lying q_t_tale_act q_t_sights q_t_pad q_t_images : Nat) (sz : Nat) (t_tale_acts : Int32) (t_tale_failedAct : Int32) (t_tale_failedWhy : Int32) (t_tale_metAct : Int32) (t_tale_metTwo : Int32) (t_now_date : Int32) (t_now_hour : Int32) (t_now_year : Int32) (t_now_shift : Int32) (t_now_kneelDate : Int32) (t_now_places : (Nat → Int32)) (t_now_coins : (Nat → Int32)) (t_now_lying : (Nat → Int32)) (t_tale_world_date : Int32) (t_tale_world_hour : Int32) (t_tale_world_year : Int32) (t_tale_world_shift : Int32) (t_tale_world_kneelDate : Int32) (t_tale_world_places : (Nat → Int32)) (t_tale_world_coins : (Nat → Int32)) (t_tale_world_lying : (Nat → Int32)) (t_tale_act_sign : Int32) (t_tale_act_person : Int32) (t_tale_act_number : Int32) (a1 : Int32) (a2 : Int32) (a3 : Int32) (post : Int32 → (Int32 × Int32 × Int32 × Int32 × Int32 × (Nat → Int32) × (Nat → Int32) × (Nat → Int32) × Int32 × Int32 × Int32) → Prop) (hf : pX6_year t_now_date t_now_hour t_now_year t_now_shift t_now_kneelDate t_now_places t_now_coins t_now_lying t_tale_world_date t_tale_world_hour t_tale_world_year t_tale_world_shift t_tale_world_kneelDate t_tale_world_places t_tale_world_coins t_tale_world_lying t_tale_act_sign t_tale_act_person t_tale_act_number a1 a2 a3 post) :
    Met l yX6_year wsX6_year ({ frames := 5, cells := 0, slots := 0, locals := 113 } : Room) (va_Pc [.ref q_t, .int a1, .int a2, .int a3] (B1 D (tyL cI cZ cJ cO) [(q_t, .inr (6, [.ref q_t_now, .ref q_t_sights, .ref q_t_pad, .ref q_t_tale, .ref q_t_images])), (q_t_now, .inr (5, [.int t_now_date, .int t_now_hour, .int t_now_year, .int t_now_shift, .int t_now_kneelDate, .ref q_t_now_places, .ref q_t_now_coins, .ref q_t_now_lying])), (q_t_now_places, .inl (cI, 6, .inl t_now_places)), (q_t_now_coins, .inl (cI, 6, .inl t_now_coins)), (q_t_now_lying, .inl (cI, 30, .inl t_now_lying)), (q_t_tale, .inr (4, [.ref q_t_tale_world, .int t_tale_acts, .int t_tale_failedAct, .int t_tale_failedWhy, .int t_tale_metAct, .int t_tale_metTwo, .ref q_t_tale_act])), (q_t_tale_world, .inr (5, [.int t_tale_world_date, .int t_tale_world_hour, .int t_tale_world_year, .int t_tale_world_shift, .int t_tale_world_kneelDate, .ref q_t_tale_world_places, .ref q_t_tale_world_coins, .ref q_t_tale_world_lying])), (q_t_tale_world_places, .inl (cI, 6, .inl t_tale_world_places)), (q_t_tale_world_coins, .inl (cI, 6, .inl t_tale_world_coins)), (q_t_tale_world_lying, .inl (cI, 30, .inl t_tale_world_lying)), (q_t_tale_act, .inr (0, [.int t_tale_act_sign, .int t_tale_act_person, .int t_tale_act_number]))] sz)) (va_Qi post (fun u t => E1 D (va_A [(q_t, .inr (6, [.ref q_t_now, .ref q_t_sights, .ref q_t_pad, .ref q_t_tale, .ref q_t_images])), (q_t_now, .inr (5, [.int t_now_date, .int t_now_hour, .int t_now_year, .int t_now_shift, .int t_now_kneelDate, .ref q_t_now_places, .ref q_t_now_coins, .ref q_t_now_lying])), (q_t_now_places, .inl (cI, 6, .inl t_now_places)), (q_t_now_coins, .inl (cI, 6, .inl t_now_coins)), (q_t_now_lying, .inl (cI, 30, .inl t_now_lying)), (q_t_tale, .inr (4, [.ref q_t_tale_world, .int t_tale_acts, .int t_tale_failedAct, .int t_tale_failedWhy, .int t_tale_metAct, .int t_tale_metTwo, .ref q_t_tale_act])), (q_t_tale_world, .inr (5, [.int t_tale_world_date, .int t_tale_world_hour, .int t_tale_world_year, .int t_tale_world_shift, .int t_tale_world_kneelDate, .ref q_t_tale_world_places, .ref q_t_tale_world_coins, .ref q_t_tale_world_lying])), (q_t_tale_world_places, .inl (cI, 6, .inl t_tale_world_places)), (q_t_tale_world_coins, .inl (cI, 6, .inl t_tale_world_coins)), (q_t_tale_world_lying, .inl (cI, 30, .inl t_tale_world_lying)), (q_t_tale_act, .inr (0, [.int t_tale_act_sign, .int t_tale_act_person, .int t_tale_act_number]))] sz) ((fun u : Int32 × Int32 × Int32 × Int32 × Int32 × (Nat → Int32) × (Nat → Int32) × (Nat → Int32) × Int32 × Int32 × Int32 => [(q_t, .inr (6, [.ref q_t_now, .ref q_t_sights, .ref q_t_pad, .ref q_t_tale, .ref q_t_images])), (q_t_now, .inr (5, [.int t_now_date, .int t_now_hour, .int t_now_year, .int t_now_shift, .int t_now_kneelDate, .ref q_t_now_places, .ref q_t_now_coins, .ref q_t_now_lying])), (q_t_now_places, .inl (cI, 6, .inl t_now_places)), (q_t_now_coins, .inl (cI, 6, .inl t_now_coins)), (q_t_now_lying, .inl (cI, 30, .inl t_now_lying)), (q_t_tale, .inr (4, [.ref q_t_tale_world, .int t_tale_acts, .int t_tale_failedAct, .int t_tale_failedWhy, .int t_tale_metAct, .int t_tale_metTwo, .ref q_t_tale_act])), (q_t_tale_world, .inr (5, [.int u.1, .int u.2.1, .int u.2.2.1, .int u.2.2.2.1, .int u.2.2.2.2.1, .ref q_t_tale_world_places, .ref q_t_tale_world_coins, .ref q_t_tale_world_lying])), (q_t_tale_world_places, .inl (cI, 6, .inl u.2.2.2.2.2.1)), (q_t_tale_world_coins, .inl (cI, 6, .inl u.2.2.2.2.2.2.1)), (q_t_tale_world_lying, .inl (cI, 30, .inl u.2.2.2.2.2.2.2.1)), (q_t_tale_act, .inr (0, [.int u.2.2.2.2.2.2.2.2.1, .int u.2.2.2.2.2.2.2.2.2.1, .int u.2.2.2.2.2.2.2.2.2.2]))]) u) t) (va_A [(q_t, .inr (6, [.ref q_t_now, .ref q_t_sights, .ref q_t_pad, .ref q_t_tale, .ref q_t_images])), (q_t_now, .inr (5, [.int t_now_date, .int t_now_hour, .int t_now_year, .int t_now_shift, .int t_now_kneelDate, .ref q_t_now_places, .ref q_t_now_coins, .ref q_t_now_lying])), (q_t_now_places, .inl (cI, 6, .inl t_now_places)), (q_t_now_coins, .inl (cI, 6, .inl t_now_coins)), (q_t_now_lying, .inl (cI, 30, .inl t_now_lying)), (q_t_tale, .inr (4, [.ref q_t_tale_world, .int t_tale_acts, .int t_tale_failedAct, .int t_tale_failedWhy, .int t_tale_metAct, .int t_tale_metTwo, .ref q_t_tale_act])), (q_t_tale_world, .inr (5, [.int t_tale_world_date, .int t_tale_world_hour, .int t_tale_world_year, .int t_tale_world_shift, .int t_tale_world_kneelDate, .ref q_t_tale_world_places, .ref q_t_tale_world_coins, .ref q_t_tale_world_lying])), (q_t_tale_world_places, .inl (cI, 6, .inl t_tale_world_places)), (q_t_tale_world_coins, .inl (cI, 6, .inl t_tale_world_coins)), (q_t_tale_world_lying, .inl (cI, 30, .inl t_tale_world_lying)), (q_t_tale_act, .inr (0, [.int t_tale_act_sign, .int t_tale_act_person, .int t_tale_act_number]))] sz)) 0 0 (va_A [(q_t, .inr (6, [.ref q_t_now, .ref q_t_sights, .ref q_t_pad, .ref q_t_tale, .ref q_t_images])), (q_t_now, .inr (5, [.int t_now_date, .int t_now_hour, .int t_now_year, .int t_now_shift, .int t_now_kneelDate, .ref q_t_now_places, .ref q_t_now_coins, .ref q_t_now_lying])), (q_t_now_places, .inl (cI, 6, .inl t_now_places)), (q_t_now_coins, .inl (cI, 6, .inl t_now_coins)), (q_t_now_lying, .inl (cI, 30, .inl t_now_lying)), (q_t_tale, .inr (4, [.ref q_t_tale_world, .int t_tale_acts, .int t_tale_failedAct, .int t_tale_failedWhy, .int t_tale_metAct, .int t_tale_metTwo, .ref q_t_tale_act])), (q_t_tale_world, .inr (5, [.int t_tale_world_date, .int t_tale_world_hour, .int t_tale_world_year, .int t_tale_world_shift, .int t_tale_world_kneelDate, .ref q_t_tale_world_places, .ref q_t_tale_world_coins, .ref q_t_tale_world_lying])), (q_t_tale_world_places, .inl (cI, 6, .inl t_tale_world_places)), (q_t_tale_world_coins, .inl (cI, 6, .inl t_tale_world_coins)), (q_t_tale_world_lying, .inl (cI, 30, .inl t_tale_world_lying)), (q_t_tale_act, .inr (0, [.int t_tale_act_sign, .int t_tale_act_person, .int t_tale_act_number]))] sz) := by
  unfold pX6_year at hf
  refine xm_1i (own := RX6) (by decide) rfl rfl (Nat.le_of_ble_eq_true rfl) (fun p e s m args below meth c Q A C0 hN hK hA hret hP hD ls hl => ?_)
  obtain ⟨hx, hb, hml, hown, hts⟩ := id C0
  have hl : lv_has ls 4 [(0, .ref q_t), (1, .int a1), (2, .int a2), (3, .int a3)] := hl
  have hS : va_S A s.heap s.heap [] := va_S.rf
  obtain ⟨H, hHe⟩ : ∃ H, H = s.heap := ⟨_, rfl⟩
  obtain ⟨locs, hLe⟩ : ∃ L : List Loc, L = [] := ⟨_, rfl⟩
  rw [← hLe]
  rw [← hLe] at hS
  have hP : va_P D vwCl [(q_t, .inr (6, [.ref q_t_now, .ref q_t_sights, .ref q_t_pad, .ref q_t_tale, .ref q_t_images])), (q_t_now, .inr (5, [.int t_now_date, .int t_now_hour, .int t_now_year, .int t_now_shift, .int t_now_kneelDate, .ref q_t_now_places, .ref q_t_now_coins, .ref q_t_now_lying])), (q_t_now_places, .inl (cI, 6, .inl t_now_places)), (q_t_now_coins, .inl (cI, 6, .inl t_now_coins)), (q_t_now_lying, .inl (cI, 30, .inl t_now_lying)), (q_t_tale, .inr (4, [.ref q_t_tale_world, .int t_tale_acts, .int t_tale_failedAct, .int t_tale_failedWhy, .int t_tale_metAct, .int t_tale_metTwo, .ref q_t_tale_act])), (q_t_tale_world, .inr (5, [.int t_tale_world_date, .int t_tale_world_hour, .int t_tale_world_year, .int t_tale_world_shift, .int t_tale_world_kneelDate, .ref q_t_tale_world_places, .ref q_t_tale_world_coins, .ref q_t_tale_world_lying])), (q_t_tale_world_places, .inl (cI, 6, .inl t_tale_world_places)), (q_t_tale_world_coins, .inl (cI, 6, .inl t_tale_world_coins)), (q_t_tale_world_lying, .inl (cI, 30, .inl t_tale_world_lying)), (q_t_tale_act, .inr (0, [.int t_tale_act_sign, .int t_tale_act_person, .int t_tale_act_number]))] H := by rw [hHe]; exact hP
  have hS : va_S A s.heap H locs := by rw [hHe]; exact hS
  suffices hgo : W p l e ({ frames := 5, cells := 0, slots := 0, locals := 113 } : Room) s m args below meth c H locs 0 0 Q (F0 m 0 ls []) by rw [← hHe]; exact hgo
  clear hHe hLe
  refine lv_iload_n hx hb dX6_year_0 rfl (lv_at hl 1 rfl) ?_
  refine lv_iconst (v := 0) hx hb dX6_year_1 (by decide) ?_
  refine lv_sipush (v := 9999) hx hb dX6_year_2 (by decide) ?_
  refine xs_i (va_runS (As := [.int a1, .int 0, .int 9999]) (rest := []) ⟨hx, hb, hml, hown, hts⟩ (kX6_isIn l D cI cZ cJ cO a1 0 9999 _ hf) (va_cwS 3 hts gX6_year_X6_isIn rfl rfl rfl (by decide +kernel) ⟨Nat.le_of_ble_eq_true rfl, Nat.le_of_ble_eq_true rfl⟩) (B0_pre (hP.sub (ws' := []) [] rfl) hK hN) rfl rfl hl.1 rfl (lv_room (Nat.le_of_ble_eq_true rfl)) dX6_year_5 ⟨Nat.zero_le _, Nat.zero_le _⟩) (fun r1 hf => ?_)
  refine lv_if_eq (tgt := 30) hx hb dX6_year_8 (by decide) (fun c2 => ?_) (fun c2 => ?_)
  · have hf := hf.1 c2
    refine lv_bipush (v := (-2)) hx hb dX6_year_30 (by decide) ?_
    exact hret 32 ls H locs (-2) (t_tale_world_date, t_tale_world_hour, t_tale_world_year, t_tale_world_shift, t_tale_world_kneelDate, t_tale_world_places, t_tale_world_coins, t_tale_world_lying, t_tale_act_sign, t_tale_act_person, t_tale_act_number) dX6_year_32 hf hP hD hS
  · have hf := hf.2 c2
    refine lv_iload_n hx hb dX6_year_11 rfl (lv_at hl 2 rfl) ?_
    refine lv_iconst (v := 1) hx hb dX6_year_12 (by decide) ?_
    refine lv_bipush (v := 99) hx hb dX6_year_13 (by decide) ?_
    refine xs_i (va_runS (As := [.int a2, .int 1, .int 99]) (rest := []) ⟨hx, hb, hml, hown, hts⟩ (kX6_isIn l D cI cZ cJ cO a2 1 99 _ hf) (va_cwS 3 hts gX6_year_X6_isIn rfl rfl rfl (by decide +kernel) ⟨Nat.le_of_ble_eq_true rfl, Nat.le_of_ble_eq_true rfl⟩) (B0_pre (hP.sub (ws' := []) [] rfl) hK hN) rfl rfl hl.1 rfl (lv_room (Nat.le_of_ble_eq_true rfl)) dX6_year_15 ⟨Nat.zero_le _, Nat.zero_le _⟩) (fun r3 hf => ?_)
    refine lv_if_eq (tgt := 30) hx hb dX6_year_18 (by decide) (fun c4 => ?_) (fun c4 => ?_)
    · have hf := hf.1 c4
      refine lv_bipush (v := (-2)) hx hb dX6_year_30 (by decide) ?_
      exact hret 32 ls H locs (-2) (t_tale_world_date, t_tale_world_hour, t_tale_world_year, t_tale_world_shift, t_tale_world_kneelDate, t_tale_world_places, t_tale_world_coins, t_tale_world_lying, t_tale_act_sign, t_tale_act_person, t_tale_act_number) dX6_year_32 hf hP hD hS
    · have hf := hf.2 c4
      refine lv_iload_n hx hb dX6_year_21 rfl (lv_at hl 3 rfl) ?_
      refine lv_iconst (v := 0) hx hb dX6_year_22 (by decide) ?_
      refine lv_iconst (v := 2) hx hb dX6_year_23 (by decide) ?_
      refine xs_i (va_runS (As := [.int a3, .int 0, .int 2]) (rest := []) ⟨hx, hb, hml, hown, hts⟩ (kX6_isIn l D cI cZ cJ cO a3 0 2 _ hf) (va_cwS 3 hts gX6_year_X6_isIn rfl rfl rfl (by decide +kernel) ⟨Nat.le_of_ble_eq_true rfl, Nat.le_of_ble_eq_true rfl⟩) (B0_pre (hP.sub (ws' := []) [] rfl) hK hN) rfl rfl hl.1 rfl (lv_room (Nat.le_of_ble_eq_true rfl)) dX6_year_24 ⟨Nat.zero_le _, Nat.zero_le _⟩) (fun r5 hf => ?_)
      refine lv_if_ne (tgt := 33) hx hb dX6_year_27 (by decide) (fun c6 => ?_) (fun c6 => ?_)
      · have hf := hf.1 c6
        refine lv_aload_n hx hb dX6_year_33 rfl (lv_at hl 0 rfl) ?_
        refine va_get (D := D) (ci := 6) (v := .ref q_t_tale) (C := RX6) (T := TX6) (N := 5) hx hb hts nX6_year_X6 hown hK hP 0 rfl rfl 3 (by decide) (hts _ mX6_year_1) (fun _ h9 => h9) rfl dX6_year_34 ?_
        refine lv_aload_n hx hb dX6_year_37 rfl (lv_at hl 0 rfl) ?_
        refine va_get (D := D) (ci := 6) (v := .ref q_t_now) (C := RX6) (T := TX6) (N := 5) hx hb hts nX6_year_X6 hown hK hP 0 rfl rfl 0 (by decide) (hts _ mX6_year_2) (fun _ h9 => h9) rfl dX6_year_38 ?_
        refine lv_iload_n hx hb dX6_year_41 rfl (lv_at hl 1 rfl) ?_
        refine lv_iload_n hx hb dX6_year_42 rfl (lv_at hl 2 rfl) ?_
        refine xc_v (wr := [(q_t, .inr (6, [.ref q_t_now, .ref q_t_sights, .ref q_t_pad, .ref q_t_tale, .ref q_t_images]))]) (va_runV (As := [.ref q_t_now, .int a1, .int a2]) (rest := []) ⟨hx, hb, hml, hown, hts⟩ (kX4_tellByDraws l D cI cZ cJ cO q_t_tale q_t_tale_world q_t_tale_world_places q_t_tale_world_coins q_t_tale_world_lying q_t_tale_act q_t_now q_t_now_places q_t_now_coins q_t_now_lying H.size t_tale_acts t_tale_failedAct t_tale_failedWhy t_tale_metAct t_tale_metTwo t_tale_world_date t_tale_world_hour t_tale_world_year t_tale_world_shift t_tale_world_kneelDate t_tale_world_places t_tale_world_coins t_tale_world_lying t_tale_act_sign t_tale_act_person t_tale_act_number t_now_date t_now_hour t_now_year t_now_shift t_now_kneelDate t_now_places t_now_coins t_now_lying a1 a2 _ hf) (cwV 3 hts gX6_year_X4_tellByDraws rfl rfl rfl (by decide +kernel) ⟨Nat.le_of_ble_eq_true rfl, Nat.le_of_ble_eq_true rfl⟩) (B1_preV (ci := 4) (q0 := 5) hP rfl rfl (hP.sub (ws' := [(q_t_tale, .inr (4, [.ref q_t_tale_world, .int t_tale_acts, .int t_tale_failedAct, .int t_tale_failedWhy, .int t_tale_metAct, .int t_tale_metTwo, .ref q_t_tale_act])), (q_t_tale_world, .inr (5, [.int t_tale_world_date, .int t_tale_world_hour, .int t_tale_world_year, .int t_tale_world_shift, .int t_tale_world_kneelDate, .ref q_t_tale_world_places, .ref q_t_tale_world_coins, .ref q_t_tale_world_lying])), (q_t_tale_world_places, .inl (cI, 6, .inl t_tale_world_places)), (q_t_tale_world_coins, .inl (cI, 6, .inl t_tale_world_coins)), (q_t_tale_world_lying, .inl (cI, 30, .inl t_tale_world_lying)), (q_t_tale_act, .inr (0, [.int t_tale_act_sign, .int t_tale_act_person, .int t_tale_act_number])), (q_t_now, .inr (5, [.int t_now_date, .int t_now_hour, .int t_now_year, .int t_now_shift, .int t_now_kneelDate, .ref q_t_now_places, .ref q_t_now_coins, .ref q_t_now_lying])), (q_t_now_places, .inl (cI, 6, .inl t_now_places)), (q_t_now_coins, .inl (cI, 6, .inl t_now_coins)), (q_t_now_lying, .inl (cI, 30, .inl t_now_lying))]) [5, 6, 7, 8, 9, 10, 1, 2, 3, 4] rfl) hK hN (hD.sub (ws' := [(q_t_tale, .inr (4, [.ref q_t_tale_world, .int t_tale_acts, .int t_tale_failedAct, .int t_tale_failedWhy, .int t_tale_metAct, .int t_tale_metTwo, .ref q_t_tale_act])), (q_t_tale_world, .inr (5, [.int t_tale_world_date, .int t_tale_world_hour, .int t_tale_world_year, .int t_tale_world_shift, .int t_tale_world_kneelDate, .ref q_t_tale_world_places, .ref q_t_tale_world_coins, .ref q_t_tale_world_lying])), (q_t_tale_world_places, .inl (cI, 6, .inl t_tale_world_places)), (q_t_tale_world_coins, .inl (cI, 6, .inl t_tale_world_coins)), (q_t_tale_world_lying, .inl (cI, 30, .inl t_tale_world_lying)), (q_t_tale_act, .inr (0, [.int t_tale_act_sign, .int t_tale_act_person, .int t_tale_act_number])), (q_t_now, .inr (5, [.int t_now_date, .int t_now_hour, .int t_now_year, .int t_now_shift, .int t_now_kneelDate, .ref q_t_now_places, .ref q_t_now_coins, .ref q_t_now_lying])), (q_t_now_places, .inl (cI, 6, .inl t_now_places)), (q_t_now_coins, .inl (cI, 6, .inl t_now_coins)), (q_t_now_lying, .inl (cI, 30, .inl t_now_lying))]) [5, 6, 7, 8, 9, 10, 1, 2, 3, 4] (by decide) rfl)) rfl rfl hl.1 rfl (lv_room (Nat.le_of_ble_eq_true rfl)) dX6_year_43 ⟨Nat.zero_le _, Nat.zero_le _⟩) hP hD hS hA [5, 6, 7, 8, 9, 10, 1, 2, 3, 4] [0] rfl rfl (by decide) (by decide) (fun u8 H locs hf hP hD hS => ?_)
        have hP : va_P D vwCl [(q_t, .inr (6, [.ref q_t_now, .ref q_t_sights, .ref q_t_pad, .ref q_t_tale, .ref q_t_images])), (q_t_tale, .inr (4, [.ref q_t_tale_world, .int t_tale_acts, .int t_tale_failedAct, .int t_tale_failedWhy, .int t_tale_metAct, .int t_tale_metTwo, .ref q_t_tale_act])), (q_t_tale_world, .inr (5, [.int u8.1, .int u8.2.1, .int u8.2.2.1, .int u8.2.2.2.1, .int u8.2.2.2.2.1, .ref q_t_tale_world_places, .ref q_t_tale_world_coins, .ref q_t_tale_world_lying])), (q_t_tale_world_places, .inl (cI, 6, .inl u8.2.2.2.2.2.1)), (q_t_tale_world_coins, .inl (cI, 6, .inl u8.2.2.2.2.2.2.1)), (q_t_tale_world_lying, .inl (cI, 30, .inl u8.2.2.2.2.2.2.2.1)), (q_t_tale_act, .inr (0, [.int u8.2.2.2.2.2.2.2.2.1, .int u8.2.2.2.2.2.2.2.2.2.1, .int u8.2.2.2.2.2.2.2.2.2.2])), (q_t_now, .inr (5, [.int t_now_date, .int t_now_hour, .int t_now_year, .int t_now_shift, .int t_now_kneelDate, .ref q_t_now_places, .ref q_t_now_coins, .ref q_t_now_lying])), (q_t_now_places, .inl (cI, 6, .inl t_now_places)), (q_t_now_coins, .inl (cI, 6, .inl t_now_coins)), (q_t_now_lying, .inl (cI, 30, .inl t_now_lying))] H := hP
        have hD : va_D A [(q_t, .inr (6, [.ref q_t_now, .ref q_t_sights, .ref q_t_pad, .ref q_t_tale, .ref q_t_images])), (q_t_tale, .inr (4, [.ref q_t_tale_world, .int t_tale_acts, .int t_tale_failedAct, .int t_tale_failedWhy, .int t_tale_metAct, .int t_tale_metTwo, .ref q_t_tale_act])), (q_t_tale_world, .inr (5, [.int u8.1, .int u8.2.1, .int u8.2.2.1, .int u8.2.2.2.1, .int u8.2.2.2.2.1, .ref q_t_tale_world_places, .ref q_t_tale_world_coins, .ref q_t_tale_world_lying])), (q_t_tale_world_places, .inl (cI, 6, .inl u8.2.2.2.2.2.1)), (q_t_tale_world_coins, .inl (cI, 6, .inl u8.2.2.2.2.2.2.1)), (q_t_tale_world_lying, .inl (cI, 30, .inl u8.2.2.2.2.2.2.2.1)), (q_t_tale_act, .inr (0, [.int u8.2.2.2.2.2.2.2.2.1, .int u8.2.2.2.2.2.2.2.2.2.1, .int u8.2.2.2.2.2.2.2.2.2.2])), (q_t_now, .inr (5, [.int t_now_date, .int t_now_hour, .int t_now_year, .int t_now_shift, .int t_now_kneelDate, .ref q_t_now_places, .ref q_t_now_coins, .ref q_t_now_lying])), (q_t_now_places, .inl (cI, 6, .inl t_now_places)), (q_t_now_coins, .inl (cI, 6, .inl t_now_coins)), (q_t_now_lying, .inl (cI, 30, .inl t_now_lying))] := hD
        refine lv_iload_n hx hb dX6_year_46 rfl (lv_at hl 3 rfl) ?_
        by_cases z9 : a3 = 0
        · have hf := hf.1 z9
          refine lv_lookup (off := 25) (tgt := 72) hx hb dX6_year_47 (by decide) (by rw [z9]; decide) (by decide) ?_
          refine lv_aload_n hx hb dX6_year_72 rfl (lv_at hl 0 rfl) ?_
          refine va_get (D := D) (ci := 6) (v := .ref q_t_tale) (C := RX6) (T := TX6) (N := 5) hx hb hts nX6_year_X6 hown hK hP 0 rfl rfl 3 (by decide) (hts _ mX6_year_1) (fun _ h9 => h9) rfl dX6_year_73 ?_
          refine va_get (D := D) (ci := 4) (v := .ref q_t_tale_world) (C := RX4) (T := TX4) (N := 7) hx hb hts nX6_year_X4 hown hK hP 1 rfl rfl 0 (by decide) (hts _ mX6_year_3) (fun _ h9 => h9) rfl dX6_year_76 ?_
          refine xs_i (va_runV (As := []) (rest := []) ⟨hx, hb, hml, hown, hts⟩ (kX5_whoIsWithin l D cI cZ cJ cO q_t_tale_world q_t_tale_world_places q_t_tale_world_coins q_t_tale_world_lying u8.1 u8.2.1 u8.2.2.1 u8.2.2.2.1 u8.2.2.2.2.1 u8.2.2.2.2.2.1 _ hf) (cwV 0 hts gX6_year_X5_whoIsWithin rfl rfl rfl (by decide +kernel) ⟨Nat.le_of_ble_eq_true rfl, Nat.le_of_ble_eq_true rfl⟩) (B0_preV (ci := 5) (q0 := 2) hP rfl rfl (hP.sub (ws' := [(q_t_tale_world, .inr (5, [.int u8.1, .int u8.2.1, .int u8.2.2.1, .int u8.2.2.2.1, .int u8.2.2.2.2.1, .ref q_t_tale_world_places, .ref q_t_tale_world_coins, .ref q_t_tale_world_lying])), (q_t_tale_world_places, .inl (cI, 6, .inl u8.2.2.2.2.2.1))]) [2, 3] rfl) hK hN) rfl rfl hl.1 rfl (lv_room (Nat.le_of_ble_eq_true rfl)) dX6_year_79 ⟨Nat.zero_le _, Nat.zero_le _⟩) (fun r10 hf => ?_)
          refine xs_i (va_runS (As := [.int r10]) (rest := []) ⟨hx, hb, hml, hown, hts⟩ (kJ6_bitCount_0f7a4 l D cI cZ cJ cO r10 _ hf) (va_cwS 1 hts gX6_year_J6_bitCount_0f7a4 rfl rfl rfl (by decide +kernel) ⟨Nat.le_of_ble_eq_true rfl, Nat.le_of_ble_eq_true rfl⟩) (B0_pre (hP.sub (ws' := []) [] rfl) hK hN) rfl rfl hl.1 rfl (lv_room (Nat.le_of_ble_eq_true rfl)) dX6_year_82 ⟨Nat.zero_le _, Nat.zero_le _⟩) (fun r11 hf => ?_)
          exact hret 85 ls H locs r11 (u8.1, u8.2.1, u8.2.2.1, u8.2.2.2.1, u8.2.2.2.2.1, u8.2.2.2.2.2.1, u8.2.2.2.2.2.2.1, u8.2.2.2.2.2.2.2.1, u8.2.2.2.2.2.2.2.2.1, u8.2.2.2.2.2.2.2.2.2.1, u8.2.2.2.2.2.2.2.2.2.2) dX6_year_85 hf (hP.sub [0, 7, 8, 9, 10, 1, 2, 3, 4, 5, 6] rfl) (hD.sub [0, 7, 8, 9, 10, 1, 2, 3, 4, 5, 6] (by decide) rfl) hS
        · have hf := hf.2
          by_cases z12 : a3 = 1
          · have hf := hf.1 z12
            refine lv_lookup (off := 39) (tgt := 86) hx hb dX6_year_47 (by decide) (by rw [z12]; decide) (by decide) ?_
            refine lv_aload_n hx hb dX6_year_86 rfl (lv_at hl 0 rfl) ?_
            refine va_get (D := D) (ci := 6) (v := .ref q_t_tale) (C := RX6) (T := TX6) (N := 5) hx hb hts nX6_year_X6 hown hK hP 0 rfl rfl 3 (by decide) (hts _ mX6_year_1) (fun _ h9 => h9) rfl dX6_year_87 ?_
            refine va_get (D := D) (ci := 4) (v := .ref q_t_tale_world) (C := RX4) (T := TX4) (N := 7) hx hb hts nX6_year_X4 hown hK hP 1 rfl rfl 0 (by decide) (hts _ mX6_year_3) (fun _ h9 => h9) rfl dX6_year_90 ?_
            refine xs_i (va_runV (As := []) (rest := []) ⟨hx, hb, hml, hown, hts⟩ (kX5_liesInAll l D cI cZ cJ cO q_t_tale_world q_t_tale_world_lying q_t_tale_world_places q_t_tale_world_coins u8.1 u8.2.1 u8.2.2.1 u8.2.2.2.1 u8.2.2.2.2.1 u8.2.2.2.2.2.2.2.1 _ hf) (cwV 0 hts gX6_year_X5_liesInAll rfl rfl rfl (by decide +kernel) ⟨Nat.le_of_ble_eq_true rfl, Nat.le_of_ble_eq_true rfl⟩) (B0_preV (ci := 5) (q0 := 2) hP rfl rfl (hP.sub (ws' := [(q_t_tale_world, .inr (5, [.int u8.1, .int u8.2.1, .int u8.2.2.1, .int u8.2.2.2.1, .int u8.2.2.2.2.1, .ref q_t_tale_world_places, .ref q_t_tale_world_coins, .ref q_t_tale_world_lying])), (q_t_tale_world_lying, .inl (cI, 30, .inl u8.2.2.2.2.2.2.2.1))]) [2, 5] rfl) hK hN) rfl rfl hl.1 rfl (lv_room (Nat.le_of_ble_eq_true rfl)) dX6_year_93 ⟨Nat.zero_le _, Nat.zero_le _⟩) (fun r13 hf => ?_)
            exact hret 96 ls H locs r13 (u8.1, u8.2.1, u8.2.2.1, u8.2.2.2.1, u8.2.2.2.2.1, u8.2.2.2.2.2.1, u8.2.2.2.2.2.2.1, u8.2.2.2.2.2.2.2.1, u8.2.2.2.2.2.2.2.2.1, u8.2.2.2.2.2.2.2.2.2.1, u8.2.2.2.2.2.2.2.2.2.2) dX6_year_96 hf (hP.sub [0, 7, 8, 9, 10, 1, 2, 3, 4, 5, 6] rfl) (hD.sub [0, 7, 8, 9, 10, 1, 2, 3, 4, 5, 6] (by decide) rfl) hS
          · have hf := hf.2
            have hf := hf z9 z12
            refine lv_lookup (off := 50) (tgt := 97) hx hb dX6_year_47 (by decide) ((lv_osw z9 (by decide)).trans ((lv_osw z12 (by decide)).trans (rfl))) (by decide) ?_
            refine lv_aload_n hx hb dX6_year_97 rfl (lv_at hl 0 rfl) ?_
            refine va_get (D := D) (ci := 6) (v := .ref q_t_tale) (C := RX6) (T := TX6) (N := 5) hx hb hts nX6_year_X6 hown hK hP 0 rfl rfl 3 (by decide) (hts _ mX6_year_1) (fun _ h9 => h9) rfl dX6_year_98 ?_
            refine va_get (D := D) (ci := 4) (v := .ref q_t_tale_world) (C := RX4) (T := TX4) (N := 7) hx hb hts nX6_year_X4 hown hK hP 1 rfl rfl 0 (by decide) (hts _ mX6_year_3) (fun _ h9 => h9) rfl dX6_year_101 ?_
            refine va_get (D := D) (ci := 5) (v := .int u8.2.2.1) (C := RX5) (T := TX5) (N := 8) hx hb hts nX6_year_X5 hown hK hP 2 rfl rfl 2 (by decide) (hts _ mX6_year_4) (fun _ h9 => h9) rfl dX6_year_104 ?_
            exact hret 107 ls H locs u8.2.2.1 (u8.1, u8.2.1, u8.2.2.1, u8.2.2.2.1, u8.2.2.2.2.1, u8.2.2.2.2.2.1, u8.2.2.2.2.2.2.1, u8.2.2.2.2.2.2.2.1, u8.2.2.2.2.2.2.2.2.1, u8.2.2.2.2.2.2.2.2.2.1, u8.2.2.2.2.2.2.2.2.2.2) dX6_year_107 hf (hP.sub [0, 7, 8, 9, 10, 1, 2, 3, 4, 5, 6] rfl) (hD.sub [0, 7, 8, 9, 10, 1, 2, 3, 4, 5, 6] (by decide) rfl) hS
      · have hf := hf.2 c6
        refine lv_bipush (v := (-2)) hx hb dX6_year_30 (by decide) ?_
        exact hret 32 ls H locs (-2) (t_tale_world_date, t_tale_world_hour, t_tale_world_year, t_tale_world_shift, t_tale_world_kneelDate, t_tale_world_places, t_tale_world_coins, t_tale_world_lying, t_tale_act_sign, t_tale_act_person, t_tale_act_number) dX6_year_32 hf hP hD hS

/-! X6_image -/
theorem mX6_image_1 : Cond.fieldLink RX6 39 "OxenKneel" "images" "[LOxenKneel$Image;" ∈ wsX6_image := List.mem_of_getElem? (i := 1) rfl
theorem mX6_image_2 : Cond.fieldLink RX6 213 "OxenKneel$Image" "world" "LOxenKneel$World;" ∈ wsX6_image := List.mem_of_getElem? (i := 2) rfl
theorem mX6_image_3 : Cond.fieldLink RX6 10 "OxenKneel" "now" "LOxenKneel$World;" ∈ wsX6_image := List.mem_of_getElem? (i := 3) rfl
theorem mX6_image_4 : Cond.fieldLink RX6 214 "OxenKneel$Image" "sights" "LOxenKneel$Sights;" ∈ wsX6_image := List.mem_of_getElem? (i := 4) rfl
theorem mX6_image_5 : Cond.fieldLink RX6 19 "OxenKneel" "sights" "LOxenKneel$Sights;" ∈ wsX6_image := List.mem_of_getElem? (i := 5) rfl
theorem mX6_image_6 : Cond.fieldLink RX6 218 "OxenKneel$Image" "isKept" "Z" ∈ wsX6_image := List.mem_of_getElem? (i := 6) rfl
theorem nX6_image_X6 : ∀ w ∈ wsX60, w ∈ wsX6_image := fun _ h => List.mem_cons_of_mem _ (List.mem_append_left _ (List.mem_append_left _ (List.mem_append_left _ (List.mem_append_right _ h))))
theorem nX6_image_X1 : ∀ w ∈ wsX10, w ∈ wsX6_image := fun _ h => List.mem_cons_of_mem _ (List.mem_append_left _ (List.mem_append_left _ (List.mem_append_right _ h)))
def pX6_image (t_now_date : Int32) (t_now_hour : Int32) (t_now_year : Int32) (t_now_shift : Int32) (t_now_kneelDate : Int32) (t_now_places : (Nat → Int32)) (t_now_coins : (Nat → Int32)) (t_now_lying : (Nat → Int32)) (t_sights_count : Int32) (t_sights_hours : (Nat → Int32)) (t_sights_rang : (Nat → Int32)) (t_images_0_isKept : Int32) (t_images_0_world_date : Int32) (t_images_0_world_hour : Int32) (t_images_0_world_year : Int32) (t_images_0_world_shift : Int32) (t_images_0_world_kneelDate : Int32) (t_images_0_world_places : (Nat → Int32)) (t_images_0_world_coins : (Nat → Int32)) (t_images_0_world_lying : (Nat → Int32)) (t_images_0_sights_count : Int32) (t_images_0_sights_hours : (Nat → Int32)) (t_images_0_sights_rang : (Nat → Int32)) (t_images_1_isKept : Int32) (t_images_1_world_date : Int32) (t_images_1_world_hour : Int32) (t_images_1_world_year : Int32) (t_images_1_world_shift : Int32) (t_images_1_world_kneelDate : Int32) (t_images_1_world_places : (Nat → Int32)) (t_images_1_world_coins : (Nat → Int32)) (t_images_1_world_lying : (Nat → Int32)) (t_images_1_sights_count : Int32) (t_images_1_sights_hours : (Nat → Int32)) (t_images_1_sights_rang : (Nat → Int32)) (a1 : Int32) (post : Int32 → (Int32 × Int32 × Int32 × Int32 × Int32 × Int32 × (Nat → Int32) × (Nat → Int32) × (Nat → Int32) × Int32 × (Nat → Int32) × (Nat → Int32) × Int32 × Int32 × Int32 × Int32 × Int32 × Int32 × (Nat → Int32) × (Nat → Int32) × (Nat → Int32) × Int32 × (Nat → Int32) × (Nat → Int32)) → Prop) : Prop :=
  pX6_isIn a1 0 1 (fun r1 => (¬ r1 = 0 → ((a1 = 0 → (pX5_become t_images_0_world_date t_images_0_world_hour t_images_0_world_year t_images_0_world_shift t_images_0_world_kneelDate t_images_0_world_places t_images_0_world_coins t_images_0_world_lying t_now_date t_now_hour t_now_year t_now_shift t_now_kneelDate t_now_places t_now_coins t_now_lying (fun (u4 : Int32 × Int32 × Int32 × Int32 × Int32 × (Nat → Int32) × (Nat → Int32) × (Nat → Int32)) => pX3_become t_images_0_sights_count t_images_0_sights_hours t_images_0_sights_rang t_sights_count t_sights_hours t_sights_rang (fun (u6 : Int32 × (Nat → Int32) × (Nat → Int32)) => post 1 (1, u4.1, u4.2.1, u4.2.2.1, u4.2.2.2.1, u4.2.2.2.2.1, u4.2.2.2.2.2.1, u4.2.2.2.2.2.2.1, u4.2.2.2.2.2.2.2, u6.1, u6.2.1, u6.2.2, t_images_1_isKept, t_images_1_world_date, t_images_1_world_hour, t_images_1_world_year, t_images_1_world_shift, t_images_1_world_kneelDate, t_images_1_world_places, t_images_1_world_coins, t_images_1_world_lying, t_images_1_sights_count, t_images_1_sights_hours, t_images_1_sights_rang))))) ∧ (¬ a1 = 0 → a1 = 1 ∧ (pX5_become t_images_1_world_date t_images_1_world_hour t_images_1_world_year t_images_1_world_shift t_images_1_world_kneelDate t_images_1_world_places t_images_1_world_coins t_images_1_world_lying t_now_date t_now_hour t_now_year t_now_shift t_now_kneelDate t_now_places t_now_coins t_now_lying (fun (u8 : Int32 × Int32 × Int32 × Int32 × Int32 × (Nat → Int32) × (Nat → Int32) × (Nat → Int32)) => pX3_become t_images_1_sights_count t_images_1_sights_hours t_images_1_sights_rang t_sights_count t_sights_hours t_sights_rang (fun (u10 : Int32 × (Nat → Int32) × (Nat → Int32)) => post 1 (t_images_0_isKept, t_images_0_world_date, t_images_0_world_hour, t_images_0_world_year, t_images_0_world_shift, t_images_0_world_kneelDate, t_images_0_world_places, t_images_0_world_coins, t_images_0_world_lying, t_images_0_sights_count, t_images_0_sights_hours, t_images_0_sights_rang, 1, u8.1, u8.2.1, u8.2.2.1, u8.2.2.2.1, u8.2.2.2.2.1, u8.2.2.2.2.2.1, u8.2.2.2.2.2.2.1, u8.2.2.2.2.2.2.2, u10.1, u10.2.1, u10.2.2))))))) ∧ (r1 = 0 → (post (-2) (t_images_0_isKept, t_images_0_world_date, t_images_0_world_hour, t_images_0_world_year, t_images_0_world_shift, t_images_0_world_kneelDate, t_images_0_world_places, t_images_0_world_coins, t_images_0_world_lying, t_images_0_sights_count, t_images_0_sights_hours, t_images_0_sights_rang, t_images_1_isKept, t_images_1_world_date, t_images_1_world_hour, t_images_1_world_year, t_images_1_world_shift, t_images_1_world_kneelDate, t_images_1_world_places, t_images_1_world_coins, t_images_1_world_lying, t_images_1_sights_count, t_images_1_sights_hours, t_images_1_sights_rang))))

set_option maxHeartbeats 4000000 in
set_option maxRecDepth 100000 in
theorem kX6_image (l : Launch) (D : va_G) (cI cZ cJ cO : ClassId) (q_t q_t_now q_t_now_places q_t_now_coins q_t_now_lying q_t_sights q_t_sights_hours q_t_sights_rang q_t_images q_t_images_0 q_t_images_0_world q_t_images_0_world_places q_t_images_0_world_coins q_t_images_0_world_lying q_t_images_0_sights q_t_images_0_sights_hours q_t_images_0_sights_rang q_t_images_1 q_t_images_1_world q_t_images_1_world_places q_t_images_1_world_coins q_t_images_1_world_lying q_t_images_1_sights q_t_images_1_sights_hours q_t_images_1_sights_rang q_t_pad q_t_tale : Nat) (t_images : Nat → Option Nat) (h_t_images_0 : t_images 0 = some q_t_images_0) (h_t_images_1 : t_images 1 = some q_t_images_1) (sz : Nat)  (t_now_date : Int32) (t_now_hour : Int32) (t_now_year : Int32) (t_now_shift : Int32) (t_now_kneelDate : Int32) (t_now_places : (Nat → Int32)) (t_now_coins : (Nat → Int32)) (t_now_lying : (Nat → Int32)) (t_sights_count : Int32) (t_sights_hours : (Nat → Int32)) (t_sights_rang : (Nat → Int32)) (t_images_0_isKept : Int32) (t_images_0_world_date : Int32) (t_images_0_world_hour : Int32) (t_images_0_world_year : Int32) (t_images_0_world_shift : Int32) (t_images_0_world_kneelDate : Int32) (t_images_0_world_places : (Nat → Int32)) (t_images_0_world_coins : (Nat → Int32)) (t_images_0_world_lying : (Nat → Int32)) (t_images_0_sights_count : Int32) (t_images_0_sights_hours : (Nat → Int32)) (t_images_0_sights_rang : (Nat → Int32)) (t_images_1_isKept : Int32) (t_images_1_world_date : Int32) (t_images_1_world_hour : Int32) (t_images_1_world_year : Int32) (t_images_1_world_shift : Int32) (t_images_1_world_kneelDate : Int32) (t_images_1_world_places : (Nat → Int32)) (t_images_1_world_coins : (Nat → Int32)) (t_images_1_world_lying : (Nat → Int32)) (t_images_1_sights_count : Int32) (t_images_1_sights_hours : (Nat → Int32)) (t_images_1_sights_rang : (Nat → Int32)) (a1 : Int32) (post : Int32 → (Int32 × Int32 × Int32 × Int32 × Int32 × Int32 × (Nat → Int32) × (Nat → Int32) × (Nat → Int32) × Int32 × (Nat → Int32) × (Nat → Int32) × Int32 × Int32 × Int32 × Int32 × Int32 × Int32 × (Nat → Int32) × (Nat → Int32) × (Nat → Int32) × Int32 × (Nat → Int32) × (Nat → Int32)) → Prop) (hf : pX6_image t_now_date t_now_hour t_now_year t_now_shift t_now_kneelDate t_now_places t_now_coins t_now_lying t_sights_count t_sights_hours t_sights_rang t_images_0_isKept t_images_0_world_date t_images_0_world_hour t_images_0_world_year t_images_0_world_shift t_images_0_world_kneelDate t_images_0_world_places t_images_0_world_coins t_images_0_world_lying t_images_0_sights_count t_images_0_sights_hours t_images_0_sights_rang t_images_1_isKept t_images_1_world_date t_images_1_world_hour t_images_1_world_year t_images_1_world_shift t_images_1_world_kneelDate t_images_1_world_places t_images_1_world_coins t_images_1_world_lying t_images_1_sights_count t_images_1_sights_hours t_images_1_sights_rang a1 post) :
    Met l yX6_image wsX6_image ({ frames := 2, cells := 0, slots := 0, locals := 81 } : Room) (va_Pc [.ref q_t, .int a1] (B1 D (tyL cI cZ cJ cO) [(q_t, .inr (6, [.ref q_t_now, .ref q_t_sights, .ref q_t_pad, .ref q_t_tale, .ref q_t_images])), (q_t_now, .inr (5, [.int t_now_date, .int t_now_hour, .int t_now_year, .int t_now_shift, .int t_now_kneelDate, .ref q_t_now_places, .ref q_t_now_coins, .ref q_t_now_lying])), (q_t_now_places, .inl (cI, 6, .inl t_now_places)), (q_t_now_coins, .inl (cI, 6, .inl t_now_coins)), (q_t_now_lying, .inl (cI, 30, .inl t_now_lying)), (q_t_sights, .inr (3, [.int t_sights_count, .ref q_t_sights_hours, .ref q_t_sights_rang])), (q_t_sights_hours, .inl (cI, 8, .inl t_sights_hours)), (q_t_sights_rang, .inl (cZ, 8, .inl t_sights_rang)), (q_t_images, .inl (cO, 2, .inr (.inr (.inr (.inr t_images))))), (q_t_images_0, .inr (1, [.ref q_t_images_0_world, .ref q_t_images_0_sights, .int t_images_0_isKept])), (q_t_images_0_world, .inr (5, [.int t_images_0_world_date, .int t_images_0_world_hour, .int t_images_0_world_year, .int t_images_0_world_shift, .int t_images_0_world_kneelDate, .ref q_t_images_0_world_places, .ref q_t_images_0_world_coins, .ref q_t_images_0_world_lying])), (q_t_images_0_world_places, .inl (cI, 6, .inl t_images_0_world_places)), (q_t_images_0_world_coins, .inl (cI, 6, .inl t_images_0_world_coins)), (q_t_images_0_world_lying, .inl (cI, 30, .inl t_images_0_world_lying)), (q_t_images_0_sights, .inr (3, [.int t_images_0_sights_count, .ref q_t_images_0_sights_hours, .ref q_t_images_0_sights_rang])), (q_t_images_0_sights_hours, .inl (cI, 8, .inl t_images_0_sights_hours)), (q_t_images_0_sights_rang, .inl (cZ, 8, .inl t_images_0_sights_rang)), (q_t_images_1, .inr (1, [.ref q_t_images_1_world, .ref q_t_images_1_sights, .int t_images_1_isKept])), (q_t_images_1_world, .inr (5, [.int t_images_1_world_date, .int t_images_1_world_hour, .int t_images_1_world_year, .int t_images_1_world_shift, .int t_images_1_world_kneelDate, .ref q_t_images_1_world_places, .ref q_t_images_1_world_coins, .ref q_t_images_1_world_lying])), (q_t_images_1_world_places, .inl (cI, 6, .inl t_images_1_world_places)), (q_t_images_1_world_coins, .inl (cI, 6, .inl t_images_1_world_coins)), (q_t_images_1_world_lying, .inl (cI, 30, .inl t_images_1_world_lying)), (q_t_images_1_sights, .inr (3, [.int t_images_1_sights_count, .ref q_t_images_1_sights_hours, .ref q_t_images_1_sights_rang])), (q_t_images_1_sights_hours, .inl (cI, 8, .inl t_images_1_sights_hours)), (q_t_images_1_sights_rang, .inl (cZ, 8, .inl t_images_1_sights_rang))] sz)) (va_Qi post (fun u t => E1 D (va_A [(q_t, .inr (6, [.ref q_t_now, .ref q_t_sights, .ref q_t_pad, .ref q_t_tale, .ref q_t_images])), (q_t_now, .inr (5, [.int t_now_date, .int t_now_hour, .int t_now_year, .int t_now_shift, .int t_now_kneelDate, .ref q_t_now_places, .ref q_t_now_coins, .ref q_t_now_lying])), (q_t_now_places, .inl (cI, 6, .inl t_now_places)), (q_t_now_coins, .inl (cI, 6, .inl t_now_coins)), (q_t_now_lying, .inl (cI, 30, .inl t_now_lying)), (q_t_sights, .inr (3, [.int t_sights_count, .ref q_t_sights_hours, .ref q_t_sights_rang])), (q_t_sights_hours, .inl (cI, 8, .inl t_sights_hours)), (q_t_sights_rang, .inl (cZ, 8, .inl t_sights_rang)), (q_t_images, .inl (cO, 2, .inr (.inr (.inr (.inr t_images))))), (q_t_images_0, .inr (1, [.ref q_t_images_0_world, .ref q_t_images_0_sights, .int t_images_0_isKept])), (q_t_images_0_world, .inr (5, [.int t_images_0_world_date, .int t_images_0_world_hour, .int t_images_0_world_year, .int t_images_0_world_shift, .int t_images_0_world_kneelDate, .ref q_t_images_0_world_places, .ref q_t_images_0_world_coins, .ref q_t_images_0_world_lying])), (q_t_images_0_world_places, .inl (cI, 6, .inl t_images_0_world_places)), (q_t_images_0_world_coins, .inl (cI, 6, .inl t_images_0_world_coins)), (q_t_images_0_world_lying, .inl (cI, 30, .inl t_images_0_world_lying)), (q_t_images_0_sights, .inr (3, [.int t_images_0_sights_count, .ref q_t_images_0_sights_hours, .ref q_t_images_0_sights_rang])), (q_t_images_0_sights_hours, .inl (cI, 8, .inl t_images_0_sights_hours)), (q_t_images_0_sights_rang, .inl (cZ, 8, .inl t_images_0_sights_rang)), (q_t_images_1, .inr (1, [.ref q_t_images_1_world, .ref q_t_images_1_sights, .int t_images_1_isKept])), (q_t_images_1_world, .inr (5, [.int t_images_1_world_date, .int t_images_1_world_hour, .int t_images_1_world_year, .int t_images_1_world_shift, .int t_images_1_world_kneelDate, .ref q_t_images_1_world_places, .ref q_t_images_1_world_coins, .ref q_t_images_1_world_lying])), (q_t_images_1_world_places, .inl (cI, 6, .inl t_images_1_world_places)), (q_t_images_1_world_coins, .inl (cI, 6, .inl t_images_1_world_coins)), (q_t_images_1_world_lying, .inl (cI, 30, .inl t_images_1_world_lying)), (q_t_images_1_sights, .inr (3, [.int t_images_1_sights_count, .ref q_t_images_1_sights_hours, .ref q_t_images_1_sights_rang])), (q_t_images_1_sights_hours, .inl (cI, 8, .inl t_images_1_sights_hours)), (q_t_images_1_sights_rang, .inl (cZ, 8, .inl t_images_1_sights_rang))] sz) ((fun u : Int32 × Int32 × Int32 × Int32 × Int32 × Int32 × (Nat → Int32) × (Nat → Int32) × (Nat → Int32) × Int32 × (Nat → Int32) × (Nat → Int32) × Int32 × Int32 × Int32 × Int32 × Int32 × Int32 × (Nat → Int32) × (Nat → Int32) × (Nat → Int32) × Int32 × (Nat → Int32) × (Nat → Int32) => [(q_t, .inr (6, [.ref q_t_now, .ref q_t_sights, .ref q_t_pad, .ref q_t_tale, .ref q_t_images])), (q_t_now, .inr (5, [.int t_now_date, .int t_now_hour, .int t_now_year, .int t_now_shift, .int t_now_kneelDate, .ref q_t_now_places, .ref q_t_now_coins, .ref q_t_now_lying])), (q_t_now_places, .inl (cI, 6, .inl t_now_places)), (q_t_now_coins, .inl (cI, 6, .inl t_now_coins)), (q_t_now_lying, .inl (cI, 30, .inl t_now_lying)), (q_t_sights, .inr (3, [.int t_sights_count, .ref q_t_sights_hours, .ref q_t_sights_rang])), (q_t_sights_hours, .inl (cI, 8, .inl t_sights_hours)), (q_t_sights_rang, .inl (cZ, 8, .inl t_sights_rang)), (q_t_images, .inl (cO, 2, .inr (.inr (.inr (.inr t_images))))), (q_t_images_0, .inr (1, [.ref q_t_images_0_world, .ref q_t_images_0_sights, .int u.1])), (q_t_images_0_world, .inr (5, [.int u.2.1, .int u.2.2.1, .int u.2.2.2.1, .int u.2.2.2.2.1, .int u.2.2.2.2.2.1, .ref q_t_images_0_world_places, .ref q_t_images_0_world_coins, .ref q_t_images_0_world_lying])), (q_t_images_0_world_places, .inl (cI, 6, .inl u.2.2.2.2.2.2.1)), (q_t_images_0_world_coins, .inl (cI, 6, .inl u.2.2.2.2.2.2.2.1)), (q_t_images_0_world_lying, .inl (cI, 30, .inl u.2.2.2.2.2.2.2.2.1)), (q_t_images_0_sights, .inr (3, [.int u.2.2.2.2.2.2.2.2.2.1, .ref q_t_images_0_sights_hours, .ref q_t_images_0_sights_rang])), (q_t_images_0_sights_hours, .inl (cI, 8, .inl u.2.2.2.2.2.2.2.2.2.2.1)), (q_t_images_0_sights_rang, .inl (cZ, 8, .inl u.2.2.2.2.2.2.2.2.2.2.2.1)), (q_t_images_1, .inr (1, [.ref q_t_images_1_world, .ref q_t_images_1_sights, .int u.2.2.2.2.2.2.2.2.2.2.2.2.1])), (q_t_images_1_world, .inr (5, [.int u.2.2.2.2.2.2.2.2.2.2.2.2.2.1, .int u.2.2.2.2.2.2.2.2.2.2.2.2.2.2.1, .int u.2.2.2.2.2.2.2.2.2.2.2.2.2.2.2.1, .int u.2.2.2.2.2.2.2.2.2.2.2.2.2.2.2.2.1, .int u.2.2.2.2.2.2.2.2.2.2.2.2.2.2.2.2.2.1, .ref q_t_images_1_world_places, .ref q_t_images_1_world_coins, .ref q_t_images_1_world_lying])), (q_t_images_1_world_places, .inl (cI, 6, .inl u.2.2.2.2.2.2.2.2.2.2.2.2.2.2.2.2.2.2.1)), (q_t_images_1_world_coins, .inl (cI, 6, .inl u.2.2.2.2.2.2.2.2.2.2.2.2.2.2.2.2.2.2.2.1)), (q_t_images_1_world_lying, .inl (cI, 30, .inl u.2.2.2.2.2.2.2.2.2.2.2.2.2.2.2.2.2.2.2.2.1)), (q_t_images_1_sights, .inr (3, [.int u.2.2.2.2.2.2.2.2.2.2.2.2.2.2.2.2.2.2.2.2.2.1, .ref q_t_images_1_sights_hours, .ref q_t_images_1_sights_rang])), (q_t_images_1_sights_hours, .inl (cI, 8, .inl u.2.2.2.2.2.2.2.2.2.2.2.2.2.2.2.2.2.2.2.2.2.2.1)), (q_t_images_1_sights_rang, .inl (cZ, 8, .inl u.2.2.2.2.2.2.2.2.2.2.2.2.2.2.2.2.2.2.2.2.2.2.2))]) u) t) (va_A [(q_t, .inr (6, [.ref q_t_now, .ref q_t_sights, .ref q_t_pad, .ref q_t_tale, .ref q_t_images])), (q_t_now, .inr (5, [.int t_now_date, .int t_now_hour, .int t_now_year, .int t_now_shift, .int t_now_kneelDate, .ref q_t_now_places, .ref q_t_now_coins, .ref q_t_now_lying])), (q_t_now_places, .inl (cI, 6, .inl t_now_places)), (q_t_now_coins, .inl (cI, 6, .inl t_now_coins)), (q_t_now_lying, .inl (cI, 30, .inl t_now_lying)), (q_t_sights, .inr (3, [.int t_sights_count, .ref q_t_sights_hours, .ref q_t_sights_rang])), (q_t_sights_hours, .inl (cI, 8, .inl t_sights_hours)), (q_t_sights_rang, .inl (cZ, 8, .inl t_sights_rang)), (q_t_images, .inl (cO, 2, .inr (.inr (.inr (.inr t_images))))), (q_t_images_0, .inr (1, [.ref q_t_images_0_world, .ref q_t_images_0_sights, .int t_images_0_isKept])), (q_t_images_0_world, .inr (5, [.int t_images_0_world_date, .int t_images_0_world_hour, .int t_images_0_world_year, .int t_images_0_world_shift, .int t_images_0_world_kneelDate, .ref q_t_images_0_world_places, .ref q_t_images_0_world_coins, .ref q_t_images_0_world_lying])), (q_t_images_0_world_places, .inl (cI, 6, .inl t_images_0_world_places)), (q_t_images_0_world_coins, .inl (cI, 6, .inl t_images_0_world_coins)), (q_t_images_0_world_lying, .inl (cI, 30, .inl t_images_0_world_lying)), (q_t_images_0_sights, .inr (3, [.int t_images_0_sights_count, .ref q_t_images_0_sights_hours, .ref q_t_images_0_sights_rang])), (q_t_images_0_sights_hours, .inl (cI, 8, .inl t_images_0_sights_hours)), (q_t_images_0_sights_rang, .inl (cZ, 8, .inl t_images_0_sights_rang)), (q_t_images_1, .inr (1, [.ref q_t_images_1_world, .ref q_t_images_1_sights, .int t_images_1_isKept])), (q_t_images_1_world, .inr (5, [.int t_images_1_world_date, .int t_images_1_world_hour, .int t_images_1_world_year, .int t_images_1_world_shift, .int t_images_1_world_kneelDate, .ref q_t_images_1_world_places, .ref q_t_images_1_world_coins, .ref q_t_images_1_world_lying])), (q_t_images_1_world_places, .inl (cI, 6, .inl t_images_1_world_places)), (q_t_images_1_world_coins, .inl (cI, 6, .inl t_images_1_world_coins)), (q_t_images_1_world_lying, .inl (cI, 30, .inl t_images_1_world_lying)), (q_t_images_1_sights, .inr (3, [.int t_images_1_sights_count, .ref q_t_images_1_sights_hours, .ref q_t_images_1_sights_rang])), (q_t_images_1_sights_hours, .inl (cI, 8, .inl t_images_1_sights_hours)), (q_t_images_1_sights_rang, .inl (cZ, 8, .inl t_images_1_sights_rang))] sz)) 0 0 (va_A [(q_t, .inr (6, [.ref q_t_now, .ref q_t_sights, .ref q_t_pad, .ref q_t_tale, .ref q_t_images])), (q_t_now, .inr (5, [.int t_now_date, .int t_now_hour, .int t_now_year, .int t_now_shift, .int t_now_kneelDate, .ref q_t_now_places, .ref q_t_now_coins, .ref q_t_now_lying])), (q_t_now_places, .inl (cI, 6, .inl t_now_places)), (q_t_now_coins, .inl (cI, 6, .inl t_now_coins)), (q_t_now_lying, .inl (cI, 30, .inl t_now_lying)), (q_t_sights, .inr (3, [.int t_sights_count, .ref q_t_sights_hours, .ref q_t_sights_rang])), (q_t_sights_hours, .inl (cI, 8, .inl t_sights_hours)), (q_t_sights_rang, .inl (cZ, 8, .inl t_sights_rang)), (q_t_images, .inl (cO, 2, .inr (.inr (.inr (.inr t_images))))), (q_t_images_0, .inr (1, [.ref q_t_images_0_world, .ref q_t_images_0_sights, .int t_images_0_isKept])), (q_t_images_0_world, .inr (5, [.int t_images_0_world_date, .int t_images_0_world_hour, .int t_images_0_world_year, .int t_images_0_world_shift, .int t_images_0_world_kneelDate, .ref q_t_images_0_world_places, .ref q_t_images_0_world_coins, .ref q_t_images_0_world_lying])), (q_t_images_0_world_places, .inl (cI, 6, .inl t_images_0_world_places)), (q_t_images_0_world_coins, .inl (cI, 6, .inl t_images_0_world_coins)), (q_t_images_0_world_lying, .inl (cI, 30, .inl t_images_0_world_lying)), (q_t_images_0_sights, .inr (3, [.int t_images_0_sights_count, .ref q_t_images_0_sights_hours, .ref q_t_images_0_sights_rang])), (q_t_images_0_sights_hours, .inl (cI, 8, .inl t_images_0_sights_hours)), (q_t_images_0_sights_rang, .inl (cZ, 8, .inl t_images_0_sights_rang)), (q_t_images_1, .inr (1, [.ref q_t_images_1_world, .ref q_t_images_1_sights, .int t_images_1_isKept])), (q_t_images_1_world, .inr (5, [.int t_images_1_world_date, .int t_images_1_world_hour, .int t_images_1_world_year, .int t_images_1_world_shift, .int t_images_1_world_kneelDate, .ref q_t_images_1_world_places, .ref q_t_images_1_world_coins, .ref q_t_images_1_world_lying])), (q_t_images_1_world_places, .inl (cI, 6, .inl t_images_1_world_places)), (q_t_images_1_world_coins, .inl (cI, 6, .inl t_images_1_world_coins)), (q_t_images_1_world_lying, .inl (cI, 30, .inl t_images_1_world_lying)), (q_t_images_1_sights, .inr (3, [.int t_images_1_sights_count, .ref q_t_images_1_sights_hours, .ref q_t_images_1_sights_rang])), (q_t_images_1_sights_hours, .inl (cI, 8, .inl t_images_1_sights_hours)), (q_t_images_1_sights_rang, .inl (cZ, 8, .inl t_images_1_sights_rang))] sz) := by
  unfold pX6_image at hf
  refine xm_1i (own := RX6) (by decide) rfl rfl (Nat.le_of_ble_eq_true rfl) (fun p e s m args below meth c Q A C0 hN hK hA hret hP hD ls hl => ?_)
  obtain ⟨hx, hb, hml, hown, hts⟩ := id C0
  have hl : lv_has ls 2 [(0, .ref q_t), (1, .int a1)] := hl
  have hS : va_S A s.heap s.heap [] := va_S.rf
  obtain ⟨H, hHe⟩ : ∃ H, H = s.heap := ⟨_, rfl⟩
  obtain ⟨locs, hLe⟩ : ∃ L : List Loc, L = [] := ⟨_, rfl⟩
  rw [← hLe]
  rw [← hLe] at hS
  have hP : va_P D vwCl [(q_t, .inr (6, [.ref q_t_now, .ref q_t_sights, .ref q_t_pad, .ref q_t_tale, .ref q_t_images])), (q_t_now, .inr (5, [.int t_now_date, .int t_now_hour, .int t_now_year, .int t_now_shift, .int t_now_kneelDate, .ref q_t_now_places, .ref q_t_now_coins, .ref q_t_now_lying])), (q_t_now_places, .inl (cI, 6, .inl t_now_places)), (q_t_now_coins, .inl (cI, 6, .inl t_now_coins)), (q_t_now_lying, .inl (cI, 30, .inl t_now_lying)), (q_t_sights, .inr (3, [.int t_sights_count, .ref q_t_sights_hours, .ref q_t_sights_rang])), (q_t_sights_hours, .inl (cI, 8, .inl t_sights_hours)), (q_t_sights_rang, .inl (cZ, 8, .inl t_sights_rang)), (q_t_images, .inl (cO, 2, .inr (.inr (.inr (.inr t_images))))), (q_t_images_0, .inr (1, [.ref q_t_images_0_world, .ref q_t_images_0_sights, .int t_images_0_isKept])), (q_t_images_0_world, .inr (5, [.int t_images_0_world_date, .int t_images_0_world_hour, .int t_images_0_world_year, .int t_images_0_world_shift, .int t_images_0_world_kneelDate, .ref q_t_images_0_world_places, .ref q_t_images_0_world_coins, .ref q_t_images_0_world_lying])), (q_t_images_0_world_places, .inl (cI, 6, .inl t_images_0_world_places)), (q_t_images_0_world_coins, .inl (cI, 6, .inl t_images_0_world_coins)), (q_t_images_0_world_lying, .inl (cI, 30, .inl t_images_0_world_lying)), (q_t_images_0_sights, .inr (3, [.int t_images_0_sights_count, .ref q_t_images_0_sights_hours, .ref q_t_images_0_sights_rang])), (q_t_images_0_sights_hours, .inl (cI, 8, .inl t_images_0_sights_hours)), (q_t_images_0_sights_rang, .inl (cZ, 8, .inl t_images_0_sights_rang)), (q_t_images_1, .inr (1, [.ref q_t_images_1_world, .ref q_t_images_1_sights, .int t_images_1_isKept])), (q_t_images_1_world, .inr (5, [.int t_images_1_world_date, .int t_images_1_world_hour, .int t_images_1_world_year, .int t_images_1_world_shift, .int t_images_1_world_kneelDate, .ref q_t_images_1_world_places, .ref q_t_images_1_world_coins, .ref q_t_images_1_world_lying])), (q_t_images_1_world_places, .inl (cI, 6, .inl t_images_1_world_places)), (q_t_images_1_world_coins, .inl (cI, 6, .inl t_images_1_world_coins)), (q_t_images_1_world_lying, .inl (cI, 30, .inl t_images_1_world_lying)), (q_t_images_1_sights, .inr (3, [.int t_images_1_sights_count, .ref q_t_images_1_sights_hours, .ref q_t_images_1_sights_rang])), (q_t_images_1_sights_hours, .inl (cI, 8, .inl t_images_1_sights_hours)), (q_t_images_1_sights_rang, .inl (cZ, 8, .inl t_images_1_sights_rang))] H := by rw [hHe]; exact hP
  have hS : va_S A s.heap H locs := by rw [hHe]; exact hS
  suffices hgo : W p l e ({ frames := 2, cells := 0, slots := 0, locals := 81 } : Room) s m args below meth c H locs 0 0 Q (F0 m 0 ls []) by rw [← hHe]; exact hgo
  clear hHe hLe
  refine lv_iload_n hx hb dX6_image_0 rfl (lv_at hl 1 rfl) ?_
  refine lv_iconst (v := 0) hx hb dX6_image_1 (by decide) ?_
  refine lv_iconst (v := 1) hx hb dX6_image_2 (by decide) ?_
  refine xs_i (va_runS (As := [.int a1, .int 0, .int 1]) (rest := []) ⟨hx, hb, hml, hown, hts⟩ (kX6_isIn l D cI cZ cJ cO a1 0 1 _ hf) (va_cwS 3 hts gX6_image_X6_isIn rfl rfl rfl (by decide +kernel) ⟨Nat.le_of_ble_eq_true rfl, Nat.le_of_ble_eq_true rfl⟩) (B0_pre (hP.sub (ws' := []) [] rfl) hK hN) rfl rfl hl.1 rfl (lv_room (Nat.le_of_ble_eq_true rfl)) dX6_image_3 ⟨Nat.zero_le _, Nat.zero_le _⟩) (fun r1 hf => ?_)
  refine lv_if_ne (tgt := 12) hx hb dX6_image_6 (by decide) (fun c2 => ?_) (fun c2 => ?_)
  · have hf := hf.1 c2
    refine lv_aload_n hx hb dX6_image_12 rfl (lv_at hl 0 rfl) ?_
    refine va_get (D := D) (ci := 6) (v := .ref q_t_images) (C := RX6) (T := TX6) (N := 5) hx hb hts nX6_image_X6 hown hK hP 0 rfl rfl 4 (by decide) (hts _ mX6_image_1) (fun _ h9 => h9) rfl dX6_image_13 ?_
    refine lv_iload_n hx hb dX6_image_16 rfl (lv_at hl 1 rfl) ?_
    by_cases z0 : a1 = 0
    · have hf := hf.1 z0
      refine va_aldq hx hb hK hP 8 3 rfl rfl (by rw [z0]; exact vpc rfl) dX6_image_17 ?_
      refine W.eq (g2 := F0 m 18 ls (.ref q_t_images_0 :: [])) (by rw [z0, show ((0 : Int32).toNatClampNeg) = 0 from by decide, h_t_images_0]; rfl) ?_
      refine va_get (D := D) (ci := 1) (v := .ref q_t_images_0_world) (C := RX1) (T := TX1) (N := 3) hx hb hts nX6_image_X1 hown hK hP 9 rfl rfl 0 (by decide) (hts _ mX6_image_2) (fun _ h9 => h9) rfl dX6_image_18 ?_
      refine lv_aload_n hx hb dX6_image_21 rfl (lv_at hl 0 rfl) ?_
      refine va_get (D := D) (ci := 6) (v := .ref q_t_now) (C := RX6) (T := TX6) (N := 5) hx hb hts nX6_image_X6 hown hK hP 0 rfl rfl 0 (by decide) (hts _ mX6_image_3) (fun _ h9 => h9) rfl dX6_image_22 ?_
      refine xc_v (wr := [(q_t, .inr (6, [.ref q_t_now, .ref q_t_sights, .ref q_t_pad, .ref q_t_tale, .ref q_t_images])), (q_t_sights, .inr (3, [.int t_sights_count, .ref q_t_sights_hours, .ref q_t_sights_rang])), (q_t_sights_hours, .inl (cI, 8, .inl t_sights_hours)), (q_t_sights_rang, .inl (cZ, 8, .inl t_sights_rang)), (q_t_images, .inl (cO, 2, .inr (.inr (.inr (.inr t_images))))), (q_t_images_0, .inr (1, [.ref q_t_images_0_world, .ref q_t_images_0_sights, .int t_images_0_isKept])), (q_t_images_0_sights, .inr (3, [.int t_images_0_sights_count, .ref q_t_images_0_sights_hours, .ref q_t_images_0_sights_rang])), (q_t_images_0_sights_hours, .inl (cI, 8, .inl t_images_0_sights_hours)), (q_t_images_0_sights_rang, .inl (cZ, 8, .inl t_images_0_sights_rang)), (q_t_images_1, .inr (1, [.ref q_t_images_1_world, .ref q_t_images_1_sights, .int t_images_1_isKept])), (q_t_images_1_world, .inr (5, [.int t_images_1_world_date, .int t_images_1_world_hour, .int t_images_1_world_year, .int t_images_1_world_shift, .int t_images_1_world_kneelDate, .ref q_t_images_1_world_places, .ref q_t_images_1_world_coins, .ref q_t_images_1_world_lying])), (q_t_images_1_world_places, .inl (cI, 6, .inl t_images_1_world_places)), (q_t_images_1_world_coins, .inl (cI, 6, .inl t_images_1_world_coins)), (q_t_images_1_world_lying, .inl (cI, 30, .inl t_images_1_world_lying)), (q_t_images_1_sights, .inr (3, [.int t_images_1_sights_count, .ref q_t_images_1_sights_hours, .ref q_t_images_1_sights_rang])), (q_t_images_1_sights_hours, .inl (cI, 8, .inl t_images_1_sights_hours)), (q_t_images_1_sights_rang, .inl (cZ, 8, .inl t_images_1_sights_rang))]) (va_runV (As := [.ref q_t_now]) (rest := []) ⟨hx, hb, hml, hown, hts⟩ (kX5_become l D cI cZ cJ cO q_t_images_0_world q_t_images_0_world_places q_t_images_0_world_coins q_t_images_0_world_lying q_t_now q_t_now_places q_t_now_coins q_t_now_lying H.size t_images_0_world_date t_images_0_world_hour t_images_0_world_year t_images_0_world_shift t_images_0_world_kneelDate t_images_0_world_places t_images_0_world_coins t_images_0_world_lying t_now_date t_now_hour t_now_year t_now_shift t_now_kneelDate t_now_places t_now_coins t_now_lying _ hf) (cwV 1 hts gX6_image_X5_become rfl rfl rfl (by decide +kernel) ⟨Nat.le_of_ble_eq_true rfl, Nat.le_of_ble_eq_true rfl⟩) (B1_preV (ci := 5) (q0 := 10) hP rfl rfl (hP.sub (ws' := [(q_t_images_0_world, .inr (5, [.int t_images_0_world_date, .int t_images_0_world_hour, .int t_images_0_world_year, .int t_images_0_world_shift, .int t_images_0_world_kneelDate, .ref q_t_images_0_world_places, .ref q_t_images_0_world_coins, .ref q_t_images_0_world_lying])), (q_t_images_0_world_places, .inl (cI, 6, .inl t_images_0_world_places)), (q_t_images_0_world_coins, .inl (cI, 6, .inl t_images_0_world_coins)), (q_t_images_0_world_lying, .inl (cI, 30, .inl t_images_0_world_lying)), (q_t_now, .inr (5, [.int t_now_date, .int t_now_hour, .int t_now_year, .int t_now_shift, .int t_now_kneelDate, .ref q_t_now_places, .ref q_t_now_coins, .ref q_t_now_lying])), (q_t_now_places, .inl (cI, 6, .inl t_now_places)), (q_t_now_coins, .inl (cI, 6, .inl t_now_coins)), (q_t_now_lying, .inl (cI, 30, .inl t_now_lying))]) [10, 11, 12, 13, 1, 2, 3, 4] rfl) hK hN (hD.sub (ws' := [(q_t_images_0_world, .inr (5, [.int t_images_0_world_date, .int t_images_0_world_hour, .int t_images_0_world_year, .int t_images_0_world_shift, .int t_images_0_world_kneelDate, .ref q_t_images_0_world_places, .ref q_t_images_0_world_coins, .ref q_t_images_0_world_lying])), (q_t_images_0_world_places, .inl (cI, 6, .inl t_images_0_world_places)), (q_t_images_0_world_coins, .inl (cI, 6, .inl t_images_0_world_coins)), (q_t_images_0_world_lying, .inl (cI, 30, .inl t_images_0_world_lying)), (q_t_now, .inr (5, [.int t_now_date, .int t_now_hour, .int t_now_year, .int t_now_shift, .int t_now_kneelDate, .ref q_t_now_places, .ref q_t_now_coins, .ref q_t_now_lying])), (q_t_now_places, .inl (cI, 6, .inl t_now_places)), (q_t_now_coins, .inl (cI, 6, .inl t_now_coins)), (q_t_now_lying, .inl (cI, 30, .inl t_now_lying))]) [10, 11, 12, 13, 1, 2, 3, 4] (by decide) rfl)) rfl rfl hl.1 rfl (lv_room (Nat.le_of_ble_eq_true rfl)) dX6_image_25 ⟨Nat.zero_le _, Nat.zero_le _⟩) hP hD hS hA [10, 11, 12, 13, 1, 2, 3, 4] [0, 5, 6, 7, 8, 9, 14, 15, 16, 17, 18, 19, 20, 21, 22, 23, 24] rfl rfl (by decide) (by decide) (fun u4 H locs hf hP hD hS => ?_)
      have hP : va_P D vwCl [(q_t, .inr (6, [.ref q_t_now, .ref q_t_sights, .ref q_t_pad, .ref q_t_tale, .ref q_t_images])), (q_t_sights, .inr (3, [.int t_sights_count, .ref q_t_sights_hours, .ref q_t_sights_rang])), (q_t_sights_hours, .inl (cI, 8, .inl t_sights_hours)), (q_t_sights_rang, .inl (cZ, 8, .inl t_sights_rang)), (q_t_images, .inl (cO, 2, .inr (.inr (.inr (.inr t_images))))), (q_t_images_0, .inr (1, [.ref q_t_images_0_world, .ref q_t_images_0_sights, .int t_images_0_isKept])), (q_t_images_0_sights, .inr (3, [.int t_images_0_sights_count, .ref q_t_images_0_sights_hours, .ref q_t_images_0_sights_rang])), (q_t_images_0_sights_hours, .inl (cI, 8, .inl t_images_0_sights_hours)), (q_t_images_0_sights_rang, .inl (cZ, 8, .inl t_images_0_sights_rang)), (q_t_images_1, .inr (1, [.ref q_t_images_1_world, .ref q_t_images_1_sights, .int t_images_1_isKept])), (q_t_images_1_world, .inr (5, [.int t_images_1_world_date, .int t_images_1_world_hour, .int t_images_1_world_year, .int t_images_1_world_shift, .int t_images_1_world_kneelDate, .ref q_t_images_1_world_places, .ref q_t_images_1_world_coins, .ref q_t_images_1_world_lying])), (q_t_images_1_world_places, .inl (cI, 6, .inl t_images_1_world_places)), (q_t_images_1_world_coins, .inl (cI, 6, .inl t_images_1_world_coins)), (q_t_images_1_world_lying, .inl (cI, 30, .inl t_images_1_world_lying)), (q_t_images_1_sights, .inr (3, [.int t_images_1_sights_count, .ref q_t_images_1_sights_hours, .ref q_t_images_1_sights_rang])), (q_t_images_1_sights_hours, .inl (cI, 8, .inl t_images_1_sights_hours)), (q_t_images_1_sights_rang, .inl (cZ, 8, .inl t_images_1_sights_rang)), (q_t_images_0_world, .inr (5, [.int u4.1, .int u4.2.1, .int u4.2.2.1, .int u4.2.2.2.1, .int u4.2.2.2.2.1, .ref q_t_images_0_world_places, .ref q_t_images_0_world_coins, .ref q_t_images_0_world_lying])), (q_t_images_0_world_places, .inl (cI, 6, .inl u4.2.2.2.2.2.1)), (q_t_images_0_world_coins, .inl (cI, 6, .inl u4.2.2.2.2.2.2.1)), (q_t_images_0_world_lying, .inl (cI, 30, .inl u4.2.2.2.2.2.2.2)), (q_t_now, .inr (5, [.int t_now_date, .int t_now_hour, .int t_now_year, .int t_now_shift, .int t_now_kneelDate, .ref q_t_now_places, .ref q_t_now_coins, .ref q_t_now_lying])), (q_t_now_places, .inl (cI, 6, .inl t_now_places)), (q_t_now_coins, .inl (cI, 6, .inl t_now_coins)), (q_t_now_lying, .inl (cI, 30, .inl t_now_lying))] H := hP
      have hD : va_D A [(q_t, .inr (6, [.ref q_t_now, .ref q_t_sights, .ref q_t_pad, .ref q_t_tale, .ref q_t_images])), (q_t_sights, .inr (3, [.int t_sights_count, .ref q_t_sights_hours, .ref q_t_sights_rang])), (q_t_sights_hours, .inl (cI, 8, .inl t_sights_hours)), (q_t_sights_rang, .inl (cZ, 8, .inl t_sights_rang)), (q_t_images, .inl (cO, 2, .inr (.inr (.inr (.inr t_images))))), (q_t_images_0, .inr (1, [.ref q_t_images_0_world, .ref q_t_images_0_sights, .int t_images_0_isKept])), (q_t_images_0_sights, .inr (3, [.int t_images_0_sights_count, .ref q_t_images_0_sights_hours, .ref q_t_images_0_sights_rang])), (q_t_images_0_sights_hours, .inl (cI, 8, .inl t_images_0_sights_hours)), (q_t_images_0_sights_rang, .inl (cZ, 8, .inl t_images_0_sights_rang)), (q_t_images_1, .inr (1, [.ref q_t_images_1_world, .ref q_t_images_1_sights, .int t_images_1_isKept])), (q_t_images_1_world, .inr (5, [.int t_images_1_world_date, .int t_images_1_world_hour, .int t_images_1_world_year, .int t_images_1_world_shift, .int t_images_1_world_kneelDate, .ref q_t_images_1_world_places, .ref q_t_images_1_world_coins, .ref q_t_images_1_world_lying])), (q_t_images_1_world_places, .inl (cI, 6, .inl t_images_1_world_places)), (q_t_images_1_world_coins, .inl (cI, 6, .inl t_images_1_world_coins)), (q_t_images_1_world_lying, .inl (cI, 30, .inl t_images_1_world_lying)), (q_t_images_1_sights, .inr (3, [.int t_images_1_sights_count, .ref q_t_images_1_sights_hours, .ref q_t_images_1_sights_rang])), (q_t_images_1_sights_hours, .inl (cI, 8, .inl t_images_1_sights_hours)), (q_t_images_1_sights_rang, .inl (cZ, 8, .inl t_images_1_sights_rang)), (q_t_images_0_world, .inr (5, [.int u4.1, .int u4.2.1, .int u4.2.2.1, .int u4.2.2.2.1, .int u4.2.2.2.2.1, .ref q_t_images_0_world_places, .ref q_t_images_0_world_coins, .ref q_t_images_0_world_lying])), (q_t_images_0_world_places, .inl (cI, 6, .inl u4.2.2.2.2.2.1)), (q_t_images_0_world_coins, .inl (cI, 6, .inl u4.2.2.2.2.2.2.1)), (q_t_images_0_world_lying, .inl (cI, 30, .inl u4.2.2.2.2.2.2.2)), (q_t_now, .inr (5, [.int t_now_date, .int t_now_hour, .int t_now_year, .int t_now_shift, .int t_now_kneelDate, .ref q_t_now_places, .ref q_t_now_coins, .ref q_t_now_lying])), (q_t_now_places, .inl (cI, 6, .inl t_now_places)), (q_t_now_coins, .inl (cI, 6, .inl t_now_coins)), (q_t_now_lying, .inl (cI, 30, .inl t_now_lying))] := hD
      refine lv_aload_n hx hb dX6_image_28 rfl (lv_at hl 0 rfl) ?_
      refine va_get (D := D) (ci := 6) (v := .ref q_t_images) (C := RX6) (T := TX6) (N := 5) hx hb hts nX6_image_X6 hown hK hP 0 rfl rfl 4 (by decide) (hts _ mX6_image_1) (fun _ h9 => h9) rfl dX6_image_29 ?_
      refine lv_iload_n hx hb dX6_image_32 rfl (lv_at hl 1 rfl) ?_
      refine va_aldq hx hb hK hP 4 3 rfl rfl (by rw [z0]; exact vpc rfl) dX6_image_33 ?_
      refine W.eq (g2 := F0 m 34 ls (.ref q_t_images_0 :: [])) (by rw [z0, show ((0 : Int32).toNatClampNeg) = 0 from by decide, h_t_images_0]; rfl) ?_
      refine va_get (D := D) (ci := 1) (v := .ref q_t_images_0_sights) (C := RX1) (T := TX1) (N := 3) hx hb hts nX6_image_X1 hown hK hP 5 rfl rfl 1 (by decide) (hts _ mX6_image_4) (fun _ h9 => h9) rfl dX6_image_34 ?_
      refine lv_aload_n hx hb dX6_image_37 rfl (lv_at hl 0 rfl) ?_
      refine va_get (D := D) (ci := 6) (v := .ref q_t_sights) (C := RX6) (T := TX6) (N := 5) hx hb hts nX6_image_X6 hown hK hP 0 rfl rfl 1 (by decide) (hts _ mX6_image_5) (fun _ h9 => h9) rfl dX6_image_38 ?_
      refine xc_v (wr := [(q_t, .inr (6, [.ref q_t_now, .ref q_t_sights, .ref q_t_pad, .ref q_t_tale, .ref q_t_images])), (q_t_images, .inl (cO, 2, .inr (.inr (.inr (.inr t_images))))), (q_t_images_0, .inr (1, [.ref q_t_images_0_world, .ref q_t_images_0_sights, .int t_images_0_isKept])), (q_t_images_1, .inr (1, [.ref q_t_images_1_world, .ref q_t_images_1_sights, .int t_images_1_isKept])), (q_t_images_1_world, .inr (5, [.int t_images_1_world_date, .int t_images_1_world_hour, .int t_images_1_world_year, .int t_images_1_world_shift, .int t_images_1_world_kneelDate, .ref q_t_images_1_world_places, .ref q_t_images_1_world_coins, .ref q_t_images_1_world_lying])), (q_t_images_1_world_places, .inl (cI, 6, .inl t_images_1_world_places)), (q_t_images_1_world_coins, .inl (cI, 6, .inl t_images_1_world_coins)), (q_t_images_1_world_lying, .inl (cI, 30, .inl t_images_1_world_lying)), (q_t_images_1_sights, .inr (3, [.int t_images_1_sights_count, .ref q_t_images_1_sights_hours, .ref q_t_images_1_sights_rang])), (q_t_images_1_sights_hours, .inl (cI, 8, .inl t_images_1_sights_hours)), (q_t_images_1_sights_rang, .inl (cZ, 8, .inl t_images_1_sights_rang)), (q_t_images_0_world, .inr (5, [.int u4.1, .int u4.2.1, .int u4.2.2.1, .int u4.2.2.2.1, .int u4.2.2.2.2.1, .ref q_t_images_0_world_places, .ref q_t_images_0_world_coins, .ref q_t_images_0_world_lying])), (q_t_images_0_world_places, .inl (cI, 6, .inl u4.2.2.2.2.2.1)), (q_t_images_0_world_coins, .inl (cI, 6, .inl u4.2.2.2.2.2.2.1)), (q_t_images_0_world_lying, .inl (cI, 30, .inl u4.2.2.2.2.2.2.2)), (q_t_now, .inr (5, [.int t_now_date, .int t_now_hour, .int t_now_year, .int t_now_shift, .int t_now_kneelDate, .ref q_t_now_places, .ref q_t_now_coins, .ref q_t_now_lying])), (q_t_now_places, .inl (cI, 6, .inl t_now_places)), (q_t_now_coins, .inl (cI, 6, .inl t_now_coins)), (q_t_now_lying, .inl (cI, 30, .inl t_now_lying))]) (va_runV (As := [.ref q_t_sights]) (rest := []) ⟨hx, hb, hml, hown, hts⟩ (kX3_become l D cI cZ cJ cO q_t_images_0_sights q_t_images_0_sights_hours q_t_images_0_sights_rang q_t_sights q_t_sights_hours q_t_sights_rang H.size t_images_0_sights_count t_images_0_sights_hours t_images_0_sights_rang t_sights_count t_sights_hours t_sights_rang _ hf) (cwV 1 hts gX6_image_X3_become rfl rfl rfl (by decide +kernel) ⟨Nat.le_of_ble_eq_true rfl, Nat.le_of_ble_eq_true rfl⟩) (B1_preV (ci := 3) (q0 := 6) hP rfl rfl (hP.sub (ws' := [(q_t_images_0_sights, .inr (3, [.int t_images_0_sights_count, .ref q_t_images_0_sights_hours, .ref q_t_images_0_sights_rang])), (q_t_images_0_sights_hours, .inl (cI, 8, .inl t_images_0_sights_hours)), (q_t_images_0_sights_rang, .inl (cZ, 8, .inl t_images_0_sights_rang)), (q_t_sights, .inr (3, [.int t_sights_count, .ref q_t_sights_hours, .ref q_t_sights_rang])), (q_t_sights_hours, .inl (cI, 8, .inl t_sights_hours)), (q_t_sights_rang, .inl (cZ, 8, .inl t_sights_rang))]) [6, 7, 8, 1, 2, 3] rfl) hK hN (hD.sub (ws' := [(q_t_images_0_sights, .inr (3, [.int t_images_0_sights_count, .ref q_t_images_0_sights_hours, .ref q_t_images_0_sights_rang])), (q_t_images_0_sights_hours, .inl (cI, 8, .inl t_images_0_sights_hours)), (q_t_images_0_sights_rang, .inl (cZ, 8, .inl t_images_0_sights_rang)), (q_t_sights, .inr (3, [.int t_sights_count, .ref q_t_sights_hours, .ref q_t_sights_rang])), (q_t_sights_hours, .inl (cI, 8, .inl t_sights_hours)), (q_t_sights_rang, .inl (cZ, 8, .inl t_sights_rang))]) [6, 7, 8, 1, 2, 3] (by decide) rfl)) rfl rfl hl.1 rfl (lv_room (Nat.le_of_ble_eq_true rfl)) dX6_image_41 ⟨Nat.zero_le _, Nat.zero_le _⟩) hP hD hS hA [6, 7, 8, 1, 2, 3] [0, 4, 5, 9, 10, 11, 12, 13, 14, 15, 16, 17, 18, 19, 20, 21, 22, 23, 24] rfl rfl (by decide) (by decide) (fun u6 H locs hf hP hD hS => ?_)
      have hP : va_P D vwCl [(q_t, .inr (6, [.ref q_t_now, .ref q_t_sights, .ref q_t_pad, .ref q_t_tale, .ref q_t_images])), (q_t_images, .inl (cO, 2, .inr (.inr (.inr (.inr t_images))))), (q_t_images_0, .inr (1, [.ref q_t_images_0_world, .ref q_t_images_0_sights, .int t_images_0_isKept])), (q_t_images_1, .inr (1, [.ref q_t_images_1_world, .ref q_t_images_1_sights, .int t_images_1_isKept])), (q_t_images_1_world, .inr (5, [.int t_images_1_world_date, .int t_images_1_world_hour, .int t_images_1_world_year, .int t_images_1_world_shift, .int t_images_1_world_kneelDate, .ref q_t_images_1_world_places, .ref q_t_images_1_world_coins, .ref q_t_images_1_world_lying])), (q_t_images_1_world_places, .inl (cI, 6, .inl t_images_1_world_places)), (q_t_images_1_world_coins, .inl (cI, 6, .inl t_images_1_world_coins)), (q_t_images_1_world_lying, .inl (cI, 30, .inl t_images_1_world_lying)), (q_t_images_1_sights, .inr (3, [.int t_images_1_sights_count, .ref q_t_images_1_sights_hours, .ref q_t_images_1_sights_rang])), (q_t_images_1_sights_hours, .inl (cI, 8, .inl t_images_1_sights_hours)), (q_t_images_1_sights_rang, .inl (cZ, 8, .inl t_images_1_sights_rang)), (q_t_images_0_world, .inr (5, [.int u4.1, .int u4.2.1, .int u4.2.2.1, .int u4.2.2.2.1, .int u4.2.2.2.2.1, .ref q_t_images_0_world_places, .ref q_t_images_0_world_coins, .ref q_t_images_0_world_lying])), (q_t_images_0_world_places, .inl (cI, 6, .inl u4.2.2.2.2.2.1)), (q_t_images_0_world_coins, .inl (cI, 6, .inl u4.2.2.2.2.2.2.1)), (q_t_images_0_world_lying, .inl (cI, 30, .inl u4.2.2.2.2.2.2.2)), (q_t_now, .inr (5, [.int t_now_date, .int t_now_hour, .int t_now_year, .int t_now_shift, .int t_now_kneelDate, .ref q_t_now_places, .ref q_t_now_coins, .ref q_t_now_lying])), (q_t_now_places, .inl (cI, 6, .inl t_now_places)), (q_t_now_coins, .inl (cI, 6, .inl t_now_coins)), (q_t_now_lying, .inl (cI, 30, .inl t_now_lying)), (q_t_images_0_sights, .inr (3, [.int u6.1, .ref q_t_images_0_sights_hours, .ref q_t_images_0_sights_rang])), (q_t_images_0_sights_hours, .inl (cI, 8, .inl u6.2.1)), (q_t_images_0_sights_rang, .inl (cZ, 8, .inl u6.2.2)), (q_t_sights, .inr (3, [.int t_sights_count, .ref q_t_sights_hours, .ref q_t_sights_rang])), (q_t_sights_hours, .inl (cI, 8, .inl t_sights_hours)), (q_t_sights_rang, .inl (cZ, 8, .inl t_sights_rang))] H := hP
      have hD : va_D A [(q_t, .inr (6, [.ref q_t_now, .ref q_t_sights, .ref q_t_pad, .ref q_t_tale, .ref q_t_images])), (q_t_images, .inl (cO, 2, .inr (.inr (.inr (.inr t_images))))), (q_t_images_0, .inr (1, [.ref q_t_images_0_world, .ref q_t_images_0_sights, .int t_images_0_isKept])), (q_t_images_1, .inr (1, [.ref q_t_images_1_world, .ref q_t_images_1_sights, .int t_images_1_isKept])), (q_t_images_1_world, .inr (5, [.int t_images_1_world_date, .int t_images_1_world_hour, .int t_images_1_world_year, .int t_images_1_world_shift, .int t_images_1_world_kneelDate, .ref q_t_images_1_world_places, .ref q_t_images_1_world_coins, .ref q_t_images_1_world_lying])), (q_t_images_1_world_places, .inl (cI, 6, .inl t_images_1_world_places)), (q_t_images_1_world_coins, .inl (cI, 6, .inl t_images_1_world_coins)), (q_t_images_1_world_lying, .inl (cI, 30, .inl t_images_1_world_lying)), (q_t_images_1_sights, .inr (3, [.int t_images_1_sights_count, .ref q_t_images_1_sights_hours, .ref q_t_images_1_sights_rang])), (q_t_images_1_sights_hours, .inl (cI, 8, .inl t_images_1_sights_hours)), (q_t_images_1_sights_rang, .inl (cZ, 8, .inl t_images_1_sights_rang)), (q_t_images_0_world, .inr (5, [.int u4.1, .int u4.2.1, .int u4.2.2.1, .int u4.2.2.2.1, .int u4.2.2.2.2.1, .ref q_t_images_0_world_places, .ref q_t_images_0_world_coins, .ref q_t_images_0_world_lying])), (q_t_images_0_world_places, .inl (cI, 6, .inl u4.2.2.2.2.2.1)), (q_t_images_0_world_coins, .inl (cI, 6, .inl u4.2.2.2.2.2.2.1)), (q_t_images_0_world_lying, .inl (cI, 30, .inl u4.2.2.2.2.2.2.2)), (q_t_now, .inr (5, [.int t_now_date, .int t_now_hour, .int t_now_year, .int t_now_shift, .int t_now_kneelDate, .ref q_t_now_places, .ref q_t_now_coins, .ref q_t_now_lying])), (q_t_now_places, .inl (cI, 6, .inl t_now_places)), (q_t_now_coins, .inl (cI, 6, .inl t_now_coins)), (q_t_now_lying, .inl (cI, 30, .inl t_now_lying)), (q_t_images_0_sights, .inr (3, [.int u6.1, .ref q_t_images_0_sights_hours, .ref q_t_images_0_sights_rang])), (q_t_images_0_sights_hours, .inl (cI, 8, .inl u6.2.1)), (q_t_images_0_sights_rang, .inl (cZ, 8, .inl u6.2.2)), (q_t_sights, .inr (3, [.int t_sights_count, .ref q_t_sights_hours, .ref q_t_sights_rang])), (q_t_sights_hours, .inl (cI, 8, .inl t_sights_hours)), (q_t_sights_rang, .inl (cZ, 8, .inl t_sights_rang))] := hD
      refine lv_aload_n hx hb dX6_image_44 rfl (lv_at hl 0 rfl) ?_
      refine va_get (D := D) (ci := 6) (v := .ref q_t_images) (C := RX6) (T := TX6) (N := 5) hx hb hts nX6_image_X6 hown hK hP 0 rfl rfl 4 (by decide) (hts _ mX6_image_1) (fun _ h9 => h9) rfl dX6_image_45 ?_
      refine lv_iload_n hx hb dX6_image_48 rfl (lv_at hl 1 rfl) ?_
      refine va_aldq hx hb hK hP 1 3 rfl rfl (by rw [z0]; exact vpc rfl) dX6_image_49 ?_
      refine W.eq (g2 := F0 m 50 ls (.ref q_t_images_0 :: [])) (by rw [z0, show ((0 : Int32).toNatClampNeg) = 0 from by decide, h_t_images_0]; rfl) ?_
      refine lv_iconst (v := 1) hx hb dX6_image_50 (by decide) ?_
      refine va_put (D := D) (ci := 1) (v := .int 1) (ty := .boolean) (C := RX1) (T := TX1) (N := 3) hx hb hts nX6_image_X1 tyX1 tyX1_ok nmX1 hown hK hP hD hS 2 rfl rfl 2 (by decide) (hts _ mX6_image_6) (fun _ h9 => h9) rfl (by decide +kernel) rfl rfl (Nat.le_of_ble_eq_true rfl) dX6_image_51 (fun H locs hP hD hS => ?_)
      have hP : va_P D vwCl [(q_t, .inr (6, [.ref q_t_now, .ref q_t_sights, .ref q_t_pad, .ref q_t_tale, .ref q_t_images])), (q_t_images, .inl (cO, 2, .inr (.inr (.inr (.inr t_images))))), (q_t_images_0, .inr (1, [.ref q_t_images_0_world, .ref q_t_images_0_sights, .int 1])), (q_t_images_1, .inr (1, [.ref q_t_images_1_world, .ref q_t_images_1_sights, .int t_images_1_isKept])), (q_t_images_1_world, .inr (5, [.int t_images_1_world_date, .int t_images_1_world_hour, .int t_images_1_world_year, .int t_images_1_world_shift, .int t_images_1_world_kneelDate, .ref q_t_images_1_world_places, .ref q_t_images_1_world_coins, .ref q_t_images_1_world_lying])), (q_t_images_1_world_places, .inl (cI, 6, .inl t_images_1_world_places)), (q_t_images_1_world_coins, .inl (cI, 6, .inl t_images_1_world_coins)), (q_t_images_1_world_lying, .inl (cI, 30, .inl t_images_1_world_lying)), (q_t_images_1_sights, .inr (3, [.int t_images_1_sights_count, .ref q_t_images_1_sights_hours, .ref q_t_images_1_sights_rang])), (q_t_images_1_sights_hours, .inl (cI, 8, .inl t_images_1_sights_hours)), (q_t_images_1_sights_rang, .inl (cZ, 8, .inl t_images_1_sights_rang)), (q_t_images_0_world, .inr (5, [.int u4.1, .int u4.2.1, .int u4.2.2.1, .int u4.2.2.2.1, .int u4.2.2.2.2.1, .ref q_t_images_0_world_places, .ref q_t_images_0_world_coins, .ref q_t_images_0_world_lying])), (q_t_images_0_world_places, .inl (cI, 6, .inl u4.2.2.2.2.2.1)), (q_t_images_0_world_coins, .inl (cI, 6, .inl u4.2.2.2.2.2.2.1)), (q_t_images_0_world_lying, .inl (cI, 30, .inl u4.2.2.2.2.2.2.2)), (q_t_now, .inr (5, [.int t_now_date, .int t_now_hour, .int t_now_year, .int t_now_shift, .int t_now_kneelDate, .ref q_t_now_places, .ref q_t_now_coins, .ref q_t_now_lying])), (q_t_now_places, .inl (cI, 6, .inl t_now_places)), (q_t_now_coins, .inl (cI, 6, .inl t_now_coins)), (q_t_now_lying, .inl (cI, 30, .inl t_now_lying)), (q_t_images_0_sights, .inr (3, [.int u6.1, .ref q_t_images_0_sights_hours, .ref q_t_images_0_sights_rang])), (q_t_images_0_sights_hours, .inl (cI, 8, .inl u6.2.1)), (q_t_images_0_sights_rang, .inl (cZ, 8, .inl u6.2.2)), (q_t_sights, .inr (3, [.int t_sights_count, .ref q_t_sights_hours, .ref q_t_sights_rang])), (q_t_sights_hours, .inl (cI, 8, .inl t_sights_hours)), (q_t_sights_rang, .inl (cZ, 8, .inl t_sights_rang))] H := hP
      have hD : va_D A [(q_t, .inr (6, [.ref q_t_now, .ref q_t_sights, .ref q_t_pad, .ref q_t_tale, .ref q_t_images])), (q_t_images, .inl (cO, 2, .inr (.inr (.inr (.inr t_images))))), (q_t_images_0, .inr (1, [.ref q_t_images_0_world, .ref q_t_images_0_sights, .int 1])), (q_t_images_1, .inr (1, [.ref q_t_images_1_world, .ref q_t_images_1_sights, .int t_images_1_isKept])), (q_t_images_1_world, .inr (5, [.int t_images_1_world_date, .int t_images_1_world_hour, .int t_images_1_world_year, .int t_images_1_world_shift, .int t_images_1_world_kneelDate, .ref q_t_images_1_world_places, .ref q_t_images_1_world_coins, .ref q_t_images_1_world_lying])), (q_t_images_1_world_places, .inl (cI, 6, .inl t_images_1_world_places)), (q_t_images_1_world_coins, .inl (cI, 6, .inl t_images_1_world_coins)), (q_t_images_1_world_lying, .inl (cI, 30, .inl t_images_1_world_lying)), (q_t_images_1_sights, .inr (3, [.int t_images_1_sights_count, .ref q_t_images_1_sights_hours, .ref q_t_images_1_sights_rang])), (q_t_images_1_sights_hours, .inl (cI, 8, .inl t_images_1_sights_hours)), (q_t_images_1_sights_rang, .inl (cZ, 8, .inl t_images_1_sights_rang)), (q_t_images_0_world, .inr (5, [.int u4.1, .int u4.2.1, .int u4.2.2.1, .int u4.2.2.2.1, .int u4.2.2.2.2.1, .ref q_t_images_0_world_places, .ref q_t_images_0_world_coins, .ref q_t_images_0_world_lying])), (q_t_images_0_world_places, .inl (cI, 6, .inl u4.2.2.2.2.2.1)), (q_t_images_0_world_coins, .inl (cI, 6, .inl u4.2.2.2.2.2.2.1)), (q_t_images_0_world_lying, .inl (cI, 30, .inl u4.2.2.2.2.2.2.2)), (q_t_now, .inr (5, [.int t_now_date, .int t_now_hour, .int t_now_year, .int t_now_shift, .int t_now_kneelDate, .ref q_t_now_places, .ref q_t_now_coins, .ref q_t_now_lying])), (q_t_now_places, .inl (cI, 6, .inl t_now_places)), (q_t_now_coins, .inl (cI, 6, .inl t_now_coins)), (q_t_now_lying, .inl (cI, 30, .inl t_now_lying)), (q_t_images_0_sights, .inr (3, [.int u6.1, .ref q_t_images_0_sights_hours, .ref q_t_images_0_sights_rang])), (q_t_images_0_sights_hours, .inl (cI, 8, .inl u6.2.1)), (q_t_images_0_sights_rang, .inl (cZ, 8, .inl u6.2.2)), (q_t_sights, .inr (3, [.int t_sights_count, .ref q_t_sights_hours, .ref q_t_sights_rang])), (q_t_sights_hours, .inl (cI, 8, .inl t_sights_hours)), (q_t_sights_rang, .inl (cZ, 8, .inl t_sights_rang))] := hD
      refine lv_iconst (v := 1) hx hb dX6_image_54 (by decide) ?_
      exact hret 55 ls H locs 1 (1, u4.1, u4.2.1, u4.2.2.1, u4.2.2.2.1, u4.2.2.2.2.1, u4.2.2.2.2.2.1, u4.2.2.2.2.2.2.1, u4.2.2.2.2.2.2.2, u6.1, u6.2.1, u6.2.2, t_images_1_isKept, t_images_1_world_date, t_images_1_world_hour, t_images_1_world_year, t_images_1_world_shift, t_images_1_world_kneelDate, t_images_1_world_places, t_images_1_world_coins, t_images_1_world_lying, t_images_1_sights_count, t_images_1_sights_hours, t_images_1_sights_rang) dX6_image_55 hf (hP.sub [0, 15, 16, 17, 18, 22, 23, 24, 1, 2, 11, 12, 13, 14, 19, 20, 21, 3, 4, 5, 6, 7, 8, 9, 10] rfl) (hD.sub [0, 15, 16, 17, 18, 22, 23, 24, 1, 2, 11, 12, 13, 14, 19, 20, 21, 3, 4, 5, 6, 7, 8, 9, 10] (by decide) rfl) hS
    · obtain ⟨z1, hf⟩ := hf.2 z0
      refine va_aldq hx hb hK hP 8 3 rfl rfl (by rw [z1]; exact vpc rfl) dX6_image_17 ?_
      refine W.eq (g2 := F0 m 18 ls (.ref q_t_images_1 :: [])) (by rw [z1, show ((1 : Int32).toNatClampNeg) = 1 from by decide, h_t_images_1]; rfl) ?_
      refine va_get (D := D) (ci := 1) (v := .ref q_t_images_1_world) (C := RX1) (T := TX1) (N := 3) hx hb hts nX6_image_X1 hown hK hP 17 rfl rfl 0 (by decide) (hts _ mX6_image_2) (fun _ h9 => h9) rfl dX6_image_18 ?_
      refine lv_aload_n hx hb dX6_image_21 rfl (lv_at hl 0 rfl) ?_
      refine va_get (D := D) (ci := 6) (v := .ref q_t_now) (C := RX6) (T := TX6) (N := 5) hx hb hts nX6_image_X6 hown hK hP 0 rfl rfl 0 (by decide) (hts _ mX6_image_3) (fun _ h9 => h9) rfl dX6_image_22 ?_
      refine xc_v (wr := [(q_t, .inr (6, [.ref q_t_now, .ref q_t_sights, .ref q_t_pad, .ref q_t_tale, .ref q_t_images])), (q_t_sights, .inr (3, [.int t_sights_count, .ref q_t_sights_hours, .ref q_t_sights_rang])), (q_t_sights_hours, .inl (cI, 8, .inl t_sights_hours)), (q_t_sights_rang, .inl (cZ, 8, .inl t_sights_rang)), (q_t_images, .inl (cO, 2, .inr (.inr (.inr (.inr t_images))))), (q_t_images_0, .inr (1, [.ref q_t_images_0_world, .ref q_t_images_0_sights, .int t_images_0_isKept])), (q_t_images_0_world, .inr (5, [.int t_images_0_world_date, .int t_images_0_world_hour, .int t_images_0_world_year, .int t_images_0_world_shift, .int t_images_0_world_kneelDate, .ref q_t_images_0_world_places, .ref q_t_images_0_world_coins, .ref q_t_images_0_world_lying])), (q_t_images_0_world_places, .inl (cI, 6, .inl t_images_0_world_places)), (q_t_images_0_world_coins, .inl (cI, 6, .inl t_images_0_world_coins)), (q_t_images_0_world_lying, .inl (cI, 30, .inl t_images_0_world_lying)), (q_t_images_0_sights, .inr (3, [.int t_images_0_sights_count, .ref q_t_images_0_sights_hours, .ref q_t_images_0_sights_rang])), (q_t_images_0_sights_hours, .inl (cI, 8, .inl t_images_0_sights_hours)), (q_t_images_0_sights_rang, .inl (cZ, 8, .inl t_images_0_sights_rang)), (q_t_images_1, .inr (1, [.ref q_t_images_1_world, .ref q_t_images_1_sights, .int t_images_1_isKept])), (q_t_images_1_sights, .inr (3, [.int t_images_1_sights_count, .ref q_t_images_1_sights_hours, .ref q_t_images_1_sights_rang])), (q_t_images_1_sights_hours, .inl (cI, 8, .inl t_images_1_sights_hours)), (q_t_images_1_sights_rang, .inl (cZ, 8, .inl t_images_1_sights_rang))]) (va_runV (As := [.ref q_t_now]) (rest := []) ⟨hx, hb, hml, hown, hts⟩ (kX5_become l D cI cZ cJ cO q_t_images_1_world q_t_images_1_world_places q_t_images_1_world_coins q_t_images_1_world_lying q_t_now q_t_now_places q_t_now_coins q_t_now_lying H.size t_images_1_world_date t_images_1_world_hour t_images_1_world_year t_images_1_world_shift t_images_1_world_kneelDate t_images_1_world_places t_images_1_world_coins t_images_1_world_lying t_now_date t_now_hour t_now_year t_now_shift t_now_kneelDate t_now_places t_now_coins t_now_lying _ hf) (cwV 1 hts gX6_image_X5_become rfl rfl rfl (by decide +kernel) ⟨Nat.le_of_ble_eq_true rfl, Nat.le_of_ble_eq_true rfl⟩) (B1_preV (ci := 5) (q0 := 18) hP rfl rfl (hP.sub (ws' := [(q_t_images_1_world, .inr (5, [.int t_images_1_world_date, .int t_images_1_world_hour, .int t_images_1_world_year, .int t_images_1_world_shift, .int t_images_1_world_kneelDate, .ref q_t_images_1_world_places, .ref q_t_images_1_world_coins, .ref q_t_images_1_world_lying])), (q_t_images_1_world_places, .inl (cI, 6, .inl t_images_1_world_places)), (q_t_images_1_world_coins, .inl (cI, 6, .inl t_images_1_world_coins)), (q_t_images_1_world_lying, .inl (cI, 30, .inl t_images_1_world_lying)), (q_t_now, .inr (5, [.int t_now_date, .int t_now_hour, .int t_now_year, .int t_now_shift, .int t_now_kneelDate, .ref q_t_now_places, .ref q_t_now_coins, .ref q_t_now_lying])), (q_t_now_places, .inl (cI, 6, .inl t_now_places)), (q_t_now_coins, .inl (cI, 6, .inl t_now_coins)), (q_t_now_lying, .inl (cI, 30, .inl t_now_lying))]) [18, 19, 20, 21, 1, 2, 3, 4] rfl) hK hN (hD.sub (ws' := [(q_t_images_1_world, .inr (5, [.int t_images_1_world_date, .int t_images_1_world_hour, .int t_images_1_world_year, .int t_images_1_world_shift, .int t_images_1_world_kneelDate, .ref q_t_images_1_world_places, .ref q_t_images_1_world_coins, .ref q_t_images_1_world_lying])), (q_t_images_1_world_places, .inl (cI, 6, .inl t_images_1_world_places)), (q_t_images_1_world_coins, .inl (cI, 6, .inl t_images_1_world_coins)), (q_t_images_1_world_lying, .inl (cI, 30, .inl t_images_1_world_lying)), (q_t_now, .inr (5, [.int t_now_date, .int t_now_hour, .int t_now_year, .int t_now_shift, .int t_now_kneelDate, .ref q_t_now_places, .ref q_t_now_coins, .ref q_t_now_lying])), (q_t_now_places, .inl (cI, 6, .inl t_now_places)), (q_t_now_coins, .inl (cI, 6, .inl t_now_coins)), (q_t_now_lying, .inl (cI, 30, .inl t_now_lying))]) [18, 19, 20, 21, 1, 2, 3, 4] (by decide) rfl)) rfl rfl hl.1 rfl (lv_room (Nat.le_of_ble_eq_true rfl)) dX6_image_25 ⟨Nat.zero_le _, Nat.zero_le _⟩) hP hD hS hA [18, 19, 20, 21, 1, 2, 3, 4] [0, 5, 6, 7, 8, 9, 10, 11, 12, 13, 14, 15, 16, 17, 22, 23, 24] rfl rfl (by decide) (by decide) (fun u8 H locs hf hP hD hS => ?_)
      have hP : va_P D vwCl [(q_t, .inr (6, [.ref q_t_now, .ref q_t_sights, .ref q_t_pad, .ref q_t_tale, .ref q_t_images])), (q_t_sights, .inr (3, [.int t_sights_count, .ref q_t_sights_hours, .ref q_t_sights_rang])), (q_t_sights_hours, .inl (cI, 8, .inl t_sights_hours)), (q_t_sights_rang, .inl (cZ, 8, .inl t_sights_rang)), (q_t_images, .inl (cO, 2, .inr (.inr (.inr (.inr t_images))))), (q_t_images_0, .inr (1, [.ref q_t_images_0_world, .ref q_t_images_0_sights, .int t_images_0_isKept])), (q_t_images_0_world, .inr (5, [.int t_images_0_world_date, .int t_images_0_world_hour, .int t_images_0_world_year, .int t_images_0_world_shift, .int t_images_0_world_kneelDate, .ref q_t_images_0_world_places, .ref q_t_images_0_world_coins, .ref q_t_images_0_world_lying])), (q_t_images_0_world_places, .inl (cI, 6, .inl t_images_0_world_places)), (q_t_images_0_world_coins, .inl (cI, 6, .inl t_images_0_world_coins)), (q_t_images_0_world_lying, .inl (cI, 30, .inl t_images_0_world_lying)), (q_t_images_0_sights, .inr (3, [.int t_images_0_sights_count, .ref q_t_images_0_sights_hours, .ref q_t_images_0_sights_rang])), (q_t_images_0_sights_hours, .inl (cI, 8, .inl t_images_0_sights_hours)), (q_t_images_0_sights_rang, .inl (cZ, 8, .inl t_images_0_sights_rang)), (q_t_images_1, .inr (1, [.ref q_t_images_1_world, .ref q_t_images_1_sights, .int t_images_1_isKept])), (q_t_images_1_sights, .inr (3, [.int t_images_1_sights_count, .ref q_t_images_1_sights_hours, .ref q_t_images_1_sights_rang])), (q_t_images_1_sights_hours, .inl (cI, 8, .inl t_images_1_sights_hours)), (q_t_images_1_sights_rang, .inl (cZ, 8, .inl t_images_1_sights_rang)), (q_t_images_1_world, .inr (5, [.int u8.1, .int u8.2.1, .int u8.2.2.1, .int u8.2.2.2.1, .int u8.2.2.2.2.1, .ref q_t_images_1_world_places, .ref q_t_images_1_world_coins, .ref q_t_images_1_world_lying])), (q_t_images_1_world_places, .inl (cI, 6, .inl u8.2.2.2.2.2.1)), (q_t_images_1_world_coins, .inl (cI, 6, .inl u8.2.2.2.2.2.2.1)), (q_t_images_1_world_lying, .inl (cI, 30, .inl u8.2.2.2.2.2.2.2)), (q_t_now, .inr (5, [.int t_now_date, .int t_now_hour, .int t_now_year, .int t_now_shift, .int t_now_kneelDate, .ref q_t_now_places, .ref q_t_now_coins, .ref q_t_now_lying])), (q_t_now_places, .inl (cI, 6, .inl t_now_places)), (q_t_now_coins, .inl (cI, 6, .inl t_now_coins)), (q_t_now_lying, .inl (cI, 30, .inl t_now_lying))] H := hP
      have hD : va_D A [(q_t, .inr (6, [.ref q_t_now, .ref q_t_sights, .ref q_t_pad, .ref q_t_tale, .ref q_t_images])), (q_t_sights, .inr (3, [.int t_sights_count, .ref q_t_sights_hours, .ref q_t_sights_rang])), (q_t_sights_hours, .inl (cI, 8, .inl t_sights_hours)), (q_t_sights_rang, .inl (cZ, 8, .inl t_sights_rang)), (q_t_images, .inl (cO, 2, .inr (.inr (.inr (.inr t_images))))), (q_t_images_0, .inr (1, [.ref q_t_images_0_world, .ref q_t_images_0_sights, .int t_images_0_isKept])), (q_t_images_0_world, .inr (5, [.int t_images_0_world_date, .int t_images_0_world_hour, .int t_images_0_world_year, .int t_images_0_world_shift, .int t_images_0_world_kneelDate, .ref q_t_images_0_world_places, .ref q_t_images_0_world_coins, .ref q_t_images_0_world_lying])), (q_t_images_0_world_places, .inl (cI, 6, .inl t_images_0_world_places)), (q_t_images_0_world_coins, .inl (cI, 6, .inl t_images_0_world_coins)), (q_t_images_0_world_lying, .inl (cI, 30, .inl t_images_0_world_lying)), (q_t_images_0_sights, .inr (3, [.int t_images_0_sights_count, .ref q_t_images_0_sights_hours, .ref q_t_images_0_sights_rang])), (q_t_images_0_sights_hours, .inl (cI, 8, .inl t_images_0_sights_hours)), (q_t_images_0_sights_rang, .inl (cZ, 8, .inl t_images_0_sights_rang)), (q_t_images_1, .inr (1, [.ref q_t_images_1_world, .ref q_t_images_1_sights, .int t_images_1_isKept])), (q_t_images_1_sights, .inr (3, [.int t_images_1_sights_count, .ref q_t_images_1_sights_hours, .ref q_t_images_1_sights_rang])), (q_t_images_1_sights_hours, .inl (cI, 8, .inl t_images_1_sights_hours)), (q_t_images_1_sights_rang, .inl (cZ, 8, .inl t_images_1_sights_rang)), (q_t_images_1_world, .inr (5, [.int u8.1, .int u8.2.1, .int u8.2.2.1, .int u8.2.2.2.1, .int u8.2.2.2.2.1, .ref q_t_images_1_world_places, .ref q_t_images_1_world_coins, .ref q_t_images_1_world_lying])), (q_t_images_1_world_places, .inl (cI, 6, .inl u8.2.2.2.2.2.1)), (q_t_images_1_world_coins, .inl (cI, 6, .inl u8.2.2.2.2.2.2.1)), (q_t_images_1_world_lying, .inl (cI, 30, .inl u8.2.2.2.2.2.2.2)), (q_t_now, .inr (5, [.int t_now_date, .int t_now_hour, .int t_now_year, .int t_now_shift, .int t_now_kneelDate, .ref q_t_now_places, .ref q_t_now_coins, .ref q_t_now_lying])), (q_t_now_places, .inl (cI, 6, .inl t_now_places)), (q_t_now_coins, .inl (cI, 6, .inl t_now_coins)), (q_t_now_lying, .inl (cI, 30, .inl t_now_lying))] := hD
      refine lv_aload_n hx hb dX6_image_28 rfl (lv_at hl 0 rfl) ?_
      refine va_get (D := D) (ci := 6) (v := .ref q_t_images) (C := RX6) (T := TX6) (N := 5) hx hb hts nX6_image_X6 hown hK hP 0 rfl rfl 4 (by decide) (hts _ mX6_image_1) (fun _ h9 => h9) rfl dX6_image_29 ?_
      refine lv_iload_n hx hb dX6_image_32 rfl (lv_at hl 1 rfl) ?_
      refine va_aldq hx hb hK hP 4 3 rfl rfl (by rw [z1]; exact vpc rfl) dX6_image_33 ?_
      refine W.eq (g2 := F0 m 34 ls (.ref q_t_images_1 :: [])) (by rw [z1, show ((1 : Int32).toNatClampNeg) = 1 from by decide, h_t_images_1]; rfl) ?_
      refine va_get (D := D) (ci := 1) (v := .ref q_t_images_1_sights) (C := RX1) (T := TX1) (N := 3) hx hb hts nX6_image_X1 hown hK hP 13 rfl rfl 1 (by decide) (hts _ mX6_image_4) (fun _ h9 => h9) rfl dX6_image_34 ?_
      refine lv_aload_n hx hb dX6_image_37 rfl (lv_at hl 0 rfl) ?_
      refine va_get (D := D) (ci := 6) (v := .ref q_t_sights) (C := RX6) (T := TX6) (N := 5) hx hb hts nX6_image_X6 hown hK hP 0 rfl rfl 1 (by decide) (hts _ mX6_image_5) (fun _ h9 => h9) rfl dX6_image_38 ?_
      refine xc_v (wr := [(q_t, .inr (6, [.ref q_t_now, .ref q_t_sights, .ref q_t_pad, .ref q_t_tale, .ref q_t_images])), (q_t_images, .inl (cO, 2, .inr (.inr (.inr (.inr t_images))))), (q_t_images_0, .inr (1, [.ref q_t_images_0_world, .ref q_t_images_0_sights, .int t_images_0_isKept])), (q_t_images_0_world, .inr (5, [.int t_images_0_world_date, .int t_images_0_world_hour, .int t_images_0_world_year, .int t_images_0_world_shift, .int t_images_0_world_kneelDate, .ref q_t_images_0_world_places, .ref q_t_images_0_world_coins, .ref q_t_images_0_world_lying])), (q_t_images_0_world_places, .inl (cI, 6, .inl t_images_0_world_places)), (q_t_images_0_world_coins, .inl (cI, 6, .inl t_images_0_world_coins)), (q_t_images_0_world_lying, .inl (cI, 30, .inl t_images_0_world_lying)), (q_t_images_0_sights, .inr (3, [.int t_images_0_sights_count, .ref q_t_images_0_sights_hours, .ref q_t_images_0_sights_rang])), (q_t_images_0_sights_hours, .inl (cI, 8, .inl t_images_0_sights_hours)), (q_t_images_0_sights_rang, .inl (cZ, 8, .inl t_images_0_sights_rang)), (q_t_images_1, .inr (1, [.ref q_t_images_1_world, .ref q_t_images_1_sights, .int t_images_1_isKept])), (q_t_images_1_world, .inr (5, [.int u8.1, .int u8.2.1, .int u8.2.2.1, .int u8.2.2.2.1, .int u8.2.2.2.2.1, .ref q_t_images_1_world_places, .ref q_t_images_1_world_coins, .ref q_t_images_1_world_lying])), (q_t_images_1_world_places, .inl (cI, 6, .inl u8.2.2.2.2.2.1)), (q_t_images_1_world_coins, .inl (cI, 6, .inl u8.2.2.2.2.2.2.1)), (q_t_images_1_world_lying, .inl (cI, 30, .inl u8.2.2.2.2.2.2.2)), (q_t_now, .inr (5, [.int t_now_date, .int t_now_hour, .int t_now_year, .int t_now_shift, .int t_now_kneelDate, .ref q_t_now_places, .ref q_t_now_coins, .ref q_t_now_lying])), (q_t_now_places, .inl (cI, 6, .inl t_now_places)), (q_t_now_coins, .inl (cI, 6, .inl t_now_coins)), (q_t_now_lying, .inl (cI, 30, .inl t_now_lying))]) (va_runV (As := [.ref q_t_sights]) (rest := []) ⟨hx, hb, hml, hown, hts⟩ (kX3_become l D cI cZ cJ cO q_t_images_1_sights q_t_images_1_sights_hours q_t_images_1_sights_rang q_t_sights q_t_sights_hours q_t_sights_rang H.size t_images_1_sights_count t_images_1_sights_hours t_images_1_sights_rang t_sights_count t_sights_hours t_sights_rang _ hf) (cwV 1 hts gX6_image_X3_become rfl rfl rfl (by decide +kernel) ⟨Nat.le_of_ble_eq_true rfl, Nat.le_of_ble_eq_true rfl⟩) (B1_preV (ci := 3) (q0 := 14) hP rfl rfl (hP.sub (ws' := [(q_t_images_1_sights, .inr (3, [.int t_images_1_sights_count, .ref q_t_images_1_sights_hours, .ref q_t_images_1_sights_rang])), (q_t_images_1_sights_hours, .inl (cI, 8, .inl t_images_1_sights_hours)), (q_t_images_1_sights_rang, .inl (cZ, 8, .inl t_images_1_sights_rang)), (q_t_sights, .inr (3, [.int t_sights_count, .ref q_t_sights_hours, .ref q_t_sights_rang])), (q_t_sights_hours, .inl (cI, 8, .inl t_sights_hours)), (q_t_sights_rang, .inl (cZ, 8, .inl t_sights_rang))]) [14, 15, 16, 1, 2, 3] rfl) hK hN (hD.sub (ws' := [(q_t_images_1_sights, .inr (3, [.int t_images_1_sights_count, .ref q_t_images_1_sights_hours, .ref q_t_images_1_sights_rang])), (q_t_images_1_sights_hours, .inl (cI, 8, .inl t_images_1_sights_hours)), (q_t_images_1_sights_rang, .inl (cZ, 8, .inl t_images_1_sights_rang)), (q_t_sights, .inr (3, [.int t_sights_count, .ref q_t_sights_hours, .ref q_t_sights_rang])), (q_t_sights_hours, .inl (cI, 8, .inl t_sights_hours)), (q_t_sights_rang, .inl (cZ, 8, .inl t_sights_rang))]) [14, 15, 16, 1, 2, 3] (by decide) rfl)) rfl rfl hl.1 rfl (lv_room (Nat.le_of_ble_eq_true rfl)) dX6_image_41 ⟨Nat.zero_le _, Nat.zero_le _⟩) hP hD hS hA [14, 15, 16, 1, 2, 3] [0, 4, 5, 6, 7, 8, 9, 10, 11, 12, 13, 17, 18, 19, 20, 21, 22, 23, 24] rfl rfl (by decide) (by decide) (fun u10 H locs hf hP hD hS => ?_)
      have hP : va_P D vwCl [(q_t, .inr (6, [.ref q_t_now, .ref q_t_sights, .ref q_t_pad, .ref q_t_tale, .ref q_t_images])), (q_t_images, .inl (cO, 2, .inr (.inr (.inr (.inr t_images))))), (q_t_images_0, .inr (1, [.ref q_t_images_0_world, .ref q_t_images_0_sights, .int t_images_0_isKept])), (q_t_images_0_world, .inr (5, [.int t_images_0_world_date, .int t_images_0_world_hour, .int t_images_0_world_year, .int t_images_0_world_shift, .int t_images_0_world_kneelDate, .ref q_t_images_0_world_places, .ref q_t_images_0_world_coins, .ref q_t_images_0_world_lying])), (q_t_images_0_world_places, .inl (cI, 6, .inl t_images_0_world_places)), (q_t_images_0_world_coins, .inl (cI, 6, .inl t_images_0_world_coins)), (q_t_images_0_world_lying, .inl (cI, 30, .inl t_images_0_world_lying)), (q_t_images_0_sights, .inr (3, [.int t_images_0_sights_count, .ref q_t_images_0_sights_hours, .ref q_t_images_0_sights_rang])), (q_t_images_0_sights_hours, .inl (cI, 8, .inl t_images_0_sights_hours)), (q_t_images_0_sights_rang, .inl (cZ, 8, .inl t_images_0_sights_rang)), (q_t_images_1, .inr (1, [.ref q_t_images_1_world, .ref q_t_images_1_sights, .int t_images_1_isKept])), (q_t_images_1_world, .inr (5, [.int u8.1, .int u8.2.1, .int u8.2.2.1, .int u8.2.2.2.1, .int u8.2.2.2.2.1, .ref q_t_images_1_world_places, .ref q_t_images_1_world_coins, .ref q_t_images_1_world_lying])), (q_t_images_1_world_places, .inl (cI, 6, .inl u8.2.2.2.2.2.1)), (q_t_images_1_world_coins, .inl (cI, 6, .inl u8.2.2.2.2.2.2.1)), (q_t_images_1_world_lying, .inl (cI, 30, .inl u8.2.2.2.2.2.2.2)), (q_t_now, .inr (5, [.int t_now_date, .int t_now_hour, .int t_now_year, .int t_now_shift, .int t_now_kneelDate, .ref q_t_now_places, .ref q_t_now_coins, .ref q_t_now_lying])), (q_t_now_places, .inl (cI, 6, .inl t_now_places)), (q_t_now_coins, .inl (cI, 6, .inl t_now_coins)), (q_t_now_lying, .inl (cI, 30, .inl t_now_lying)), (q_t_images_1_sights, .inr (3, [.int u10.1, .ref q_t_images_1_sights_hours, .ref q_t_images_1_sights_rang])), (q_t_images_1_sights_hours, .inl (cI, 8, .inl u10.2.1)), (q_t_images_1_sights_rang, .inl (cZ, 8, .inl u10.2.2)), (q_t_sights, .inr (3, [.int t_sights_count, .ref q_t_sights_hours, .ref q_t_sights_rang])), (q_t_sights_hours, .inl (cI, 8, .inl t_sights_hours)), (q_t_sights_rang, .inl (cZ, 8, .inl t_sights_rang))] H := hP
      have hD : va_D A [(q_t, .inr (6, [.ref q_t_now, .ref q_t_sights, .ref q_t_pad, .ref q_t_tale, .ref q_t_images])), (q_t_images, .inl (cO, 2, .inr (.inr (.inr (.inr t_images))))), (q_t_images_0, .inr (1, [.ref q_t_images_0_world, .ref q_t_images_0_sights, .int t_images_0_isKept])), (q_t_images_0_world, .inr (5, [.int t_images_0_world_date, .int t_images_0_world_hour, .int t_images_0_world_year, .int t_images_0_world_shift, .int t_images_0_world_kneelDate, .ref q_t_images_0_world_places, .ref q_t_images_0_world_coins, .ref q_t_images_0_world_lying])), (q_t_images_0_world_places, .inl (cI, 6, .inl t_images_0_world_places)), (q_t_images_0_world_coins, .inl (cI, 6, .inl t_images_0_world_coins)), (q_t_images_0_world_lying, .inl (cI, 30, .inl t_images_0_world_lying)), (q_t_images_0_sights, .inr (3, [.int t_images_0_sights_count, .ref q_t_images_0_sights_hours, .ref q_t_images_0_sights_rang])), (q_t_images_0_sights_hours, .inl (cI, 8, .inl t_images_0_sights_hours)), (q_t_images_0_sights_rang, .inl (cZ, 8, .inl t_images_0_sights_rang)), (q_t_images_1, .inr (1, [.ref q_t_images_1_world, .ref q_t_images_1_sights, .int t_images_1_isKept])), (q_t_images_1_world, .inr (5, [.int u8.1, .int u8.2.1, .int u8.2.2.1, .int u8.2.2.2.1, .int u8.2.2.2.2.1, .ref q_t_images_1_world_places, .ref q_t_images_1_world_coins, .ref q_t_images_1_world_lying])), (q_t_images_1_world_places, .inl (cI, 6, .inl u8.2.2.2.2.2.1)), (q_t_images_1_world_coins, .inl (cI, 6, .inl u8.2.2.2.2.2.2.1)), (q_t_images_1_world_lying, .inl (cI, 30, .inl u8.2.2.2.2.2.2.2)), (q_t_now, .inr (5, [.int t_now_date, .int t_now_hour, .int t_now_year, .int t_now_shift, .int t_now_kneelDate, .ref q_t_now_places, .ref q_t_now_coins, .ref q_t_now_lying])), (q_t_now_places, .inl (cI, 6, .inl t_now_places)), (q_t_now_coins, .inl (cI, 6, .inl t_now_coins)), (q_t_now_lying, .inl (cI, 30, .inl t_now_lying)), (q_t_images_1_sights, .inr (3, [.int u10.1, .ref q_t_images_1_sights_hours, .ref q_t_images_1_sights_rang])), (q_t_images_1_sights_hours, .inl (cI, 8, .inl u10.2.1)), (q_t_images_1_sights_rang, .inl (cZ, 8, .inl u10.2.2)), (q_t_sights, .inr (3, [.int t_sights_count, .ref q_t_sights_hours, .ref q_t_sights_rang])), (q_t_sights_hours, .inl (cI, 8, .inl t_sights_hours)), (q_t_sights_rang, .inl (cZ, 8, .inl t_sights_rang))] := hD
      refine lv_aload_n hx hb dX6_image_44 rfl (lv_at hl 0 rfl) ?_
      refine va_get (D := D) (ci := 6) (v := .ref q_t_images) (C := RX6) (T := TX6) (N := 5) hx hb hts nX6_image_X6 hown hK hP 0 rfl rfl 4 (by decide) (hts _ mX6_image_1) (fun _ h9 => h9) rfl dX6_image_45 ?_
      refine lv_iload_n hx hb dX6_image_48 rfl (lv_at hl 1 rfl) ?_
      refine va_aldq hx hb hK hP 1 3 rfl rfl (by rw [z1]; exact vpc rfl) dX6_image_49 ?_
      refine W.eq (g2 := F0 m 50 ls (.ref q_t_images_1 :: [])) (by rw [z1, show ((1 : Int32).toNatClampNeg) = 1 from by decide, h_t_images_1]; rfl) ?_
      refine lv_iconst (v := 1) hx hb dX6_image_50 (by decide) ?_
      refine va_put (D := D) (ci := 1) (v := .int 1) (ty := .boolean) (C := RX1) (T := TX1) (N := 3) hx hb hts nX6_image_X1 tyX1 tyX1_ok nmX1 hown hK hP hD hS 10 rfl rfl 2 (by decide) (hts _ mX6_image_6) (fun _ h9 => h9) rfl (by decide +kernel) rfl rfl (Nat.le_of_ble_eq_true rfl) dX6_image_51 (fun H locs hP hD hS => ?_)
      have hP : va_P D vwCl [(q_t, .inr (6, [.ref q_t_now, .ref q_t_sights, .ref q_t_pad, .ref q_t_tale, .ref q_t_images])), (q_t_images, .inl (cO, 2, .inr (.inr (.inr (.inr t_images))))), (q_t_images_0, .inr (1, [.ref q_t_images_0_world, .ref q_t_images_0_sights, .int t_images_0_isKept])), (q_t_images_0_world, .inr (5, [.int t_images_0_world_date, .int t_images_0_world_hour, .int t_images_0_world_year, .int t_images_0_world_shift, .int t_images_0_world_kneelDate, .ref q_t_images_0_world_places, .ref q_t_images_0_world_coins, .ref q_t_images_0_world_lying])), (q_t_images_0_world_places, .inl (cI, 6, .inl t_images_0_world_places)), (q_t_images_0_world_coins, .inl (cI, 6, .inl t_images_0_world_coins)), (q_t_images_0_world_lying, .inl (cI, 30, .inl t_images_0_world_lying)), (q_t_images_0_sights, .inr (3, [.int t_images_0_sights_count, .ref q_t_images_0_sights_hours, .ref q_t_images_0_sights_rang])), (q_t_images_0_sights_hours, .inl (cI, 8, .inl t_images_0_sights_hours)), (q_t_images_0_sights_rang, .inl (cZ, 8, .inl t_images_0_sights_rang)), (q_t_images_1, .inr (1, [.ref q_t_images_1_world, .ref q_t_images_1_sights, .int 1])), (q_t_images_1_world, .inr (5, [.int u8.1, .int u8.2.1, .int u8.2.2.1, .int u8.2.2.2.1, .int u8.2.2.2.2.1, .ref q_t_images_1_world_places, .ref q_t_images_1_world_coins, .ref q_t_images_1_world_lying])), (q_t_images_1_world_places, .inl (cI, 6, .inl u8.2.2.2.2.2.1)), (q_t_images_1_world_coins, .inl (cI, 6, .inl u8.2.2.2.2.2.2.1)), (q_t_images_1_world_lying, .inl (cI, 30, .inl u8.2.2.2.2.2.2.2)), (q_t_now, .inr (5, [.int t_now_date, .int t_now_hour, .int t_now_year, .int t_now_shift, .int t_now_kneelDate, .ref q_t_now_places, .ref q_t_now_coins, .ref q_t_now_lying])), (q_t_now_places, .inl (cI, 6, .inl t_now_places)), (q_t_now_coins, .inl (cI, 6, .inl t_now_coins)), (q_t_now_lying, .inl (cI, 30, .inl t_now_lying)), (q_t_images_1_sights, .inr (3, [.int u10.1, .ref q_t_images_1_sights_hours, .ref q_t_images_1_sights_rang])), (q_t_images_1_sights_hours, .inl (cI, 8, .inl u10.2.1)), (q_t_images_1_sights_rang, .inl (cZ, 8, .inl u10.2.2)), (q_t_sights, .inr (3, [.int t_sights_count, .ref q_t_sights_hours, .ref q_t_sights_rang])), (q_t_sights_hours, .inl (cI, 8, .inl t_sights_hours)), (q_t_sights_rang, .inl (cZ, 8, .inl t_sights_rang))] H := hP
      have hD : va_D A [(q_t, .inr (6, [.ref q_t_now, .ref q_t_sights, .ref q_t_pad, .ref q_t_tale, .ref q_t_images])), (q_t_images, .inl (cO, 2, .inr (.inr (.inr (.inr t_images))))), (q_t_images_0, .inr (1, [.ref q_t_images_0_world, .ref q_t_images_0_sights, .int t_images_0_isKept])), (q_t_images_0_world, .inr (5, [.int t_images_0_world_date, .int t_images_0_world_hour, .int t_images_0_world_year, .int t_images_0_world_shift, .int t_images_0_world_kneelDate, .ref q_t_images_0_world_places, .ref q_t_images_0_world_coins, .ref q_t_images_0_world_lying])), (q_t_images_0_world_places, .inl (cI, 6, .inl t_images_0_world_places)), (q_t_images_0_world_coins, .inl (cI, 6, .inl t_images_0_world_coins)), (q_t_images_0_world_lying, .inl (cI, 30, .inl t_images_0_world_lying)), (q_t_images_0_sights, .inr (3, [.int t_images_0_sights_count, .ref q_t_images_0_sights_hours, .ref q_t_images_0_sights_rang])), (q_t_images_0_sights_hours, .inl (cI, 8, .inl t_images_0_sights_hours)), (q_t_images_0_sights_rang, .inl (cZ, 8, .inl t_images_0_sights_rang)), (q_t_images_1, .inr (1, [.ref q_t_images_1_world, .ref q_t_images_1_sights, .int 1])), (q_t_images_1_world, .inr (5, [.int u8.1, .int u8.2.1, .int u8.2.2.1, .int u8.2.2.2.1, .int u8.2.2.2.2.1, .ref q_t_images_1_world_places, .ref q_t_images_1_world_coins, .ref q_t_images_1_world_lying])), (q_t_images_1_world_places, .inl (cI, 6, .inl u8.2.2.2.2.2.1)), (q_t_images_1_world_coins, .inl (cI, 6, .inl u8.2.2.2.2.2.2.1)), (q_t_images_1_world_lying, .inl (cI, 30, .inl u8.2.2.2.2.2.2.2)), (q_t_now, .inr (5, [.int t_now_date, .int t_now_hour, .int t_now_year, .int t_now_shift, .int t_now_kneelDate, .ref q_t_now_places, .ref q_t_now_coins, .ref q_t_now_lying])), (q_t_now_places, .inl (cI, 6, .inl t_now_places)), (q_t_now_coins, .inl (cI, 6, .inl t_now_coins)), (q_t_now_lying, .inl (cI, 30, .inl t_now_lying)), (q_t_images_1_sights, .inr (3, [.int u10.1, .ref q_t_images_1_sights_hours, .ref q_t_images_1_sights_rang])), (q_t_images_1_sights_hours, .inl (cI, 8, .inl u10.2.1)), (q_t_images_1_sights_rang, .inl (cZ, 8, .inl u10.2.2)), (q_t_sights, .inr (3, [.int t_sights_count, .ref q_t_sights_hours, .ref q_t_sights_rang])), (q_t_sights_hours, .inl (cI, 8, .inl t_sights_hours)), (q_t_sights_rang, .inl (cZ, 8, .inl t_sights_rang))] := hD
      refine lv_iconst (v := 1) hx hb dX6_image_54 (by decide) ?_
      exact hret 55 ls H locs 1 (t_images_0_isKept, t_images_0_world_date, t_images_0_world_hour, t_images_0_world_year, t_images_0_world_shift, t_images_0_world_kneelDate, t_images_0_world_places, t_images_0_world_coins, t_images_0_world_lying, t_images_0_sights_count, t_images_0_sights_hours, t_images_0_sights_rang, 1, u8.1, u8.2.1, u8.2.2.1, u8.2.2.2.1, u8.2.2.2.2.1, u8.2.2.2.2.2.1, u8.2.2.2.2.2.2.1, u8.2.2.2.2.2.2.2, u10.1, u10.2.1, u10.2.2) dX6_image_55 hf (hP.sub [0, 15, 16, 17, 18, 22, 23, 24, 1, 2, 3, 4, 5, 6, 7, 8, 9, 10, 11, 12, 13, 14, 19, 20, 21] rfl) (hD.sub [0, 15, 16, 17, 18, 22, 23, 24, 1, 2, 3, 4, 5, 6, 7, 8, 9, 10, 11, 12, 13, 14, 19, 20, 21] (by decide) rfl) hS
  · have hf := hf.2 c2
    refine lv_bipush (v := (-2)) hx hb dX6_image_9 (by decide) ?_
    exact hret 11 ls H locs (-2) (t_images_0_isKept, t_images_0_world_date, t_images_0_world_hour, t_images_0_world_year, t_images_0_world_shift, t_images_0_world_kneelDate, t_images_0_world_places, t_images_0_world_coins, t_images_0_world_lying, t_images_0_sights_count, t_images_0_sights_hours, t_images_0_sights_rang, t_images_1_isKept, t_images_1_world_date, t_images_1_world_hour, t_images_1_world_year, t_images_1_world_shift, t_images_1_world_kneelDate, t_images_1_world_places, t_images_1_world_coins, t_images_1_world_lying, t_images_1_sights_count, t_images_1_sights_hours, t_images_1_sights_rang) dX6_image_11 hf hP hD hS
