/-! X6_restore -/
theorem mX6_restore_1 : Cond.fieldLink RX6 39 "OxenKneel" "images" "[LOxenKneel$Image;" ∈ wsX6_restore := List.mem_of_getElem? (i := 1) rfl
theorem mX6_restore_2 : Cond.fieldLink RX6 218 "OxenKneel$Image" "isKept" "Z" ∈ wsX6_restore := List.mem_of_getElem? (i := 2) rfl
theorem mX6_restore_3 : Cond.fieldLink RX6 10 "OxenKneel" "now" "LOxenKneel$World;" ∈ wsX6_restore := List.mem_of_getElem? (i := 3) rfl
theorem mX6_restore_4 : Cond.fieldLink RX6 213 "OxenKneel$Image" "world" "LOxenKneel$World;" ∈ wsX6_restore := List.mem_of_getElem? (i := 4) rfl
theorem mX6_restore_5 : Cond.fieldLink RX6 19 "OxenKneel" "sights" "LOxenKneel$Sights;" ∈ wsX6_restore := List.mem_of_getElem? (i := 5) rfl
theorem mX6_restore_6 : Cond.fieldLink RX6 214 "OxenKneel$Image" "sights" "LOxenKneel$Sights;" ∈ wsX6_restore := List.mem_of_getElem? (i := 6) rfl
theorem nX6_restore_X6 : ∀ w ∈ wsX60, w ∈ wsX6_restore := fun _ h => List.mem_cons_of_mem _ (List.mem_append_left _ (List.mem_append_left _ (List.mem_append_left _ (List.mem_append_right _ h))))
theorem nX6_restore_X1 : ∀ w ∈ wsX10, w ∈ wsX6_restore := fun _ h => List.mem_cons_of_mem _ (List.mem_append_left _ (List.mem_append_left _ (List.mem_append_right _ h)))
def pX6_restore (t_now_date : Int32) (t_now_hour : Int32) (t_now_year : Int32) (t_now_shift : Int32) (t_now_kneelDate : Int32) (t_now_places : (Nat → Int32)) (t_now_coins : (Nat → Int32)) (t_now_lying : (Nat → Int32)) (t_sights_count : Int32) (t_sights_hours : (Nat → Int32)) (t_sights_rang : (Nat → Int32)) (t_images_0_isKept : Int32) (t_images_0_world_date : Int32) (t_images_0_world_hour : Int32) (t_images_0_world_year : Int32) (t_images_0_world_shift : Int32) (t_images_0_world_kneelDate : Int32) (t_images_0_world_places : (Nat → Int32)) (t_images_0_world_coins : (Nat → Int32)) (t_images_0_world_lying : (Nat → Int32)) (t_images_0_sights_count : Int32) (t_images_0_sights_hours : (Nat → Int32)) (t_images_0_sights_rang : (Nat → Int32)) (t_images_1_isKept : Int32) (t_images_1_world_date : Int32) (t_images_1_world_hour : Int32) (t_images_1_world_year : Int32) (t_images_1_world_shift : Int32) (t_images_1_world_kneelDate : Int32) (t_images_1_world_places : (Nat → Int32)) (t_images_1_world_coins : (Nat → Int32)) (t_images_1_world_lying : (Nat → Int32)) (t_images_1_sights_count : Int32) (t_images_1_sights_hours : (Nat → Int32)) (t_images_1_sights_rang : (Nat → Int32)) (a1 : Int32) (post : Int32 → (Int32 × Int32 × Int32 × Int32 × Int32 × (Nat → Int32) × (Nat → Int32) × (Nat → Int32) × Int32 × (Nat → Int32) × (Nat → Int32)) → Prop) : Prop :=
  pX6_isIn a1 0 1 (fun r1 => (¬ r1 = 0 → ((a1 = 0 → ((¬ t_images_0_isKept = 0 → (pX5_become t_now_date t_now_hour t_now_year t_now_shift t_now_kneelDate t_now_places t_now_coins t_now_lying t_images_0_world_date t_images_0_world_hour t_images_0_world_year t_images_0_world_shift t_images_0_world_kneelDate t_images_0_world_places t_images_0_world_coins t_images_0_world_lying (fun (u5 : Int32 × Int32 × Int32 × Int32 × Int32 × (Nat → Int32) × (Nat → Int32) × (Nat → Int32)) => pX3_become t_sights_count t_sights_hours t_sights_rang t_images_0_sights_count t_images_0_sights_hours t_images_0_sights_rang (fun (u7 : Int32 × (Nat → Int32) × (Nat → Int32)) => post 1 (u5.1, u5.2.1, u5.2.2.1, u5.2.2.2.1, u5.2.2.2.2.1, u5.2.2.2.2.2.1, u5.2.2.2.2.2.2.1, u5.2.2.2.2.2.2.2, u7.1, u7.2.1, u7.2.2))))) ∧ (t_images_0_isKept = 0 → (post (-3) (t_now_date, t_now_hour, t_now_year, t_now_shift, t_now_kneelDate, t_now_places, t_now_coins, t_now_lying, t_sights_count, t_sights_hours, t_sights_rang))))) ∧ (¬ a1 = 0 → a1 = 1 ∧ ((¬ t_images_1_isKept = 0 → (pX5_become t_now_date t_now_hour t_now_year t_now_shift t_now_kneelDate t_now_places t_now_coins t_now_lying t_images_1_world_date t_images_1_world_hour t_images_1_world_year t_images_1_world_shift t_images_1_world_kneelDate t_images_1_world_places t_images_1_world_coins t_images_1_world_lying (fun (u10 : Int32 × Int32 × Int32 × Int32 × Int32 × (Nat → Int32) × (Nat → Int32) × (Nat → Int32)) => pX3_become t_sights_count t_sights_hours t_sights_rang t_images_1_sights_count t_images_1_sights_hours t_images_1_sights_rang (fun (u12 : Int32 × (Nat → Int32) × (Nat → Int32)) => post 1 (u10.1, u10.2.1, u10.2.2.1, u10.2.2.2.1, u10.2.2.2.2.1, u10.2.2.2.2.2.1, u10.2.2.2.2.2.2.1, u10.2.2.2.2.2.2.2, u12.1, u12.2.1, u12.2.2))))) ∧ (t_images_1_isKept = 0 → (post (-3) (t_now_date, t_now_hour, t_now_year, t_now_shift, t_now_kneelDate, t_now_places, t_now_coins, t_now_lying, t_sights_count, t_sights_hours, t_sights_rang))))))) ∧ (r1 = 0 → (post (-2) (t_now_date, t_now_hour, t_now_year, t_now_shift, t_now_kneelDate, t_now_places, t_now_coins, t_now_lying, t_sights_count, t_sights_hours, t_sights_rang))))

set_option maxHeartbeats 4000000 in
set_option maxRecDepth 100000 in
theorem kX6_restore (l : Launch) (D : va_G) (cI cZ cJ cO : ClassId) (q_t q_t_now q_t_now_places q_t_now_coins q_t_now_lying q_t_sights q_t_sights_hours q_t_sights_rang q_t_images q_t_images_0 q_t_images_0_world q_t_images_0_world_places q_t_images_0_world_coins q_t_images_0_world_lying q_t_images_0_sights q_t_images_0_sights_hours q_t_images_0_sights_rang q_t_images_1 q_t_images_1_world q_t_images_1_world_places q_t_images_1_world_coins q_t_images_1_world_lying q_t_images_1_sights q_t_images_1_sights_hours q_t_images_1_sights_rang q_t_pad q_t_tale : Nat) (t_images : Nat → Option Nat) (h_t_images_0 : t_images 0 = some q_t_images_0) (h_t_images_1 : t_images 1 = some q_t_images_1) (sz : Nat)  (t_now_date : Int32) (t_now_hour : Int32) (t_now_year : Int32) (t_now_shift : Int32) (t_now_kneelDate : Int32) (t_now_places : (Nat → Int32)) (t_now_coins : (Nat → Int32)) (t_now_lying : (Nat → Int32)) (t_sights_count : Int32) (t_sights_hours : (Nat → Int32)) (t_sights_rang : (Nat → Int32)) (t_images_0_isKept : Int32) (t_images_0_world_date : Int32) (t_images_0_world_hour : Int32) (t_images_0_world_year : Int32) (t_images_0_world_shift : Int32) (t_images_0_world_kneelDate : Int32) (t_images_0_world_places : (Nat → Int32)) (t_images_0_world_coins : (Nat → Int32)) (t_images_0_world_lying : (Nat → Int32)) (t_images_0_sights_count : Int32) (t_images_0_sights_hours : (Nat → Int32)) (t_images_0_sights_rang : (Nat → Int32)) (t_images_1_isKept : Int32) (t_images_1_world_date : Int32) (t_images_1_world_hour : Int32) (t_images_1_world_year : Int32) (t_images_1_world_shift : Int32) (t_images_1_world_kneelDate : Int32) (t_images_1_world_places : (Nat → Int32)) (t_images_1_world_coins : (Nat → Int32)) (t_images_1_world_lying : (Nat → Int32)) (t_images_1_sights_count : Int32) (t_images_1_sights_hours : (Nat → Int32)) (t_images_1_sights_rang : (Nat → Int32)) (a1 : Int32) (post : Int32 → (Int32 × Int32 × Int32 × Int32 × Int32 × (Nat → Int32) × (Nat → Int32) × (Nat → Int32) × Int32 × (Nat → Int32) × (Nat → Int32)) → Prop) (hf : pX6_restore t_now_date t_now_hour t_now_year t_now_shift t_now_kneelDate t_now_places t_now_coins t_now_lying t_sights_count t_sights_hours t_sights_rang t_images_0_isKept t_images_0_world_date t_images_0_world_hour t_images_0_world_year t_images_0_world_shift t_images_0_world_kneelDate t_images_0_world_places t_images_0_world_coins t_images_0_world_lying t_images_0_sights_count t_images_0_sights_hours t_images_0_sights_rang t_images_1_isKept t_images_1_world_date t_images_1_world_hour t_images_1_world_year t_images_1_world_shift t_images_1_world_kneelDate t_images_1_world_places t_images_1_world_coins t_images_1_world_lying t_images_1_sights_count t_images_1_sights_hours t_images_1_sights_rang a1 post) :
    Met l yX6_restore wsX6_restore ({ frames := 2, cells := 0, slots := 0, locals := 81 } : Room) (va_Pc [.ref q_t, .int a1] (B1 D (tyL cI cZ cJ cO) [(q_t, .inr (6, [.ref q_t_now, .ref q_t_sights, .ref q_t_pad, .ref q_t_tale, .ref q_t_images])), (q_t_now, .inr (5, [.int t_now_date, .int t_now_hour, .int t_now_year, .int t_now_shift, .int t_now_kneelDate, .ref q_t_now_places, .ref q_t_now_coins, .ref q_t_now_lying])), (q_t_now_places, .inl (cI, 6, .inl t_now_places)), (q_t_now_coins, .inl (cI, 6, .inl t_now_coins)), (q_t_now_lying, .inl (cI, 30, .inl t_now_lying)), (q_t_sights, .inr (3, [.int t_sights_count, .ref q_t_sights_hours, .ref q_t_sights_rang])), (q_t_sights_hours, .inl (cI, 8, .inl t_sights_hours)), (q_t_sights_rang, .inl (cZ, 8, .inl t_sights_rang)), (q_t_images, .inl (cO, 2, .inr (.inr (.inr (.inr t_images))))), (q_t_images_0, .inr (1, [.ref q_t_images_0_world, .ref q_t_images_0_sights, .int t_images_0_isKept])), (q_t_images_0_world, .inr (5, [.int t_images_0_world_date, .int t_images_0_world_hour, .int t_images_0_world_year, .int t_images_0_world_shift, .int t_images_0_world_kneelDate, .ref q_t_images_0_world_places, .ref q_t_images_0_world_coins, .ref q_t_images_0_world_lying])), (q_t_images_0_world_places, .inl (cI, 6, .inl t_images_0_world_places)), (q_t_images_0_world_coins, .inl (cI, 6, .inl t_images_0_world_coins)), (q_t_images_0_world_lying, .inl (cI, 30, .inl t_images_0_world_lying)), (q_t_images_0_sights, .inr (3, [.int t_images_0_sights_count, .ref q_t_images_0_sights_hours, .ref q_t_images_0_sights_rang])), (q_t_images_0_sights_hours, .inl (cI, 8, .inl t_images_0_sights_hours)), (q_t_images_0_sights_rang, .inl (cZ, 8, .inl t_images_0_sights_rang)), (q_t_images_1, .inr (1, [.ref q_t_images_1_world, .ref q_t_images_1_sights, .int t_images_1_isKept])), (q_t_images_1_world, .inr (5, [.int t_images_1_world_date, .int t_images_1_world_hour, .int t_images_1_world_year, .int t_images_1_world_shift, .int t_images_1_world_kneelDate, .ref q_t_images_1_world_places, .ref q_t_images_1_world_coins, .ref q_t_images_1_world_lying])), (q_t_images_1_world_places, .inl (cI, 6, .inl t_images_1_world_places)), (q_t_images_1_world_coins, .inl (cI, 6, .inl t_images_1_world_coins)), (q_t_images_1_world_lying, .inl (cI, 30, .inl t_images_1_world_lying)), (q_t_images_1_sights, .inr (3, [.int t_images_1_sights_count, .ref q_t_images_1_sights_hours, .ref q_t_images_1_sights_rang])), (q_t_images_1_sights_hours, .inl (cI, 8, .inl t_images_1_sights_hours)), (q_t_images_1_sights_rang, .inl (cZ, 8, .inl t_images_1_sights_rang))] sz)) (va_Qi post (fun u t => E1 D (va_A [(q_t, .inr (6, [.ref q_t_now, .ref q_t_sights, .ref q_t_pad, .ref q_t_tale, .ref q_t_images])), (q_t_now, .inr (5, [.int t_now_date, .int t_now_hour, .int t_now_year, .int t_now_shift, .int t_now_kneelDate, .ref q_t_now_places, .ref q_t_now_coins, .ref q_t_now_lying])), (q_t_now_places, .inl (cI, 6, .inl t_now_places)), (q_t_now_coins, .inl (cI, 6, .inl t_now_coins)), (q_t_now_lying, .inl (cI, 30, .inl t_now_lying)), (q_t_sights, .inr (3, [.int t_sights_count, .ref q_t_sights_hours, .ref q_t_sights_rang])), (q_t_sights_hours, .inl (cI, 8, .inl t_sights_hours)), (q_t_sights_rang, .inl (cZ, 8, .inl t_sights_rang)), (q_t_images, .inl (cO, 2, .inr (.inr (.inr (.inr t_images))))), (q_t_images_0, .inr (1, [.ref q_t_images_0_world, .ref q_t_images_0_sights, .int t_images_0_isKept])), (q_t_images_0_world, .inr (5, [.int t_images_0_world_date, .int t_images_0_world_hour, .int t_images_0_world_year, .int t_images_0_world_shift, .int t_images_0_world_kneelDate, .ref q_t_images_0_world_places, .ref q_t_images_0_world_coins, .ref q_t_images_0_world_lying])), (q_t_images_0_world_places, .inl (cI, 6, .inl t_images_0_world_places)), (q_t_images_0_world_coins, .inl (cI, 6, .inl t_images_0_world_coins)), (q_t_images_0_world_lying, .inl (cI, 30, .inl t_images_0_world_lying)), (q_t_images_0_sights, .inr (3, [.int t_images_0_sights_count, .ref q_t_images_0_sights_hours, .ref q_t_images_0_sights_rang])), (q_t_images_0_sights_hours, .inl (cI, 8, .inl t_images_0_sights_hours)), (q_t_images_0_sights_rang, .inl (cZ, 8, .inl t_images_0_sights_rang)), (q_t_images_1, .inr (1, [.ref q_t_images_1_world, .ref q_t_images_1_sights, .int t_images_1_isKept])), (q_t_images_1_world, .inr (5, [.int t_images_1_world_date, .int t_images_1_world_hour, .int t_images_1_world_year, .int t_images_1_world_shift, .int t_images_1_world_kneelDate, .ref q_t_images_1_world_places, .ref q_t_images_1_world_coins, .ref q_t_images_1_world_lying])), (q_t_images_1_world_places, .inl (cI, 6, .inl t_images_1_world_places)), (q_t_images_1_world_coins, .inl (cI, 6, .inl t_images_1_world_coins)), (q_t_images_1_world_lying, .inl (cI, 30, .inl t_images_1_world_lying)), (q_t_images_1_sights, .inr (3, [.int t_images_1_sights_count, .ref q_t_images_1_sights_hours, .ref q_t_images_1_sights_rang])), (q_t_images_1_sights_hours, .inl (cI, 8, .inl t_images_1_sights_hours)), (q_t_images_1_sights_rang, .inl (cZ, 8, .inl t_images_1_sights_rang))] sz) ((fun u : Int32 × Int32 × Int32 × Int32 × Int32 × (Nat → Int32) × (Nat → Int32) × (Nat → Int32) × Int32 × (Nat → Int32) × (Nat → Int32) => [(q_t, .inr (6, [.ref q_t_now, .ref q_t_sights, .ref q_t_pad, .ref q_t_tale, .ref q_t_images])), (q_t_now, .inr (5, [.int u.1, .int u.2.1, .int u.2.2.1, .int u.2.2.2.1, .int u.2.2.2.2.1, .ref q_t_now_places, .ref q_t_now_coins, .ref q_t_now_lying])), (q_t_now_places, .inl (cI, 6, .inl u.2.2.2.2.2.1)), (q_t_now_coins, .inl (cI, 6, .inl u.2.2.2.2.2.2.1)), (q_t_now_lying, .inl (cI, 30, .inl u.2.2.2.2.2.2.2.1)), (q_t_sights, .inr (3, [.int u.2.2.2.2.2.2.2.2.1, .ref q_t_sights_hours, .ref q_t_sights_rang])), (q_t_sights_hours, .inl (cI, 8, .inl u.2.2.2.2.2.2.2.2.2.1)), (q_t_sights_rang, .inl (cZ, 8, .inl u.2.2.2.2.2.2.2.2.2.2)), (q_t_images, .inl (cO, 2, .inr (.inr (.inr (.inr t_images))))), (q_t_images_0, .inr (1, [.ref q_t_images_0_world, .ref q_t_images_0_sights, .int t_images_0_isKept])), (q_t_images_0_world, .inr (5, [.int t_images_0_world_date, .int t_images_0_world_hour, .int t_images_0_world_year, .int t_images_0_world_shift, .int t_images_0_world_kneelDate, .ref q_t_images_0_world_places, .ref q_t_images_0_world_coins, .ref q_t_images_0_world_lying])), (q_t_images_0_world_places, .inl (cI, 6, .inl t_images_0_world_places)), (q_t_images_0_world_coins, .inl (cI, 6, .inl t_images_0_world_coins)), (q_t_images_0_world_lying, .inl (cI, 30, .inl t_images_0_world_lying)), (q_t_images_0_sights, .inr (3, [.int t_images_0_sights_count, .ref q_t_images_0_sights_hours, .ref q_t_images_0_sights_rang])), (q_t_images_0_sights_hours, .inl (cI, 8, .inl t_images_0_sights_hours)), (q_t_images_0_sights_rang, .inl (cZ, 8, .inl t_images_0_sights_rang)), (q_t_images_1, .inr (1, [.ref q_t_images_1_world, .ref q_t_images_1_sights, .int t_images_1_isKept])), (q_t_images_1_world, .inr (5, [.int t_images_1_world_date, .int t_images_1_world_hour, .int t_images_1_world_year, .int t_images_1_world_shift, .int t_images_1_world_kneelDate, .ref q_t_images_1_world_places, .ref q_t_images_1_world_coins, .ref q_t_images_1_world_lying])), (q_t_images_1_world_places, .inl (cI, 6, .inl t_images_1_world_places)), (q_t_images_1_world_coins, .inl (cI, 6, .inl t_images_1_world_coins)), (q_t_images_1_world_lying, .inl (cI, 30, .inl t_images_1_world_lying)), (q_t_images_1_sights, .inr (3, [.int t_images_1_sights_count, .ref q_t_images_1_sights_hours, .ref q_t_images_1_sights_rang])), (q_t_images_1_sights_hours, .inl (cI, 8, .inl t_images_1_sights_hours)), (q_t_images_1_sights_rang, .inl (cZ, 8, .inl t_images_1_sights_rang))]) u) t) (va_A [(q_t, .inr (6, [.ref q_t_now, .ref q_t_sights, .ref q_t_pad, .ref q_t_tale, .ref q_t_images])), (q_t_now, .inr (5, [.int t_now_date, .int t_now_hour, .int t_now_year, .int t_now_shift, .int t_now_kneelDate, .ref q_t_now_places, .ref q_t_now_coins, .ref q_t_now_lying])), (q_t_now_places, .inl (cI, 6, .inl t_now_places)), (q_t_now_coins, .inl (cI, 6, .inl t_now_coins)), (q_t_now_lying, .inl (cI, 30, .inl t_now_lying)), (q_t_sights, .inr (3, [.int t_sights_count, .ref q_t_sights_hours, .ref q_t_sights_rang])), (q_t_sights_hours, .inl (cI, 8, .inl t_sights_hours)), (q_t_sights_rang, .inl (cZ, 8, .inl t_sights_rang)), (q_t_images, .inl (cO, 2, .inr (.inr (.inr (.inr t_images))))), (q_t_images_0, .inr (1, [.ref q_t_images_0_world, .ref q_t_images_0_sights, .int t_images_0_isKept])), (q_t_images_0_world, .inr (5, [.int t_images_0_world_date, .int t_images_0_world_hour, .int t_images_0_world_year, .int t_images_0_world_shift, .int t_images_0_world_kneelDate, .ref q_t_images_0_world_places, .ref q_t_images_0_world_coins, .ref q_t_images_0_world_lying])), (q_t_images_0_world_places, .inl (cI, 6, .inl t_images_0_world_places)), (q_t_images_0_world_coins, .inl (cI, 6, .inl t_images_0_world_coins)), (q_t_images_0_world_lying, .inl (cI, 30, .inl t_images_0_world_lying)), (q_t_images_0_sights, .inr (3, [.int t_images_0_sights_count, .ref q_t_images_0_sights_hours, .ref q_t_images_0_sights_rang])), (q_t_images_0_sights_hours, .inl (cI, 8, .inl t_images_0_sights_hours)), (q_t_images_0_sights_rang, .inl (cZ, 8, .inl t_images_0_sights_rang)), (q_t_images_1, .inr (1, [.ref q_t_images_1_world, .ref q_t_images_1_sights, .int t_images_1_isKept])), (q_t_images_1_world, .inr (5, [.int t_images_1_world_date, .int t_images_1_world_hour, .int t_images_1_world_year, .int t_images_1_world_shift, .int t_images_1_world_kneelDate, .ref q_t_images_1_world_places, .ref q_t_images_1_world_coins, .ref q_t_images_1_world_lying])), (q_t_images_1_world_places, .inl (cI, 6, .inl t_images_1_world_places)), (q_t_images_1_world_coins, .inl (cI, 6, .inl t_images_1_world_coins)), (q_t_images_1_world_lying, .inl (cI, 30, .inl t_images_1_world_lying)), (q_t_images_1_sights, .inr (3, [.int t_images_1_sights_count, .ref q_t_images_1_sights_hours, .ref q_t_images_1_sights_rang])), (q_t_images_1_sights_hours, .inl (cI, 8, .inl t_images_1_sights_hours)), (q_t_images_1_sights_rang, .inl (cZ, 8, .inl t_images_1_sights_rang))] sz)) 0 0 (va_A [(q_t, .inr (6, [.ref q_t_now, .ref q_t_sights, .ref q_t_pad, .ref q_t_tale, .ref q_t_images])), (q_t_now, .inr (5, [.int t_now_date, .int t_now_hour, .int t_now_year, .int t_now_shift, .int t_now_kneelDate, .ref q_t_now_places, .ref q_t_now_coins, .ref q_t_now_lying])), (q_t_now_places, .inl (cI, 6, .inl t_now_places)), (q_t_now_coins, .inl (cI, 6, .inl t_now_coins)), (q_t_now_lying, .inl (cI, 30, .inl t_now_lying)), (q_t_sights, .inr (3, [.int t_sights_count, .ref q_t_sights_hours, .ref q_t_sights_rang])), (q_t_sights_hours, .inl (cI, 8, .inl t_sights_hours)), (q_t_sights_rang, .inl (cZ, 8, .inl t_sights_rang)), (q_t_images, .inl (cO, 2, .inr (.inr (.inr (.inr t_images))))), (q_t_images_0, .inr (1, [.ref q_t_images_0_world, .ref q_t_images_0_sights, .int t_images_0_isKept])), (q_t_images_0_world, .inr (5, [.int t_images_0_world_date, .int t_images_0_world_hour, .int t_images_0_world_year, .int t_images_0_world_shift, .int t_images_0_world_kneelDate, .ref q_t_images_0_world_places, .ref q_t_images_0_world_coins, .ref q_t_images_0_world_lying])), (q_t_images_0_world_places, .inl (cI, 6, .inl t_images_0_world_places)), (q_t_images_0_world_coins, .inl (cI, 6, .inl t_images_0_world_coins)), (q_t_images_0_world_lying, .inl (cI, 30, .inl t_images_0_world_lying)), (q_t_images_0_sights, .inr (3, [.int t_images_0_sights_count, .ref q_t_images_0_sights_hours, .ref q_t_images_0_sights_rang])), (q_t_images_0_sights_hours, .inl (cI, 8, .inl t_images_0_sights_hours)), (q_t_images_0_sights_rang, .inl (cZ, 8, .inl t_images_0_sights_rang)), (q_t_images_1, .inr (1, [.ref q_t_images_1_world, .ref q_t_images_1_sights, .int t_images_1_isKept])), (q_t_images_1_world, .inr (5, [.int t_images_1_world_date, .int t_images_1_world_hour, .int t_images_1_world_year, .int t_images_1_world_shift, .int t_images_1_world_kneelDate, .ref q_t_images_1_world_places, .ref q_t_images_1_world_coins, .ref q_t_images_1_world_lying])), (q_t_images_1_world_places, .inl (cI, 6, .inl t_images_1_world_places)), (q_t_images_1_world_coins, .inl (cI, 6, .inl t_images_1_world_coins)), (q_t_images_1_world_lying, .inl (cI, 30, .inl t_images_1_world_lying)), (q_t_images_1_sights, .inr (3, [.int t_images_1_sights_count, .ref q_t_images_1_sights_hours, .ref q_t_images_1_sights_rang])), (q_t_images_1_sights_hours, .inl (cI, 8, .inl t_images_1_sights_hours)), (q_t_images_1_sights_rang, .inl (cZ, 8, .inl t_images_1_sights_rang))] sz) := by
  unfold pX6_restore at hf
  refine xm_1i (own := RX6) (by decide) rfl rfl (Nat.le_of_ble_eq_true rfl) (fun p e s m args below meth c Q A C0 hN hK hA hret hP hD ls hl => ?_)
  obtain ⟨hx, hb, hml, hown, hts⟩ := id C0
  have hl : lv_has ls 2 [(0, .ref q_t), (1, .int a1)] := hl
  have hS : va_S A s.heap s.heap [] := va_S.rf
  obtain ⟨H, hHe⟩ : ∃ H, H = s.heap := ⟨_, rfl⟩
  obtain ⟨locs, hLe⟩ : ∃ L : List Loc, L = [] := ⟨_, rfl⟩
  rw [← hLe]
  rw [← hLe] at hS
  have hP : va_P D vwCl [(q_t, .inr (6, [.ref q_t_now, .ref q_t_sights, .ref q_t_pad, .ref q_t_tale, .ref q_t_images])), (q_t_now, .inr (5, [.int t_now_date, .int t_now_hour, .int t_now_year, .int t_now_shift, .int t_now_kneelDate, .ref q_t_now_places, .ref q_t_now_coins, .ref q_t_now_lying])), (q_t_now_places, .inl (cI, 6, .inl t_now_places)), (q_t_now_coins, .inl (cI, 6, .inl t_now_coins)), (q_t_now_lying, .inl (cI, 30, .inl t_now_lying)), (q_t_sights, .inr (3, [.int t_sights_count, .ref q_t_sights_hours, .ref q_t_sights_rang])), (q_t_sights_hours, .inl (cI, 8, .inl t_sights_hours)), (q_t_sights_rang, .inl (cZ, 8, .inl t_sights_rang)), (q_t_images, .inl (cO, 2, .inr (.inr (.inr (.inr t_images))))), (q_t_images_0, .inr (1, [.ref q_t_images_0_world, .ref q_t_images_0_sights, .int t_images_0_isKept])), (q_t_images_0_world, .inr (5, [.int t_images_0_world_date, .int t_images_0_world_hour, .int t_images_0_world_year, .int t_images_0_world_shift, .int t_images_0_world_kneelDate, .ref q_t_images_0_world_places, .ref q_t_images_0_world_coins, .ref q_t_images_0_world_lying])), (q_t_images_0_world_places, .inl (cI, 6, .inl t_images_0_world_places)), (q_t_images_0_world_coins, .inl (cI, 6, .inl t_images_0_world_coins)), (q_t_images_0_world_lying, .inl (cI, 30, .inl t_images_0_world_lying)), (q_t_images_0_sights, .inr (3, [.int t_images_0_sights_count, .ref q_t_images_0_sights_hours, .ref q_t_images_0_sights_rang])), (q_t_images_0_sights_hours, .inl (cI, 8, .inl t_images_0_sights_hours)), (q_t_images_0_sights_rang, .inl (cZ, 8, .inl t_images_0_sights_rang)), (q_t_images_1, .inr (1, [.ref q_t_images_1_world, .ref q_t_images_1_sights, .int t_images_1_isKept])), (q_t_images_1_world, .inr (5, [.int t_images_1_world_date, .int t_images_1_world_hour, .int t_images_1_world_year, .int t_images_1_world_shift, .int t_images_1_world_kneelDate, .ref q_t_images_1_world_places, .ref q_t_images_1_world_coins, .ref q_t_images_1_world_lying])), (q_t_images_1_world_places, .inl (cI, 6, .inl t_images_1_world_places)), (q_t_images_1_world_coins, .inl (cI, 6, .inl t_images_1_world_coins)), (q_t_images_1_world_lying, .inl (cI, 30, .inl t_images_1_world_lying)), (q_t_images_1_sights, .inr (3, [.int t_images_1_sights_count, .ref q_t_images_1_sights_hours, .ref q_t_images_1_sights_rang])), (q_t_images_1_sights_hours, .inl (cI, 8, .inl t_images_1_sights_hours)), (q_t_images_1_sights_rang, .inl (cZ, 8, .inl t_images_1_sights_rang))] H := by rw [hHe]; exact hP
  have hS : va_S A s.heap H locs := by rw [hHe]; exact hS
  suffices hgo : W p l e ({ frames := 2, cells := 0, slots := 0, locals := 81 } : Room) s m args below meth c H locs 0 0 Q (F0 m 0 ls []) by rw [← hHe]; exact hgo
  clear hHe hLe
  refine lv_iload_n hx hb dX6_restore_0 rfl (lv_at hl 1 rfl) ?_
  refine lv_iconst (v := 0) hx hb dX6_restore_1 (by decide) ?_
  refine lv_iconst (v := 1) hx hb dX6_restore_2 (by decide) ?_
  refine xs_i (va_runS (As := [.int a1, .int 0, .int 1]) (rest := []) ⟨hx, hb, hml, hown, hts⟩ (kX6_isIn l D cI cZ cJ cO a1 0 1 _ hf) (va_cwS 3 hts gX6_restore_X6_isIn rfl rfl rfl (by decide +kernel) ⟨Nat.le_of_ble_eq_true rfl, Nat.le_of_ble_eq_true rfl⟩) (B0_pre (hP.sub (ws' := []) [] rfl) hK hN) rfl rfl hl.1 rfl (lv_room (Nat.le_of_ble_eq_true rfl)) dX6_restore_3 ⟨Nat.zero_le _, Nat.zero_le _⟩) (fun r1 hf => ?_)
  refine lv_if_ne (tgt := 12) hx hb dX6_restore_6 (by decide) (fun c2 => ?_) (fun c2 => ?_)
  · have hf := hf.1 c2
    refine lv_aload_n hx hb dX6_restore_12 rfl (lv_at hl 0 rfl) ?_
    refine va_get (D := D) (ci := 6) (v := .ref q_t_images) (C := RX6) (T := TX6) (N := 5) hx hb hts nX6_restore_X6 hown hK hP 0 rfl rfl 4 (by decide) (hts _ mX6_restore_1) (fun _ h9 => h9) rfl dX6_restore_13 ?_
    refine lv_iload_n hx hb dX6_restore_16 rfl (lv_at hl 1 rfl) ?_
    by_cases z0 : a1 = 0
    · have hf := hf.1 z0
      refine va_aldq hx hb hK hP 8 3 rfl rfl (by rw [z0]; exact vpc rfl) dX6_restore_17 ?_
      refine W.eq (g2 := F0 m 18 ls (.ref q_t_images_0 :: [])) (by rw [z0, show ((0 : Int32).toNatClampNeg) = 0 from by decide, h_t_images_0]; rfl) ?_
      refine va_get (D := D) (ci := 1) (v := .int t_images_0_isKept) (C := RX1) (T := TX1) (N := 3) hx hb hts nX6_restore_X1 hown hK hP 9 rfl rfl 2 (by decide) (hts _ mX6_restore_2) (fun _ h9 => h9) rfl dX6_restore_18 ?_
      refine lv_if_ne (tgt := 27) hx hb dX6_restore_21 (by decide) (fun c3 => ?_) (fun c3 => ?_)
      · have hf := hf.1 c3
        refine lv_aload_n hx hb dX6_restore_27 rfl (lv_at hl 0 rfl) ?_
        refine va_get (D := D) (ci := 6) (v := .ref q_t_now) (C := RX6) (T := TX6) (N := 5) hx hb hts nX6_restore_X6 hown hK hP 0 rfl rfl 0 (by decide) (hts _ mX6_restore_3) (fun _ h9 => h9) rfl dX6_restore_28 ?_
        refine lv_aload_n hx hb dX6_restore_31 rfl (lv_at hl 0 rfl) ?_
        refine va_get (D := D) (ci := 6) (v := .ref q_t_images) (C := RX6) (T := TX6) (N := 5) hx hb hts nX6_restore_X6 hown hK hP 0 rfl rfl 4 (by decide) (hts _ mX6_restore_1) (fun _ h9 => h9) rfl dX6_restore_32 ?_
        refine lv_iload_n hx hb dX6_restore_35 rfl (lv_at hl 1 rfl) ?_
        refine va_aldq hx hb hK hP 8 3 rfl rfl (by rw [z0]; exact vpc rfl) dX6_restore_36 ?_
        refine W.eq (g2 := F0 m 37 ls (.ref q_t_images_0 :: [.ref q_t_now])) (by rw [z0, show ((0 : Int32).toNatClampNeg) = 0 from by decide, h_t_images_0]; rfl) ?_
        refine va_get (D := D) (ci := 1) (v := .ref q_t_images_0_world) (C := RX1) (T := TX1) (N := 3) hx hb hts nX6_restore_X1 hown hK hP 9 rfl rfl 0 (by decide) (hts _ mX6_restore_4) (fun _ h9 => h9) rfl dX6_restore_37 ?_
        refine xc_v (wr := [(q_t, .inr (6, [.ref q_t_now, .ref q_t_sights, .ref q_t_pad, .ref q_t_tale, .ref q_t_images])), (q_t_sights, .inr (3, [.int t_sights_count, .ref q_t_sights_hours, .ref q_t_sights_rang])), (q_t_sights_hours, .inl (cI, 8, .inl t_sights_hours)), (q_t_sights_rang, .inl (cZ, 8, .inl t_sights_rang)), (q_t_images, .inl (cO, 2, .inr (.inr (.inr (.inr t_images))))), (q_t_images_0, .inr (1, [.ref q_t_images_0_world, .ref q_t_images_0_sights, .int t_images_0_isKept])), (q_t_images_0_sights, .inr (3, [.int t_images_0_sights_count, .ref q_t_images_0_sights_hours, .ref q_t_images_0_sights_rang])), (q_t_images_0_sights_hours, .inl (cI, 8, .inl t_images_0_sights_hours)), (q_t_images_0_sights_rang, .inl (cZ, 8, .inl t_images_0_sights_rang)), (q_t_images_1, .inr (1, [.ref q_t_images_1_world, .ref q_t_images_1_sights, .int t_images_1_isKept])), (q_t_images_1_world, .inr (5, [.int t_images_1_world_date, .int t_images_1_world_hour, .int t_images_1_world_year, .int t_images_1_world_shift, .int t_images_1_world_kneelDate, .ref q_t_images_1_world_places, .ref q_t_images_1_world_coins, .ref q_t_images_1_world_lying])), (q_t_images_1_world_places, .inl (cI, 6, .inl t_images_1_world_places)), (q_t_images_1_world_coins, .inl (cI, 6, .inl t_images_1_world_coins)), (q_t_images_1_world_lying, .inl (cI, 30, .inl t_images_1_world_lying)), (q_t_images_1_sights, .inr (3, [.int t_images_1_sights_count, .ref q_t_images_1_sights_hours, .ref q_t_images_1_sights_rang])), (q_t_images_1_sights_hours, .inl (cI, 8, .inl t_images_1_sights_hours)), (q_t_images_1_sights_rang, .inl (cZ, 8, .inl t_images_1_sights_rang))]) (va_runV (As := [.ref q_t_images_0_world]) (rest := []) ⟨hx, hb, hml, hown, hts⟩ (kX5_become l D cI cZ cJ cO q_t_now q_t_now_places q_t_now_coins q_t_now_lying q_t_images_0_world q_t_images_0_world_places q_t_images_0_world_coins q_t_images_0_world_lying H.size t_now_date t_now_hour t_now_year t_now_shift t_now_kneelDate t_now_places t_now_coins t_now_lying t_images_0_world_date t_images_0_world_hour t_images_0_world_year t_images_0_world_shift t_images_0_world_kneelDate t_images_0_world_places t_images_0_world_coins t_images_0_world_lying _ hf) (cwV 1 hts gX6_restore_X5_become rfl rfl rfl (by decide +kernel) ⟨Nat.le_of_ble_eq_true rfl, Nat.le_of_ble_eq_true rfl⟩) (B1_preV (ci := 5) (q0 := 1) hP rfl rfl (hP.sub (ws' := [(q_t_now, .inr (5, [.int t_now_date, .int t_now_hour, .int t_now_year, .int t_now_shift, .int t_now_kneelDate, .ref q_t_now_places, .ref q_t_now_coins, .ref q_t_now_lying])), (q_t_now_places, .inl (cI, 6, .inl t_now_places)), (q_t_now_coins, .inl (cI, 6, .inl t_now_coins)), (q_t_now_lying, .inl (cI, 30, .inl t_now_lying)), (q_t_images_0_world, .inr (5, [.int t_images_0_world_date, .int t_images_0_world_hour, .int t_images_0_world_year, .int t_images_0_world_shift, .int t_images_0_world_kneelDate, .ref q_t_images_0_world_places, .ref q_t_images_0_world_coins, .ref q_t_images_0_world_lying])), (q_t_images_0_world_places, .inl (cI, 6, .inl t_images_0_world_places)), (q_t_images_0_world_coins, .inl (cI, 6, .inl t_images_0_world_coins)), (q_t_images_0_world_lying, .inl (cI, 30, .inl t_images_0_world_lying))]) [1, 2, 3, 4, 10, 11, 12, 13] rfl) hK hN (hD.sub (ws' := [(q_t_now, .inr (5, [.int t_now_date, .int t_now_hour, .int t_now_year, .int t_now_shift, .int t_now_kneelDate, .ref q_t_now_places, .ref q_t_now_coins, .ref q_t_now_lying])), (q_t_now_places, .inl (cI, 6, .inl t_now_places)), (q_t_now_coins, .inl (cI, 6, .inl t_now_coins)), (q_t_now_lying, .inl (cI, 30, .inl t_now_lying)), (q_t_images_0_world, .inr (5, [.int t_images_0_world_date, .int t_images_0_world_hour, .int t_images_0_world_year, .int t_images_0_world_shift, .int t_images_0_world_kneelDate, .ref q_t_images_0_world_places, .ref q_t_images_0_world_coins, .ref q_t_images_0_world_lying])), (q_t_images_0_world_places, .inl (cI, 6, .inl t_images_0_world_places)), (q_t_images_0_world_coins, .inl (cI, 6, .inl t_images_0_world_coins)), (q_t_images_0_world_lying, .inl (cI, 30, .inl t_images_0_world_lying))]) [1, 2, 3, 4, 10, 11, 12, 13] (by decide) rfl)) rfl rfl hl.1 rfl (lv_room (Nat.le_of_ble_eq_true rfl)) dX6_restore_40 ⟨Nat.zero_le _, Nat.zero_le _⟩) hP hD hS hA [1, 2, 3, 4, 10, 11, 12, 13] [0, 5, 6, 7, 8, 9, 14, 15, 16, 17, 18, 19, 20, 21, 22, 23, 24] rfl rfl (by decide) (by decide) (fun u5 H locs hf hP hD hS => ?_)
        have hP : va_P D vwCl [(q_t, .inr (6, [.ref q_t_now, .ref q_t_sights, .ref q_t_pad, .ref q_t_tale, .ref q_t_images])), (q_t_sights, .inr (3, [.int t_sights_count, .ref q_t_sights_hours, .ref q_t_sights_rang])), (q_t_sights_hours, .inl (cI, 8, .inl t_sights_hours)), (q_t_sights_rang, .inl (cZ, 8, .inl t_sights_rang)), (q_t_images, .inl (cO, 2, .inr (.inr (.inr (.inr t_images))))), (q_t_images_0, .inr (1, [.ref q_t_images_0_world, .ref q_t_images_0_sights, .int t_images_0_isKept])), (q_t_images_0_sights, .inr (3, [.int t_images_0_sights_count, .ref q_t_images_0_sights_hours, .ref q_t_images_0_sights_rang])), (q_t_images_0_sights_hours, .inl (cI, 8, .inl t_images_0_sights_hours)), (q_t_images_0_sights_rang, .inl (cZ, 8, .inl t_images_0_sights_rang)), (q_t_images_1, .inr (1, [.ref q_t_images_1_world, .ref q_t_images_1_sights, .int t_images_1_isKept])), (q_t_images_1_world, .inr (5, [.int t_images_1_world_date, .int t_images_1_world_hour, .int t_images_1_world_year, .int t_images_1_world_shift, .int t_images_1_world_kneelDate, .ref q_t_images_1_world_places, .ref q_t_images_1_world_coins, .ref q_t_images_1_world_lying])), (q_t_images_1_world_places, .inl (cI, 6, .inl t_images_1_world_places)), (q_t_images_1_world_coins, .inl (cI, 6, .inl t_images_1_world_coins)), (q_t_images_1_world_lying, .inl (cI, 30, .inl t_images_1_world_lying)), (q_t_images_1_sights, .inr (3, [.int t_images_1_sights_count, .ref q_t_images_1_sights_hours, .ref q_t_images_1_sights_rang])), (q_t_images_1_sights_hours, .inl (cI, 8, .inl t_images_1_sights_hours)), (q_t_images_1_sights_rang, .inl (cZ, 8, .inl t_images_1_sights_rang)), (q_t_now, .inr (5, [.int u5.1, .int u5.2.1, .int u5.2.2.1, .int u5.2.2.2.1, .int u5.2.2.2.2.1, .ref q_t_now_places, .ref q_t_now_coins, .ref q_t_now_lying])), (q_t_now_places, .inl (cI, 6, .inl u5.2.2.2.2.2.1)), (q_t_now_coins, .inl (cI, 6, .inl u5.2.2.2.2.2.2.1)), (q_t_now_lying, .inl (cI, 30, .inl u5.2.2.2.2.2.2.2)), (q_t_images_0_world, .inr (5, [.int t_images_0_world_date, .int t_images_0_world_hour, .int t_images_0_world_year, .int t_images_0_world_shift, .int t_images_0_world_kneelDate, .ref q_t_images_0_world_places, .ref q_t_images_0_world_coins, .ref q_t_images_0_world_lying])), (q_t_images_0_world_places, .inl (cI, 6, .inl t_images_0_world_places)), (q_t_images_0_world_coins, .inl (cI, 6, .inl t_images_0_world_coins)), (q_t_images_0_world_lying, .inl (cI, 30, .inl t_images_0_world_lying))] H := hP
        have hD : va_D A [(q_t, .inr (6, [.ref q_t_now, .ref q_t_sights, .ref q_t_pad, .ref q_t_tale, .ref q_t_images])), (q_t_sights, .inr (3, [.int t_sights_count, .ref q_t_sights_hours, .ref q_t_sights_rang])), (q_t_sights_hours, .inl (cI, 8, .inl t_sights_hours)), (q_t_sights_rang, .inl (cZ, 8, .inl t_sights_rang)), (q_t_images, .inl (cO, 2, .inr (.inr (.inr (.inr t_images))))), (q_t_images_0, .inr (1, [.ref q_t_images_0_world, .ref q_t_images_0_sights, .int t_images_0_isKept])), (q_t_images_0_sights, .inr (3, [.int t_images_0_sights_count, .ref q_t_images_0_sights_hours, .ref q_t_images_0_sights_rang])), (q_t_images_0_sights_hours, .inl (cI, 8, .inl t_images_0_sights_hours)), (q_t_images_0_sights_rang, .inl (cZ, 8, .inl t_images_0_sights_rang)), (q_t_images_1, .inr (1, [.ref q_t_images_1_world, .ref q_t_images_1_sights, .int t_images_1_isKept])), (q_t_images_1_world, .inr (5, [.int t_images_1_world_date, .int t_images_1_world_hour, .int t_images_1_world_year, .int t_images_1_world_shift, .int t_images_1_world_kneelDate, .ref q_t_images_1_world_places, .ref q_t_images_1_world_coins, .ref q_t_images_1_world_lying])), (q_t_images_1_world_places, .inl (cI, 6, .inl t_images_1_world_places)), (q_t_images_1_world_coins, .inl (cI, 6, .inl t_images_1_world_coins)), (q_t_images_1_world_lying, .inl (cI, 30, .inl t_images_1_world_lying)), (q_t_images_1_sights, .inr (3, [.int t_images_1_sights_count, .ref q_t_images_1_sights_hours, .ref q_t_images_1_sights_rang])), (q_t_images_1_sights_hours, .inl (cI, 8, .inl t_images_1_sights_hours)), (q_t_images_1_sights_rang, .inl (cZ, 8, .inl t_images_1_sights_rang)), (q_t_now, .inr (5, [.int u5.1, .int u5.2.1, .int u5.2.2.1, .int u5.2.2.2.1, .int u5.2.2.2.2.1, .ref q_t_now_places, .ref q_t_now_coins, .ref q_t_now_lying])), (q_t_now_places, .inl (cI, 6, .inl u5.2.2.2.2.2.1)), (q_t_now_coins, .inl (cI, 6, .inl u5.2.2.2.2.2.2.1)), (q_t_now_lying, .inl (cI, 30, .inl u5.2.2.2.2.2.2.2)), (q_t_images_0_world, .inr (5, [.int t_images_0_world_date, .int t_images_0_world_hour, .int t_images_0_world_year, .int t_images_0_world_shift, .int t_images_0_world_kneelDate, .ref q_t_images_0_world_places, .ref q_t_images_0_world_coins, .ref q_t_images_0_world_lying])), (q_t_images_0_world_places, .inl (cI, 6, .inl t_images_0_world_places)), (q_t_images_0_world_coins, .inl (cI, 6, .inl t_images_0_world_coins)), (q_t_images_0_world_lying, .inl (cI, 30, .inl t_images_0_world_lying))] := hD
        refine lv_aload_n hx hb dX6_restore_43 rfl (lv_at hl 0 rfl) ?_
        refine va_get (D := D) (ci := 6) (v := .ref q_t_sights) (C := RX6) (T := TX6) (N := 5) hx hb hts nX6_restore_X6 hown hK hP 0 rfl rfl 1 (by decide) (hts _ mX6_restore_5) (fun _ h9 => h9) rfl dX6_restore_44 ?_
        refine lv_aload_n hx hb dX6_restore_47 rfl (lv_at hl 0 rfl) ?_
        refine va_get (D := D) (ci := 6) (v := .ref q_t_images) (C := RX6) (T := TX6) (N := 5) hx hb hts nX6_restore_X6 hown hK hP 0 rfl rfl 4 (by decide) (hts _ mX6_restore_1) (fun _ h9 => h9) rfl dX6_restore_48 ?_
        refine lv_iload_n hx hb dX6_restore_51 rfl (lv_at hl 1 rfl) ?_
        refine va_aldq hx hb hK hP 4 3 rfl rfl (by rw [z0]; exact vpc rfl) dX6_restore_52 ?_
        refine W.eq (g2 := F0 m 53 ls (.ref q_t_images_0 :: [.ref q_t_sights])) (by rw [z0, show ((0 : Int32).toNatClampNeg) = 0 from by decide, h_t_images_0]; rfl) ?_
        refine va_get (D := D) (ci := 1) (v := .ref q_t_images_0_sights) (C := RX1) (T := TX1) (N := 3) hx hb hts nX6_restore_X1 hown hK hP 5 rfl rfl 1 (by decide) (hts _ mX6_restore_6) (fun _ h9 => h9) rfl dX6_restore_53 ?_
        refine xc_v (wr := [(q_t, .inr (6, [.ref q_t_now, .ref q_t_sights, .ref q_t_pad, .ref q_t_tale, .ref q_t_images])), (q_t_images, .inl (cO, 2, .inr (.inr (.inr (.inr t_images))))), (q_t_images_0, .inr (1, [.ref q_t_images_0_world, .ref q_t_images_0_sights, .int t_images_0_isKept])), (q_t_images_1, .inr (1, [.ref q_t_images_1_world, .ref q_t_images_1_sights, .int t_images_1_isKept])), (q_t_images_1_world, .inr (5, [.int t_images_1_world_date, .int t_images_1_world_hour, .int t_images_1_world_year, .int t_images_1_world_shift, .int t_images_1_world_kneelDate, .ref q_t_images_1_world_places, .ref q_t_images_1_world_coins, .ref q_t_images_1_world_lying])), (q_t_images_1_world_places, .inl (cI, 6, .inl t_images_1_world_places)), (q_t_images_1_world_coins, .inl (cI, 6, .inl t_images_1_world_coins)), (q_t_images_1_world_lying, .inl (cI, 30, .inl t_images_1_world_lying)), (q_t_images_1_sights, .inr (3, [.int t_images_1_sights_count, .ref q_t_images_1_sights_hours, .ref q_t_images_1_sights_rang])), (q_t_images_1_sights_hours, .inl (cI, 8, .inl t_images_1_sights_hours)), (q_t_images_1_sights_rang, .inl (cZ, 8, .inl t_images_1_sights_rang)), (q_t_now, .inr (5, [.int u5.1, .int u5.2.1, .int u5.2.2.1, .int u5.2.2.2.1, .int u5.2.2.2.2.1, .ref q_t_now_places, .ref q_t_now_coins, .ref q_t_now_lying])), (q_t_now_places, .inl (cI, 6, .inl u5.2.2.2.2.2.1)), (q_t_now_coins, .inl (cI, 6, .inl u5.2.2.2.2.2.2.1)), (q_t_now_lying, .inl (cI, 30, .inl u5.2.2.2.2.2.2.2)), (q_t_images_0_world, .inr (5, [.int t_images_0_world_date, .int t_images_0_world_hour, .int t_images_0_world_year, .int t_images_0_world_shift, .int t_images_0_world_kneelDate, .ref q_t_images_0_world_places, .ref q_t_images_0_world_coins, .ref q_t_images_0_world_lying])), (q_t_images_0_world_places, .inl (cI, 6, .inl t_images_0_world_places)), (q_t_images_0_world_coins, .inl (cI, 6, .inl t_images_0_world_coins)), (q_t_images_0_world_lying, .inl (cI, 30, .inl t_images_0_world_lying))]) (va_runV (As := [.ref q_t_images_0_sights]) (rest := []) ⟨hx, hb, hml, hown, hts⟩ (kX3_become l D cI cZ cJ cO q_t_sights q_t_sights_hours q_t_sights_rang q_t_images_0_sights q_t_images_0_sights_hours q_t_images_0_sights_rang H.size t_sights_count t_sights_hours t_sights_rang t_images_0_sights_count t_images_0_sights_hours t_images_0_sights_rang _ hf) (cwV 1 hts gX6_restore_X3_become rfl rfl rfl (by decide +kernel) ⟨Nat.le_of_ble_eq_true rfl, Nat.le_of_ble_eq_true rfl⟩) (B1_preV (ci := 3) (q0 := 1) hP rfl rfl (hP.sub (ws' := [(q_t_sights, .inr (3, [.int t_sights_count, .ref q_t_sights_hours, .ref q_t_sights_rang])), (q_t_sights_hours, .inl (cI, 8, .inl t_sights_hours)), (q_t_sights_rang, .inl (cZ, 8, .inl t_sights_rang)), (q_t_images_0_sights, .inr (3, [.int t_images_0_sights_count, .ref q_t_images_0_sights_hours, .ref q_t_images_0_sights_rang])), (q_t_images_0_sights_hours, .inl (cI, 8, .inl t_images_0_sights_hours)), (q_t_images_0_sights_rang, .inl (cZ, 8, .inl t_images_0_sights_rang))]) [1, 2, 3, 6, 7, 8] rfl) hK hN (hD.sub (ws' := [(q_t_sights, .inr (3, [.int t_sights_count, .ref q_t_sights_hours, .ref q_t_sights_rang])), (q_t_sights_hours, .inl (cI, 8, .inl t_sights_hours)), (q_t_sights_rang, .inl (cZ, 8, .inl t_sights_rang)), (q_t_images_0_sights, .inr (3, [.int t_images_0_sights_count, .ref q_t_images_0_sights_hours, .ref q_t_images_0_sights_rang])), (q_t_images_0_sights_hours, .inl (cI, 8, .inl t_images_0_sights_hours)), (q_t_images_0_sights_rang, .inl (cZ, 8, .inl t_images_0_sights_rang))]) [1, 2, 3, 6, 7, 8] (by decide) rfl)) rfl rfl hl.1 rfl (lv_room (Nat.le_of_ble_eq_true rfl)) dX6_restore_56 ⟨Nat.zero_le _, Nat.zero_le _⟩) hP hD hS hA [1, 2, 3, 6, 7, 8] [0, 4, 5, 9, 10, 11, 12, 13, 14, 15, 16, 17, 18, 19, 20, 21, 22, 23, 24] rfl rfl (by decide) (by decide) (fun u7 H locs hf hP hD hS => ?_)
        have hP : va_P D vwCl [(q_t, .inr (6, [.ref q_t_now, .ref q_t_sights, .ref q_t_pad, .ref q_t_tale, .ref q_t_images])), (q_t_images, .inl (cO, 2, .inr (.inr (.inr (.inr t_images))))), (q_t_images_0, .inr (1, [.ref q_t_images_0_world, .ref q_t_images_0_sights, .int t_images_0_isKept])), (q_t_images_1, .inr (1, [.ref q_t_images_1_world, .ref q_t_images_1_sights, .int t_images_1_isKept])), (q_t_images_1_world, .inr (5, [.int t_images_1_world_date, .int t_images_1_world_hour, .int t_images_1_world_year, .int t_images_1_world_shift, .int t_images_1_world_kneelDate, .ref q_t_images_1_world_places, .ref q_t_images_1_world_coins, .ref q_t_images_1_world_lying])), (q_t_images_1_world_places, .inl (cI, 6, .inl t_images_1_world_places)), (q_t_images_1_world_coins, .inl (cI, 6, .inl t_images_1_world_coins)), (q_t_images_1_world_lying, .inl (cI, 30, .inl t_images_1_world_lying)), (q_t_images_1_sights, .inr (3, [.int t_images_1_sights_count, .ref q_t_images_1_sights_hours, .ref q_t_images_1_sights_rang])), (q_t_images_1_sights_hours, .inl (cI, 8, .inl t_images_1_sights_hours)), (q_t_images_1_sights_rang, .inl (cZ, 8, .inl t_images_1_sights_rang)), (q_t_now, .inr (5, [.int u5.1, .int u5.2.1, .int u5.2.2.1, .int u5.2.2.2.1, .int u5.2.2.2.2.1, .ref q_t_now_places, .ref q_t_now_coins, .ref q_t_now_lying])), (q_t_now_places, .inl (cI, 6, .inl u5.2.2.2.2.2.1)), (q_t_now_coins, .inl (cI, 6, .inl u5.2.2.2.2.2.2.1)), (q_t_now_lying, .inl (cI, 30, .inl u5.2.2.2.2.2.2.2)), (q_t_images_0_world, .inr (5, [.int t_images_0_world_date, .int t_images_0_world_hour, .int t_images_0_world_year, .int t_images_0_world_shift, .int t_images_0_world_kneelDate, .ref q_t_images_0_world_places, .ref q_t_images_0_world_coins, .ref q_t_images_0_world_lying])), (q_t_images_0_world_places, .inl (cI, 6, .inl t_images_0_world_places)), (q_t_images_0_world_coins, .inl (cI, 6, .inl t_images_0_world_coins)), (q_t_images_0_world_lying, .inl (cI, 30, .inl t_images_0_world_lying)), (q_t_sights, .inr (3, [.int u7.1, .ref q_t_sights_hours, .ref q_t_sights_rang])), (q_t_sights_hours, .inl (cI, 8, .inl u7.2.1)), (q_t_sights_rang, .inl (cZ, 8, .inl u7.2.2)), (q_t_images_0_sights, .inr (3, [.int t_images_0_sights_count, .ref q_t_images_0_sights_hours, .ref q_t_images_0_sights_rang])), (q_t_images_0_sights_hours, .inl (cI, 8, .inl t_images_0_sights_hours)), (q_t_images_0_sights_rang, .inl (cZ, 8, .inl t_images_0_sights_rang))] H := hP
        have hD : va_D A [(q_t, .inr (6, [.ref q_t_now, .ref q_t_sights, .ref q_t_pad, .ref q_t_tale, .ref q_t_images])), (q_t_images, .inl (cO, 2, .inr (.inr (.inr (.inr t_images))))), (q_t_images_0, .inr (1, [.ref q_t_images_0_world, .ref q_t_images_0_sights, .int t_images_0_isKept])), (q_t_images_1, .inr (1, [.ref q_t_images_1_world, .ref q_t_images_1_sights, .int t_images_1_isKept])), (q_t_images_1_world, .inr (5, [.int t_images_1_world_date, .int t_images_1_world_hour, .int t_images_1_world_year, .int t_images_1_world_shift, .int t_images_1_world_kneelDate, .ref q_t_images_1_world_places, .ref q_t_images_1_world_coins, .ref q_t_images_1_world_lying])), (q_t_images_1_world_places, .inl (cI, 6, .inl t_images_1_world_places)), (q_t_images_1_world_coins, .inl (cI, 6, .inl t_images_1_world_coins)), (q_t_images_1_world_lying, .inl (cI, 30, .inl t_images_1_world_lying)), (q_t_images_1_sights, .inr (3, [.int t_images_1_sights_count, .ref q_t_images_1_sights_hours, .ref q_t_images_1_sights_rang])), (q_t_images_1_sights_hours, .inl (cI, 8, .inl t_images_1_sights_hours)), (q_t_images_1_sights_rang, .inl (cZ, 8, .inl t_images_1_sights_rang)), (q_t_now, .inr (5, [.int u5.1, .int u5.2.1, .int u5.2.2.1, .int u5.2.2.2.1, .int u5.2.2.2.2.1, .ref q_t_now_places, .ref q_t_now_coins, .ref q_t_now_lying])), (q_t_now_places, .inl (cI, 6, .inl u5.2.2.2.2.2.1)), (q_t_now_coins, .inl (cI, 6, .inl u5.2.2.2.2.2.2.1)), (q_t_now_lying, .inl (cI, 30, .inl u5.2.2.2.2.2.2.2)), (q_t_images_0_world, .inr (5, [.int t_images_0_world_date, .int t_images_0_world_hour, .int t_images_0_world_year, .int t_images_0_world_shift, .int t_images_0_world_kneelDate, .ref q_t_images_0_world_places, .ref q_t_images_0_world_coins, .ref q_t_images_0_world_lying])), (q_t_images_0_world_places, .inl (cI, 6, .inl t_images_0_world_places)), (q_t_images_0_world_coins, .inl (cI, 6, .inl t_images_0_world_coins)), (q_t_images_0_world_lying, .inl (cI, 30, .inl t_images_0_world_lying)), (q_t_sights, .inr (3, [.int u7.1, .ref q_t_sights_hours, .ref q_t_sights_rang])), (q_t_sights_hours, .inl (cI, 8, .inl u7.2.1)), (q_t_sights_rang, .inl (cZ, 8, .inl u7.2.2)), (q_t_images_0_sights, .inr (3, [.int t_images_0_sights_count, .ref q_t_images_0_sights_hours, .ref q_t_images_0_sights_rang])), (q_t_images_0_sights_hours, .inl (cI, 8, .inl t_images_0_sights_hours)), (q_t_images_0_sights_rang, .inl (cZ, 8, .inl t_images_0_sights_rang))] := hD
        refine lv_iconst (v := 1) hx hb dX6_restore_59 (by decide) ?_
        exact hret 60 ls H locs 1 (u5.1, u5.2.1, u5.2.2.1, u5.2.2.2.1, u5.2.2.2.2.1, u5.2.2.2.2.2.1, u5.2.2.2.2.2.2.1, u5.2.2.2.2.2.2.2, u7.1, u7.2.1, u7.2.2) dX6_restore_60 hf (hP.sub [0, 11, 12, 13, 14, 19, 20, 21, 1, 2, 15, 16, 17, 18, 22, 23, 24, 3, 4, 5, 6, 7, 8, 9, 10] rfl) (hD.sub [0, 11, 12, 13, 14, 19, 20, 21, 1, 2, 15, 16, 17, 18, 22, 23, 24, 3, 4, 5, 6, 7, 8, 9, 10] (by decide) rfl) hS
      · have hf := hf.2 c3
        refine lv_bipush (v := (-3)) hx hb dX6_restore_24 (by decide) ?_
        exact hret 26 ls H locs (-3) (t_now_date, t_now_hour, t_now_year, t_now_shift, t_now_kneelDate, t_now_places, t_now_coins, t_now_lying, t_sights_count, t_sights_hours, t_sights_rang) dX6_restore_26 hf hP hD hS
    · obtain ⟨z1, hf⟩ := hf.2 z0
      refine va_aldq hx hb hK hP 8 3 rfl rfl (by rw [z1]; exact vpc rfl) dX6_restore_17 ?_
      refine W.eq (g2 := F0 m 18 ls (.ref q_t_images_1 :: [])) (by rw [z1, show ((1 : Int32).toNatClampNeg) = 1 from by decide, h_t_images_1]; rfl) ?_
      refine va_get (D := D) (ci := 1) (v := .int t_images_1_isKept) (C := RX1) (T := TX1) (N := 3) hx hb hts nX6_restore_X1 hown hK hP 17 rfl rfl 2 (by decide) (hts _ mX6_restore_2) (fun _ h9 => h9) rfl dX6_restore_18 ?_
      refine lv_if_ne (tgt := 27) hx hb dX6_restore_21 (by decide) (fun c8 => ?_) (fun c8 => ?_)
      · have hf := hf.1 c8
        refine lv_aload_n hx hb dX6_restore_27 rfl (lv_at hl 0 rfl) ?_
        refine va_get (D := D) (ci := 6) (v := .ref q_t_now) (C := RX6) (T := TX6) (N := 5) hx hb hts nX6_restore_X6 hown hK hP 0 rfl rfl 0 (by decide) (hts _ mX6_restore_3) (fun _ h9 => h9) rfl dX6_restore_28 ?_
        refine lv_aload_n hx hb dX6_restore_31 rfl (lv_at hl 0 rfl) ?_
        refine va_get (D := D) (ci := 6) (v := .ref q_t_images) (C := RX6) (T := TX6) (N := 5) hx hb hts nX6_restore_X6 hown hK hP 0 rfl rfl 4 (by decide) (hts _ mX6_restore_1) (fun _ h9 => h9) rfl dX6_restore_32 ?_
        refine lv_iload_n hx hb dX6_restore_35 rfl (lv_at hl 1 rfl) ?_
        refine va_aldq hx hb hK hP 8 3 rfl rfl (by rw [z1]; exact vpc rfl) dX6_restore_36 ?_
        refine W.eq (g2 := F0 m 37 ls (.ref q_t_images_1 :: [.ref q_t_now])) (by rw [z1, show ((1 : Int32).toNatClampNeg) = 1 from by decide, h_t_images_1]; rfl) ?_
        refine va_get (D := D) (ci := 1) (v := .ref q_t_images_1_world) (C := RX1) (T := TX1) (N := 3) hx hb hts nX6_restore_X1 hown hK hP 17 rfl rfl 0 (by decide) (hts _ mX6_restore_4) (fun _ h9 => h9) rfl dX6_restore_37 ?_
        refine xc_v (wr := [(q_t, .inr (6, [.ref q_t_now, .ref q_t_sights, .ref q_t_pad, .ref q_t_tale, .ref q_t_images])), (q_t_sights, .inr (3, [.int t_sights_count, .ref q_t_sights_hours, .ref q_t_sights_rang])), (q_t_sights_hours, .inl (cI, 8, .inl t_sights_hours)), (q_t_sights_rang, .inl (cZ, 8, .inl t_sights_rang)), (q_t_images, .inl (cO, 2, .inr (.inr (.inr (.inr t_images))))), (q_t_images_0, .inr (1, [.ref q_t_images_0_world, .ref q_t_images_0_sights, .int t_images_0_isKept])), (q_t_images_0_world, .inr (5, [.int t_images_0_world_date, .int t_images_0_world_hour, .int t_images_0_world_year, .int t_images_0_world_shift, .int t_images_0_world_kneelDate, .ref q_t_images_0_world_places, .ref q_t_images_0_world_coins, .ref q_t_images_0_world_lying])), (q_t_images_0_world_places, .inl (cI, 6, .inl t_images_0_world_places)), (q_t_images_0_world_coins, .inl (cI, 6, .inl t_images_0_world_coins)), (q_t_images_0_world_lying, .inl (cI, 30, .inl t_images_0_world_lying)), (q_t_images_0_sights, .inr (3, [.int t_images_0_sights_count, .ref q_t_images_0_sights_hours, .ref q_t_images_0_sights_rang])), (q_t_images_0_sights_hours, .inl (cI, 8, .inl t_images_0_sights_hours)), (q_t_images_0_sights_rang, .inl (cZ, 8, .inl t_images_0_sights_rang)), (q_t_images_1, .inr (1, [.ref q_t_images_1_world, .ref q_t_images_1_sights, .int t_images_1_isKept])), (q_t_images_1_sights, .inr (3, [.int t_images_1_sights_count, .ref q_t_images_1_sights_hours, .ref q_t_images_1_sights_rang])), (q_t_images_1_sights_hours, .inl (cI, 8, .inl t_images_1_sights_hours)), (q_t_images_1_sights_rang, .inl (cZ, 8, .inl t_images_1_sights_rang))]) (va_runV (As := [.ref q_t_images_1_world]) (rest := []) ⟨hx, hb, hml, hown, hts⟩ (kX5_become l D cI cZ cJ cO q_t_now q_t_now_places q_t_now_coins q_t_now_lying q_t_images_1_world q_t_images_1_world_places q_t_images_1_world_coins q_t_images_1_world_lying H.size t_now_date t_now_hour t_now_year t_now_shift t_now_kneelDate t_now_places t_now_coins t_now_lying t_images_1_world_date t_images_1_world_hour t_images_1_world_year t_images_1_world_shift t_images_1_world_kneelDate t_images_1_world_places t_images_1_world_coins t_images_1_world_lying _ hf) (cwV 1 hts gX6_restore_X5_become rfl rfl rfl (by decide +kernel) ⟨Nat.le_of_ble_eq_true rfl, Nat.le_of_ble_eq_true rfl⟩) (B1_preV (ci := 5) (q0 := 1) hP rfl rfl (hP.sub (ws' := [(q_t_now, .inr (5, [.int t_now_date, .int t_now_hour, .int t_now_year, .int t_now_shift, .int t_now_kneelDate, .ref q_t_now_places, .ref q_t_now_coins, .ref q_t_now_lying])), (q_t_now_places, .inl (cI, 6, .inl t_now_places)), (q_t_now_coins, .inl (cI, 6, .inl t_now_coins)), (q_t_now_lying, .inl (cI, 30, .inl t_now_lying)), (q_t_images_1_world, .inr (5, [.int t_images_1_world_date, .int t_images_1_world_hour, .int t_images_1_world_year, .int t_images_1_world_shift, .int t_images_1_world_kneelDate, .ref q_t_images_1_world_places, .ref q_t_images_1_world_coins, .ref q_t_images_1_world_lying])), (q_t_images_1_world_places, .inl (cI, 6, .inl t_images_1_world_places)), (q_t_images_1_world_coins, .inl (cI, 6, .inl t_images_1_world_coins)), (q_t_images_1_world_lying, .inl (cI, 30, .inl t_images_1_world_lying))]) [1, 2, 3, 4, 18, 19, 20, 21] rfl) hK hN (hD.sub (ws' := [(q_t_now, .inr (5, [.int t_now_date, .int t_now_hour, .int t_now_year, .int t_now_shift, .int t_now_kneelDate, .ref q_t_now_places, .ref q_t_now_coins, .ref q_t_now_lying])), (q_t_now_places, .inl (cI, 6, .inl t_now_places)), (q_t_now_coins, .inl (cI, 6, .inl t_now_coins)), (q_t_now_lying, .inl (cI, 30, .inl t_now_lying)), (q_t_images_1_world, .inr (5, [.int t_images_1_world_date, .int t_images_1_world_hour, .int t_images_1_world_year, .int t_images_1_world_shift, .int t_images_1_world_kneelDate, .ref q_t_images_1_world_places, .ref q_t_images_1_world_coins, .ref q_t_images_1_world_lying])), (q_t_images_1_world_places, .inl (cI, 6, .inl t_images_1_world_places)), (q_t_images_1_world_coins, .inl (cI, 6, .inl t_images_1_world_coins)), (q_t_images_1_world_lying, .inl (cI, 30, .inl t_images_1_world_lying))]) [1, 2, 3, 4, 18, 19, 20, 21] (by decide) rfl)) rfl rfl hl.1 rfl (lv_room (Nat.le_of_ble_eq_true rfl)) dX6_restore_40 ⟨Nat.zero_le _, Nat.zero_le _⟩) hP hD hS hA [1, 2, 3, 4, 18, 19, 20, 21] [0, 5, 6, 7, 8, 9, 10, 11, 12, 13, 14, 15, 16, 17, 22, 23, 24] rfl rfl (by decide) (by decide) (fun u10 H locs hf hP hD hS => ?_)
        have hP : va_P D vwCl [(q_t, .inr (6, [.ref q_t_now, .ref q_t_sights, .ref q_t_pad, .ref q_t_tale, .ref q_t_images])), (q_t_sights, .inr (3, [.int t_sights_count, .ref q_t_sights_hours, .ref q_t_sights_rang])), (q_t_sights_hours, .inl (cI, 8, .inl t_sights_hours)), (q_t_sights_rang, .inl (cZ, 8, .inl t_sights_rang)), (q_t_images, .inl (cO, 2, .inr (.inr (.inr (.inr t_images))))), (q_t_images_0, .inr (1, [.ref q_t_images_0_world, .ref q_t_images_0_sights, .int t_images_0_isKept])), (q_t_images_0_world, .inr (5, [.int t_images_0_world_date, .int t_images_0_world_hour, .int t_images_0_world_year, .int t_images_0_world_shift, .int t_images_0_world_kneelDate, .ref q_t_images_0_world_places, .ref q_t_images_0_world_coins, .ref q_t_images_0_world_lying])), (q_t_images_0_world_places, .inl (cI, 6, .inl t_images_0_world_places)), (q_t_images_0_world_coins, .inl (cI, 6, .inl t_images_0_world_coins)), (q_t_images_0_world_lying, .inl (cI, 30, .inl t_images_0_world_lying)), (q_t_images_0_sights, .inr (3, [.int t_images_0_sights_count, .ref q_t_images_0_sights_hours, .ref q_t_images_0_sights_rang])), (q_t_images_0_sights_hours, .inl (cI, 8, .inl t_images_0_sights_hours)), (q_t_images_0_sights_rang, .inl (cZ, 8, .inl t_images_0_sights_rang)), (q_t_images_1, .inr (1, [.ref q_t_images_1_world, .ref q_t_images_1_sights, .int t_images_1_isKept])), (q_t_images_1_sights, .inr (3, [.int t_images_1_sights_count, .ref q_t_images_1_sights_hours, .ref q_t_images_1_sights_rang])), (q_t_images_1_sights_hours, .inl (cI, 8, .inl t_images_1_sights_hours)), (q_t_images_1_sights_rang, .inl (cZ, 8, .inl t_images_1_sights_rang)), (q_t_now, .inr (5, [.int u10.1, .int u10.2.1, .int u10.2.2.1, .int u10.2.2.2.1, .int u10.2.2.2.2.1, .ref q_t_now_places, .ref q_t_now_coins, .ref q_t_now_lying])), (q_t_now_places, .inl (cI, 6, .inl u10.2.2.2.2.2.1)), (q_t_now_coins, .inl (cI, 6, .inl u10.2.2.2.2.2.2.1)), (q_t_now_lying, .inl (cI, 30, .inl u10.2.2.2.2.2.2.2)), (q_t_images_1_world, .inr (5, [.int t_images_1_world_date, .int t_images_1_world_hour, .int t_images_1_world_year, .int t_images_1_world_shift, .int t_images_1_world_kneelDate, .ref q_t_images_1_world_places, .ref q_t_images_1_world_coins, .ref q_t_images_1_world_lying])), (q_t_images_1_world_places, .inl (cI, 6, .inl t_images_1_world_places)), (q_t_images_1_world_coins, .inl (cI, 6, .inl t_images_1_world_coins)), (q_t_images_1_world_lying, .inl (cI, 30, .inl t_images_1_world_lying))] H := hP
        have hD : va_D A [(q_t, .inr (6, [.ref q_t_now, .ref q_t_sights, .ref q_t_pad, .ref q_t_tale, .ref q_t_images])), (q_t_sights, .inr (3, [.int t_sights_count, .ref q_t_sights_hours, .ref q_t_sights_rang])), (q_t_sights_hours, .inl (cI, 8, .inl t_sights_hours)), (q_t_sights_rang, .inl (cZ, 8, .inl t_sights_rang)), (q_t_images, .inl (cO, 2, .inr (.inr (.inr (.inr t_images))))), (q_t_images_0, .inr (1, [.ref q_t_images_0_world, .ref q_t_images_0_sights, .int t_images_0_isKept])), (q_t_images_0_world, .inr (5, [.int t_images_0_world_date, .int t_images_0_world_hour, .int t_images_0_world_year, .int t_images_0_world_shift, .int t_images_0_world_kneelDate, .ref q_t_images_0_world_places, .ref q_t_images_0_world_coins, .ref q_t_images_0_world_lying])), (q_t_images_0_world_places, .inl (cI, 6, .inl t_images_0_world_places)), (q_t_images_0_world_coins, .inl (cI, 6, .inl t_images_0_world_coins)), (q_t_images_0_world_lying, .inl (cI, 30, .inl t_images_0_world_lying)), (q_t_images_0_sights, .inr (3, [.int t_images_0_sights_count, .ref q_t_images_0_sights_hours, .ref q_t_images_0_sights_rang])), (q_t_images_0_sights_hours, .inl (cI, 8, .inl t_images_0_sights_hours)), (q_t_images_0_sights_rang, .inl (cZ, 8, .inl t_images_0_sights_rang)), (q_t_images_1, .inr (1, [.ref q_t_images_1_world, .ref q_t_images_1_sights, .int t_images_1_isKept])), (q_t_images_1_sights, .inr (3, [.int t_images_1_sights_count, .ref q_t_images_1_sights_hours, .ref q_t_images_1_sights_rang])), (q_t_images_1_sights_hours, .inl (cI, 8, .inl t_images_1_sights_hours)), (q_t_images_1_sights_rang, .inl (cZ, 8, .inl t_images_1_sights_rang)), (q_t_now, .inr (5, [.int u10.1, .int u10.2.1, .int u10.2.2.1, .int u10.2.2.2.1, .int u10.2.2.2.2.1, .ref q_t_now_places, .ref q_t_now_coins, .ref q_t_now_lying])), (q_t_now_places, .inl (cI, 6, .inl u10.2.2.2.2.2.1)), (q_t_now_coins, .inl (cI, 6, .inl u10.2.2.2.2.2.2.1)), (q_t_now_lying, .inl (cI, 30, .inl u10.2.2.2.2.2.2.2)), (q_t_images_1_world, .inr (5, [.int t_images_1_world_date, .int t_images_1_world_hour, .int t_images_1_world_year, .int t_images_1_world_shift, .int t_images_1_world_kneelDate, .ref q_t_images_1_world_places, .ref q_t_images_1_world_coins, .ref q_t_images_1_world_lying])), (q_t_images_1_world_places, .inl (cI, 6, .inl t_images_1_world_places)), (q_t_images_1_world_coins, .inl (cI, 6, .inl t_images_1_world_coins)), (q_t_images_1_world_lying, .inl (cI, 30, .inl t_images_1_world_lying))] := hD
        refine lv_aload_n hx hb dX6_restore_43 rfl (lv_at hl 0 rfl) ?_
        refine va_get (D := D) (ci := 6) (v := .ref q_t_sights) (C := RX6) (T := TX6) (N := 5) hx hb hts nX6_restore_X6 hown hK hP 0 rfl rfl 1 (by decide) (hts _ mX6_restore_5) (fun _ h9 => h9) rfl dX6_restore_44 ?_
        refine lv_aload_n hx hb dX6_restore_47 rfl (lv_at hl 0 rfl) ?_
        refine va_get (D := D) (ci := 6) (v := .ref q_t_images) (C := RX6) (T := TX6) (N := 5) hx hb hts nX6_restore_X6 hown hK hP 0 rfl rfl 4 (by decide) (hts _ mX6_restore_1) (fun _ h9 => h9) rfl dX6_restore_48 ?_
        refine lv_iload_n hx hb dX6_restore_51 rfl (lv_at hl 1 rfl) ?_
        refine va_aldq hx hb hK hP 4 3 rfl rfl (by rw [z1]; exact vpc rfl) dX6_restore_52 ?_
        refine W.eq (g2 := F0 m 53 ls (.ref q_t_images_1 :: [.ref q_t_sights])) (by rw [z1, show ((1 : Int32).toNatClampNeg) = 1 from by decide, h_t_images_1]; rfl) ?_
        refine va_get (D := D) (ci := 1) (v := .ref q_t_images_1_sights) (C := RX1) (T := TX1) (N := 3) hx hb hts nX6_restore_X1 hown hK hP 13 rfl rfl 1 (by decide) (hts _ mX6_restore_6) (fun _ h9 => h9) rfl dX6_restore_53 ?_
        refine xc_v (wr := [(q_t, .inr (6, [.ref q_t_now, .ref q_t_sights, .ref q_t_pad, .ref q_t_tale, .ref q_t_images])), (q_t_images, .inl (cO, 2, .inr (.inr (.inr (.inr t_images))))), (q_t_images_0, .inr (1, [.ref q_t_images_0_world, .ref q_t_images_0_sights, .int t_images_0_isKept])), (q_t_images_0_world, .inr (5, [.int t_images_0_world_date, .int t_images_0_world_hour, .int t_images_0_world_year, .int t_images_0_world_shift, .int t_images_0_world_kneelDate, .ref q_t_images_0_world_places, .ref q_t_images_0_world_coins, .ref q_t_images_0_world_lying])), (q_t_images_0_world_places, .inl (cI, 6, .inl t_images_0_world_places)), (q_t_images_0_world_coins, .inl (cI, 6, .inl t_images_0_world_coins)), (q_t_images_0_world_lying, .inl (cI, 30, .inl t_images_0_world_lying)), (q_t_images_0_sights, .inr (3, [.int t_images_0_sights_count, .ref q_t_images_0_sights_hours, .ref q_t_images_0_sights_rang])), (q_t_images_0_sights_hours, .inl (cI, 8, .inl t_images_0_sights_hours)), (q_t_images_0_sights_rang, .inl (cZ, 8, .inl t_images_0_sights_rang)), (q_t_images_1, .inr (1, [.ref q_t_images_1_world, .ref q_t_images_1_sights, .int t_images_1_isKept])), (q_t_now, .inr (5, [.int u10.1, .int u10.2.1, .int u10.2.2.1, .int u10.2.2.2.1, .int u10.2.2.2.2.1, .ref q_t_now_places, .ref q_t_now_coins, .ref q_t_now_lying])), (q_t_now_places, .inl (cI, 6, .inl u10.2.2.2.2.2.1)), (q_t_now_coins, .inl (cI, 6, .inl u10.2.2.2.2.2.2.1)), (q_t_now_lying, .inl (cI, 30, .inl u10.2.2.2.2.2.2.2)), (q_t_images_1_world, .inr (5, [.int t_images_1_world_date, .int t_images_1_world_hour, .int t_images_1_world_year, .int t_images_1_world_shift, .int t_images_1_world_kneelDate, .ref q_t_images_1_world_places, .ref q_t_images_1_world_coins, .ref q_t_images_1_world_lying])), (q_t_images_1_world_places, .inl (cI, 6, .inl t_images_1_world_places)), (q_t_images_1_world_coins, .inl (cI, 6, .inl t_images_1_world_coins)), (q_t_images_1_world_lying, .inl (cI, 30, .inl t_images_1_world_lying))]) (va_runV (As := [.ref q_t_images_1_sights]) (rest := []) ⟨hx, hb, hml, hown, hts⟩ (kX3_become l D cI cZ cJ cO q_t_sights q_t_sights_hours q_t_sights_rang q_t_images_1_sights q_t_images_1_sights_hours q_t_images_1_sights_rang H.size t_sights_count t_sights_hours t_sights_rang t_images_1_sights_count t_images_1_sights_hours t_images_1_sights_rang _ hf) (cwV 1 hts gX6_restore_X3_become rfl rfl rfl (by decide +kernel) ⟨Nat.le_of_ble_eq_true rfl, Nat.le_of_ble_eq_true rfl⟩) (B1_preV (ci := 3) (q0 := 1) hP rfl rfl (hP.sub (ws' := [(q_t_sights, .inr (3, [.int t_sights_count, .ref q_t_sights_hours, .ref q_t_sights_rang])), (q_t_sights_hours, .inl (cI, 8, .inl t_sights_hours)), (q_t_sights_rang, .inl (cZ, 8, .inl t_sights_rang)), (q_t_images_1_sights, .inr (3, [.int t_images_1_sights_count, .ref q_t_images_1_sights_hours, .ref q_t_images_1_sights_rang])), (q_t_images_1_sights_hours, .inl (cI, 8, .inl t_images_1_sights_hours)), (q_t_images_1_sights_rang, .inl (cZ, 8, .inl t_images_1_sights_rang))]) [1, 2, 3, 14, 15, 16] rfl) hK hN (hD.sub (ws' := [(q_t_sights, .inr (3, [.int t_sights_count, .ref q_t_sights_hours, .ref q_t_sights_rang])), (q_t_sights_hours, .inl (cI, 8, .inl t_sights_hours)), (q_t_sights_rang, .inl (cZ, 8, .inl t_sights_rang)), (q_t_images_1_sights, .inr (3, [.int t_images_1_sights_count, .ref q_t_images_1_sights_hours, .ref q_t_images_1_sights_rang])), (q_t_images_1_sights_hours, .inl (cI, 8, .inl t_images_1_sights_hours)), (q_t_images_1_sights_rang, .inl (cZ, 8, .inl t_images_1_sights_rang))]) [1, 2, 3, 14, 15, 16] (by decide) rfl)) rfl rfl hl.1 rfl (lv_room (Nat.le_of_ble_eq_true rfl)) dX6_restore_56 ⟨Nat.zero_le _, Nat.zero_le _⟩) hP hD hS hA [1, 2, 3, 14, 15, 16] [0, 4, 5, 6, 7, 8, 9, 10, 11, 12, 13, 17, 18, 19, 20, 21, 22, 23, 24] rfl rfl (by decide) (by decide) (fun u12 H locs hf hP hD hS => ?_)
        have hP : va_P D vwCl [(q_t, .inr (6, [.ref q_t_now, .ref q_t_sights, .ref q_t_pad, .ref q_t_tale, .ref q_t_images])), (q_t_images, .inl (cO, 2, .inr (.inr (.inr (.inr t_images))))), (q_t_images_0, .inr (1, [.ref q_t_images_0_world, .ref q_t_images_0_sights, .int t_images_0_isKept])), (q_t_images_0_world, .inr (5, [.int t_images_0_world_date, .int t_images_0_world_hour, .int t_images_0_world_year, .int t_images_0_world_shift, .int t_images_0_world_kneelDate, .ref q_t_images_0_world_places, .ref q_t_images_0_world_coins, .ref q_t_images_0_world_lying])), (q_t_images_0_world_places, .inl (cI, 6, .inl t_images_0_world_places)), (q_t_images_0_world_coins, .inl (cI, 6, .inl t_images_0_world_coins)), (q_t_images_0_world_lying, .inl (cI, 30, .inl t_images_0_world_lying)), (q_t_images_0_sights, .inr (3, [.int t_images_0_sights_count, .ref q_t_images_0_sights_hours, .ref q_t_images_0_sights_rang])), (q_t_images_0_sights_hours, .inl (cI, 8, .inl t_images_0_sights_hours)), (q_t_images_0_sights_rang, .inl (cZ, 8, .inl t_images_0_sights_rang)), (q_t_images_1, .inr (1, [.ref q_t_images_1_world, .ref q_t_images_1_sights, .int t_images_1_isKept])), (q_t_now, .inr (5, [.int u10.1, .int u10.2.1, .int u10.2.2.1, .int u10.2.2.2.1, .int u10.2.2.2.2.1, .ref q_t_now_places, .ref q_t_now_coins, .ref q_t_now_lying])), (q_t_now_places, .inl (cI, 6, .inl u10.2.2.2.2.2.1)), (q_t_now_coins, .inl (cI, 6, .inl u10.2.2.2.2.2.2.1)), (q_t_now_lying, .inl (cI, 30, .inl u10.2.2.2.2.2.2.2)), (q_t_images_1_world, .inr (5, [.int t_images_1_world_date, .int t_images_1_world_hour, .int t_images_1_world_year, .int t_images_1_world_shift, .int t_images_1_world_kneelDate, .ref q_t_images_1_world_places, .ref q_t_images_1_world_coins, .ref q_t_images_1_world_lying])), (q_t_images_1_world_places, .inl (cI, 6, .inl t_images_1_world_places)), (q_t_images_1_world_coins, .inl (cI, 6, .inl t_images_1_world_coins)), (q_t_images_1_world_lying, .inl (cI, 30, .inl t_images_1_world_lying)), (q_t_sights, .inr (3, [.int u12.1, .ref q_t_sights_hours, .ref q_t_sights_rang])), (q_t_sights_hours, .inl (cI, 8, .inl u12.2.1)), (q_t_sights_rang, .inl (cZ, 8, .inl u12.2.2)), (q_t_images_1_sights, .inr (3, [.int t_images_1_sights_count, .ref q_t_images_1_sights_hours, .ref q_t_images_1_sights_rang])), (q_t_images_1_sights_hours, .inl (cI, 8, .inl t_images_1_sights_hours)), (q_t_images_1_sights_rang, .inl (cZ, 8, .inl t_images_1_sights_rang))] H := hP
        have hD : va_D A [(q_t, .inr (6, [.ref q_t_now, .ref q_t_sights, .ref q_t_pad, .ref q_t_tale, .ref q_t_images])), (q_t_images, .inl (cO, 2, .inr (.inr (.inr (.inr t_images))))), (q_t_images_0, .inr (1, [.ref q_t_images_0_world, .ref q_t_images_0_sights, .int t_images_0_isKept])), (q_t_images_0_world, .inr (5, [.int t_images_0_world_date, .int t_images_0_world_hour, .int t_images_0_world_year, .int t_images_0_world_shift, .int t_images_0_world_kneelDate, .ref q_t_images_0_world_places, .ref q_t_images_0_world_coins, .ref q_t_images_0_world_lying])), (q_t_images_0_world_places, .inl (cI, 6, .inl t_images_0_world_places)), (q_t_images_0_world_coins, .inl (cI, 6, .inl t_images_0_world_coins)), (q_t_images_0_world_lying, .inl (cI, 30, .inl t_images_0_world_lying)), (q_t_images_0_sights, .inr (3, [.int t_images_0_sights_count, .ref q_t_images_0_sights_hours, .ref q_t_images_0_sights_rang])), (q_t_images_0_sights_hours, .inl (cI, 8, .inl t_images_0_sights_hours)), (q_t_images_0_sights_rang, .inl (cZ, 8, .inl t_images_0_sights_rang)), (q_t_images_1, .inr (1, [.ref q_t_images_1_world, .ref q_t_images_1_sights, .int t_images_1_isKept])), (q_t_now, .inr (5, [.int u10.1, .int u10.2.1, .int u10.2.2.1, .int u10.2.2.2.1, .int u10.2.2.2.2.1, .ref q_t_now_places, .ref q_t_now_coins, .ref q_t_now_lying])), (q_t_now_places, .inl (cI, 6, .inl u10.2.2.2.2.2.1)), (q_t_now_coins, .inl (cI, 6, .inl u10.2.2.2.2.2.2.1)), (q_t_now_lying, .inl (cI, 30, .inl u10.2.2.2.2.2.2.2)), (q_t_images_1_world, .inr (5, [.int t_images_1_world_date, .int t_images_1_world_hour, .int t_images_1_world_year, .int t_images_1_world_shift, .int t_images_1_world_kneelDate, .ref q_t_images_1_world_places, .ref q_t_images_1_world_coins, .ref q_t_images_1_world_lying])), (q_t_images_1_world_places, .inl (cI, 6, .inl t_images_1_world_places)), (q_t_images_1_world_coins, .inl (cI, 6, .inl t_images_1_world_coins)), (q_t_images_1_world_lying, .inl (cI, 30, .inl t_images_1_world_lying)), (q_t_sights, .inr (3, [.int u12.1, .ref q_t_sights_hours, .ref q_t_sights_rang])), (q_t_sights_hours, .inl (cI, 8, .inl u12.2.1)), (q_t_sights_rang, .inl (cZ, 8, .inl u12.2.2)), (q_t_images_1_sights, .inr (3, [.int t_images_1_sights_count, .ref q_t_images_1_sights_hours, .ref q_t_images_1_sights_rang])), (q_t_images_1_sights_hours, .inl (cI, 8, .inl t_images_1_sights_hours)), (q_t_images_1_sights_rang, .inl (cZ, 8, .inl t_images_1_sights_rang))] := hD
        refine lv_iconst (v := 1) hx hb dX6_restore_59 (by decide) ?_
        exact hret 60 ls H locs 1 (u10.1, u10.2.1, u10.2.2.1, u10.2.2.2.1, u10.2.2.2.2.1, u10.2.2.2.2.2.1, u10.2.2.2.2.2.2.1, u10.2.2.2.2.2.2.2, u12.1, u12.2.1, u12.2.2) dX6_restore_60 hf (hP.sub [0, 11, 12, 13, 14, 19, 20, 21, 1, 2, 3, 4, 5, 6, 7, 8, 9, 10, 15, 16, 17, 18, 22, 23, 24] rfl) (hD.sub [0, 11, 12, 13, 14, 19, 20, 21, 1, 2, 3, 4, 5, 6, 7, 8, 9, 10, 15, 16, 17, 18, 22, 23, 24] (by decide) rfl) hS
      · have hf := hf.2 c8
        refine lv_bipush (v := (-3)) hx hb dX6_restore_24 (by decide) ?_
        exact hret 26 ls H locs (-3) (t_now_date, t_now_hour, t_now_year, t_now_shift, t_now_kneelDate, t_now_places, t_now_coins, t_now_lying, t_sights_count, t_sights_hours, t_sights_rang) dX6_restore_26 hf hP hD hS
  · have hf := hf.2 c2
    refine lv_bipush (v := (-2)) hx hb dX6_restore_9 (by decide) ?_
    exact hret 11 ls H locs (-2) (t_now_date, t_now_hour, t_now_year, t_now_shift, t_now_kneelDate, t_now_places, t_now_coins, t_now_lying, t_sights_count, t_sights_hours, t_sights_rang) dX6_restore_11 hf hP hD hS

/-! X6_told -/
theorem mX6_told_5 : Cond.fieldLink RX6 26 "OxenKneel" "pad" "LOxenKneel$Pad;" ∈ wsX6_told := List.mem_of_getElem? (i := 5) rfl
theorem mX6_told_6 : Cond.fieldLink RX6 82 "OxenKneel$Pad" "count" "I" ∈ wsX6_told := List.mem_of_getElem? (i := 6) rfl
theorem mX6_told_1 : Cond.fieldLink RX6 10 "OxenKneel" "now" "LOxenKneel$World;" ∈ wsX6_told := List.mem_of_getElem? (i := 1) rfl
theorem mX6_told_7 : Cond.fieldLink RX6 62 "OxenKneel$World" "date" "I" ∈ wsX6_told := List.mem_of_getElem? (i := 7) rfl
theorem mX6_told_8 : Cond.fieldLink RX6 65 "OxenKneel$World" "hour" "I" ∈ wsX6_told := List.mem_of_getElem? (i := 8) rfl
theorem mX6_told_9 : Cond.fieldLink RX6 68 "OxenKneel$World" "year" "I" ∈ wsX6_told := List.mem_of_getElem? (i := 9) rfl
theorem mX6_told_10 : Cond.fieldLink RX6 55 "OxenKneel$World" "shift" "I" ∈ wsX6_told := List.mem_of_getElem? (i := 10) rfl
theorem mX6_told_11 : Cond.fieldLink RX6 59 "OxenKneel$World" "kneelDate" "I" ∈ wsX6_told := List.mem_of_getElem? (i := 11) rfl
theorem mX6_told_12 : Cond.fieldLink RX6 19 "OxenKneel" "sights" "LOxenKneel$Sights;" ∈ wsX6_told := List.mem_of_getElem? (i := 12) rfl
theorem mX6_told_13 : Cond.fieldLink RX6 165 "OxenKneel$Sights" "count" "I" ∈ wsX6_told := List.mem_of_getElem? (i := 13) rfl
theorem mX6_told_4 : Cond.fieldLink RX6 115 "OxenKneel$World" "lying" "[I" ∈ wsX6_told := List.mem_of_getElem? (i := 4) rfl
theorem mX6_told_3 : Cond.fieldLink RX6 75 "OxenKneel$World" "coins" "[I" ∈ wsX6_told := List.mem_of_getElem? (i := 3) rfl
theorem mX6_told_2 : Cond.fieldLink RX6 112 "OxenKneel$World" "places" "[I" ∈ wsX6_told := List.mem_of_getElem? (i := 2) rfl
theorem nX6_told_X6 : ∀ w ∈ wsX60, w ∈ wsX6_told := fun _ h => List.mem_cons_of_mem _ (List.mem_append_left _ (List.mem_append_left _ (List.mem_append_left _ (List.mem_append_right _ h))))
theorem nX6_told_X2 : ∀ w ∈ wsX20, w ∈ wsX6_told := fun _ h => List.mem_cons_of_mem _ (List.mem_append_left _ (List.mem_append_right _ h))
theorem nX6_told_X5 : ∀ w ∈ wsX50, w ∈ wsX6_told := fun _ h => List.mem_cons_of_mem _ (List.mem_append_left _ (List.mem_append_left _ (List.mem_append_right _ h)))
theorem nX6_told_X3 : ∀ w ∈ wsX30, w ∈ wsX6_told := fun _ h => List.mem_cons_of_mem _ (List.mem_append_right _ h)
def pX6_told (t_now_date : Int32) (t_now_hour : Int32) (t_now_year : Int32) (t_now_shift : Int32) (t_now_kneelDate : Int32) (t_now_places : (Nat → Int32)) (t_now_coins : (Nat → Int32)) (t_now_lying : (Nat → Int32)) (t_sights_count : Int32) (t_pad_count : Int32) (a1 : Int32) (post : Int32 → Prop) : Prop :=
  pX6_isIn a1 10 15 (fun r1 => (r1 = 0 → (pX6_isIn a1 20 25 (fun r3 => (r3 = 0 → (pX6_isIn a1 30 59 (fun r5 => (r5 = 0 → ((a1 = 0 → (post t_pad_count)) ∧ ((a1 = 1 → (post t_now_date)) ∧ ((a1 = 2 → (post t_now_hour)) ∧ ((a1 = 3 → (post t_now_year)) ∧ ((a1 = 4 → (post t_now_shift)) ∧ ((a1 = 5 → (post t_now_kneelDate)) ∧ ((a1 = 6 → (post t_sights_count)) ∧ ((a1 = 7 → (pX5_whoIsWithin t_now_places (fun r15 => post r15))) ∧ ((¬ a1 = 0 → ¬ a1 = 1 → ¬ a1 = 2 → ¬ a1 = 3 → ¬ a1 = 4 → ¬ a1 = 5 → ¬ a1 = 6 → ¬ a1 = 7 → (post (-2))))))))))))) ∧ (¬ r5 = 0 → (vp_in (a1 - 30) 30 ∧ (post (t_now_lying (a1 - 30).toNatClampNeg))))))) ∧ (¬ r3 = 0 → (vp_in (a1 - 20) 6 ∧ (post (t_now_coins (a1 - 20).toNatClampNeg))))))) ∧ (¬ r1 = 0 → (vp_in (a1 - 10) 6 ∧ (post (t_now_places (a1 - 10).toNatClampNeg)))))

set_option maxHeartbeats 4000000 in
set_option maxRecDepth 100000 in
theorem kX6_told (l : Launch) (D : va_G) (cI cZ cJ cO : ClassId) (q_t q_t_now q_t_now_places q_t_now_coins q_t_now_lying q_t_sights q_t_pad q_t_tale q_t_images q_t_sights_hours q_t_sights_rang q_t_pad_signs : Nat)  (t_now_date : Int32) (t_now_hour : Int32) (t_now_year : Int32) (t_now_shift : Int32) (t_now_kneelDate : Int32) (t_now_places : (Nat → Int32)) (t_now_coins : (Nat → Int32)) (t_now_lying : (Nat → Int32)) (t_sights_count : Int32) (t_pad_count : Int32) (a1 : Int32) (post : Int32 → Prop) (hf : pX6_told t_now_date t_now_hour t_now_year t_now_shift t_now_kneelDate t_now_places t_now_coins t_now_lying t_sights_count t_pad_count a1 post) :
    Met l yX6_told wsX6_told ({ frames := 1, cells := 0, slots := 0, locals := 22 } : Room) (va_Pc [.ref q_t, .int a1] (B0 D (tyL cI cZ cJ cO) [(q_t, .inr (6, [.ref q_t_now, .ref q_t_sights, .ref q_t_pad, .ref q_t_tale, .ref q_t_images])), (q_t_now, .inr (5, [.int t_now_date, .int t_now_hour, .int t_now_year, .int t_now_shift, .int t_now_kneelDate, .ref q_t_now_places, .ref q_t_now_coins, .ref q_t_now_lying])), (q_t_now_places, .inl (cI, 6, .inl t_now_places)), (q_t_now_coins, .inl (cI, 6, .inl t_now_coins)), (q_t_now_lying, .inl (cI, 30, .inl t_now_lying)), (q_t_sights, .inr (3, [.int t_sights_count, .ref q_t_sights_hours, .ref q_t_sights_rang])), (q_t_pad, .inr (2, [.int t_pad_count, .ref q_t_pad_signs]))])) (vp_Si post) 0 0 (fun _ => False) := by
  unfold pX6_told at hf
  refine xm_0i (own := RX6) (by decide) rfl rfl (Nat.le_of_ble_eq_true rfl) (fun p e s m args below meth c Q C0 hN hK hret hP ls hl => ?_)
  obtain ⟨hx, hb, hml, hown, hts⟩ := id C0
  have hl : lv_has ls 2 [(0, .ref q_t), (1, .int a1)] := hl
  refine lv_iload_n hx hb dX6_told_0 rfl (lv_at hl 1 rfl) ?_
  refine lv_bipush (v := 10) hx hb dX6_told_1 (by decide) ?_
  refine lv_bipush (v := 15) hx hb dX6_told_3 (by decide) ?_
  refine xs_i (va_runS (As := [.int a1, .int 10, .int 15]) (rest := []) ⟨hx, hb, hml, hown, hts⟩ (kX6_isIn l D cI cZ cJ cO a1 10 15 _ hf) (va_cwS 3 hts gX6_told_X6_isIn rfl rfl rfl (by decide +kernel) ⟨Nat.le_of_ble_eq_true rfl, Nat.le_of_ble_eq_true rfl⟩) (B0_pre (hP.sub (ws' := []) [] rfl) hK hN) rfl rfl hl.1 rfl (lv_room (Nat.le_of_ble_eq_true rfl)) dX6_told_5 ⟨Nat.zero_le _, Nat.zero_le _⟩) (fun r1 hf => ?_)
  refine lv_if_eq (tgt := 24) hx hb dX6_told_8 (by decide) (fun c2 => ?_) (fun c2 => ?_)
  · have hf := hf.1 c2
    refine lv_iload_n hx hb dX6_told_24 rfl (lv_at hl 1 rfl) ?_
    refine lv_bipush (v := 20) hx hb dX6_told_25 (by decide) ?_
    refine lv_bipush (v := 25) hx hb dX6_told_27 (by decide) ?_
    refine xs_i (va_runS (As := [.int a1, .int 20, .int 25]) (rest := []) ⟨hx, hb, hml, hown, hts⟩ (kX6_isIn l D cI cZ cJ cO a1 20 25 _ hf) (va_cwS 3 hts gX6_told_X6_isIn rfl rfl rfl (by decide +kernel) ⟨Nat.le_of_ble_eq_true rfl, Nat.le_of_ble_eq_true rfl⟩) (B0_pre (hP.sub (ws' := []) [] rfl) hK hN) rfl rfl hl.1 rfl (lv_room (Nat.le_of_ble_eq_true rfl)) dX6_told_29 ⟨Nat.zero_le _, Nat.zero_le _⟩) (fun r3 hf => ?_)
    refine lv_if_eq (tgt := 48) hx hb dX6_told_32 (by decide) (fun c4 => ?_) (fun c4 => ?_)
    · have hf := hf.1 c4
      refine lv_iload_n hx hb dX6_told_48 rfl (lv_at hl 1 rfl) ?_
      refine lv_bipush (v := 30) hx hb dX6_told_49 (by decide) ?_
      refine lv_bipush (v := 59) hx hb dX6_told_51 (by decide) ?_
      refine xs_i (va_runS (As := [.int a1, .int 30, .int 59]) (rest := []) ⟨hx, hb, hml, hown, hts⟩ (kX6_isIn l D cI cZ cJ cO a1 30 59 _ hf) (va_cwS 3 hts gX6_told_X6_isIn rfl rfl rfl (by decide +kernel) ⟨Nat.le_of_ble_eq_true rfl, Nat.le_of_ble_eq_true rfl⟩) (B0_pre (hP.sub (ws' := []) [] rfl) hK hN) rfl rfl hl.1 rfl (lv_room (Nat.le_of_ble_eq_true rfl)) dX6_told_53 ⟨Nat.zero_le _, Nat.zero_le _⟩) (fun r5 hf => ?_)
      refine lv_if_eq (tgt := 72) hx hb dX6_told_56 (by decide) (fun c6 => ?_) (fun c6 => ?_)
      · have hf := hf.1 c6
        refine lv_iload_n hx hb dX6_told_72 rfl (lv_at hl 1 rfl) ?_
        by_cases z7 : a1 = 0
        · have hf := hf.1 z7
          refine lv_tableIn (off := 47) (tgt := 120) hx hb dX6_told_73 (by rw [z7]; decide) (by rw [z7]; decide) (by rw [z7]; decide) (by decide) ?_
          refine lv_aload_n hx hb dX6_told_120 rfl (lv_at hl 0 rfl) ?_
          refine va_get (D := D) (ci := 6) (v := .ref q_t_pad) (C := RX6) (T := TX6) (N := 5) hx hb hts nX6_told_X6 hown hK hP 0 rfl rfl 2 (by decide) (hts _ mX6_told_5) (fun _ h9 => h9) rfl dX6_told_121 ?_
          refine va_get (D := D) (ci := 2) (v := .int t_pad_count) (C := RX2) (T := TX2) (N := 2) hx hb hts nX6_told_X2 hown hK hP 6 rfl rfl 0 (by decide) (hts _ mX6_told_6) (fun _ h9 => h9) rfl dX6_told_124 ?_
          exact hret 127 ls t_pad_count dX6_told_127 hf
        · have hf := hf.2
          by_cases z8 : a1 = 1
          · have hf := hf.1 z8
            refine lv_tableIn (off := 55) (tgt := 128) hx hb dX6_told_73 (by rw [z8]; decide) (by rw [z8]; decide) (by rw [z8]; decide) (by decide) ?_
            refine lv_aload_n hx hb dX6_told_128 rfl (lv_at hl 0 rfl) ?_
            refine va_get (D := D) (ci := 6) (v := .ref q_t_now) (C := RX6) (T := TX6) (N := 5) hx hb hts nX6_told_X6 hown hK hP 0 rfl rfl 0 (by decide) (hts _ mX6_told_1) (fun _ h9 => h9) rfl dX6_told_129 ?_
            refine va_get (D := D) (ci := 5) (v := .int t_now_date) (C := RX5) (T := TX5) (N := 8) hx hb hts nX6_told_X5 hown hK hP 1 rfl rfl 0 (by decide) (hts _ mX6_told_7) (fun _ h9 => h9) rfl dX6_told_132 ?_
            exact hret 135 ls t_now_date dX6_told_135 hf
          · have hf := hf.2
            by_cases z9 : a1 = 2
            · have hf := hf.1 z9
              refine lv_tableIn (off := 63) (tgt := 136) hx hb dX6_told_73 (by rw [z9]; decide) (by rw [z9]; decide) (by rw [z9]; decide) (by decide) ?_
              refine lv_aload_n hx hb dX6_told_136 rfl (lv_at hl 0 rfl) ?_
              refine va_get (D := D) (ci := 6) (v := .ref q_t_now) (C := RX6) (T := TX6) (N := 5) hx hb hts nX6_told_X6 hown hK hP 0 rfl rfl 0 (by decide) (hts _ mX6_told_1) (fun _ h9 => h9) rfl dX6_told_137 ?_
              refine va_get (D := D) (ci := 5) (v := .int t_now_hour) (C := RX5) (T := TX5) (N := 8) hx hb hts nX6_told_X5 hown hK hP 1 rfl rfl 1 (by decide) (hts _ mX6_told_8) (fun _ h9 => h9) rfl dX6_told_140 ?_
              exact hret 143 ls t_now_hour dX6_told_143 hf
            · have hf := hf.2
              by_cases z10 : a1 = 3
              · have hf := hf.1 z10
                refine lv_tableIn (off := 71) (tgt := 144) hx hb dX6_told_73 (by rw [z10]; decide) (by rw [z10]; decide) (by rw [z10]; decide) (by decide) ?_
                refine lv_aload_n hx hb dX6_told_144 rfl (lv_at hl 0 rfl) ?_
                refine va_get (D := D) (ci := 6) (v := .ref q_t_now) (C := RX6) (T := TX6) (N := 5) hx hb hts nX6_told_X6 hown hK hP 0 rfl rfl 0 (by decide) (hts _ mX6_told_1) (fun _ h9 => h9) rfl dX6_told_145 ?_
                refine va_get (D := D) (ci := 5) (v := .int t_now_year) (C := RX5) (T := TX5) (N := 8) hx hb hts nX6_told_X5 hown hK hP 1 rfl rfl 2 (by decide) (hts _ mX6_told_9) (fun _ h9 => h9) rfl dX6_told_148 ?_
                exact hret 151 ls t_now_year dX6_told_151 hf
              · have hf := hf.2
                by_cases z11 : a1 = 4
                · have hf := hf.1 z11
                  refine lv_tableIn (off := 79) (tgt := 152) hx hb dX6_told_73 (by rw [z11]; decide) (by rw [z11]; decide) (by rw [z11]; decide) (by decide) ?_
                  refine lv_aload_n hx hb dX6_told_152 rfl (lv_at hl 0 rfl) ?_
                  refine va_get (D := D) (ci := 6) (v := .ref q_t_now) (C := RX6) (T := TX6) (N := 5) hx hb hts nX6_told_X6 hown hK hP 0 rfl rfl 0 (by decide) (hts _ mX6_told_1) (fun _ h9 => h9) rfl dX6_told_153 ?_
                  refine va_get (D := D) (ci := 5) (v := .int t_now_shift) (C := RX5) (T := TX5) (N := 8) hx hb hts nX6_told_X5 hown hK hP 1 rfl rfl 3 (by decide) (hts _ mX6_told_10) (fun _ h9 => h9) rfl dX6_told_156 ?_
                  exact hret 159 ls t_now_shift dX6_told_159 hf
                · have hf := hf.2
                  by_cases z12 : a1 = 5
                  · have hf := hf.1 z12
                    refine lv_tableIn (off := 87) (tgt := 160) hx hb dX6_told_73 (by rw [z12]; decide) (by rw [z12]; decide) (by rw [z12]; decide) (by decide) ?_
                    refine lv_aload_n hx hb dX6_told_160 rfl (lv_at hl 0 rfl) ?_
                    refine va_get (D := D) (ci := 6) (v := .ref q_t_now) (C := RX6) (T := TX6) (N := 5) hx hb hts nX6_told_X6 hown hK hP 0 rfl rfl 0 (by decide) (hts _ mX6_told_1) (fun _ h9 => h9) rfl dX6_told_161 ?_
                    refine va_get (D := D) (ci := 5) (v := .int t_now_kneelDate) (C := RX5) (T := TX5) (N := 8) hx hb hts nX6_told_X5 hown hK hP 1 rfl rfl 4 (by decide) (hts _ mX6_told_11) (fun _ h9 => h9) rfl dX6_told_164 ?_
                    exact hret 167 ls t_now_kneelDate dX6_told_167 hf
                  · have hf := hf.2
                    by_cases z13 : a1 = 6
                    · have hf := hf.1 z13
                      refine lv_tableIn (off := 95) (tgt := 168) hx hb dX6_told_73 (by rw [z13]; decide) (by rw [z13]; decide) (by rw [z13]; decide) (by decide) ?_
                      refine lv_aload_n hx hb dX6_told_168 rfl (lv_at hl 0 rfl) ?_
                      refine va_get (D := D) (ci := 6) (v := .ref q_t_sights) (C := RX6) (T := TX6) (N := 5) hx hb hts nX6_told_X6 hown hK hP 0 rfl rfl 1 (by decide) (hts _ mX6_told_12) (fun _ h9 => h9) rfl dX6_told_169 ?_
                      refine va_get (D := D) (ci := 3) (v := .int t_sights_count) (C := RX3) (T := TX3) (N := 3) hx hb hts nX6_told_X3 hown hK hP 5 rfl rfl 0 (by decide) (hts _ mX6_told_13) (fun _ h9 => h9) rfl dX6_told_172 ?_
                      exact hret 175 ls t_sights_count dX6_told_175 hf
                    · have hf := hf.2
                      by_cases z14 : a1 = 7
                      · have hf := hf.1 z14
                        refine lv_tableIn (off := 103) (tgt := 176) hx hb dX6_told_73 (by rw [z14]; decide) (by rw [z14]; decide) (by rw [z14]; decide) (by decide) ?_
                        refine lv_aload_n hx hb dX6_told_176 rfl (lv_at hl 0 rfl) ?_
                        refine va_get (D := D) (ci := 6) (v := .ref q_t_now) (C := RX6) (T := TX6) (N := 5) hx hb hts nX6_told_X6 hown hK hP 0 rfl rfl 0 (by decide) (hts _ mX6_told_1) (fun _ h9 => h9) rfl dX6_told_177 ?_
                        refine xs_i (va_runV (As := []) (rest := []) ⟨hx, hb, hml, hown, hts⟩ (kX5_whoIsWithin l D cI cZ cJ cO q_t_now q_t_now_places q_t_now_coins q_t_now_lying t_now_date t_now_hour t_now_year t_now_shift t_now_kneelDate t_now_places _ hf) (cwV 0 hts gX6_told_X5_whoIsWithin rfl rfl rfl (by decide +kernel) ⟨Nat.le_of_ble_eq_true rfl, Nat.le_of_ble_eq_true rfl⟩) (B0_preV (ci := 5) (q0 := 1) hP rfl rfl (hP.sub (ws' := [(q_t_now, .inr (5, [.int t_now_date, .int t_now_hour, .int t_now_year, .int t_now_shift, .int t_now_kneelDate, .ref q_t_now_places, .ref q_t_now_coins, .ref q_t_now_lying])), (q_t_now_places, .inl (cI, 6, .inl t_now_places))]) [1, 2] rfl) hK hN) rfl rfl hl.1 rfl (lv_room (Nat.le_of_ble_eq_true rfl)) dX6_told_180 ⟨Nat.zero_le _, Nat.zero_le _⟩) (fun r15 hf => ?_)
                        exact hret 183 ls r15 dX6_told_183 hf
                      · have hf := hf.2
                        have hf := hf z7 z8 z9 z10 z11 z12 z13 z14
                        refine lv_tableOut (tgt := 184) hx hb dX6_told_73 (by have yz7 := lv_neT (a := 0) z7 (by decide); have yz8 := lv_neT (a := 1) z8 (by decide); have yz9 := lv_neT (a := 2) z9 (by decide); have yz10 := lv_neT (a := 3) z10 (by decide); have yz11 := lv_neT (a := 4) z11 (by decide); have yz12 := lv_neT (a := 5) z12 (by decide); have yz13 := lv_neT (a := 6) z13 (by decide); have yz14 := lv_neT (a := 7) z14 (by decide); omega) (by decide) ?_
                        refine lv_bipush (v := (-2)) hx hb dX6_told_184 (by decide) ?_
                        exact hret 186 ls (-2) dX6_told_186 hf
      · have hf := hf.2 c6
        refine lv_aload_n hx hb dX6_told_59 rfl (lv_at hl 0 rfl) ?_
        refine va_get (D := D) (ci := 6) (v := .ref q_t_now) (C := RX6) (T := TX6) (N := 5) hx hb hts nX6_told_X6 hown hK hP 0 rfl rfl 0 (by decide) (hts _ mX6_told_1) (fun _ h9 => h9) rfl dX6_told_60 ?_
        refine va_get (D := D) (ci := 5) (v := .ref q_t_now_lying) (C := RX5) (T := TX5) (N := 8) hx hb hts nX6_told_X5 hown hK hP 1 rfl rfl 7 (by decide) (hts _ mX6_told_4) (fun _ h9 => h9) rfl dX6_told_63 ?_
        refine lv_iload_n hx hb dX6_told_66 rfl (lv_at hl 1 rfl) ?_
        refine lv_bipush (v := 30) hx hb dX6_told_67 (by decide) ?_
        refine lv_isub hx hb dX6_told_69 ?_
        have g16 := hf.1
        have hf := hf.2
        refine xa_iald hx hb hK hP 4 0 rfl rfl (j := (a1 - 30).toNatClampNeg) rfl g16 dX6_told_70 ?_
        exact hret 71 ls (t_now_lying (a1 - 30).toNatClampNeg) dX6_told_71 hf
    · have hf := hf.2 c4
      refine lv_aload_n hx hb dX6_told_35 rfl (lv_at hl 0 rfl) ?_
      refine va_get (D := D) (ci := 6) (v := .ref q_t_now) (C := RX6) (T := TX6) (N := 5) hx hb hts nX6_told_X6 hown hK hP 0 rfl rfl 0 (by decide) (hts _ mX6_told_1) (fun _ h9 => h9) rfl dX6_told_36 ?_
      refine va_get (D := D) (ci := 5) (v := .ref q_t_now_coins) (C := RX5) (T := TX5) (N := 8) hx hb hts nX6_told_X5 hown hK hP 1 rfl rfl 6 (by decide) (hts _ mX6_told_3) (fun _ h9 => h9) rfl dX6_told_39 ?_
      refine lv_iload_n hx hb dX6_told_42 rfl (lv_at hl 1 rfl) ?_
      refine lv_bipush (v := 20) hx hb dX6_told_43 (by decide) ?_
      refine lv_isub hx hb dX6_told_45 ?_
      have g17 := hf.1
      have hf := hf.2
      refine xa_iald hx hb hK hP 3 0 rfl rfl (j := (a1 - 20).toNatClampNeg) rfl g17 dX6_told_46 ?_
      exact hret 47 ls (t_now_coins (a1 - 20).toNatClampNeg) dX6_told_47 hf
  · have hf := hf.2 c2
    refine lv_aload_n hx hb dX6_told_11 rfl (lv_at hl 0 rfl) ?_
    refine va_get (D := D) (ci := 6) (v := .ref q_t_now) (C := RX6) (T := TX6) (N := 5) hx hb hts nX6_told_X6 hown hK hP 0 rfl rfl 0 (by decide) (hts _ mX6_told_1) (fun _ h9 => h9) rfl dX6_told_12 ?_
    refine va_get (D := D) (ci := 5) (v := .ref q_t_now_places) (C := RX5) (T := TX5) (N := 8) hx hb hts nX6_told_X5 hown hK hP 1 rfl rfl 5 (by decide) (hts _ mX6_told_2) (fun _ h9 => h9) rfl dX6_told_15 ?_
    refine lv_iload_n hx hb dX6_told_18 rfl (lv_at hl 1 rfl) ?_
    refine lv_bipush (v := 10) hx hb dX6_told_19 (by decide) ?_
    refine lv_isub hx hb dX6_told_21 ?_
    have g18 := hf.1
    have hf := hf.2
    refine xa_iald hx hb hK hP 2 0 rfl rfl (j := (a1 - 10).toNatClampNeg) rfl g18 dX6_told_22 ?_
    exact hret 23 ls (t_now_places (a1 - 10).toNatClampNeg) dX6_told_23 hf

/-! X7_in -/

def pX7_in  (a1 : Int32) (a2 : Int32) (a3 : Int32) (post : Int32 → Prop) : Prop :=
  (a1 < a2 → (post 0)) ∧ (¬ a1 < a2 → ((a3 < a1 → (post 0)) ∧ (¬ a3 < a1 → (post 1))))

set_option maxHeartbeats 4000000 in
set_option maxRecDepth 100000 in
theorem kX7_in (l : Launch) (D : va_G) (cI cZ cJ cO : ClassId)    (a1 : Int32) (a2 : Int32) (a3 : Int32) (post : Int32 → Prop) (hf : pX7_in a1 a2 a3 post) :
    Met l yX7_in wsX7_in ({ frames := 0, cells := 0, slots := 0, locals := 0 } : Room) (va_Pc [.int a1, .int a2, .int a3] (B0 D (tyL cI cZ cJ cO) [])) (vp_Si post) 0 0 (fun _ => False) := by
  unfold pX7_in at hf
  refine xm_0z (own := RX7) (by decide) rfl rfl (Nat.le_of_ble_eq_true rfl) (fun p e s m args below meth c Q C0 hN hK hret hP ls hl => ?_)
  obtain ⟨hx, hb, hml, hown, hts⟩ := id C0
  have hl : lv_has ls 3 [(0, .int a1), (1, .int a2), (2, .int a3)] := hl
  refine lv_iload_n hx hb dX7_in_0 rfl (lv_at hl 0 rfl) ?_
  refine lv_iload_n hx hb dX7_in_1 rfl (lv_at hl 1 rfl) ?_
  refine lv_icmp_lt (tgt := 14) hx hb dX7_in_2 (by decide) (fun c1 => ?_) (fun c1 => ?_)
  · have hf := hf.1 c1
    refine lv_iconst (v := 0) hx hb dX7_in_14 (by decide) ?_
    exact hret 15 ls 0 dX7_in_15 rfl hf
  · have hf := hf.2 c1
    refine lv_iload_n hx hb dX7_in_5 rfl (lv_at hl 0 rfl) ?_
    refine lv_iload_n hx hb dX7_in_6 rfl (lv_at hl 2 rfl) ?_
    refine lv_icmp_gt (tgt := 14) hx hb dX7_in_7 (by decide) (fun c2 => ?_) (fun c2 => ?_)
    · have hf := hf.1 c2
      refine lv_iconst (v := 0) hx hb dX7_in_14 (by decide) ?_
      exact hret 15 ls 0 dX7_in_15 rfl hf
    · have hf := hf.2 c2
      refine lv_iconst (v := 1) hx hb dX7_in_10 (by decide) ?_
      refine lv_goto (tgt := 15) hx hb dX7_in_11 (by decide) ?_
      exact hret 15 ls 1 dX7_in_15 rfl hf

/-! X7_has -/

def pX7_has  (a1 : Int32) (a2 : Int32) (post : Int32 → Prop) : Prop :=
  (¬ ((a1 >>> (a2 &&& 31)) &&& 1) = 1 → (post 0)) ∧ (((a1 >>> (a2 &&& 31)) &&& 1) = 1 → (post 1))

set_option maxHeartbeats 4000000 in
set_option maxRecDepth 100000 in
theorem kX7_has (l : Launch) (D : va_G) (cI cZ cJ cO : ClassId)    (a1 : Int32) (a2 : Int32) (post : Int32 → Prop) (hf : pX7_has a1 a2 post) :
    Met l yX7_has wsX7_has ({ frames := 0, cells := 0, slots := 0, locals := 0 } : Room) (va_Pc [.int a1, .int a2] (B0 D (tyL cI cZ cJ cO) [])) (vp_Si post) 0 0 (fun _ => False) := by
  unfold pX7_has at hf
  refine xm_0z (own := RX7) (by decide) rfl rfl (Nat.le_of_ble_eq_true rfl) (fun p e s m args below meth c Q C0 hN hK hret hP ls hl => ?_)
  obtain ⟨hx, hb, hml, hown, hts⟩ := id C0
  have hl : lv_has ls 2 [(0, .int a1), (1, .int a2)] := hl
  refine lv_iload_n hx hb dX7_has_0 rfl (lv_at hl 0 rfl) ?_
  refine lv_iload_n hx hb dX7_has_1 rfl (lv_at hl 1 rfl) ?_
  refine lv_ishr hx hb dX7_has_2 ?_
  refine lv_iconst (v := 1) hx hb dX7_has_3 (by decide) ?_
  refine lv_iand hx hb dX7_has_4 ?_
  refine lv_iconst (v := 1) hx hb dX7_has_5 (by decide) ?_
  refine lv_icmp_ne (tgt := 13) hx hb dX7_has_6 (by decide) (fun c1 => ?_) (fun c1 => ?_)
  · have hf := hf.1 c1
    refine lv_iconst (v := 0) hx hb dX7_has_13 (by decide) ?_
    exact hret 14 ls 0 dX7_has_14 rfl hf
  · have hf := hf.2 c1
    refine lv_iconst (v := 1) hx hb dX7_has_9 (by decide) ?_
    refine lv_goto (tgt := 14) hx hb dX7_has_10 (by decide) ?_
    exact hret 14 ls 1 dX7_has_14 rfl hf

/-! X7_bits -/

def pX7_bits_b4 (a1 : Int32) (post : Int32 → Prop) : Nat → Int32 → Int32 → Prop
  | 0 => fun _ _ => False
  | n + 1 => fun x1 x2 => (9 ≤ x2 → (post x1)) ∧ (¬ 9 ≤ x2 → (∀ v2 : Int32, v2 = (x1 + ((a1 >>> (x2 &&& 31)) &&& 1)) → (∀ v3 : Int32, v3 = x2 + 1 → (pX7_bits_b4 a1 post  n v2 v3))))

set_option maxHeartbeats 4000000 in
set_option maxRecDepth 100000 in
theorem wX7_bits_b4 {p : Program} {l : Launch} {e : Env} {s : State} {m : MethodId} {args : Array Value} {below : List Frame} {meth : Method} {c : Code} {Q : State → Prop} {D : va_G} {cI cZ cJ cO : ClassId} (C0 : CallFix p m c cX7_bits 3 s args wsX7_bits RX7) (hN : nw s) (hK : va_K D vwCl (tyL cI cZ cJ cO) s)   (a1 : Int32) (post : Int32 → Prop) (hret : h0I p l e ({ frames := 0, cells := 0, slots := 0, locals := 0 } : Room) s m args below meth c cX7_bits Q post) (hP : va_P D vwCl [] s.heap) :
    ∀ (n : Nat) (x1 : Int32) (x2 : Int32), pX7_bits_b4 a1 post n x1 x2 → ∀ ls : Array Slot, lv_has ls 3 [(0, .int a1), (1, .int x1), (2, .int x2)] → W p l e ({ frames := 0, cells := 0, slots := 0, locals := 0 } : Room) s m args below meth c s.heap [] 0 0 Q (F0 m 4 ls []) := by
  obtain ⟨hx, hb, hml, hown, hts⟩ := id C0
  intro n
  induction n with
  | zero =>
    intro x1 x2 hf
    exact False.elim hf
  | succ n ih =>
    intro x1 x2 hf ls hl
    rw [pX7_bits_b4] at hf
    refine lv_iload_n hx hb dX7_bits_4 rfl (lv_at hl 2 rfl) ?_
    refine lv_bipush (v := 9) hx hb dX7_bits_5 (by decide) ?_
    refine lv_icmp_ge (tgt := 24) hx hb dX7_bits_7 (by decide) (fun c1 => ?_) (fun c1 => ?_)
    · have hf := hf.1 c1
      refine lv_iload_n hx hb dX7_bits_24 rfl (lv_at hl 1 rfl) ?_
      exact hret 25 ls x1 dX7_bits_25 hf
    · have hf := hf.2 c1
      refine lv_iload_n hx hb dX7_bits_10 rfl (lv_at hl 1 rfl) ?_
      refine lv_iload_n hx hb dX7_bits_11 rfl (lv_at hl 0 rfl) ?_
      refine lv_iload_n hx hb dX7_bits_12 rfl (lv_at hl 2 rfl) ?_
      refine lv_ishr hx hb dX7_bits_13 ?_
      refine lv_iconst (v := 1) hx hb dX7_bits_14 (by decide) ?_
      refine lv_iand hx hb dX7_bits_15 ?_
      refine lv_iadd hx hb dX7_bits_16 ?_
      refine lv_topi (fun v2 ev2 => ?_)
      have hf := hf v2 ev2
      refine lv_istore_n (lv' := [(1, .int v2), (0, .int a1), (2, .int x2)]) hx hb dX7_bits_17 rfl hl (by decide) rfl (fun ls hl => ?_)
      obtain ⟨v3, ev3⟩ : ∃ y : Int32, y = x2 + 1 := ⟨_, rfl⟩
      have hf := hf v3 ev3
      refine lv_iinc (v := v3) (lv' := [(2, .int v3), (1, .int v2), (0, .int a1)]) hx hb dX7_bits_18 hl (k := 2) rfl (by rw [ev3]; rfl) (by decide) rfl (fun ls hl => ?_)
      refine lv_goto (tgt := 4) hx hb dX7_bits_21 (by decide) ?_
      exact ih v2 v3 hf ls (lv_sub hl [2, 1, 0] rfl)

def pX7_bits  (a1 : Int32) (post : Int32 → Prop) : Prop :=
  ∃ n1, pX7_bits_b4 a1 post  n1 0 0

set_option maxHeartbeats 4000000 in
set_option maxRecDepth 100000 in
theorem kX7_bits (l : Launch) (D : va_G) (cI cZ cJ cO : ClassId)    (a1 : Int32) (post : Int32 → Prop) (hf : pX7_bits a1 post) :
    Met l yX7_bits wsX7_bits ({ frames := 0, cells := 0, slots := 0, locals := 0 } : Room) (va_Pc [.int a1] (B0 D (tyL cI cZ cJ cO) [])) (vp_Si post) 0 0 (fun _ => False) := by
  unfold pX7_bits at hf
  refine xm_0i (own := RX7) (by decide) rfl rfl (Nat.le_of_ble_eq_true rfl) (fun p e s m args below meth c Q C0 hN hK hret hP ls hl => ?_)
  obtain ⟨hx, hb, hml, hown, hts⟩ := id C0
  have hl : lv_has ls 3 [(0, .int a1)] := hl
  refine lv_iconst (v := 0) hx hb dX7_bits_0 (by decide) ?_
  refine lv_istore_n (lv' := [(1, .int 0), (0, .int a1)]) hx hb dX7_bits_1 rfl hl (by decide) rfl (fun ls hl => ?_)
  refine lv_iconst (v := 0) hx hb dX7_bits_2 (by decide) ?_
  refine lv_istore_n (lv' := [(2, .int 0), (1, .int 0), (0, .int a1)]) hx hb dX7_bits_3 rfl hl (by decide) rfl (fun ls hl => ?_)
  obtain ⟨n1, hf⟩ := hf
  exact wX7_bits_b4 C0 hN hK a1 post hret hP   n1 0 0 hf ls (lv_sub hl [2, 1, 0] rfl)

/-! X7_asNow -/
theorem mX7_asNow_3 : Cond.fieldLink RX7 79 "OxenKneelModel" "metAt" "I" ∈ wsX7_asNow := List.mem_of_getElem? (i := 3) rfl
theorem mX7_asNow_4 : Cond.fieldLink RX7 82 "OxenKneelModel" "metWho" "I" ∈ wsX7_asNow := List.mem_of_getElem? (i := 4) rfl
theorem mX7_asNow_1 : Cond.fieldLink RX7 13 "OxenKneelModel" "now" "[I" ∈ wsX7_asNow := List.mem_of_getElem? (i := 1) rfl
theorem mX7_asNow_2 : Cond.fieldLink RX7 7 "OxenKneelModel" "book" "[I" ∈ wsX7_asNow := List.mem_of_getElem? (i := 2) rfl
theorem nX7_asNow_X7 : ∀ w ∈ wsX70, w ∈ wsX7_asNow := fun _ h => List.mem_cons_of_mem _ (List.mem_append_right _ h)
def pX7_asNow_b2 (t_book : (Nat → Int32)) (post : (Int32 × Int32 × (Nat → Int32)) → Prop) : Nat → Int32 → Int32 → Int32 → (Nat → Int32) → Prop
  | 0 => fun _ _ _ _ => False
  | n + 1 => fun x1 t_metAt t_metWho t_now => (45 ≤ x1 → (post ((-6), (-6), t_now))) ∧ (¬ 45 ≤ x1 → (vp_in x1 45 ∧ (∀ v3 : Int32, v3 = (t_book x1.toNatClampNeg) → (vp_in x1 45 ∧ (∀ v5 : Int32, v5 = x1 + 1 → (pX7_asNow_b2 t_book post  n v5 t_metAt t_metWho (upd t_now x1.toNatClampNeg v3)))))))

set_option maxHeartbeats 4000000 in
set_option maxRecDepth 100000 in
theorem wX7_asNow_b2 {p : Program} {l : Launch} {e : Env} {s : State} {m : MethodId} {args : Array Value} {below : List Frame} {meth : Method} {c : Code} {Q : State → Prop} {D : va_G} {cI cZ cJ cO : ClassId} {A : Nat → Prop} (C0 : CallFix p m c cX7_asNow 2 s args wsX7_asNow RX7) (hN : nw s) (hK : va_K D vwCl (tyL cI cZ cJ cO) s) (hA : ∀ q, s.heap.size ≤ q → A q) (q_t q_t_book q_t_now q_t_sight q_t_pad q_t_had q_t_takes q_t_worths q_t_fitting q_t_wins q_t_ways q_t_image q_t_isKept : Nat) (t_shift : Int32) (t_kneels : Int32) (t_sights : Int32) (t_signs : Int32) (t_reason : Int32) (t_acts : Int32) (t_book : (Nat → Int32)) (post : (Int32 × Int32 × (Nat → Int32)) → Prop) (hret : hrV p l e ({ frames := 0, cells := 0, slots := 0, locals := 0 } : Room) s m args below meth c cX7_asNow D A Q post (fun u : Int32 × Int32 × (Nat → Int32) => [(q_t, .inr (7, [.ref q_t_book, .ref q_t_now, .int t_shift, .int t_kneels, .int t_sights, .ref q_t_sight, .int t_signs, .ref q_t_pad, .int u.1, .int u.2.1, .int t_reason, .int t_acts, .ref q_t_had, .ref q_t_takes, .ref q_t_worths, .ref q_t_fitting, .ref q_t_wins, .ref q_t_ways, .ref q_t_image, .ref q_t_isKept])), (q_t_book, .inl (cI, 45, .inl t_book)), (q_t_now, .inl (cI, 45, .inl u.2.2))])) :
    ∀ (n : Nat) (x1 : Int32) (t_metAt : Int32) (t_metWho : Int32) (t_now : (Nat → Int32)), pX7_asNow_b2 t_book post n x1 t_metAt t_metWho t_now → ∀ (H : Heap) (locs : List Loc), va_P D vwCl [(q_t, .inr (7, [.ref q_t_book, .ref q_t_now, .int t_shift, .int t_kneels, .int t_sights, .ref q_t_sight, .int t_signs, .ref q_t_pad, .int t_metAt, .int t_metWho, .int t_reason, .int t_acts, .ref q_t_had, .ref q_t_takes, .ref q_t_worths, .ref q_t_fitting, .ref q_t_wins, .ref q_t_ways, .ref q_t_image, .ref q_t_isKept])), (q_t_book, .inl (cI, 45, .inl t_book)), (q_t_now, .inl (cI, 45, .inl t_now))] H → va_D A [(q_t, .inr (7, [.ref q_t_book, .ref q_t_now, .int t_shift, .int t_kneels, .int t_sights, .ref q_t_sight, .int t_signs, .ref q_t_pad, .int t_metAt, .int t_metWho, .int t_reason, .int t_acts, .ref q_t_had, .ref q_t_takes, .ref q_t_worths, .ref q_t_fitting, .ref q_t_wins, .ref q_t_ways, .ref q_t_image, .ref q_t_isKept])), (q_t_book, .inl (cI, 45, .inl t_book)), (q_t_now, .inl (cI, 45, .inl t_now))] → va_S A s.heap H locs → ∀ ls : Array Slot, lv_has ls 2 [(0, .ref q_t), (1, .int x1)] → W p l e ({ frames := 0, cells := 0, slots := 0, locals := 0 } : Room) s m args below meth c H locs 0 0 Q (F0 m 2 ls []) := by
  obtain ⟨hx, hb, hml, hown, hts⟩ := id C0
  intro n
  induction n with
  | zero =>
    intro x1 t_metAt t_metWho t_now hf
    exact False.elim hf
  | succ n ih =>
    intro x1 t_metAt t_metWho t_now hf H locs hP hD hS ls hl
    rw [pX7_asNow_b2] at hf
    refine lv_iload_n hx hb dX7_asNow_2 rfl (lv_at hl 1 rfl) ?_
    refine lv_bipush (v := 45) hx hb dX7_asNow_3 (by decide) ?_
    refine lv_icmp_ge (tgt := 26) hx hb dX7_asNow_5 (by decide) (fun c1 => ?_) (fun c1 => ?_)
    · have hf := hf.1 c1
      refine lv_aload_n hx hb dX7_asNow_26 rfl (lv_at hl 0 rfl) ?_
      refine lv_bipush (v := (-6)) hx hb dX7_asNow_27 (by decide) ?_
      refine va_put (D := D) (ci := 7) (v := .int (-6)) (ty := .int) (C := RX7) (T := TX7) (N := 20) hx hb hts nX7_asNow_X7 tyX7 tyX7_ok nmX7 hown hK hP hD hS 0 rfl rfl 8 (by decide) (hts _ mX7_asNow_3) (fun _ h9 => h9) rfl (by decide +kernel) rfl rfl (Nat.le_of_ble_eq_true rfl) dX7_asNow_29 (fun H locs hP hD hS => ?_)
      have hP : va_P D vwCl [(q_t, .inr (7, [.ref q_t_book, .ref q_t_now, .int t_shift, .int t_kneels, .int t_sights, .ref q_t_sight, .int t_signs, .ref q_t_pad, .int (-6), .int t_metWho, .int t_reason, .int t_acts, .ref q_t_had, .ref q_t_takes, .ref q_t_worths, .ref q_t_fitting, .ref q_t_wins, .ref q_t_ways, .ref q_t_image, .ref q_t_isKept])), (q_t_book, .inl (cI, 45, .inl t_book)), (q_t_now, .inl (cI, 45, .inl t_now))] H := hP
      have hD : va_D A [(q_t, .inr (7, [.ref q_t_book, .ref q_t_now, .int t_shift, .int t_kneels, .int t_sights, .ref q_t_sight, .int t_signs, .ref q_t_pad, .int (-6), .int t_metWho, .int t_reason, .int t_acts, .ref q_t_had, .ref q_t_takes, .ref q_t_worths, .ref q_t_fitting, .ref q_t_wins, .ref q_t_ways, .ref q_t_image, .ref q_t_isKept])), (q_t_book, .inl (cI, 45, .inl t_book)), (q_t_now, .inl (cI, 45, .inl t_now))] := hD
      refine lv_aload_n hx hb dX7_asNow_32 rfl (lv_at hl 0 rfl) ?_
      refine lv_bipush (v := (-6)) hx hb dX7_asNow_33 (by decide) ?_
      refine va_put (D := D) (ci := 7) (v := .int (-6)) (ty := .int) (C := RX7) (T := TX7) (N := 20) hx hb hts nX7_asNow_X7 tyX7 tyX7_ok nmX7 hown hK hP hD hS 0 rfl rfl 9 (by decide) (hts _ mX7_asNow_4) (fun _ h9 => h9) rfl (by decide +kernel) rfl rfl (Nat.le_of_ble_eq_true rfl) dX7_asNow_35 (fun H locs hP hD hS => ?_)
      have hP : va_P D vwCl [(q_t, .inr (7, [.ref q_t_book, .ref q_t_now, .int t_shift, .int t_kneels, .int t_sights, .ref q_t_sight, .int t_signs, .ref q_t_pad, .int (-6), .int (-6), .int t_reason, .int t_acts, .ref q_t_had, .ref q_t_takes, .ref q_t_worths, .ref q_t_fitting, .ref q_t_wins, .ref q_t_ways, .ref q_t_image, .ref q_t_isKept])), (q_t_book, .inl (cI, 45, .inl t_book)), (q_t_now, .inl (cI, 45, .inl t_now))] H := hP
      have hD : va_D A [(q_t, .inr (7, [.ref q_t_book, .ref q_t_now, .int t_shift, .int t_kneels, .int t_sights, .ref q_t_sight, .int t_signs, .ref q_t_pad, .int (-6), .int (-6), .int t_reason, .int t_acts, .ref q_t_had, .ref q_t_takes, .ref q_t_worths, .ref q_t_fitting, .ref q_t_wins, .ref q_t_ways, .ref q_t_image, .ref q_t_isKept])), (q_t_book, .inl (cI, 45, .inl t_book)), (q_t_now, .inl (cI, 45, .inl t_now))] := hD
      exact hret 38 ls H locs ((-6), (-6), t_now) dX7_asNow_38 hf hP hD hS
    · have hf := hf.2 c1
      refine lv_aload_n hx hb dX7_asNow_8 rfl (lv_at hl 0 rfl) ?_
      refine va_get (D := D) (ci := 7) (v := .ref q_t_now) (C := RX7) (T := TX7) (N := 20) hx hb hts nX7_asNow_X7 hown hK hP 0 rfl rfl 1 (by decide) (hts _ mX7_asNow_1) (fun _ h9 => h9) rfl dX7_asNow_9 ?_
      refine lv_iload_n hx hb dX7_asNow_12 rfl (lv_at hl 1 rfl) ?_
      refine lv_aload_n hx hb dX7_asNow_13 rfl (lv_at hl 0 rfl) ?_
      refine va_get (D := D) (ci := 7) (v := .ref q_t_book) (C := RX7) (T := TX7) (N := 20) hx hb hts nX7_asNow_X7 hown hK hP 0 rfl rfl 0 (by decide) (hts _ mX7_asNow_2) (fun _ h9 => h9) rfl dX7_asNow_14 ?_
      refine lv_iload_n hx hb dX7_asNow_17 rfl (lv_at hl 1 rfl) ?_
      have g2 := hf.1
      have hf := hf.2
      refine xa_iald hx hb hK hP 1 0 rfl rfl (j := x1.toNatClampNeg) rfl g2 dX7_asNow_18 ?_
      refine lv_topi (fun v3 ev3 => ?_)
      have hf := hf v3 ev3
      have g4 := hf.1
      have hf := hf.2
      refine xa_iast hx hb hK hP hD hS 2 0 rfl rfl (j := x1.toNatClampNeg) rfl g4 dX7_asNow_19 (fun H locs hP hD hS => ?_)
      have hP : va_P D vwCl [(q_t, .inr (7, [.ref q_t_book, .ref q_t_now, .int t_shift, .int t_kneels, .int t_sights, .ref q_t_sight, .int t_signs, .ref q_t_pad, .int t_metAt, .int t_metWho, .int t_reason, .int t_acts, .ref q_t_had, .ref q_t_takes, .ref q_t_worths, .ref q_t_fitting, .ref q_t_wins, .ref q_t_ways, .ref q_t_image, .ref q_t_isKept])), (q_t_book, .inl (cI, 45, .inl t_book)), (q_t_now, .inl (cI, 45, .inl (upd t_now x1.toNatClampNeg v3)))] H := hP
      have hD : va_D A [(q_t, .inr (7, [.ref q_t_book, .ref q_t_now, .int t_shift, .int t_kneels, .int t_sights, .ref q_t_sight, .int t_signs, .ref q_t_pad, .int t_metAt, .int t_metWho, .int t_reason, .int t_acts, .ref q_t_had, .ref q_t_takes, .ref q_t_worths, .ref q_t_fitting, .ref q_t_wins, .ref q_t_ways, .ref q_t_image, .ref q_t_isKept])), (q_t_book, .inl (cI, 45, .inl t_book)), (q_t_now, .inl (cI, 45, .inl (upd t_now x1.toNatClampNeg v3)))] := hD
      obtain ⟨v5, ev5⟩ : ∃ y : Int32, y = x1 + 1 := ⟨_, rfl⟩
      have hf := hf v5 ev5
      refine lv_iinc (v := v5) (lv' := [(1, .int v5), (0, .ref q_t)]) hx hb dX7_asNow_20 hl (k := 1) rfl (by rw [ev5]; rfl) (by decide) rfl (fun ls hl => ?_)
      refine lv_goto (tgt := 2) hx hb dX7_asNow_23 (by decide) ?_
      exact ih v5 t_metAt t_metWho (upd t_now x1.toNatClampNeg v3) hf H locs hP hD hS ls (lv_sub hl [1, 0] rfl)

def pX7_asNow (t_metAt : Int32) (t_metWho : Int32) (t_book : (Nat → Int32)) (t_now : (Nat → Int32))  (post : (Int32 × Int32 × (Nat → Int32)) → Prop) : Prop :=
  ∃ n1, pX7_asNow_b2 t_book post  n1 0 t_metAt t_metWho t_now

set_option maxHeartbeats 4000000 in
set_option maxRecDepth 100000 in
theorem kX7_asNow (l : Launch) (D : va_G) (cI cZ cJ cO : ClassId) (q_t q_t_book q_t_now q_t_sight q_t_pad q_t_had q_t_takes q_t_worths q_t_fitting q_t_wins q_t_ways q_t_image q_t_isKept : Nat) (sz : Nat) (t_shift : Int32) (t_kneels : Int32) (t_sights : Int32) (t_signs : Int32) (t_reason : Int32) (t_acts : Int32) (t_metAt : Int32) (t_metWho : Int32) (t_book : (Nat → Int32)) (t_now : (Nat → Int32))  (post : (Int32 × Int32 × (Nat → Int32)) → Prop) (hf : pX7_asNow t_metAt t_metWho t_book t_now post) :
    Met l yX7_asNow wsX7_asNow ({ frames := 0, cells := 0, slots := 0, locals := 0 } : Room) (va_Pc [.ref q_t] (B1 D (tyL cI cZ cJ cO) [(q_t, .inr (7, [.ref q_t_book, .ref q_t_now, .int t_shift, .int t_kneels, .int t_sights, .ref q_t_sight, .int t_signs, .ref q_t_pad, .int t_metAt, .int t_metWho, .int t_reason, .int t_acts, .ref q_t_had, .ref q_t_takes, .ref q_t_worths, .ref q_t_fitting, .ref q_t_wins, .ref q_t_ways, .ref q_t_image, .ref q_t_isKept])), (q_t_book, .inl (cI, 45, .inl t_book)), (q_t_now, .inl (cI, 45, .inl t_now))] sz)) (va_Qv post (fun u t => E1 D (va_A [(q_t, .inr (7, [.ref q_t_book, .ref q_t_now, .int t_shift, .int t_kneels, .int t_sights, .ref q_t_sight, .int t_signs, .ref q_t_pad, .int t_metAt, .int t_metWho, .int t_reason, .int t_acts, .ref q_t_had, .ref q_t_takes, .ref q_t_worths, .ref q_t_fitting, .ref q_t_wins, .ref q_t_ways, .ref q_t_image, .ref q_t_isKept])), (q_t_book, .inl (cI, 45, .inl t_book)), (q_t_now, .inl (cI, 45, .inl t_now))] sz) ((fun u : Int32 × Int32 × (Nat → Int32) => [(q_t, .inr (7, [.ref q_t_book, .ref q_t_now, .int t_shift, .int t_kneels, .int t_sights, .ref q_t_sight, .int t_signs, .ref q_t_pad, .int u.1, .int u.2.1, .int t_reason, .int t_acts, .ref q_t_had, .ref q_t_takes, .ref q_t_worths, .ref q_t_fitting, .ref q_t_wins, .ref q_t_ways, .ref q_t_image, .ref q_t_isKept])), (q_t_book, .inl (cI, 45, .inl t_book)), (q_t_now, .inl (cI, 45, .inl u.2.2))]) u) t) (va_A [(q_t, .inr (7, [.ref q_t_book, .ref q_t_now, .int t_shift, .int t_kneels, .int t_sights, .ref q_t_sight, .int t_signs, .ref q_t_pad, .int t_metAt, .int t_metWho, .int t_reason, .int t_acts, .ref q_t_had, .ref q_t_takes, .ref q_t_worths, .ref q_t_fitting, .ref q_t_wins, .ref q_t_ways, .ref q_t_image, .ref q_t_isKept])), (q_t_book, .inl (cI, 45, .inl t_book)), (q_t_now, .inl (cI, 45, .inl t_now))] sz)) 0 0 (va_A [(q_t, .inr (7, [.ref q_t_book, .ref q_t_now, .int t_shift, .int t_kneels, .int t_sights, .ref q_t_sight, .int t_signs, .ref q_t_pad, .int t_metAt, .int t_metWho, .int t_reason, .int t_acts, .ref q_t_had, .ref q_t_takes, .ref q_t_worths, .ref q_t_fitting, .ref q_t_wins, .ref q_t_ways, .ref q_t_image, .ref q_t_isKept])), (q_t_book, .inl (cI, 45, .inl t_book)), (q_t_now, .inl (cI, 45, .inl t_now))] sz) := by
  unfold pX7_asNow at hf
  refine xm_1v (own := RX7) (by decide) rfl rfl (Nat.le_of_ble_eq_true rfl) (fun p e s m args below meth c Q A C0 hN hK hA hret hP hD ls hl => ?_)
  obtain ⟨hx, hb, hml, hown, hts⟩ := id C0
  have hl : lv_has ls 2 [(0, .ref q_t)] := hl
  have hS : va_S A s.heap s.heap [] := va_S.rf
  obtain ⟨H, hHe⟩ : ∃ H, H = s.heap := ⟨_, rfl⟩
  obtain ⟨locs, hLe⟩ : ∃ L : List Loc, L = [] := ⟨_, rfl⟩
  rw [← hLe]
  rw [← hLe] at hS
  have hP : va_P D vwCl [(q_t, .inr (7, [.ref q_t_book, .ref q_t_now, .int t_shift, .int t_kneels, .int t_sights, .ref q_t_sight, .int t_signs, .ref q_t_pad, .int t_metAt, .int t_metWho, .int t_reason, .int t_acts, .ref q_t_had, .ref q_t_takes, .ref q_t_worths, .ref q_t_fitting, .ref q_t_wins, .ref q_t_ways, .ref q_t_image, .ref q_t_isKept])), (q_t_book, .inl (cI, 45, .inl t_book)), (q_t_now, .inl (cI, 45, .inl t_now))] H := by rw [hHe]; exact hP
  have hS : va_S A s.heap H locs := by rw [hHe]; exact hS
  suffices hgo : W p l e ({ frames := 0, cells := 0, slots := 0, locals := 0 } : Room) s m args below meth c H locs 0 0 Q (F0 m 0 ls []) by rw [← hHe]; exact hgo
  clear hHe hLe
  refine lv_iconst (v := 0) hx hb dX7_asNow_0 (by decide) ?_
  refine lv_istore_n (lv' := [(1, .int 0), (0, .ref q_t)]) hx hb dX7_asNow_1 rfl hl (by decide) rfl (fun ls hl => ?_)
  obtain ⟨n1, hf⟩ := hf
  exact wX7_asNow_b2 C0 hN hK hA q_t q_t_book q_t_now q_t_sight q_t_pad q_t_had q_t_takes q_t_worths q_t_fitting q_t_wins q_t_ways q_t_image q_t_isKept t_shift t_kneels t_sights t_signs t_reason t_acts t_book post hret   n1 0 t_metAt t_metWho t_now hf H locs hP hD hS ls (lv_sub hl [1, 0] rfl)

/-! X7_within -/
theorem mX7_within_1 : Cond.fieldLink RX7 13 "OxenKneelModel" "now" "[I" ∈ wsX7_within := List.mem_of_getElem? (i := 1) rfl
theorem nX7_within_X7 : ∀ w ∈ wsX70, w ∈ wsX7_within := fun _ h => List.mem_cons_of_mem _ (List.mem_append_right _ h)
def pX7_within_b4 (t_now : (Nat → Int32)) (post : Int32 → Prop) : Nat → Int32 → Int32 → Prop
  | 0 => fun _ _ => False
  | n + 1 => fun x1 x2 => (6 ≤ x2 → (post x1)) ∧ (¬ 6 ≤ x2 → (vp_in x2 45 ∧ (((t_now x2.toNatClampNeg) < 0 → (∀ v4 : Int32, v4 = (x1 ||| 0) → (∀ v5 : Int32, v5 = x2 + 1 → (pX7_within_b4 t_now post  n v4 v5)))) ∧ (¬ (t_now x2.toNatClampNeg) < 0 → (∀ v6 : Int32, v6 = (x1 ||| (1 <<< (x2 &&& 31))) → (∀ v7 : Int32, v7 = x2 + 1 → (pX7_within_b4 t_now post  n v6 v7)))))))

set_option maxHeartbeats 4000000 in
set_option maxRecDepth 100000 in
theorem wX7_within_b4 {p : Program} {l : Launch} {e : Env} {s : State} {m : MethodId} {args : Array Value} {below : List Frame} {meth : Method} {c : Code} {Q : State → Prop} {D : va_G} {cI cZ cJ cO : ClassId} (C0 : CallFix p m c cX7_within 3 s args wsX7_within RX7) (hN : nw s) (hK : va_K D vwCl (tyL cI cZ cJ cO) s) (q_t q_t_now q_t_book q_t_sight q_t_pad q_t_had q_t_takes q_t_worths q_t_fitting q_t_wins q_t_ways q_t_image q_t_isKept : Nat) (t_shift : Int32) (t_kneels : Int32) (t_sights : Int32) (t_signs : Int32) (t_metAt : Int32) (t_metWho : Int32) (t_reason : Int32) (t_acts : Int32) (t_now : (Nat → Int32)) (post : Int32 → Prop) (hret : h0I p l e ({ frames := 0, cells := 0, slots := 0, locals := 0 } : Room) s m args below meth c cX7_within Q post) (hP : va_P D vwCl [(q_t, .inr (7, [.ref q_t_book, .ref q_t_now, .int t_shift, .int t_kneels, .int t_sights, .ref q_t_sight, .int t_signs, .ref q_t_pad, .int t_metAt, .int t_metWho, .int t_reason, .int t_acts, .ref q_t_had, .ref q_t_takes, .ref q_t_worths, .ref q_t_fitting, .ref q_t_wins, .ref q_t_ways, .ref q_t_image, .ref q_t_isKept])), (q_t_now, .inl (cI, 45, .inl t_now))] s.heap) :
    ∀ (n : Nat) (x1 : Int32) (x2 : Int32), pX7_within_b4 t_now post n x1 x2 → ∀ ls : Array Slot, lv_has ls 3 [(0, .ref q_t), (1, .int x1), (2, .int x2)] → W p l e ({ frames := 0, cells := 0, slots := 0, locals := 0 } : Room) s m args below meth c s.heap [] 0 0 Q (F0 m 4 ls []) := by
  obtain ⟨hx, hb, hml, hown, hts⟩ := id C0
  intro n
  induction n with
  | zero =>
    intro x1 x2 hf
    exact False.elim hf
  | succ n ih =>
    intro x1 x2 hf ls hl
    rw [pX7_within_b4] at hf
    refine lv_iload_n hx hb dX7_within_4 rfl (lv_at hl 2 rfl) ?_
    refine lv_bipush (v := 6) hx hb dX7_within_5 (by decide) ?_
    refine lv_icmp_ge (tgt := 35) hx hb dX7_within_7 (by decide) (fun c1 => ?_) (fun c1 => ?_)
    · have hf := hf.1 c1
      refine lv_iload_n hx hb dX7_within_35 rfl (lv_at hl 1 rfl) ?_
      exact hret 36 ls x1 dX7_within_36 hf
    · have hf := hf.2 c1
      refine lv_iload_n hx hb dX7_within_10 rfl (lv_at hl 1 rfl) ?_
      refine lv_aload_n hx hb dX7_within_11 rfl (lv_at hl 0 rfl) ?_
      refine va_get (D := D) (ci := 7) (v := .ref q_t_now) (C := RX7) (T := TX7) (N := 20) hx hb hts nX7_within_X7 hown hK hP 0 rfl rfl 1 (by decide) (hts _ mX7_within_1) (fun _ h9 => h9) rfl dX7_within_12 ?_
      refine lv_iload_n hx hb dX7_within_15 rfl (lv_at hl 2 rfl) ?_
      have g2 := hf.1
      have hf := hf.2
      refine xa_iald hx hb hK hP 1 0 rfl rfl (j := x2.toNatClampNeg) rfl g2 dX7_within_16 ?_
      refine lv_if_lt (tgt := 26) hx hb dX7_within_17 (by decide) (fun c3 => ?_) (fun c3 => ?_)
      · have hf := hf.1 c3
        refine lv_iconst (v := 0) hx hb dX7_within_26 (by decide) ?_
        refine lv_ior hx hb dX7_within_27 ?_
        refine lv_topi (fun v4 ev4 => ?_)
        have hf := hf v4 ev4
        refine lv_istore_n (lv' := [(1, .int v4), (0, .ref q_t), (2, .int x2)]) hx hb dX7_within_28 rfl hl (by decide) rfl (fun ls hl => ?_)
        obtain ⟨v5, ev5⟩ : ∃ y : Int32, y = x2 + 1 := ⟨_, rfl⟩
        have hf := hf v5 ev5
        refine lv_iinc (v := v5) (lv' := [(2, .int v5), (1, .int v4), (0, .ref q_t)]) hx hb dX7_within_29 hl (k := 2) rfl (by rw [ev5]; rfl) (by decide) rfl (fun ls hl => ?_)
        refine lv_goto (tgt := 4) hx hb dX7_within_32 (by decide) ?_
        exact ih v4 v5 hf ls (lv_sub hl [2, 1, 0] rfl)
      · have hf := hf.2 c3
        refine lv_iconst (v := 1) hx hb dX7_within_20 (by decide) ?_
        refine lv_iload_n hx hb dX7_within_21 rfl (lv_at hl 2 rfl) ?_
        refine lv_ishl hx hb dX7_within_22 ?_
        refine lv_goto (tgt := 27) hx hb dX7_within_23 (by decide) ?_
        refine lv_ior hx hb dX7_within_27 ?_
        refine lv_topi (fun v6 ev6 => ?_)
        have hf := hf v6 ev6
        refine lv_istore_n (lv' := [(1, .int v6), (0, .ref q_t), (2, .int x2)]) hx hb dX7_within_28 rfl hl (by decide) rfl (fun ls hl => ?_)
        obtain ⟨v7, ev7⟩ : ∃ y : Int32, y = x2 + 1 := ⟨_, rfl⟩
        have hf := hf v7 ev7
        refine lv_iinc (v := v7) (lv' := [(2, .int v7), (1, .int v6), (0, .ref q_t)]) hx hb dX7_within_29 hl (k := 2) rfl (by rw [ev7]; rfl) (by decide) rfl (fun ls hl => ?_)
        refine lv_goto (tgt := 4) hx hb dX7_within_32 (by decide) ?_
        exact ih v6 v7 hf ls (lv_sub hl [2, 1, 0] rfl)

def pX7_within (t_now : (Nat → Int32))  (post : Int32 → Prop) : Prop :=
  ∃ n1, pX7_within_b4 t_now post  n1 0 0

set_option maxHeartbeats 4000000 in
set_option maxRecDepth 100000 in
theorem kX7_within (l : Launch) (D : va_G) (cI cZ cJ cO : ClassId) (q_t q_t_now q_t_book q_t_sight q_t_pad q_t_had q_t_takes q_t_worths q_t_fitting q_t_wins q_t_ways q_t_image q_t_isKept : Nat) (t_shift : Int32) (t_kneels : Int32) (t_sights : Int32) (t_signs : Int32) (t_metAt : Int32) (t_metWho : Int32) (t_reason : Int32) (t_acts : Int32) (t_now : (Nat → Int32))  (post : Int32 → Prop) (hf : pX7_within t_now post) :
    Met l yX7_within wsX7_within ({ frames := 0, cells := 0, slots := 0, locals := 0 } : Room) (va_Pc [.ref q_t] (B0 D (tyL cI cZ cJ cO) [(q_t, .inr (7, [.ref q_t_book, .ref q_t_now, .int t_shift, .int t_kneels, .int t_sights, .ref q_t_sight, .int t_signs, .ref q_t_pad, .int t_metAt, .int t_metWho, .int t_reason, .int t_acts, .ref q_t_had, .ref q_t_takes, .ref q_t_worths, .ref q_t_fitting, .ref q_t_wins, .ref q_t_ways, .ref q_t_image, .ref q_t_isKept])), (q_t_now, .inl (cI, 45, .inl t_now))])) (vp_Si post) 0 0 (fun _ => False) := by
  unfold pX7_within at hf
  refine xm_0i (own := RX7) (by decide) rfl rfl (Nat.le_of_ble_eq_true rfl) (fun p e s m args below meth c Q C0 hN hK hret hP ls hl => ?_)
  obtain ⟨hx, hb, hml, hown, hts⟩ := id C0
  have hl : lv_has ls 3 [(0, .ref q_t)] := hl
  refine lv_iconst (v := 0) hx hb dX7_within_0 (by decide) ?_
  refine lv_istore_n (lv' := [(1, .int 0), (0, .ref q_t)]) hx hb dX7_within_1 rfl hl (by decide) rfl (fun ls hl => ?_)
  refine lv_iconst (v := 0) hx hb dX7_within_2 (by decide) ?_
  refine lv_istore_n (lv' := [(2, .int 0), (1, .int 0), (0, .ref q_t)]) hx hb dX7_within_3 rfl hl (by decide) rfl (fun ls hl => ?_)
  obtain ⟨n1, hf⟩ := hf
  exact wX7_within_b4 C0 hN hK q_t q_t_now q_t_book q_t_sight q_t_pad q_t_had q_t_takes q_t_worths q_t_fitting q_t_wins q_t_ways q_t_image q_t_isKept t_shift t_kneels t_sights t_signs t_metAt t_metWho t_reason t_acts t_now post hret hP   n1 0 0 hf ls (lv_sub hl [2, 1, 0] rfl)

/-! X7_lying -/
theorem mX7_lying_1 : Cond.fieldLink RX7 13 "OxenKneelModel" "now" "[I" ∈ wsX7_lying := List.mem_of_getElem? (i := 1) rfl
theorem nX7_lying_X7 : ∀ w ∈ wsX70, w ∈ wsX7_lying := fun _ h => List.mem_cons_of_mem _ (List.mem_append_right _ h)
def pX7_lying_b4 (t_now : (Nat → Int32)) (post : Int32 → Prop) : Nat → Int32 → Int32 → Prop
  | 0 => fun _ _ => False
  | n + 1 => fun x1 x2 => (30 ≤ x2 → (post x1)) ∧ (¬ 30 ≤ x2 → (vp_in (12 + x2) 45 ∧ (∀ v3 : Int32, v3 = (x1 + (t_now (12 + x2).toNatClampNeg)) → (∀ v4 : Int32, v4 = x2 + 1 → (pX7_lying_b4 t_now post  n v3 v4)))))

set_option maxHeartbeats 4000000 in
set_option maxRecDepth 100000 in
theorem wX7_lying_b4 {p : Program} {l : Launch} {e : Env} {s : State} {m : MethodId} {args : Array Value} {below : List Frame} {meth : Method} {c : Code} {Q : State → Prop} {D : va_G} {cI cZ cJ cO : ClassId} (C0 : CallFix p m c cX7_lying 3 s args wsX7_lying RX7) (hN : nw s) (hK : va_K D vwCl (tyL cI cZ cJ cO) s) (q_t q_t_now q_t_book q_t_sight q_t_pad q_t_had q_t_takes q_t_worths q_t_fitting q_t_wins q_t_ways q_t_image q_t_isKept : Nat) (t_shift : Int32) (t_kneels : Int32) (t_sights : Int32) (t_signs : Int32) (t_metAt : Int32) (t_metWho : Int32) (t_reason : Int32) (t_acts : Int32) (t_now : (Nat → Int32)) (post : Int32 → Prop) (hret : h0I p l e ({ frames := 0, cells := 0, slots := 0, locals := 0 } : Room) s m args below meth c cX7_lying Q post) (hP : va_P D vwCl [(q_t, .inr (7, [.ref q_t_book, .ref q_t_now, .int t_shift, .int t_kneels, .int t_sights, .ref q_t_sight, .int t_signs, .ref q_t_pad, .int t_metAt, .int t_metWho, .int t_reason, .int t_acts, .ref q_t_had, .ref q_t_takes, .ref q_t_worths, .ref q_t_fitting, .ref q_t_wins, .ref q_t_ways, .ref q_t_image, .ref q_t_isKept])), (q_t_now, .inl (cI, 45, .inl t_now))] s.heap) :
    ∀ (n : Nat) (x1 : Int32) (x2 : Int32), pX7_lying_b4 t_now post n x1 x2 → ∀ ls : Array Slot, lv_has ls 3 [(0, .ref q_t), (1, .int x1), (2, .int x2)] → W p l e ({ frames := 0, cells := 0, slots := 0, locals := 0 } : Room) s m args below meth c s.heap [] 0 0 Q (F0 m 4 ls []) := by
  obtain ⟨hx, hb, hml, hown, hts⟩ := id C0
  intro n
  induction n with
  | zero =>
    intro x1 x2 hf
    exact False.elim hf
  | succ n ih =>
    intro x1 x2 hf ls hl
    rw [pX7_lying_b4] at hf
    refine lv_iload_n hx hb dX7_lying_4 rfl (lv_at hl 2 rfl) ?_
    refine lv_bipush (v := 30) hx hb dX7_lying_5 (by decide) ?_
    refine lv_icmp_ge (tgt := 28) hx hb dX7_lying_7 (by decide) (fun c1 => ?_) (fun c1 => ?_)
    · have hf := hf.1 c1
      refine lv_iload_n hx hb dX7_lying_28 rfl (lv_at hl 1 rfl) ?_
      exact hret 29 ls x1 dX7_lying_29 hf
    · have hf := hf.2 c1
      refine lv_iload_n hx hb dX7_lying_10 rfl (lv_at hl 1 rfl) ?_
      refine lv_aload_n hx hb dX7_lying_11 rfl (lv_at hl 0 rfl) ?_
      refine va_get (D := D) (ci := 7) (v := .ref q_t_now) (C := RX7) (T := TX7) (N := 20) hx hb hts nX7_lying_X7 hown hK hP 0 rfl rfl 1 (by decide) (hts _ mX7_lying_1) (fun _ h9 => h9) rfl dX7_lying_12 ?_
      refine lv_bipush (v := 12) hx hb dX7_lying_15 (by decide) ?_
      refine lv_iload_n hx hb dX7_lying_17 rfl (lv_at hl 2 rfl) ?_
      refine lv_iadd hx hb dX7_lying_18 ?_
      have g2 := hf.1
      have hf := hf.2
      refine xa_iald hx hb hK hP 1 0 rfl rfl (j := (12 + x2).toNatClampNeg) rfl g2 dX7_lying_19 ?_
      refine lv_iadd hx hb dX7_lying_20 ?_
      refine lv_topi (fun v3 ev3 => ?_)
      have hf := hf v3 ev3
      refine lv_istore_n (lv' := [(1, .int v3), (0, .ref q_t), (2, .int x2)]) hx hb dX7_lying_21 rfl hl (by decide) rfl (fun ls hl => ?_)
      obtain ⟨v4, ev4⟩ : ∃ y : Int32, y = x2 + 1 := ⟨_, rfl⟩
      have hf := hf v4 ev4
      refine lv_iinc (v := v4) (lv' := [(2, .int v4), (1, .int v3), (0, .ref q_t)]) hx hb dX7_lying_22 hl (k := 2) rfl (by rw [ev4]; rfl) (by decide) rfl (fun ls hl => ?_)
      refine lv_goto (tgt := 4) hx hb dX7_lying_25 (by decide) ?_
      exact ih v3 v4 hf ls (lv_sub hl [2, 1, 0] rfl)

def pX7_lying (t_now : (Nat → Int32))  (post : Int32 → Prop) : Prop :=
  ∃ n1, pX7_lying_b4 t_now post  n1 0 0

set_option maxHeartbeats 4000000 in
set_option maxRecDepth 100000 in
theorem kX7_lying (l : Launch) (D : va_G) (cI cZ cJ cO : ClassId) (q_t q_t_now q_t_book q_t_sight q_t_pad q_t_had q_t_takes q_t_worths q_t_fitting q_t_wins q_t_ways q_t_image q_t_isKept : Nat) (t_shift : Int32) (t_kneels : Int32) (t_sights : Int32) (t_signs : Int32) (t_metAt : Int32) (t_metWho : Int32) (t_reason : Int32) (t_acts : Int32) (t_now : (Nat → Int32))  (post : Int32 → Prop) (hf : pX7_lying t_now post) :
    Met l yX7_lying wsX7_lying ({ frames := 0, cells := 0, slots := 0, locals := 0 } : Room) (va_Pc [.ref q_t] (B0 D (tyL cI cZ cJ cO) [(q_t, .inr (7, [.ref q_t_book, .ref q_t_now, .int t_shift, .int t_kneels, .int t_sights, .ref q_t_sight, .int t_signs, .ref q_t_pad, .int t_metAt, .int t_metWho, .int t_reason, .int t_acts, .ref q_t_had, .ref q_t_takes, .ref q_t_worths, .ref q_t_fitting, .ref q_t_wins, .ref q_t_ways, .ref q_t_image, .ref q_t_isKept])), (q_t_now, .inl (cI, 45, .inl t_now))])) (vp_Si post) 0 0 (fun _ => False) := by
  unfold pX7_lying at hf
  refine xm_0i (own := RX7) (by decide) rfl rfl (Nat.le_of_ble_eq_true rfl) (fun p e s m args below meth c Q C0 hN hK hret hP ls hl => ?_)
  obtain ⟨hx, hb, hml, hown, hts⟩ := id C0
  have hl : lv_has ls 3 [(0, .ref q_t)] := hl
  refine lv_iconst (v := 0) hx hb dX7_lying_0 (by decide) ?_
  refine lv_istore_n (lv' := [(1, .int 0), (0, .ref q_t)]) hx hb dX7_lying_1 rfl hl (by decide) rfl (fun ls hl => ?_)
  refine lv_iconst (v := 0) hx hb dX7_lying_2 (by decide) ?_
  refine lv_istore_n (lv' := [(2, .int 0), (1, .int 0), (0, .ref q_t)]) hx hb dX7_lying_3 rfl hl (by decide) rfl (fun ls hl => ?_)
  obtain ⟨n1, hf⟩ := hf
  exact wX7_lying_b4 C0 hN hK q_t q_t_now q_t_book q_t_sight q_t_pad q_t_had q_t_takes q_t_worths q_t_fitting q_t_wins q_t_ways q_t_image q_t_isKept t_shift t_kneels t_sights t_signs t_metAt t_metWho t_reason t_acts t_now post hret hP   n1 0 0 hf ls (lv_sub hl [2, 1, 0] rfl)

/-! X7_shift -/
theorem mX7_shift_1 : Cond.fieldLink RX7 16 "OxenKneelModel" "shift" "I" ∈ wsX7_shift := List.mem_of_getElem? (i := 1) rfl
theorem nX7_shift_X7 : ∀ w ∈ wsX70, w ∈ wsX7_shift := fun _ h => List.mem_cons_of_mem _ (List.mem_append_right _ h)
def pX7_shift (t_shift : Int32) (t_metAt : Int32) (t_metWho : Int32) (t_book : (Nat → Int32)) (t_now : (Nat → Int32)) (a1 : Int32) (post : Int32 → (Int32 × Int32 × Int32 × (Nat → Int32)) → Prop) : Prop :=
  pX7_in a1 0 30 (fun r1 => (¬ r1 = 0 → (pX7_asNow t_metAt t_metWho t_book t_now (fun (u4 : Int32 × Int32 × (Nat → Int32)) => pX7_within u4.2.2 (fun r5 => (¬ r5 = 0 → (post (-3) (t_shift, u4.1, u4.2.1, u4.2.2))) ∧ (r5 = 0 → (pX7_lying u4.2.2 (fun r7 => (r7 = 0 → (post t_shift (a1, u4.1, u4.2.1, u4.2.2))) ∧ (¬ r7 = 0 → (post (-3) (t_shift, u4.1, u4.2.1, u4.2.2)))))))))) ∧ (r1 = 0 → (post (-2) (t_shift, t_metAt, t_metWho, t_now))))

set_option maxHeartbeats 4000000 in
set_option maxRecDepth 100000 in
theorem kX7_shift (l : Launch) (D : va_G) (cI cZ cJ cO : ClassId) (q_t q_t_book q_t_now q_t_sight q_t_pad q_t_had q_t_takes q_t_worths q_t_fitting q_t_wins q_t_ways q_t_image q_t_isKept : Nat) (sz : Nat) (t_kneels : Int32) (t_sights : Int32) (t_signs : Int32) (t_reason : Int32) (t_acts : Int32) (t_shift : Int32) (t_metAt : Int32) (t_metWho : Int32) (t_book : (Nat → Int32)) (t_now : (Nat → Int32)) (a1 : Int32) (post : Int32 → (Int32 × Int32 × Int32 × (Nat → Int32)) → Prop) (hf : pX7_shift t_shift t_metAt t_metWho t_book t_now a1 post) :
    Met l yX7_shift wsX7_shift ({ frames := 1, cells := 0, slots := 0, locals := 22 } : Room) (va_Pc [.ref q_t, .int a1] (B1 D (tyL cI cZ cJ cO) [(q_t, .inr (7, [.ref q_t_book, .ref q_t_now, .int t_shift, .int t_kneels, .int t_sights, .ref q_t_sight, .int t_signs, .ref q_t_pad, .int t_metAt, .int t_metWho, .int t_reason, .int t_acts, .ref q_t_had, .ref q_t_takes, .ref q_t_worths, .ref q_t_fitting, .ref q_t_wins, .ref q_t_ways, .ref q_t_image, .ref q_t_isKept])), (q_t_book, .inl (cI, 45, .inl t_book)), (q_t_now, .inl (cI, 45, .inl t_now))] sz)) (va_Qi post (fun u t => E1 D (va_A [(q_t, .inr (7, [.ref q_t_book, .ref q_t_now, .int t_shift, .int t_kneels, .int t_sights, .ref q_t_sight, .int t_signs, .ref q_t_pad, .int t_metAt, .int t_metWho, .int t_reason, .int t_acts, .ref q_t_had, .ref q_t_takes, .ref q_t_worths, .ref q_t_fitting, .ref q_t_wins, .ref q_t_ways, .ref q_t_image, .ref q_t_isKept])), (q_t_book, .inl (cI, 45, .inl t_book)), (q_t_now, .inl (cI, 45, .inl t_now))] sz) ((fun u : Int32 × Int32 × Int32 × (Nat → Int32) => [(q_t, .inr (7, [.ref q_t_book, .ref q_t_now, .int u.1, .int t_kneels, .int t_sights, .ref q_t_sight, .int t_signs, .ref q_t_pad, .int u.2.1, .int u.2.2.1, .int t_reason, .int t_acts, .ref q_t_had, .ref q_t_takes, .ref q_t_worths, .ref q_t_fitting, .ref q_t_wins, .ref q_t_ways, .ref q_t_image, .ref q_t_isKept])), (q_t_book, .inl (cI, 45, .inl t_book)), (q_t_now, .inl (cI, 45, .inl u.2.2.2))]) u) t) (va_A [(q_t, .inr (7, [.ref q_t_book, .ref q_t_now, .int t_shift, .int t_kneels, .int t_sights, .ref q_t_sight, .int t_signs, .ref q_t_pad, .int t_metAt, .int t_metWho, .int t_reason, .int t_acts, .ref q_t_had, .ref q_t_takes, .ref q_t_worths, .ref q_t_fitting, .ref q_t_wins, .ref q_t_ways, .ref q_t_image, .ref q_t_isKept])), (q_t_book, .inl (cI, 45, .inl t_book)), (q_t_now, .inl (cI, 45, .inl t_now))] sz)) 0 0 (va_A [(q_t, .inr (7, [.ref q_t_book, .ref q_t_now, .int t_shift, .int t_kneels, .int t_sights, .ref q_t_sight, .int t_signs, .ref q_t_pad, .int t_metAt, .int t_metWho, .int t_reason, .int t_acts, .ref q_t_had, .ref q_t_takes, .ref q_t_worths, .ref q_t_fitting, .ref q_t_wins, .ref q_t_ways, .ref q_t_image, .ref q_t_isKept])), (q_t_book, .inl (cI, 45, .inl t_book)), (q_t_now, .inl (cI, 45, .inl t_now))] sz) := by
  unfold pX7_shift at hf
  refine xm_1i (own := RX7) (by decide) rfl rfl (Nat.le_of_ble_eq_true rfl) (fun p e s m args below meth c Q A C0 hN hK hA hret hP hD ls hl => ?_)
  obtain ⟨hx, hb, hml, hown, hts⟩ := id C0
  have hl : lv_has ls 3 [(0, .ref q_t), (1, .int a1)] := hl
  have hS : va_S A s.heap s.heap [] := va_S.rf
  obtain ⟨H, hHe⟩ : ∃ H, H = s.heap := ⟨_, rfl⟩
  obtain ⟨locs, hLe⟩ : ∃ L : List Loc, L = [] := ⟨_, rfl⟩
  rw [← hLe]
  rw [← hLe] at hS
  have hP : va_P D vwCl [(q_t, .inr (7, [.ref q_t_book, .ref q_t_now, .int t_shift, .int t_kneels, .int t_sights, .ref q_t_sight, .int t_signs, .ref q_t_pad, .int t_metAt, .int t_metWho, .int t_reason, .int t_acts, .ref q_t_had, .ref q_t_takes, .ref q_t_worths, .ref q_t_fitting, .ref q_t_wins, .ref q_t_ways, .ref q_t_image, .ref q_t_isKept])), (q_t_book, .inl (cI, 45, .inl t_book)), (q_t_now, .inl (cI, 45, .inl t_now))] H := by rw [hHe]; exact hP
  have hS : va_S A s.heap H locs := by rw [hHe]; exact hS
  suffices hgo : W p l e ({ frames := 1, cells := 0, slots := 0, locals := 22 } : Room) s m args below meth c H locs 0 0 Q (F0 m 0 ls []) by rw [← hHe]; exact hgo
  clear hHe hLe
  refine lv_iload_n hx hb dX7_shift_0 rfl (lv_at hl 1 rfl) ?_
  refine lv_iconst (v := 0) hx hb dX7_shift_1 (by decide) ?_
  refine lv_bipush (v := 30) hx hb dX7_shift_2 (by decide) ?_
  refine xs_i (va_runS (As := [.int a1, .int 0, .int 30]) (rest := []) ⟨hx, hb, hml, hown, hts⟩ (kX7_in l D cI cZ cJ cO a1 0 30 _ hf) (va_cwS 3 hts gX7_shift_X7_in rfl rfl rfl (by decide +kernel) ⟨Nat.le_of_ble_eq_true rfl, Nat.le_of_ble_eq_true rfl⟩) (B0_pre (hP.sub (ws' := []) [] rfl) hK hN) rfl rfl hl.1 rfl (lv_room (Nat.le_of_ble_eq_true rfl)) dX7_shift_4 ⟨Nat.zero_le _, Nat.zero_le _⟩) (fun r1 hf => ?_)
  refine lv_if_ne (tgt := 13) hx hb dX7_shift_7 (by decide) (fun c2 => ?_) (fun c2 => ?_)
  · have hf := hf.1 c2
    refine lv_aload_n hx hb dX7_shift_13 rfl (lv_at hl 0 rfl) ?_
    refine xc_v (wr := []) (va_runV (As := []) (rest := []) ⟨hx, hb, hml, hown, hts⟩ (kX7_asNow l D cI cZ cJ cO q_t q_t_book q_t_now q_t_sight q_t_pad q_t_had q_t_takes q_t_worths q_t_fitting q_t_wins q_t_ways q_t_image q_t_isKept H.size t_shift t_kneels t_sights t_signs t_reason t_acts t_metAt t_metWho t_book t_now _ hf) (cwV 0 hts gX7_shift_X7_asNow rfl rfl rfl (by decide +kernel) ⟨Nat.le_of_ble_eq_true rfl, Nat.le_of_ble_eq_true rfl⟩) (B1_preV (ci := 7) (q0 := 0) hP rfl rfl (hP.sub (ws' := [(q_t, .inr (7, [.ref q_t_book, .ref q_t_now, .int t_shift, .int t_kneels, .int t_sights, .ref q_t_sight, .int t_signs, .ref q_t_pad, .int t_metAt, .int t_metWho, .int t_reason, .int t_acts, .ref q_t_had, .ref q_t_takes, .ref q_t_worths, .ref q_t_fitting, .ref q_t_wins, .ref q_t_ways, .ref q_t_image, .ref q_t_isKept])), (q_t_book, .inl (cI, 45, .inl t_book)), (q_t_now, .inl (cI, 45, .inl t_now))]) [0, 1, 2] rfl) hK hN (hD.sub (ws' := [(q_t, .inr (7, [.ref q_t_book, .ref q_t_now, .int t_shift, .int t_kneels, .int t_sights, .ref q_t_sight, .int t_signs, .ref q_t_pad, .int t_metAt, .int t_metWho, .int t_reason, .int t_acts, .ref q_t_had, .ref q_t_takes, .ref q_t_worths, .ref q_t_fitting, .ref q_t_wins, .ref q_t_ways, .ref q_t_image, .ref q_t_isKept])), (q_t_book, .inl (cI, 45, .inl t_book)), (q_t_now, .inl (cI, 45, .inl t_now))]) [0, 1, 2] (by decide) rfl)) rfl rfl hl.1 rfl (lv_room (Nat.le_of_ble_eq_true rfl)) dX7_shift_14 ⟨Nat.zero_le _, Nat.zero_le _⟩) hP hD hS hA [0, 1, 2] [] rfl rfl (by decide) (by decide) (fun u4 H locs hf hP hD hS => ?_)
    have hP : va_P D vwCl [(q_t, .inr (7, [.ref q_t_book, .ref q_t_now, .int t_shift, .int t_kneels, .int t_sights, .ref q_t_sight, .int t_signs, .ref q_t_pad, .int u4.1, .int u4.2.1, .int t_reason, .int t_acts, .ref q_t_had, .ref q_t_takes, .ref q_t_worths, .ref q_t_fitting, .ref q_t_wins, .ref q_t_ways, .ref q_t_image, .ref q_t_isKept])), (q_t_book, .inl (cI, 45, .inl t_book)), (q_t_now, .inl (cI, 45, .inl u4.2.2))] H := hP
    have hD : va_D A [(q_t, .inr (7, [.ref q_t_book, .ref q_t_now, .int t_shift, .int t_kneels, .int t_sights, .ref q_t_sight, .int t_signs, .ref q_t_pad, .int u4.1, .int u4.2.1, .int t_reason, .int t_acts, .ref q_t_had, .ref q_t_takes, .ref q_t_worths, .ref q_t_fitting, .ref q_t_wins, .ref q_t_ways, .ref q_t_image, .ref q_t_isKept])), (q_t_book, .inl (cI, 45, .inl t_book)), (q_t_now, .inl (cI, 45, .inl u4.2.2))] := hD
    refine lv_aload_n hx hb dX7_shift_17 rfl (lv_at hl 0 rfl) ?_
    refine xs_i (va_runV (As := []) (rest := []) ⟨hx, hb, hml, hown, hts⟩ (kX7_within l D cI cZ cJ cO q_t q_t_now q_t_book q_t_sight q_t_pad q_t_had q_t_takes q_t_worths q_t_fitting q_t_wins q_t_ways q_t_image q_t_isKept t_shift t_kneels t_sights t_signs u4.1 u4.2.1 t_reason t_acts u4.2.2 _ hf) (cwV 0 hts gX7_shift_X7_within rfl rfl rfl (by decide +kernel) ⟨Nat.le_of_ble_eq_true rfl, Nat.le_of_ble_eq_true rfl⟩) (B0_preV (ci := 7) (q0 := 0) hP rfl rfl (hP.sub (ws' := [(q_t, .inr (7, [.ref q_t_book, .ref q_t_now, .int t_shift, .int t_kneels, .int t_sights, .ref q_t_sight, .int t_signs, .ref q_t_pad, .int u4.1, .int u4.2.1, .int t_reason, .int t_acts, .ref q_t_had, .ref q_t_takes, .ref q_t_worths, .ref q_t_fitting, .ref q_t_wins, .ref q_t_ways, .ref q_t_image, .ref q_t_isKept])), (q_t_now, .inl (cI, 45, .inl u4.2.2))]) [0, 2] rfl) hK hN) rfl rfl hl.1 rfl (lv_room (Nat.le_of_ble_eq_true rfl)) dX7_shift_18 ⟨Nat.zero_le _, Nat.zero_le _⟩) (fun r5 hf => ?_)
    refine lv_if_ne (tgt := 31) hx hb dX7_shift_21 (by decide) (fun c6 => ?_) (fun c6 => ?_)
    · have hf := hf.1 c6
      refine lv_bipush (v := (-3)) hx hb dX7_shift_31 (by decide) ?_
      exact hret 33 ls H locs (-3) (t_shift, u4.1, u4.2.1, u4.2.2) dX7_shift_33 hf hP hD hS
    · have hf := hf.2 c6
      refine lv_aload_n hx hb dX7_shift_24 rfl (lv_at hl 0 rfl) ?_
      refine xs_i (va_runV (As := []) (rest := []) ⟨hx, hb, hml, hown, hts⟩ (kX7_lying l D cI cZ cJ cO q_t q_t_now q_t_book q_t_sight q_t_pad q_t_had q_t_takes q_t_worths q_t_fitting q_t_wins q_t_ways q_t_image q_t_isKept t_shift t_kneels t_sights t_signs u4.1 u4.2.1 t_reason t_acts u4.2.2 _ hf) (cwV 0 hts gX7_shift_X7_lying rfl rfl rfl (by decide +kernel) ⟨Nat.le_of_ble_eq_true rfl, Nat.le_of_ble_eq_true rfl⟩) (B0_preV (ci := 7) (q0 := 0) hP rfl rfl (hP.sub (ws' := [(q_t, .inr (7, [.ref q_t_book, .ref q_t_now, .int t_shift, .int t_kneels, .int t_sights, .ref q_t_sight, .int t_signs, .ref q_t_pad, .int u4.1, .int u4.2.1, .int t_reason, .int t_acts, .ref q_t_had, .ref q_t_takes, .ref q_t_worths, .ref q_t_fitting, .ref q_t_wins, .ref q_t_ways, .ref q_t_image, .ref q_t_isKept])), (q_t_now, .inl (cI, 45, .inl u4.2.2))]) [0, 2] rfl) hK hN) rfl rfl hl.1 rfl (lv_room (Nat.le_of_ble_eq_true rfl)) dX7_shift_25 ⟨Nat.zero_le _, Nat.zero_le _⟩) (fun r7 hf => ?_)
      refine lv_if_eq (tgt := 34) hx hb dX7_shift_28 (by decide) (fun c8 => ?_) (fun c8 => ?_)
      · have hf := hf.1 c8
        refine lv_aload_n hx hb dX7_shift_34 rfl (lv_at hl 0 rfl) ?_
        refine va_get (D := D) (ci := 7) (v := .int t_shift) (C := RX7) (T := TX7) (N := 20) hx hb hts nX7_shift_X7 hown hK hP 0 rfl rfl 2 (by decide) (hts _ mX7_shift_1) (fun _ h9 => h9) rfl dX7_shift_35 ?_
        refine lv_istore_n (lv' := [(2, .int t_shift), (0, .ref q_t), (1, .int a1)]) hx hb dX7_shift_38 rfl hl (by decide) rfl (fun ls hl => ?_)
        refine lv_aload_n hx hb dX7_shift_39 rfl (lv_at hl 1 rfl) ?_
        refine lv_iload_n hx hb dX7_shift_40 rfl (lv_at hl 2 rfl) ?_
        refine va_put (D := D) (ci := 7) (v := .int a1) (ty := .int) (C := RX7) (T := TX7) (N := 20) hx hb hts nX7_shift_X7 tyX7 tyX7_ok nmX7 hown hK hP hD hS 0 rfl rfl 2 (by decide) (hts _ mX7_shift_1) (fun _ h9 => h9) rfl (by decide +kernel) rfl rfl (Nat.le_of_ble_eq_true rfl) dX7_shift_41 (fun H locs hP hD hS => ?_)
        have hP : va_P D vwCl [(q_t, .inr (7, [.ref q_t_book, .ref q_t_now, .int a1, .int t_kneels, .int t_sights, .ref q_t_sight, .int t_signs, .ref q_t_pad, .int u4.1, .int u4.2.1, .int t_reason, .int t_acts, .ref q_t_had, .ref q_t_takes, .ref q_t_worths, .ref q_t_fitting, .ref q_t_wins, .ref q_t_ways, .ref q_t_image, .ref q_t_isKept])), (q_t_book, .inl (cI, 45, .inl t_book)), (q_t_now, .inl (cI, 45, .inl u4.2.2))] H := hP
        have hD : va_D A [(q_t, .inr (7, [.ref q_t_book, .ref q_t_now, .int a1, .int t_kneels, .int t_sights, .ref q_t_sight, .int t_signs, .ref q_t_pad, .int u4.1, .int u4.2.1, .int t_reason, .int t_acts, .ref q_t_had, .ref q_t_takes, .ref q_t_worths, .ref q_t_fitting, .ref q_t_wins, .ref q_t_ways, .ref q_t_image, .ref q_t_isKept])), (q_t_book, .inl (cI, 45, .inl t_book)), (q_t_now, .inl (cI, 45, .inl u4.2.2))] := hD
        refine lv_iload_n hx hb dX7_shift_44 rfl (lv_at hl 0 rfl) ?_
        exact hret 45 ls H locs t_shift (a1, u4.1, u4.2.1, u4.2.2) dX7_shift_45 hf hP hD hS
      · have hf := hf.2 c8
        refine lv_bipush (v := (-3)) hx hb dX7_shift_31 (by decide) ?_
        exact hret 33 ls H locs (-3) (t_shift, u4.1, u4.2.1, u4.2.2) dX7_shift_33 hf hP hD hS
  · have hf := hf.2 c2
    refine lv_bipush (v := (-2)) hx hb dX7_shift_10 (by decide) ?_
    exact hret 12 ls H locs (-2) (t_shift, t_metAt, t_metWho, t_now) dX7_shift_12 hf hP hD hS

/-! X7_kneel -/
theorem mX7_kneel_1 : Cond.fieldLink RX7 20 "OxenKneelModel" "kneels" "I" ∈ wsX7_kneel := List.mem_of_getElem? (i := 1) rfl
theorem nX7_kneel_X7 : ∀ w ∈ wsX70, w ∈ wsX7_kneel := fun _ h => List.mem_cons_of_mem _ (List.mem_append_right _ h)
def pX7_kneel (t_kneels : Int32) (a1 : Int32) (post : Int32 → (Int32) → Prop) : Prop :=
  pX7_in a1 0 364 (fun r1 => (¬ r1 = 0 → (post t_kneels a1)) ∧ (r1 = 0 → (post (-2) t_kneels)))

set_option maxHeartbeats 4000000 in
set_option maxRecDepth 100000 in
theorem kX7_kneel (l : Launch) (D : va_G) (cI cZ cJ cO : ClassId) (q_t q_t_book q_t_now q_t_sight q_t_pad q_t_had q_t_takes q_t_worths q_t_fitting q_t_wins q_t_ways q_t_image q_t_isKept : Nat) (sz : Nat) (t_shift : Int32) (t_sights : Int32) (t_signs : Int32) (t_metAt : Int32) (t_metWho : Int32) (t_reason : Int32) (t_acts : Int32) (t_kneels : Int32) (a1 : Int32) (post : Int32 → (Int32) → Prop) (hf : pX7_kneel t_kneels a1 post) :
    Met l yX7_kneel wsX7_kneel ({ frames := 1, cells := 0, slots := 0, locals := 22 } : Room) (va_Pc [.ref q_t, .int a1] (B1 D (tyL cI cZ cJ cO) [(q_t, .inr (7, [.ref q_t_book, .ref q_t_now, .int t_shift, .int t_kneels, .int t_sights, .ref q_t_sight, .int t_signs, .ref q_t_pad, .int t_metAt, .int t_metWho, .int t_reason, .int t_acts, .ref q_t_had, .ref q_t_takes, .ref q_t_worths, .ref q_t_fitting, .ref q_t_wins, .ref q_t_ways, .ref q_t_image, .ref q_t_isKept]))] sz)) (va_Qi post (fun u t => E1 D (va_A [(q_t, .inr (7, [.ref q_t_book, .ref q_t_now, .int t_shift, .int t_kneels, .int t_sights, .ref q_t_sight, .int t_signs, .ref q_t_pad, .int t_metAt, .int t_metWho, .int t_reason, .int t_acts, .ref q_t_had, .ref q_t_takes, .ref q_t_worths, .ref q_t_fitting, .ref q_t_wins, .ref q_t_ways, .ref q_t_image, .ref q_t_isKept]))] sz) ((fun u : Int32 => [(q_t, .inr (7, [.ref q_t_book, .ref q_t_now, .int t_shift, .int u, .int t_sights, .ref q_t_sight, .int t_signs, .ref q_t_pad, .int t_metAt, .int t_metWho, .int t_reason, .int t_acts, .ref q_t_had, .ref q_t_takes, .ref q_t_worths, .ref q_t_fitting, .ref q_t_wins, .ref q_t_ways, .ref q_t_image, .ref q_t_isKept]))]) u) t) (va_A [(q_t, .inr (7, [.ref q_t_book, .ref q_t_now, .int t_shift, .int t_kneels, .int t_sights, .ref q_t_sight, .int t_signs, .ref q_t_pad, .int t_metAt, .int t_metWho, .int t_reason, .int t_acts, .ref q_t_had, .ref q_t_takes, .ref q_t_worths, .ref q_t_fitting, .ref q_t_wins, .ref q_t_ways, .ref q_t_image, .ref q_t_isKept]))] sz)) 0 0 (va_A [(q_t, .inr (7, [.ref q_t_book, .ref q_t_now, .int t_shift, .int t_kneels, .int t_sights, .ref q_t_sight, .int t_signs, .ref q_t_pad, .int t_metAt, .int t_metWho, .int t_reason, .int t_acts, .ref q_t_had, .ref q_t_takes, .ref q_t_worths, .ref q_t_fitting, .ref q_t_wins, .ref q_t_ways, .ref q_t_image, .ref q_t_isKept]))] sz) := by
  unfold pX7_kneel at hf
  refine xm_1i (own := RX7) (by decide) rfl rfl (Nat.le_of_ble_eq_true rfl) (fun p e s m args below meth c Q A C0 hN hK hA hret hP hD ls hl => ?_)
  obtain ⟨hx, hb, hml, hown, hts⟩ := id C0
  have hl : lv_has ls 3 [(0, .ref q_t), (1, .int a1)] := hl
  have hS : va_S A s.heap s.heap [] := va_S.rf
  obtain ⟨H, hHe⟩ : ∃ H, H = s.heap := ⟨_, rfl⟩
  obtain ⟨locs, hLe⟩ : ∃ L : List Loc, L = [] := ⟨_, rfl⟩
  rw [← hLe]
  rw [← hLe] at hS
  have hP : va_P D vwCl [(q_t, .inr (7, [.ref q_t_book, .ref q_t_now, .int t_shift, .int t_kneels, .int t_sights, .ref q_t_sight, .int t_signs, .ref q_t_pad, .int t_metAt, .int t_metWho, .int t_reason, .int t_acts, .ref q_t_had, .ref q_t_takes, .ref q_t_worths, .ref q_t_fitting, .ref q_t_wins, .ref q_t_ways, .ref q_t_image, .ref q_t_isKept]))] H := by rw [hHe]; exact hP
  have hS : va_S A s.heap H locs := by rw [hHe]; exact hS
  suffices hgo : W p l e ({ frames := 1, cells := 0, slots := 0, locals := 22 } : Room) s m args below meth c H locs 0 0 Q (F0 m 0 ls []) by rw [← hHe]; exact hgo
  clear hHe hLe
  refine lv_iload_n hx hb dX7_kneel_0 rfl (lv_at hl 1 rfl) ?_
  refine lv_iconst (v := 0) hx hb dX7_kneel_1 (by decide) ?_
  refine lv_sipush (v := 364) hx hb dX7_kneel_2 (by decide) ?_
  refine xs_i (va_runS (As := [.int a1, .int 0, .int 364]) (rest := []) ⟨hx, hb, hml, hown, hts⟩ (kX7_in l D cI cZ cJ cO a1 0 364 _ hf) (va_cwS 3 hts gX7_kneel_X7_in rfl rfl rfl (by decide +kernel) ⟨Nat.le_of_ble_eq_true rfl, Nat.le_of_ble_eq_true rfl⟩) (B0_pre (hP.sub (ws' := []) [] rfl) hK hN) rfl rfl hl.1 rfl (lv_room (Nat.le_of_ble_eq_true rfl)) dX7_kneel_5 ⟨Nat.zero_le _, Nat.zero_le _⟩) (fun r1 hf => ?_)
  refine lv_if_ne (tgt := 14) hx hb dX7_kneel_8 (by decide) (fun c2 => ?_) (fun c2 => ?_)
  · have hf := hf.1 c2
    refine lv_aload_n hx hb dX7_kneel_14 rfl (lv_at hl 0 rfl) ?_
    refine va_get (D := D) (ci := 7) (v := .int t_kneels) (C := RX7) (T := TX7) (N := 20) hx hb hts nX7_kneel_X7 hown hK hP 0 rfl rfl 3 (by decide) (hts _ mX7_kneel_1) (fun _ h9 => h9) rfl dX7_kneel_15 ?_
    refine lv_istore_n (lv' := [(2, .int t_kneels), (0, .ref q_t), (1, .int a1)]) hx hb dX7_kneel_18 rfl hl (by decide) rfl (fun ls hl => ?_)
    refine lv_aload_n hx hb dX7_kneel_19 rfl (lv_at hl 1 rfl) ?_
    refine lv_iload_n hx hb dX7_kneel_20 rfl (lv_at hl 2 rfl) ?_
    refine va_put (D := D) (ci := 7) (v := .int a1) (ty := .int) (C := RX7) (T := TX7) (N := 20) hx hb hts nX7_kneel_X7 tyX7 tyX7_ok nmX7 hown hK hP hD hS 0 rfl rfl 3 (by decide) (hts _ mX7_kneel_1) (fun _ h9 => h9) rfl (by decide +kernel) rfl rfl (Nat.le_of_ble_eq_true rfl) dX7_kneel_21 (fun H locs hP hD hS => ?_)
    have hP : va_P D vwCl [(q_t, .inr (7, [.ref q_t_book, .ref q_t_now, .int t_shift, .int a1, .int t_sights, .ref q_t_sight, .int t_signs, .ref q_t_pad, .int t_metAt, .int t_metWho, .int t_reason, .int t_acts, .ref q_t_had, .ref q_t_takes, .ref q_t_worths, .ref q_t_fitting, .ref q_t_wins, .ref q_t_ways, .ref q_t_image, .ref q_t_isKept]))] H := hP
    have hD : va_D A [(q_t, .inr (7, [.ref q_t_book, .ref q_t_now, .int t_shift, .int a1, .int t_sights, .ref q_t_sight, .int t_signs, .ref q_t_pad, .int t_metAt, .int t_metWho, .int t_reason, .int t_acts, .ref q_t_had, .ref q_t_takes, .ref q_t_worths, .ref q_t_fitting, .ref q_t_wins, .ref q_t_ways, .ref q_t_image, .ref q_t_isKept]))] := hD
    refine lv_iload_n hx hb dX7_kneel_24 rfl (lv_at hl 0 rfl) ?_
    exact hret 25 ls H locs t_kneels a1 dX7_kneel_25 hf hP hD hS
  · have hf := hf.2 c2
    refine lv_bipush (v := (-2)) hx hb dX7_kneel_11 (by decide) ?_
    exact hret 13 ls H locs (-2) t_kneels dX7_kneel_13 hf hP hD hS

/-! X7_clock -/
theorem mX7_clock_1 : Cond.fieldLink RX7 7 "OxenKneelModel" "book" "[I" ∈ wsX7_clock := List.mem_of_getElem? (i := 1) rfl
theorem nX7_clock_X7 : ∀ w ∈ wsX70, w ∈ wsX7_clock := fun _ h => List.mem_cons_of_mem _ (List.mem_append_right _ h)
def pX7_clock (t_book : (Nat → Int32)) (a1 : Int32) (a2 : Int32) (a3 : Int32) (post : Int32 → ((Nat → Int32)) → Prop) : Prop :=
  pX7_in a1 0 364 (fun r1 => (r1 = 0 → (post (-2) t_book)) ∧ (¬ r1 = 0 → (pX7_in a2 0 23 (fun r3 => (r3 = 0 → (post (-2) t_book)) ∧ (¬ r3 = 0 → (pX7_in a3 0 99 (fun r5 => (¬ r5 = 0 → (∀ v7 : Int32, v7 = (((10000 * (t_book 42)) + (100 * (t_book 43))) + (t_book 44)) → (post v7 (upd (upd (upd t_book 42 a1) 43 a2) 44 a3)))) ∧ (r5 = 0 → (post (-2) t_book)))))))))

set_option maxHeartbeats 4000000 in
set_option maxRecDepth 100000 in
theorem kX7_clock (l : Launch) (D : va_G) (cI cZ cJ cO : ClassId) (q_t q_t_book q_t_now q_t_sight q_t_pad q_t_had q_t_takes q_t_worths q_t_fitting q_t_wins q_t_ways q_t_image q_t_isKept : Nat) (sz : Nat) (t_shift : Int32) (t_kneels : Int32) (t_sights : Int32) (t_signs : Int32) (t_metAt : Int32) (t_metWho : Int32) (t_reason : Int32) (t_acts : Int32) (t_book : (Nat → Int32)) (a1 : Int32) (a2 : Int32) (a3 : Int32) (post : Int32 → ((Nat → Int32)) → Prop) (hf : pX7_clock t_book a1 a2 a3 post) :
    Met l yX7_clock wsX7_clock ({ frames := 1, cells := 0, slots := 0, locals := 22 } : Room) (va_Pc [.ref q_t, .int a1, .int a2, .int a3] (B1 D (tyL cI cZ cJ cO) [(q_t, .inr (7, [.ref q_t_book, .ref q_t_now, .int t_shift, .int t_kneels, .int t_sights, .ref q_t_sight, .int t_signs, .ref q_t_pad, .int t_metAt, .int t_metWho, .int t_reason, .int t_acts, .ref q_t_had, .ref q_t_takes, .ref q_t_worths, .ref q_t_fitting, .ref q_t_wins, .ref q_t_ways, .ref q_t_image, .ref q_t_isKept])), (q_t_book, .inl (cI, 45, .inl t_book))] sz)) (va_Qi post (fun u t => E1 D (va_A [(q_t, .inr (7, [.ref q_t_book, .ref q_t_now, .int t_shift, .int t_kneels, .int t_sights, .ref q_t_sight, .int t_signs, .ref q_t_pad, .int t_metAt, .int t_metWho, .int t_reason, .int t_acts, .ref q_t_had, .ref q_t_takes, .ref q_t_worths, .ref q_t_fitting, .ref q_t_wins, .ref q_t_ways, .ref q_t_image, .ref q_t_isKept])), (q_t_book, .inl (cI, 45, .inl t_book))] sz) ((fun u : (Nat → Int32) => [(q_t, .inr (7, [.ref q_t_book, .ref q_t_now, .int t_shift, .int t_kneels, .int t_sights, .ref q_t_sight, .int t_signs, .ref q_t_pad, .int t_metAt, .int t_metWho, .int t_reason, .int t_acts, .ref q_t_had, .ref q_t_takes, .ref q_t_worths, .ref q_t_fitting, .ref q_t_wins, .ref q_t_ways, .ref q_t_image, .ref q_t_isKept])), (q_t_book, .inl (cI, 45, .inl u))]) u) t) (va_A [(q_t, .inr (7, [.ref q_t_book, .ref q_t_now, .int t_shift, .int t_kneels, .int t_sights, .ref q_t_sight, .int t_signs, .ref q_t_pad, .int t_metAt, .int t_metWho, .int t_reason, .int t_acts, .ref q_t_had, .ref q_t_takes, .ref q_t_worths, .ref q_t_fitting, .ref q_t_wins, .ref q_t_ways, .ref q_t_image, .ref q_t_isKept])), (q_t_book, .inl (cI, 45, .inl t_book))] sz)) 0 0 (va_A [(q_t, .inr (7, [.ref q_t_book, .ref q_t_now, .int t_shift, .int t_kneels, .int t_sights, .ref q_t_sight, .int t_signs, .ref q_t_pad, .int t_metAt, .int t_metWho, .int t_reason, .int t_acts, .ref q_t_had, .ref q_t_takes, .ref q_t_worths, .ref q_t_fitting, .ref q_t_wins, .ref q_t_ways, .ref q_t_image, .ref q_t_isKept])), (q_t_book, .inl (cI, 45, .inl t_book))] sz) := by
  unfold pX7_clock at hf
  refine xm_1i (own := RX7) (by decide) rfl rfl (Nat.le_of_ble_eq_true rfl) (fun p e s m args below meth c Q A C0 hN hK hA hret hP hD ls hl => ?_)
  obtain ⟨hx, hb, hml, hown, hts⟩ := id C0
  have hl : lv_has ls 5 [(0, .ref q_t), (1, .int a1), (2, .int a2), (3, .int a3)] := hl
  have hS : va_S A s.heap s.heap [] := va_S.rf
  obtain ⟨H, hHe⟩ : ∃ H, H = s.heap := ⟨_, rfl⟩
  obtain ⟨locs, hLe⟩ : ∃ L : List Loc, L = [] := ⟨_, rfl⟩
  rw [← hLe]
  rw [← hLe] at hS
  have hP : va_P D vwCl [(q_t, .inr (7, [.ref q_t_book, .ref q_t_now, .int t_shift, .int t_kneels, .int t_sights, .ref q_t_sight, .int t_signs, .ref q_t_pad, .int t_metAt, .int t_metWho, .int t_reason, .int t_acts, .ref q_t_had, .ref q_t_takes, .ref q_t_worths, .ref q_t_fitting, .ref q_t_wins, .ref q_t_ways, .ref q_t_image, .ref q_t_isKept])), (q_t_book, .inl (cI, 45, .inl t_book))] H := by rw [hHe]; exact hP
  have hS : va_S A s.heap H locs := by rw [hHe]; exact hS
  suffices hgo : W p l e ({ frames := 1, cells := 0, slots := 0, locals := 22 } : Room) s m args below meth c H locs 0 0 Q (F0 m 0 ls []) by rw [← hHe]; exact hgo
  clear hHe hLe
  refine lv_iload_n hx hb dX7_clock_0 rfl (lv_at hl 1 rfl) ?_
  refine lv_iconst (v := 0) hx hb dX7_clock_1 (by decide) ?_
  refine lv_sipush (v := 364) hx hb dX7_clock_2 (by decide) ?_
  refine xs_i (va_runS (As := [.int a1, .int 0, .int 364]) (rest := []) ⟨hx, hb, hml, hown, hts⟩ (kX7_in l D cI cZ cJ cO a1 0 364 _ hf) (va_cwS 3 hts gX7_clock_X7_in rfl rfl rfl (by decide +kernel) ⟨Nat.le_of_ble_eq_true rfl, Nat.le_of_ble_eq_true rfl⟩) (B0_pre (hP.sub (ws' := []) [] rfl) hK hN) rfl rfl hl.1 rfl (lv_room (Nat.le_of_ble_eq_true rfl)) dX7_clock_5 ⟨Nat.zero_le _, Nat.zero_le _⟩) (fun r1 hf => ?_)
  refine lv_if_eq (tgt := 31) hx hb dX7_clock_8 (by decide) (fun c2 => ?_) (fun c2 => ?_)
  · have hf := hf.1 c2
    refine lv_bipush (v := (-2)) hx hb dX7_clock_31 (by decide) ?_
    exact hret 33 ls H locs (-2) t_book dX7_clock_33 hf hP hD hS
  · have hf := hf.2 c2
    refine lv_iload_n hx hb dX7_clock_11 rfl (lv_at hl 2 rfl) ?_
    refine lv_iconst (v := 0) hx hb dX7_clock_12 (by decide) ?_
    refine lv_bipush (v := 23) hx hb dX7_clock_13 (by decide) ?_
    refine xs_i (va_runS (As := [.int a2, .int 0, .int 23]) (rest := []) ⟨hx, hb, hml, hown, hts⟩ (kX7_in l D cI cZ cJ cO a2 0 23 _ hf) (va_cwS 3 hts gX7_clock_X7_in rfl rfl rfl (by decide +kernel) ⟨Nat.le_of_ble_eq_true rfl, Nat.le_of_ble_eq_true rfl⟩) (B0_pre (hP.sub (ws' := []) [] rfl) hK hN) rfl rfl hl.1 rfl (lv_room (Nat.le_of_ble_eq_true rfl)) dX7_clock_15 ⟨Nat.zero_le _, Nat.zero_le _⟩) (fun r3 hf => ?_)
    refine lv_if_eq (tgt := 31) hx hb dX7_clock_18 (by decide) (fun c4 => ?_) (fun c4 => ?_)
    · have hf := hf.1 c4
      refine lv_bipush (v := (-2)) hx hb dX7_clock_31 (by decide) ?_
      exact hret 33 ls H locs (-2) t_book dX7_clock_33 hf hP hD hS
    · have hf := hf.2 c4
      refine lv_iload_n hx hb dX7_clock_21 rfl (lv_at hl 3 rfl) ?_
      refine lv_iconst (v := 0) hx hb dX7_clock_22 (by decide) ?_
      refine lv_bipush (v := 99) hx hb dX7_clock_23 (by decide) ?_
      refine xs_i (va_runS (As := [.int a3, .int 0, .int 99]) (rest := []) ⟨hx, hb, hml, hown, hts⟩ (kX7_in l D cI cZ cJ cO a3 0 99 _ hf) (va_cwS 3 hts gX7_clock_X7_in rfl rfl rfl (by decide +kernel) ⟨Nat.le_of_ble_eq_true rfl, Nat.le_of_ble_eq_true rfl⟩) (B0_pre (hP.sub (ws' := []) [] rfl) hK hN) rfl rfl hl.1 rfl (lv_room (Nat.le_of_ble_eq_true rfl)) dX7_clock_25 ⟨Nat.zero_le _, Nat.zero_le _⟩) (fun r5 hf => ?_)
      refine lv_if_ne (tgt := 34) hx hb dX7_clock_28 (by decide) (fun c6 => ?_) (fun c6 => ?_)
      · have hf := hf.1 c6
        refine lv_sipush (v := 10000) hx hb dX7_clock_34 (by decide) ?_
        refine lv_aload_n hx hb dX7_clock_37 rfl (lv_at hl 0 rfl) ?_
        refine va_get (D := D) (ci := 7) (v := .ref q_t_book) (C := RX7) (T := TX7) (N := 20) hx hb hts nX7_clock_X7 hown hK hP 0 rfl rfl 0 (by decide) (hts _ mX7_clock_1) (fun _ h9 => h9) rfl dX7_clock_38 ?_
        refine lv_bipush (v := 42) hx hb dX7_clock_41 (by decide) ?_
        refine xa_iald hx hb hK hP 1 0 rfl rfl (j := 42) (by decide) (vpc rfl) dX7_clock_43 ?_
        refine lv_imul hx hb dX7_clock_44 ?_
        refine lv_bipush (v := 100) hx hb dX7_clock_45 (by decide) ?_
        refine lv_aload_n hx hb dX7_clock_47 rfl (lv_at hl 0 rfl) ?_
        refine va_get (D := D) (ci := 7) (v := .ref q_t_book) (C := RX7) (T := TX7) (N := 20) hx hb hts nX7_clock_X7 hown hK hP 0 rfl rfl 0 (by decide) (hts _ mX7_clock_1) (fun _ h9 => h9) rfl dX7_clock_48 ?_
        refine lv_bipush (v := 43) hx hb dX7_clock_51 (by decide) ?_
        refine xa_iald hx hb hK hP 1 0 rfl rfl (j := 43) (by decide) (vpc rfl) dX7_clock_53 ?_
        refine lv_imul hx hb dX7_clock_54 ?_
        refine lv_iadd hx hb dX7_clock_55 ?_
        refine lv_aload_n hx hb dX7_clock_56 rfl (lv_at hl 0 rfl) ?_
        refine va_get (D := D) (ci := 7) (v := .ref q_t_book) (C := RX7) (T := TX7) (N := 20) hx hb hts nX7_clock_X7 hown hK hP 0 rfl rfl 0 (by decide) (hts _ mX7_clock_1) (fun _ h9 => h9) rfl dX7_clock_57 ?_
        refine lv_bipush (v := 44) hx hb dX7_clock_60 (by decide) ?_
        refine xa_iald hx hb hK hP 1 0 rfl rfl (j := 44) (by decide) (vpc rfl) dX7_clock_62 ?_
        refine lv_iadd hx hb dX7_clock_63 ?_
        refine lv_topi (fun v7 ev7 => ?_)
        have hf := hf v7 ev7
        refine lv_istore (lv' := [(4, .int v7), (0, .ref q_t), (1, .int a1), (2, .int a2), (3, .int a3)]) hx hb dX7_clock_64 hl (by decide) rfl (fun ls hl => ?_)
        refine lv_aload_n hx hb dX7_clock_66 rfl (lv_at hl 1 rfl) ?_
        refine va_get (D := D) (ci := 7) (v := .ref q_t_book) (C := RX7) (T := TX7) (N := 20) hx hb hts nX7_clock_X7 hown hK hP 0 rfl rfl 0 (by decide) (hts _ mX7_clock_1) (fun _ h9 => h9) rfl dX7_clock_67 ?_
        refine lv_bipush (v := 42) hx hb dX7_clock_70 (by decide) ?_
        refine lv_iload_n hx hb dX7_clock_72 rfl (lv_at hl 2 rfl) ?_
        refine xa_iast hx hb hK hP hD hS 1 0 rfl rfl (j := 42) (by decide) (vpc rfl) dX7_clock_73 (fun H locs hP hD hS => ?_)
        have hP : va_P D vwCl [(q_t, .inr (7, [.ref q_t_book, .ref q_t_now, .int t_shift, .int t_kneels, .int t_sights, .ref q_t_sight, .int t_signs, .ref q_t_pad, .int t_metAt, .int t_metWho, .int t_reason, .int t_acts, .ref q_t_had, .ref q_t_takes, .ref q_t_worths, .ref q_t_fitting, .ref q_t_wins, .ref q_t_ways, .ref q_t_image, .ref q_t_isKept])), (q_t_book, .inl (cI, 45, .inl (upd t_book 42 a1)))] H := hP
        have hD : va_D A [(q_t, .inr (7, [.ref q_t_book, .ref q_t_now, .int t_shift, .int t_kneels, .int t_sights, .ref q_t_sight, .int t_signs, .ref q_t_pad, .int t_metAt, .int t_metWho, .int t_reason, .int t_acts, .ref q_t_had, .ref q_t_takes, .ref q_t_worths, .ref q_t_fitting, .ref q_t_wins, .ref q_t_ways, .ref q_t_image, .ref q_t_isKept])), (q_t_book, .inl (cI, 45, .inl (upd t_book 42 a1)))] := hD
        refine lv_aload_n hx hb dX7_clock_74 rfl (lv_at hl 1 rfl) ?_
        refine va_get (D := D) (ci := 7) (v := .ref q_t_book) (C := RX7) (T := TX7) (N := 20) hx hb hts nX7_clock_X7 hown hK hP 0 rfl rfl 0 (by decide) (hts _ mX7_clock_1) (fun _ h9 => h9) rfl dX7_clock_75 ?_
        refine lv_bipush (v := 43) hx hb dX7_clock_78 (by decide) ?_
        refine lv_iload_n hx hb dX7_clock_80 rfl (lv_at hl 3 rfl) ?_
        refine xa_iast hx hb hK hP hD hS 1 0 rfl rfl (j := 43) (by decide) (vpc rfl) dX7_clock_81 (fun H locs hP hD hS => ?_)
        have hP : va_P D vwCl [(q_t, .inr (7, [.ref q_t_book, .ref q_t_now, .int t_shift, .int t_kneels, .int t_sights, .ref q_t_sight, .int t_signs, .ref q_t_pad, .int t_metAt, .int t_metWho, .int t_reason, .int t_acts, .ref q_t_had, .ref q_t_takes, .ref q_t_worths, .ref q_t_fitting, .ref q_t_wins, .ref q_t_ways, .ref q_t_image, .ref q_t_isKept])), (q_t_book, .inl (cI, 45, .inl (upd (upd t_book 42 a1) 43 a2)))] H := hP
        have hD : va_D A [(q_t, .inr (7, [.ref q_t_book, .ref q_t_now, .int t_shift, .int t_kneels, .int t_sights, .ref q_t_sight, .int t_signs, .ref q_t_pad, .int t_metAt, .int t_metWho, .int t_reason, .int t_acts, .ref q_t_had, .ref q_t_takes, .ref q_t_worths, .ref q_t_fitting, .ref q_t_wins, .ref q_t_ways, .ref q_t_image, .ref q_t_isKept])), (q_t_book, .inl (cI, 45, .inl (upd (upd t_book 42 a1) 43 a2)))] := hD
        refine lv_aload_n hx hb dX7_clock_82 rfl (lv_at hl 1 rfl) ?_
        refine va_get (D := D) (ci := 7) (v := .ref q_t_book) (C := RX7) (T := TX7) (N := 20) hx hb hts nX7_clock_X7 hown hK hP 0 rfl rfl 0 (by decide) (hts _ mX7_clock_1) (fun _ h9 => h9) rfl dX7_clock_83 ?_
        refine lv_bipush (v := 44) hx hb dX7_clock_86 (by decide) ?_
        refine lv_iload_n hx hb dX7_clock_88 rfl (lv_at hl 4 rfl) ?_
        refine xa_iast hx hb hK hP hD hS 1 0 rfl rfl (j := 44) (by decide) (vpc rfl) dX7_clock_89 (fun H locs hP hD hS => ?_)
        have hP : va_P D vwCl [(q_t, .inr (7, [.ref q_t_book, .ref q_t_now, .int t_shift, .int t_kneels, .int t_sights, .ref q_t_sight, .int t_signs, .ref q_t_pad, .int t_metAt, .int t_metWho, .int t_reason, .int t_acts, .ref q_t_had, .ref q_t_takes, .ref q_t_worths, .ref q_t_fitting, .ref q_t_wins, .ref q_t_ways, .ref q_t_image, .ref q_t_isKept])), (q_t_book, .inl (cI, 45, .inl (upd (upd (upd t_book 42 a1) 43 a2) 44 a3)))] H := hP
        have hD : va_D A [(q_t, .inr (7, [.ref q_t_book, .ref q_t_now, .int t_shift, .int t_kneels, .int t_sights, .ref q_t_sight, .int t_signs, .ref q_t_pad, .int t_metAt, .int t_metWho, .int t_reason, .int t_acts, .ref q_t_had, .ref q_t_takes, .ref q_t_worths, .ref q_t_fitting, .ref q_t_wins, .ref q_t_ways, .ref q_t_image, .ref q_t_isKept])), (q_t_book, .inl (cI, 45, .inl (upd (upd (upd t_book 42 a1) 43 a2) 44 a3)))] := hD
        refine lv_iload hx hb dX7_clock_90 (lv_at hl 0 rfl) ?_
        exact hret 92 ls H locs v7 (upd (upd (upd t_book 42 a1) 43 a2) 44 a3) dX7_clock_92 hf hP hD hS
      · have hf := hf.2 c6
        refine lv_bipush (v := (-2)) hx hb dX7_clock_31 (by decide) ?_
        exact hret 33 ls H locs (-2) t_book dX7_clock_33 hf hP hD hS

/-! X7_person -/
theorem mX7_person_1 : Cond.fieldLink RX7 7 "OxenKneelModel" "book" "[I" ∈ wsX7_person := List.mem_of_getElem? (i := 1) rfl
theorem nX7_person_X7 : ∀ w ∈ wsX70, w ∈ wsX7_person := fun _ h => List.mem_cons_of_mem _ (List.mem_append_right _ h)
def pX7_person (t_book : (Nat → Int32)) (a1 : Int32) (a2 : Int32) (post : Int32 → ((Nat → Int32)) → Prop) : Prop :=
  pX7_in a1 0 5 (fun r1 => (¬ r1 = 0 → (pX7_in a2 0 99 (fun r3 => (¬ r3 = 0 → (vp_in (6 + a1) 45 ∧ (∀ v6 : Int32, v6 = (t_book (6 + a1).toNatClampNeg) → (vp_in (6 + a1) 45 ∧ (post v6 (upd t_book (6 + a1).toNatClampNeg a2)))))) ∧ (r3 = 0 → (post (-2) t_book))))) ∧ (r1 = 0 → (post (-1) t_book)))

set_option maxHeartbeats 4000000 in
set_option maxRecDepth 100000 in
theorem kX7_person (l : Launch) (D : va_G) (cI cZ cJ cO : ClassId) (q_t q_t_book q_t_now q_t_sight q_t_pad q_t_had q_t_takes q_t_worths q_t_fitting q_t_wins q_t_ways q_t_image q_t_isKept : Nat) (sz : Nat) (t_shift : Int32) (t_kneels : Int32) (t_sights : Int32) (t_signs : Int32) (t_metAt : Int32) (t_metWho : Int32) (t_reason : Int32) (t_acts : Int32) (t_book : (Nat → Int32)) (a1 : Int32) (a2 : Int32) (post : Int32 → ((Nat → Int32)) → Prop) (hf : pX7_person t_book a1 a2 post) :
    Met l yX7_person wsX7_person ({ frames := 1, cells := 0, slots := 0, locals := 22 } : Room) (va_Pc [.ref q_t, .int a1, .int a2] (B1 D (tyL cI cZ cJ cO) [(q_t, .inr (7, [.ref q_t_book, .ref q_t_now, .int t_shift, .int t_kneels, .int t_sights, .ref q_t_sight, .int t_signs, .ref q_t_pad, .int t_metAt, .int t_metWho, .int t_reason, .int t_acts, .ref q_t_had, .ref q_t_takes, .ref q_t_worths, .ref q_t_fitting, .ref q_t_wins, .ref q_t_ways, .ref q_t_image, .ref q_t_isKept])), (q_t_book, .inl (cI, 45, .inl t_book))] sz)) (va_Qi post (fun u t => E1 D (va_A [(q_t, .inr (7, [.ref q_t_book, .ref q_t_now, .int t_shift, .int t_kneels, .int t_sights, .ref q_t_sight, .int t_signs, .ref q_t_pad, .int t_metAt, .int t_metWho, .int t_reason, .int t_acts, .ref q_t_had, .ref q_t_takes, .ref q_t_worths, .ref q_t_fitting, .ref q_t_wins, .ref q_t_ways, .ref q_t_image, .ref q_t_isKept])), (q_t_book, .inl (cI, 45, .inl t_book))] sz) ((fun u : (Nat → Int32) => [(q_t, .inr (7, [.ref q_t_book, .ref q_t_now, .int t_shift, .int t_kneels, .int t_sights, .ref q_t_sight, .int t_signs, .ref q_t_pad, .int t_metAt, .int t_metWho, .int t_reason, .int t_acts, .ref q_t_had, .ref q_t_takes, .ref q_t_worths, .ref q_t_fitting, .ref q_t_wins, .ref q_t_ways, .ref q_t_image, .ref q_t_isKept])), (q_t_book, .inl (cI, 45, .inl u))]) u) t) (va_A [(q_t, .inr (7, [.ref q_t_book, .ref q_t_now, .int t_shift, .int t_kneels, .int t_sights, .ref q_t_sight, .int t_signs, .ref q_t_pad, .int t_metAt, .int t_metWho, .int t_reason, .int t_acts, .ref q_t_had, .ref q_t_takes, .ref q_t_worths, .ref q_t_fitting, .ref q_t_wins, .ref q_t_ways, .ref q_t_image, .ref q_t_isKept])), (q_t_book, .inl (cI, 45, .inl t_book))] sz)) 0 0 (va_A [(q_t, .inr (7, [.ref q_t_book, .ref q_t_now, .int t_shift, .int t_kneels, .int t_sights, .ref q_t_sight, .int t_signs, .ref q_t_pad, .int t_metAt, .int t_metWho, .int t_reason, .int t_acts, .ref q_t_had, .ref q_t_takes, .ref q_t_worths, .ref q_t_fitting, .ref q_t_wins, .ref q_t_ways, .ref q_t_image, .ref q_t_isKept])), (q_t_book, .inl (cI, 45, .inl t_book))] sz) := by
  unfold pX7_person at hf
  refine xm_1i (own := RX7) (by decide) rfl rfl (Nat.le_of_ble_eq_true rfl) (fun p e s m args below meth c Q A C0 hN hK hA hret hP hD ls hl => ?_)
  obtain ⟨hx, hb, hml, hown, hts⟩ := id C0
  have hl : lv_has ls 4 [(0, .ref q_t), (1, .int a1), (2, .int a2)] := hl
  have hS : va_S A s.heap s.heap [] := va_S.rf
  obtain ⟨H, hHe⟩ : ∃ H, H = s.heap := ⟨_, rfl⟩
  obtain ⟨locs, hLe⟩ : ∃ L : List Loc, L = [] := ⟨_, rfl⟩
  rw [← hLe]
  rw [← hLe] at hS
  have hP : va_P D vwCl [(q_t, .inr (7, [.ref q_t_book, .ref q_t_now, .int t_shift, .int t_kneels, .int t_sights, .ref q_t_sight, .int t_signs, .ref q_t_pad, .int t_metAt, .int t_metWho, .int t_reason, .int t_acts, .ref q_t_had, .ref q_t_takes, .ref q_t_worths, .ref q_t_fitting, .ref q_t_wins, .ref q_t_ways, .ref q_t_image, .ref q_t_isKept])), (q_t_book, .inl (cI, 45, .inl t_book))] H := by rw [hHe]; exact hP
  have hS : va_S A s.heap H locs := by rw [hHe]; exact hS
  suffices hgo : W p l e ({ frames := 1, cells := 0, slots := 0, locals := 22 } : Room) s m args below meth c H locs 0 0 Q (F0 m 0 ls []) by rw [← hHe]; exact hgo
  clear hHe hLe
  refine lv_iload_n hx hb dX7_person_0 rfl (lv_at hl 1 rfl) ?_
  refine lv_iconst (v := 0) hx hb dX7_person_1 (by decide) ?_
  refine lv_iconst (v := 5) hx hb dX7_person_2 (by decide) ?_
  refine xs_i (va_runS (As := [.int a1, .int 0, .int 5]) (rest := []) ⟨hx, hb, hml, hown, hts⟩ (kX7_in l D cI cZ cJ cO a1 0 5 _ hf) (va_cwS 3 hts gX7_person_X7_in rfl rfl rfl (by decide +kernel) ⟨Nat.le_of_ble_eq_true rfl, Nat.le_of_ble_eq_true rfl⟩) (B0_pre (hP.sub (ws' := []) [] rfl) hK hN) rfl rfl hl.1 rfl (lv_room (Nat.le_of_ble_eq_true rfl)) dX7_person_3 ⟨Nat.zero_le _, Nat.zero_le _⟩) (fun r1 hf => ?_)
  refine lv_if_ne (tgt := 11) hx hb dX7_person_6 (by decide) (fun c2 => ?_) (fun c2 => ?_)
  · have hf := hf.1 c2
    refine lv_iload_n hx hb dX7_person_11 rfl (lv_at hl 2 rfl) ?_
    refine lv_iconst (v := 0) hx hb dX7_person_12 (by decide) ?_
    refine lv_bipush (v := 99) hx hb dX7_person_13 (by decide) ?_
    refine xs_i (va_runS (As := [.int a2, .int 0, .int 99]) (rest := []) ⟨hx, hb, hml, hown, hts⟩ (kX7_in l D cI cZ cJ cO a2 0 99 _ hf) (va_cwS 3 hts gX7_person_X7_in rfl rfl rfl (by decide +kernel) ⟨Nat.le_of_ble_eq_true rfl, Nat.le_of_ble_eq_true rfl⟩) (B0_pre (hP.sub (ws' := []) [] rfl) hK hN) rfl rfl hl.1 rfl (lv_room (Nat.le_of_ble_eq_true rfl)) dX7_person_15 ⟨Nat.zero_le _, Nat.zero_le _⟩) (fun r3 hf => ?_)
    refine lv_if_ne (tgt := 24) hx hb dX7_person_18 (by decide) (fun c4 => ?_) (fun c4 => ?_)
    · have hf := hf.1 c4
      refine lv_aload_n hx hb dX7_person_24 rfl (lv_at hl 0 rfl) ?_
      refine va_get (D := D) (ci := 7) (v := .ref q_t_book) (C := RX7) (T := TX7) (N := 20) hx hb hts nX7_person_X7 hown hK hP 0 rfl rfl 0 (by decide) (hts _ mX7_person_1) (fun _ h9 => h9) rfl dX7_person_25 ?_
      refine lv_bipush (v := 6) hx hb dX7_person_28 (by decide) ?_
      refine lv_iload_n hx hb dX7_person_30 rfl (lv_at hl 1 rfl) ?_
      refine lv_iadd hx hb dX7_person_31 ?_
      have g5 := hf.1
      have hf := hf.2
      refine xa_iald hx hb hK hP 1 0 rfl rfl (j := (6 + a1).toNatClampNeg) rfl g5 dX7_person_32 ?_
      refine lv_topi (fun v6 ev6 => ?_)
      have hf := hf v6 ev6
      refine lv_istore_n (lv' := [(3, .int v6), (0, .ref q_t), (1, .int a1), (2, .int a2)]) hx hb dX7_person_33 rfl hl (by decide) rfl (fun ls hl => ?_)
      refine lv_aload_n hx hb dX7_person_34 rfl (lv_at hl 1 rfl) ?_
      refine va_get (D := D) (ci := 7) (v := .ref q_t_book) (C := RX7) (T := TX7) (N := 20) hx hb hts nX7_person_X7 hown hK hP 0 rfl rfl 0 (by decide) (hts _ mX7_person_1) (fun _ h9 => h9) rfl dX7_person_35 ?_
      refine lv_bipush (v := 6) hx hb dX7_person_38 (by decide) ?_
      refine lv_iload_n hx hb dX7_person_40 rfl (lv_at hl 2 rfl) ?_
      refine lv_iadd hx hb dX7_person_41 ?_
      refine lv_iload_n hx hb dX7_person_42 rfl (lv_at hl 3 rfl) ?_
      have g7 := hf.1
      have hf := hf.2
      refine xa_iast hx hb hK hP hD hS 1 0 rfl rfl (j := (6 + a1).toNatClampNeg) rfl g7 dX7_person_43 (fun H locs hP hD hS => ?_)
      have hP : va_P D vwCl [(q_t, .inr (7, [.ref q_t_book, .ref q_t_now, .int t_shift, .int t_kneels, .int t_sights, .ref q_t_sight, .int t_signs, .ref q_t_pad, .int t_metAt, .int t_metWho, .int t_reason, .int t_acts, .ref q_t_had, .ref q_t_takes, .ref q_t_worths, .ref q_t_fitting, .ref q_t_wins, .ref q_t_ways, .ref q_t_image, .ref q_t_isKept])), (q_t_book, .inl (cI, 45, .inl (upd t_book (6 + a1).toNatClampNeg a2)))] H := hP
      have hD : va_D A [(q_t, .inr (7, [.ref q_t_book, .ref q_t_now, .int t_shift, .int t_kneels, .int t_sights, .ref q_t_sight, .int t_signs, .ref q_t_pad, .int t_metAt, .int t_metWho, .int t_reason, .int t_acts, .ref q_t_had, .ref q_t_takes, .ref q_t_worths, .ref q_t_fitting, .ref q_t_wins, .ref q_t_ways, .ref q_t_image, .ref q_t_isKept])), (q_t_book, .inl (cI, 45, .inl (upd t_book (6 + a1).toNatClampNeg a2)))] := hD
      refine lv_iload_n hx hb dX7_person_44 rfl (lv_at hl 0 rfl) ?_
      exact hret 45 ls H locs v6 (upd t_book (6 + a1).toNatClampNeg a2) dX7_person_45 hf hP hD hS
    · have hf := hf.2 c4
      refine lv_bipush (v := (-2)) hx hb dX7_person_21 (by decide) ?_
      exact hret 23 ls H locs (-2) t_book dX7_person_23 hf hP hD hS
  · have hf := hf.2 c2
    refine lv_iconst (v := (-1)) hx hb dX7_person_9 (by decide) ?_
    exact hret 10 ls H locs (-1) t_book dX7_person_10 hf hP hD hS

/-! X7_say -/
theorem mX7_say_1 : Cond.fieldLink RX7 69 "OxenKneelModel" "signs" "I" ∈ wsX7_say := List.mem_of_getElem? (i := 1) rfl
theorem mX7_say_2 : Cond.fieldLink RX7 26 "OxenKneelModel" "pad" "[I" ∈ wsX7_say := List.mem_of_getElem? (i := 2) rfl
theorem nX7_say_X7 : ∀ w ∈ wsX70, w ∈ wsX7_say := fun _ h => List.mem_cons_of_mem _ (List.mem_append_right _ h)
def pX7_say (t_signs : Int32) (t_pad : (Nat → Int32)) (a1 : Int32) (post : Int32 → (Int32 × (Nat → Int32)) → Prop) : Prop :=
  pX7_in a1 33 126 (fun r1 => (¬ r1 = 0 → ((¬ t_signs = 60 → (vp_in t_signs 60 ∧ (∀ v5 : Int32, v5 = (t_signs + 1) → (post v5 (v5, (upd t_pad t_signs.toNatClampNeg a1)))))) ∧ (t_signs = 60 → (post (-4) (t_signs, t_pad))))) ∧ (r1 = 0 → (post (-2) (t_signs, t_pad))))

set_option maxHeartbeats 4000000 in
set_option maxRecDepth 100000 in
theorem kX7_say (l : Launch) (D : va_G) (cI cZ cJ cO : ClassId) (q_t q_t_pad q_t_book q_t_now q_t_sight q_t_had q_t_takes q_t_worths q_t_fitting q_t_wins q_t_ways q_t_image q_t_isKept : Nat) (sz : Nat) (t_shift : Int32) (t_kneels : Int32) (t_sights : Int32) (t_metAt : Int32) (t_metWho : Int32) (t_reason : Int32) (t_acts : Int32) (t_signs : Int32) (t_pad : (Nat → Int32)) (a1 : Int32) (post : Int32 → (Int32 × (Nat → Int32)) → Prop) (hf : pX7_say t_signs t_pad a1 post) :
    Met l yX7_say wsX7_say ({ frames := 1, cells := 0, slots := 0, locals := 22 } : Room) (va_Pc [.ref q_t, .int a1] (B1 D (tyL cI cZ cJ cO) [(q_t, .inr (7, [.ref q_t_book, .ref q_t_now, .int t_shift, .int t_kneels, .int t_sights, .ref q_t_sight, .int t_signs, .ref q_t_pad, .int t_metAt, .int t_metWho, .int t_reason, .int t_acts, .ref q_t_had, .ref q_t_takes, .ref q_t_worths, .ref q_t_fitting, .ref q_t_wins, .ref q_t_ways, .ref q_t_image, .ref q_t_isKept])), (q_t_pad, .inl (cI, 60, .inl t_pad))] sz)) (va_Qi post (fun u t => E1 D (va_A [(q_t, .inr (7, [.ref q_t_book, .ref q_t_now, .int t_shift, .int t_kneels, .int t_sights, .ref q_t_sight, .int t_signs, .ref q_t_pad, .int t_metAt, .int t_metWho, .int t_reason, .int t_acts, .ref q_t_had, .ref q_t_takes, .ref q_t_worths, .ref q_t_fitting, .ref q_t_wins, .ref q_t_ways, .ref q_t_image, .ref q_t_isKept])), (q_t_pad, .inl (cI, 60, .inl t_pad))] sz) ((fun u : Int32 × (Nat → Int32) => [(q_t, .inr (7, [.ref q_t_book, .ref q_t_now, .int t_shift, .int t_kneels, .int t_sights, .ref q_t_sight, .int u.1, .ref q_t_pad, .int t_metAt, .int t_metWho, .int t_reason, .int t_acts, .ref q_t_had, .ref q_t_takes, .ref q_t_worths, .ref q_t_fitting, .ref q_t_wins, .ref q_t_ways, .ref q_t_image, .ref q_t_isKept])), (q_t_pad, .inl (cI, 60, .inl u.2))]) u) t) (va_A [(q_t, .inr (7, [.ref q_t_book, .ref q_t_now, .int t_shift, .int t_kneels, .int t_sights, .ref q_t_sight, .int t_signs, .ref q_t_pad, .int t_metAt, .int t_metWho, .int t_reason, .int t_acts, .ref q_t_had, .ref q_t_takes, .ref q_t_worths, .ref q_t_fitting, .ref q_t_wins, .ref q_t_ways, .ref q_t_image, .ref q_t_isKept])), (q_t_pad, .inl (cI, 60, .inl t_pad))] sz)) 0 0 (va_A [(q_t, .inr (7, [.ref q_t_book, .ref q_t_now, .int t_shift, .int t_kneels, .int t_sights, .ref q_t_sight, .int t_signs, .ref q_t_pad, .int t_metAt, .int t_metWho, .int t_reason, .int t_acts, .ref q_t_had, .ref q_t_takes, .ref q_t_worths, .ref q_t_fitting, .ref q_t_wins, .ref q_t_ways, .ref q_t_image, .ref q_t_isKept])), (q_t_pad, .inl (cI, 60, .inl t_pad))] sz) := by
  unfold pX7_say at hf
  refine xm_1i (own := RX7) (by decide) rfl rfl (Nat.le_of_ble_eq_true rfl) (fun p e s m args below meth c Q A C0 hN hK hA hret hP hD ls hl => ?_)
  obtain ⟨hx, hb, hml, hown, hts⟩ := id C0
  have hl : lv_has ls 2 [(0, .ref q_t), (1, .int a1)] := hl
  have hS : va_S A s.heap s.heap [] := va_S.rf
  obtain ⟨H, hHe⟩ : ∃ H, H = s.heap := ⟨_, rfl⟩
  obtain ⟨locs, hLe⟩ : ∃ L : List Loc, L = [] := ⟨_, rfl⟩
  rw [← hLe]
  rw [← hLe] at hS
  have hP : va_P D vwCl [(q_t, .inr (7, [.ref q_t_book, .ref q_t_now, .int t_shift, .int t_kneels, .int t_sights, .ref q_t_sight, .int t_signs, .ref q_t_pad, .int t_metAt, .int t_metWho, .int t_reason, .int t_acts, .ref q_t_had, .ref q_t_takes, .ref q_t_worths, .ref q_t_fitting, .ref q_t_wins, .ref q_t_ways, .ref q_t_image, .ref q_t_isKept])), (q_t_pad, .inl (cI, 60, .inl t_pad))] H := by rw [hHe]; exact hP
  have hS : va_S A s.heap H locs := by rw [hHe]; exact hS
  suffices hgo : W p l e ({ frames := 1, cells := 0, slots := 0, locals := 22 } : Room) s m args below meth c H locs 0 0 Q (F0 m 0 ls []) by rw [← hHe]; exact hgo
  clear hHe hLe
  refine lv_iload_n hx hb dX7_say_0 rfl (lv_at hl 1 rfl) ?_
  refine lv_bipush (v := 33) hx hb dX7_say_1 (by decide) ?_
  refine lv_bipush (v := 126) hx hb dX7_say_3 (by decide) ?_
  refine xs_i (va_runS (As := [.int a1, .int 33, .int 126]) (rest := []) ⟨hx, hb, hml, hown, hts⟩ (kX7_in l D cI cZ cJ cO a1 33 126 _ hf) (va_cwS 3 hts gX7_say_X7_in rfl rfl rfl (by decide +kernel) ⟨Nat.le_of_ble_eq_true rfl, Nat.le_of_ble_eq_true rfl⟩) (B0_pre (hP.sub (ws' := []) [] rfl) hK hN) rfl rfl hl.1 rfl (lv_room (Nat.le_of_ble_eq_true rfl)) dX7_say_5 ⟨Nat.zero_le _, Nat.zero_le _⟩) (fun r1 hf => ?_)
  refine lv_if_ne (tgt := 14) hx hb dX7_say_8 (by decide) (fun c2 => ?_) (fun c2 => ?_)
  · have hf := hf.1 c2
    refine lv_aload_n hx hb dX7_say_14 rfl (lv_at hl 0 rfl) ?_
    refine va_get (D := D) (ci := 7) (v := .int t_signs) (C := RX7) (T := TX7) (N := 20) hx hb hts nX7_say_X7 hown hK hP 0 rfl rfl 6 (by decide) (hts _ mX7_say_1) (fun _ h9 => h9) rfl dX7_say_15 ?_
    refine lv_bipush (v := 60) hx hb dX7_say_18 (by decide) ?_
    refine lv_icmp_ne (tgt := 26) hx hb dX7_say_20 (by decide) (fun c3 => ?_) (fun c3 => ?_)
    · have hf := hf.1 c3
      refine lv_aload_n hx hb dX7_say_26 rfl (lv_at hl 0 rfl) ?_
      refine va_get (D := D) (ci := 7) (v := .ref q_t_pad) (C := RX7) (T := TX7) (N := 20) hx hb hts nX7_say_X7 hown hK hP 0 rfl rfl 7 (by decide) (hts _ mX7_say_2) (fun _ h9 => h9) rfl dX7_say_27 ?_
      refine lv_aload_n hx hb dX7_say_30 rfl (lv_at hl 0 rfl) ?_
      refine va_get (D := D) (ci := 7) (v := .int t_signs) (C := RX7) (T := TX7) (N := 20) hx hb hts nX7_say_X7 hown hK hP 0 rfl rfl 6 (by decide) (hts _ mX7_say_1) (fun _ h9 => h9) rfl dX7_say_31 ?_
      refine lv_iload_n hx hb dX7_say_34 rfl (lv_at hl 1 rfl) ?_
      have g4 := hf.1
      have hf := hf.2
      refine xa_iast hx hb hK hP hD hS 1 0 rfl rfl (j := t_signs.toNatClampNeg) rfl g4 dX7_say_35 (fun H locs hP hD hS => ?_)
      have hP : va_P D vwCl [(q_t, .inr (7, [.ref q_t_book, .ref q_t_now, .int t_shift, .int t_kneels, .int t_sights, .ref q_t_sight, .int t_signs, .ref q_t_pad, .int t_metAt, .int t_metWho, .int t_reason, .int t_acts, .ref q_t_had, .ref q_t_takes, .ref q_t_worths, .ref q_t_fitting, .ref q_t_wins, .ref q_t_ways, .ref q_t_image, .ref q_t_isKept])), (q_t_pad, .inl (cI, 60, .inl (upd t_pad t_signs.toNatClampNeg a1)))] H := hP
      have hD : va_D A [(q_t, .inr (7, [.ref q_t_book, .ref q_t_now, .int t_shift, .int t_kneels, .int t_sights, .ref q_t_sight, .int t_signs, .ref q_t_pad, .int t_metAt, .int t_metWho, .int t_reason, .int t_acts, .ref q_t_had, .ref q_t_takes, .ref q_t_worths, .ref q_t_fitting, .ref q_t_wins, .ref q_t_ways, .ref q_t_image, .ref q_t_isKept])), (q_t_pad, .inl (cI, 60, .inl (upd t_pad t_signs.toNatClampNeg a1)))] := hD
      refine lv_aload_n hx hb dX7_say_36 rfl (lv_at hl 0 rfl) ?_
      refine lv_dup hx hb dX7_say_37 rfl ?_
      refine va_get (D := D) (ci := 7) (v := .int t_signs) (C := RX7) (T := TX7) (N := 20) hx hb hts nX7_say_X7 hown hK hP 0 rfl rfl 6 (by decide) (hts _ mX7_say_1) (fun _ h9 => h9) rfl dX7_say_38 ?_
      refine lv_iconst (v := 1) hx hb dX7_say_41 (by decide) ?_
      refine lv_iadd hx hb dX7_say_42 ?_
      refine lv_topi (fun v5 ev5 => ?_)
      have hf := hf v5 ev5
      refine va_put (D := D) (ci := 7) (v := .int v5) (ty := .int) (C := RX7) (T := TX7) (N := 20) hx hb hts nX7_say_X7 tyX7 tyX7_ok nmX7 hown hK hP hD hS 0 rfl rfl 6 (by decide) (hts _ mX7_say_1) (fun _ h9 => h9) rfl (by decide +kernel) rfl rfl (Nat.le_of_ble_eq_true rfl) dX7_say_43 (fun H locs hP hD hS => ?_)
      have hP : va_P D vwCl [(q_t, .inr (7, [.ref q_t_book, .ref q_t_now, .int t_shift, .int t_kneels, .int t_sights, .ref q_t_sight, .int v5, .ref q_t_pad, .int t_metAt, .int t_metWho, .int t_reason, .int t_acts, .ref q_t_had, .ref q_t_takes, .ref q_t_worths, .ref q_t_fitting, .ref q_t_wins, .ref q_t_ways, .ref q_t_image, .ref q_t_isKept])), (q_t_pad, .inl (cI, 60, .inl (upd t_pad t_signs.toNatClampNeg a1)))] H := hP
      have hD : va_D A [(q_t, .inr (7, [.ref q_t_book, .ref q_t_now, .int t_shift, .int t_kneels, .int t_sights, .ref q_t_sight, .int v5, .ref q_t_pad, .int t_metAt, .int t_metWho, .int t_reason, .int t_acts, .ref q_t_had, .ref q_t_takes, .ref q_t_worths, .ref q_t_fitting, .ref q_t_wins, .ref q_t_ways, .ref q_t_image, .ref q_t_isKept])), (q_t_pad, .inl (cI, 60, .inl (upd t_pad t_signs.toNatClampNeg a1)))] := hD
      refine lv_aload_n hx hb dX7_say_46 rfl (lv_at hl 0 rfl) ?_
      refine va_get (D := D) (ci := 7) (v := .int v5) (C := RX7) (T := TX7) (N := 20) hx hb hts nX7_say_X7 hown hK hP 0 rfl rfl 6 (by decide) (hts _ mX7_say_1) (fun _ h9 => h9) rfl dX7_say_47 ?_
      exact hret 50 ls H locs v5 (v5, (upd t_pad t_signs.toNatClampNeg a1)) dX7_say_50 hf hP hD hS
    · have hf := hf.2 c3
      refine lv_bipush (v := (-4)) hx hb dX7_say_23 (by decide) ?_
      exact hret 25 ls H locs (-4) (t_signs, t_pad) dX7_say_25 hf hP hD hS
  · have hf := hf.2 c2
    refine lv_bipush (v := (-2)) hx hb dX7_say_11 (by decide) ?_
    exact hret 13 ls H locs (-2) (t_signs, t_pad) dX7_say_13 hf hP hD hS

/-! X7_wipe -/
theorem mX7_wipe_1 : Cond.fieldLink RX7 69 "OxenKneelModel" "signs" "I" ∈ wsX7_wipe := List.mem_of_getElem? (i := 1) rfl
theorem nX7_wipe_X7 : ∀ w ∈ wsX70, w ∈ wsX7_wipe := fun _ h => List.mem_cons_of_mem _ (List.mem_append_right _ h)
def pX7_wipe (t_signs : Int32)  (post : Int32 → (Int32) → Prop) : Prop :=
  post t_signs 0

set_option maxHeartbeats 4000000 in
set_option maxRecDepth 100000 in
theorem kX7_wipe (l : Launch) (D : va_G) (cI cZ cJ cO : ClassId) (q_t q_t_book q_t_now q_t_sight q_t_pad q_t_had q_t_takes q_t_worths q_t_fitting q_t_wins q_t_ways q_t_image q_t_isKept : Nat) (sz : Nat) (t_shift : Int32) (t_kneels : Int32) (t_sights : Int32) (t_metAt : Int32) (t_metWho : Int32) (t_reason : Int32) (t_acts : Int32) (t_signs : Int32)  (post : Int32 → (Int32) → Prop) (hf : pX7_wipe t_signs post) :
    Met l yX7_wipe wsX7_wipe ({ frames := 0, cells := 0, slots := 0, locals := 0 } : Room) (va_Pc [.ref q_t] (B1 D (tyL cI cZ cJ cO) [(q_t, .inr (7, [.ref q_t_book, .ref q_t_now, .int t_shift, .int t_kneels, .int t_sights, .ref q_t_sight, .int t_signs, .ref q_t_pad, .int t_metAt, .int t_metWho, .int t_reason, .int t_acts, .ref q_t_had, .ref q_t_takes, .ref q_t_worths, .ref q_t_fitting, .ref q_t_wins, .ref q_t_ways, .ref q_t_image, .ref q_t_isKept]))] sz)) (va_Qi post (fun u t => E1 D (va_A [(q_t, .inr (7, [.ref q_t_book, .ref q_t_now, .int t_shift, .int t_kneels, .int t_sights, .ref q_t_sight, .int t_signs, .ref q_t_pad, .int t_metAt, .int t_metWho, .int t_reason, .int t_acts, .ref q_t_had, .ref q_t_takes, .ref q_t_worths, .ref q_t_fitting, .ref q_t_wins, .ref q_t_ways, .ref q_t_image, .ref q_t_isKept]))] sz) ((fun u : Int32 => [(q_t, .inr (7, [.ref q_t_book, .ref q_t_now, .int t_shift, .int t_kneels, .int t_sights, .ref q_t_sight, .int u, .ref q_t_pad, .int t_metAt, .int t_metWho, .int t_reason, .int t_acts, .ref q_t_had, .ref q_t_takes, .ref q_t_worths, .ref q_t_fitting, .ref q_t_wins, .ref q_t_ways, .ref q_t_image, .ref q_t_isKept]))]) u) t) (va_A [(q_t, .inr (7, [.ref q_t_book, .ref q_t_now, .int t_shift, .int t_kneels, .int t_sights, .ref q_t_sight, .int t_signs, .ref q_t_pad, .int t_metAt, .int t_metWho, .int t_reason, .int t_acts, .ref q_t_had, .ref q_t_takes, .ref q_t_worths, .ref q_t_fitting, .ref q_t_wins, .ref q_t_ways, .ref q_t_image, .ref q_t_isKept]))] sz)) 0 0 (va_A [(q_t, .inr (7, [.ref q_t_book, .ref q_t_now, .int t_shift, .int t_kneels, .int t_sights, .ref q_t_sight, .int t_signs, .ref q_t_pad, .int t_metAt, .int t_metWho, .int t_reason, .int t_acts, .ref q_t_had, .ref q_t_takes, .ref q_t_worths, .ref q_t_fitting, .ref q_t_wins, .ref q_t_ways, .ref q_t_image, .ref q_t_isKept]))] sz) := by
  unfold pX7_wipe at hf
  refine xm_1i (own := RX7) (by decide) rfl rfl (Nat.le_of_ble_eq_true rfl) (fun p e s m args below meth c Q A C0 hN hK hA hret hP hD ls hl => ?_)
  obtain ⟨hx, hb, hml, hown, hts⟩ := id C0
  have hl : lv_has ls 2 [(0, .ref q_t)] := hl
  have hS : va_S A s.heap s.heap [] := va_S.rf
  obtain ⟨H, hHe⟩ : ∃ H, H = s.heap := ⟨_, rfl⟩
  obtain ⟨locs, hLe⟩ : ∃ L : List Loc, L = [] := ⟨_, rfl⟩
  rw [← hLe]
  rw [← hLe] at hS
  have hP : va_P D vwCl [(q_t, .inr (7, [.ref q_t_book, .ref q_t_now, .int t_shift, .int t_kneels, .int t_sights, .ref q_t_sight, .int t_signs, .ref q_t_pad, .int t_metAt, .int t_metWho, .int t_reason, .int t_acts, .ref q_t_had, .ref q_t_takes, .ref q_t_worths, .ref q_t_fitting, .ref q_t_wins, .ref q_t_ways, .ref q_t_image, .ref q_t_isKept]))] H := by rw [hHe]; exact hP
  have hS : va_S A s.heap H locs := by rw [hHe]; exact hS
  suffices hgo : W p l e ({ frames := 0, cells := 0, slots := 0, locals := 0 } : Room) s m args below meth c H locs 0 0 Q (F0 m 0 ls []) by rw [← hHe]; exact hgo
  clear hHe hLe
  refine lv_aload_n hx hb dX7_wipe_0 rfl (lv_at hl 0 rfl) ?_
  refine va_get (D := D) (ci := 7) (v := .int t_signs) (C := RX7) (T := TX7) (N := 20) hx hb hts nX7_wipe_X7 hown hK hP 0 rfl rfl 6 (by decide) (hts _ mX7_wipe_1) (fun _ h9 => h9) rfl dX7_wipe_1 ?_
  refine lv_istore_n (lv' := [(1, .int t_signs), (0, .ref q_t)]) hx hb dX7_wipe_4 rfl hl (by decide) rfl (fun ls hl => ?_)
  refine lv_aload_n hx hb dX7_wipe_5 rfl (lv_at hl 1 rfl) ?_
  refine lv_iconst (v := 0) hx hb dX7_wipe_6 (by decide) ?_
  refine va_put (D := D) (ci := 7) (v := .int 0) (ty := .int) (C := RX7) (T := TX7) (N := 20) hx hb hts nX7_wipe_X7 tyX7 tyX7_ok nmX7 hown hK hP hD hS 0 rfl rfl 6 (by decide) (hts _ mX7_wipe_1) (fun _ h9 => h9) rfl (by decide +kernel) rfl rfl (Nat.le_of_ble_eq_true rfl) dX7_wipe_7 (fun H locs hP hD hS => ?_)
  have hP : va_P D vwCl [(q_t, .inr (7, [.ref q_t_book, .ref q_t_now, .int t_shift, .int t_kneels, .int t_sights, .ref q_t_sight, .int 0, .ref q_t_pad, .int t_metAt, .int t_metWho, .int t_reason, .int t_acts, .ref q_t_had, .ref q_t_takes, .ref q_t_worths, .ref q_t_fitting, .ref q_t_wins, .ref q_t_ways, .ref q_t_image, .ref q_t_isKept]))] H := hP
  have hD : va_D A [(q_t, .inr (7, [.ref q_t_book, .ref q_t_now, .int t_shift, .int t_kneels, .int t_sights, .ref q_t_sight, .int 0, .ref q_t_pad, .int t_metAt, .int t_metWho, .int t_reason, .int t_acts, .ref q_t_had, .ref q_t_takes, .ref q_t_worths, .ref q_t_fitting, .ref q_t_wins, .ref q_t_ways, .ref q_t_image, .ref q_t_isKept]))] := hD
  refine lv_iload_n hx hb dX7_wipe_10 rfl (lv_at hl 0 rfl) ?_
  exact hret 11 ls H locs t_signs 0 dX7_wipe_11 hf hP hD hS

/-! X7_step -/

def pX7_step  (a1 : Int32) (a2 : Int32) (post : Int32 → Prop) : Prop :=
  (a1 = 0 → (pX7_in a2 65 70 (fun r2 => (r2 = 0 → ((a2 = 104 → (post 2)) ∧ (¬ a2 = 104 → ((¬ a2 = 100 → ((¬ a2 = 107 → (post (-6))) ∧ (a2 = 107 → (post 0)))) ∧ (a2 = 100 → (post 2)))))) ∧ (¬ r2 = 0 → (post 1))))) ∧ ((a1 = 1 → ((a2 = 40 → (post 0)) ∧ (¬ a2 = 40 → ((a2 = 41 → (post 0)) ∧ (¬ a2 = 41 → ((a2 = 62 → (post 0)) ∧ (¬ a2 = 62 → ((a2 = 60 → (post 0)) ∧ (¬ a2 = 60 → ((¬ a2 = 37 → ((¬ a2 = 36 → (post (-6))) ∧ (a2 = 36 → (post 2)))) ∧ (a2 = 37 → (post 0)))))))))))) ∧ ((¬ a1 = 0 → ¬ a1 = 1 → (pX7_in a2 49 57 (fun r14 => (r14 = 0 → (post (-6))) ∧ (¬ r14 = 0 → (post 0)))))))

set_option maxHeartbeats 4000000 in
set_option maxRecDepth 100000 in
theorem kX7_step (l : Launch) (D : va_G) (cI cZ cJ cO : ClassId)    (a1 : Int32) (a2 : Int32) (post : Int32 → Prop) (hf : pX7_step a1 a2 post) :
    Met l yX7_step wsX7_step ({ frames := 1, cells := 0, slots := 0, locals := 22 } : Room) (va_Pc [.int a1, .int a2] (B0 D (tyL cI cZ cJ cO) [])) (vp_Si post) 0 0 (fun _ => False) := by
  unfold pX7_step at hf
  refine xm_0i (own := RX7) (by decide) rfl rfl (Nat.le_of_ble_eq_true rfl) (fun p e s m args below meth c Q C0 hN hK hret hP ls hl => ?_)
  obtain ⟨hx, hb, hml, hown, hts⟩ := id C0
  have hl : lv_has ls 2 [(0, .int a1), (1, .int a2)] := hl
  refine lv_iload_n hx hb dX7_step_0 rfl (lv_at hl 0 rfl) ?_
  by_cases z1 : a1 = 0
  · have hf := hf.1 z1
    refine lv_lookup (off := 27) (tgt := 28) hx hb dX7_step_1 (by decide) (by rw [z1]; decide) (by decide) ?_
    refine lv_iload_n hx hb dX7_step_28 rfl (lv_at hl 1 rfl) ?_
    refine lv_bipush (v := 65) hx hb dX7_step_29 (by decide) ?_
    refine lv_bipush (v := 70) hx hb dX7_step_31 (by decide) ?_
    refine xs_i (va_runS (As := [.int a2, .int 65, .int 70]) (rest := []) ⟨hx, hb, hml, hown, hts⟩ (kX7_in l D cI cZ cJ cO a2 65 70 _ hf) (va_cwS 3 hts gX7_step_X7_in rfl rfl rfl (by decide +kernel) ⟨Nat.le_of_ble_eq_true rfl, Nat.le_of_ble_eq_true rfl⟩) (B0_pre (hP.sub (ws' := []) [] rfl) hK hN) rfl rfl hl.1 rfl (lv_room (Nat.le_of_ble_eq_true rfl)) dX7_step_33 ⟨Nat.zero_le _, Nat.zero_le _⟩) (fun r2 hf => ?_)
    refine lv_if_eq (tgt := 43) hx hb dX7_step_36 (by decide) (fun c3 => ?_) (fun c3 => ?_)
    · have hf := hf.1 c3
      refine lv_iload_n hx hb dX7_step_43 rfl (lv_at hl 1 rfl) ?_
      refine lv_bipush (v := 104) hx hb dX7_step_44 (by decide) ?_
      refine lv_icmp_eq (tgt := 55) hx hb dX7_step_46 (by decide) (fun c4 => ?_) (fun c4 => ?_)
      · have hf := hf.1 c4
        refine lv_iconst (v := 2) hx hb dX7_step_55 (by decide) ?_
        refine lv_goto (tgt := 71) hx hb dX7_step_56 (by decide) ?_
        exact hret 71 ls 2 dX7_step_71 hf
      · have hf := hf.2 c4
        refine lv_iload_n hx hb dX7_step_49 rfl (lv_at hl 1 rfl) ?_
        refine lv_bipush (v := 100) hx hb dX7_step_50 (by decide) ?_
        refine lv_icmp_ne (tgt := 59) hx hb dX7_step_52 (by decide) (fun c5 => ?_) (fun c5 => ?_)
        · have hf := hf.1 c5
          refine lv_iload_n hx hb dX7_step_59 rfl (lv_at hl 1 rfl) ?_
          refine lv_bipush (v := 107) hx hb dX7_step_60 (by decide) ?_
          refine lv_icmp_ne (tgt := 69) hx hb dX7_step_62 (by decide) (fun c6 => ?_) (fun c6 => ?_)
          · have hf := hf.1 c6
            refine lv_bipush (v := (-6)) hx hb dX7_step_69 (by decide) ?_
            exact hret 71 ls (-6) dX7_step_71 hf
          · have hf := hf.2 c6
            refine lv_iconst (v := 0) hx hb dX7_step_65 (by decide) ?_
            refine lv_goto (tgt := 71) hx hb dX7_step_66 (by decide) ?_
            exact hret 71 ls 0 dX7_step_71 hf
        · have hf := hf.2 c5
          refine lv_iconst (v := 2) hx hb dX7_step_55 (by decide) ?_
          refine lv_goto (tgt := 71) hx hb dX7_step_56 (by decide) ?_
          exact hret 71 ls 2 dX7_step_71 hf
    · have hf := hf.2 c3
      refine lv_iconst (v := 1) hx hb dX7_step_39 (by decide) ?_
      refine lv_goto (tgt := 71) hx hb dX7_step_40 (by decide) ?_
      exact hret 71 ls 1 dX7_step_71 hf
  · have hf := hf.2
    by_cases z7 : a1 = 1
    · have hf := hf.1 z7
      refine lv_lookup (off := 71) (tgt := 72) hx hb dX7_step_1 (by decide) (by rw [z7]; decide) (by decide) ?_
      refine lv_iload_n hx hb dX7_step_72 rfl (lv_at hl 1 rfl) ?_
      refine lv_bipush (v := 40) hx hb dX7_step_73 (by decide) ?_
      refine lv_icmp_eq (tgt := 102) hx hb dX7_step_75 (by decide) (fun c8 => ?_) (fun c8 => ?_)
      · have hf := hf.1 c8
        refine lv_iconst (v := 0) hx hb dX7_step_102 (by decide) ?_
        refine lv_goto (tgt := 118) hx hb dX7_step_103 (by decide) ?_
        exact hret 118 ls 0 dX7_step_118 hf
      · have hf := hf.2 c8
        refine lv_iload_n hx hb dX7_step_78 rfl (lv_at hl 1 rfl) ?_
        refine lv_bipush (v := 41) hx hb dX7_step_79 (by decide) ?_
        refine lv_icmp_eq (tgt := 102) hx hb dX7_step_81 (by decide) (fun c9 => ?_) (fun c9 => ?_)
        · have hf := hf.1 c9
          refine lv_iconst (v := 0) hx hb dX7_step_102 (by decide) ?_
          refine lv_goto (tgt := 118) hx hb dX7_step_103 (by decide) ?_
          exact hret 118 ls 0 dX7_step_118 hf
        · have hf := hf.2 c9
          refine lv_iload_n hx hb dX7_step_84 rfl (lv_at hl 1 rfl) ?_
          refine lv_bipush (v := 62) hx hb dX7_step_85 (by decide) ?_
          refine lv_icmp_eq (tgt := 102) hx hb dX7_step_87 (by decide) (fun c10 => ?_) (fun c10 => ?_)
          · have hf := hf.1 c10
            refine lv_iconst (v := 0) hx hb dX7_step_102 (by decide) ?_
            refine lv_goto (tgt := 118) hx hb dX7_step_103 (by decide) ?_
            exact hret 118 ls 0 dX7_step_118 hf
          · have hf := hf.2 c10
            refine lv_iload_n hx hb dX7_step_90 rfl (lv_at hl 1 rfl) ?_
            refine lv_bipush (v := 60) hx hb dX7_step_91 (by decide) ?_
            refine lv_icmp_eq (tgt := 102) hx hb dX7_step_93 (by decide) (fun c11 => ?_) (fun c11 => ?_)
            · have hf := hf.1 c11
              refine lv_iconst (v := 0) hx hb dX7_step_102 (by decide) ?_
              refine lv_goto (tgt := 118) hx hb dX7_step_103 (by decide) ?_
              exact hret 118 ls 0 dX7_step_118 hf
            · have hf := hf.2 c11
              refine lv_iload_n hx hb dX7_step_96 rfl (lv_at hl 1 rfl) ?_
              refine lv_bipush (v := 37) hx hb dX7_step_97 (by decide) ?_
              refine lv_icmp_ne (tgt := 106) hx hb dX7_step_99 (by decide) (fun c12 => ?_) (fun c12 => ?_)
              · have hf := hf.1 c12
                refine lv_iload_n hx hb dX7_step_106 rfl (lv_at hl 1 rfl) ?_
                refine lv_bipush (v := 36) hx hb dX7_step_107 (by decide) ?_
                refine lv_icmp_ne (tgt := 116) hx hb dX7_step_109 (by decide) (fun c13 => ?_) (fun c13 => ?_)
                · have hf := hf.1 c13
                  refine lv_bipush (v := (-6)) hx hb dX7_step_116 (by decide) ?_
                  exact hret 118 ls (-6) dX7_step_118 hf
                · have hf := hf.2 c13
                  refine lv_iconst (v := 2) hx hb dX7_step_112 (by decide) ?_
                  refine lv_goto (tgt := 118) hx hb dX7_step_113 (by decide) ?_
                  exact hret 118 ls 2 dX7_step_118 hf
              · have hf := hf.2 c12
                refine lv_iconst (v := 0) hx hb dX7_step_102 (by decide) ?_
                refine lv_goto (tgt := 118) hx hb dX7_step_103 (by decide) ?_
                exact hret 118 ls 0 dX7_step_118 hf
    · have hf := hf.2
      have hf := hf z1 z7
      refine lv_lookup (off := 118) (tgt := 119) hx hb dX7_step_1 (by decide) ((lv_osw z1 (by decide)).trans ((lv_osw z7 (by decide)).trans (rfl))) (by decide) ?_
      refine lv_iload_n hx hb dX7_step_119 rfl (lv_at hl 1 rfl) ?_
      refine lv_bipush (v := 49) hx hb dX7_step_120 (by decide) ?_
      refine lv_bipush (v := 57) hx hb dX7_step_122 (by decide) ?_
      refine xs_i (va_runS (As := [.int a2, .int 49, .int 57]) (rest := []) ⟨hx, hb, hml, hown, hts⟩ (kX7_in l D cI cZ cJ cO a2 49 57 _ hf) (va_cwS 3 hts gX7_step_X7_in rfl rfl rfl (by decide +kernel) ⟨Nat.le_of_ble_eq_true rfl, Nat.le_of_ble_eq_true rfl⟩) (B0_pre (hP.sub (ws' := []) [] rfl) hK hN) rfl rfl hl.1 rfl (lv_room (Nat.le_of_ble_eq_true rfl)) dX7_step_124 ⟨Nat.zero_le _, Nat.zero_le _⟩) (fun r14 hf => ?_)
      refine lv_if_eq (tgt := 134) hx hb dX7_step_127 (by decide) (fun c15 => ?_) (fun c15 => ?_)
      · have hf := hf.1 c15
        refine lv_bipush (v := (-6)) hx hb dX7_step_134 (by decide) ?_
        exact hret 136 ls (-6) dX7_step_136 hf
      · have hf := hf.2 c15
        refine lv_iconst (v := 0) hx hb dX7_step_130 (by decide) ?_
        refine lv_goto (tgt := 136) hx hb dX7_step_131 (by decide) ?_
        exact hret 136 ls 0 dX7_step_136 hf

/-! X7_faultOf -/
theorem mX7_faultOf_1 : Cond.fieldLink RX7 69 "OxenKneelModel" "signs" "I" ∈ wsX7_faultOf := List.mem_of_getElem? (i := 1) rfl
theorem mX7_faultOf_2 : Cond.fieldLink RX7 26 "OxenKneelModel" "pad" "[I" ∈ wsX7_faultOf := List.mem_of_getElem? (i := 2) rfl
theorem nX7_faultOf_X7 : ∀ w ∈ wsX70, w ∈ wsX7_faultOf := fun _ h => List.mem_cons_of_mem _ (List.mem_append_right _ h)
def pX7_faultOf_b4 (t_signs : Int32) (t_pad : (Nat → Int32)) (post : Int32 → Prop) : Nat → Int32 → Int32 → Prop
  | 0 => fun _ _ => False
  | n + 1 => fun x1 x2 => (t_signs ≤ x2 → ((¬ x1 = 0 → (post t_signs)) ∧ (x1 = 0 → (post (-6))))) ∧ (¬ t_signs ≤ x2 → (vp_in x2 60 ∧ (pX7_step x1 (t_pad x2.toNatClampNeg) (fun r4 => (0 ≤ r4 → (∀ v6 : Int32, v6 = x2 + 1 → (pX7_faultOf_b4 t_signs t_pad post  n r4 v6))) ∧ (¬ 0 ≤ r4 → (post x2))))))

set_option maxHeartbeats 4000000 in
set_option maxRecDepth 100000 in
theorem wX7_faultOf_b4 {p : Program} {l : Launch} {e : Env} {s : State} {m : MethodId} {args : Array Value} {below : List Frame} {meth : Method} {c : Code} {Q : State → Prop} {D : va_G} {cI cZ cJ cO : ClassId} (C0 : CallFix p m c cX7_faultOf 3 s args wsX7_faultOf RX7) (hN : nw s) (hK : va_K D vwCl (tyL cI cZ cJ cO) s) (q_t q_t_pad q_t_book q_t_now q_t_sight q_t_had q_t_takes q_t_worths q_t_fitting q_t_wins q_t_ways q_t_image q_t_isKept : Nat) (t_shift : Int32) (t_kneels : Int32) (t_sights : Int32) (t_metAt : Int32) (t_metWho : Int32) (t_reason : Int32) (t_acts : Int32) (t_signs : Int32) (t_pad : (Nat → Int32)) (post : Int32 → Prop) (hret : h0I p l e ({ frames := 2, cells := 0, slots := 0, locals := 43 } : Room) s m args below meth c cX7_faultOf Q post) (hP : va_P D vwCl [(q_t, .inr (7, [.ref q_t_book, .ref q_t_now, .int t_shift, .int t_kneels, .int t_sights, .ref q_t_sight, .int t_signs, .ref q_t_pad, .int t_metAt, .int t_metWho, .int t_reason, .int t_acts, .ref q_t_had, .ref q_t_takes, .ref q_t_worths, .ref q_t_fitting, .ref q_t_wins, .ref q_t_ways, .ref q_t_image, .ref q_t_isKept])), (q_t_pad, .inl (cI, 60, .inl t_pad))] s.heap) :
    ∀ (n : Nat) (x1 : Int32) (x2 : Int32), pX7_faultOf_b4 t_signs t_pad post n x1 x2 → ∀ ls : Array Slot, lv_has ls 3 [(0, .ref q_t), (1, .int x1), (2, .int x2)] → W p l e ({ frames := 2, cells := 0, slots := 0, locals := 43 } : Room) s m args below meth c s.heap [] 0 0 Q (F0 m 4 ls []) := by
  obtain ⟨hx, hb, hml, hown, hts⟩ := id C0
  intro n
  induction n with
  | zero =>
    intro x1 x2 hf
    exact False.elim hf
  | succ n ih =>
    intro x1 x2 hf ls hl
    rw [pX7_faultOf_b4] at hf
    refine lv_iload_n hx hb dX7_faultOf_4 rfl (lv_at hl 2 rfl) ?_
    refine lv_aload_n hx hb dX7_faultOf_5 rfl (lv_at hl 0 rfl) ?_
    refine va_get (D := D) (ci := 7) (v := .int t_signs) (C := RX7) (T := TX7) (N := 20) hx hb hts nX7_faultOf_X7 hown hK hP 0 rfl rfl 6 (by decide) (hts _ mX7_faultOf_1) (fun _ h9 => h9) rfl dX7_faultOf_6 ?_
    refine lv_icmp_ge (tgt := 35) hx hb dX7_faultOf_9 (by decide) (fun c1 => ?_) (fun c1 => ?_)
    · have hf := hf.1 c1
      refine lv_iload_n hx hb dX7_faultOf_35 rfl (lv_at hl 1 rfl) ?_
      refine lv_if_ne (tgt := 44) hx hb dX7_faultOf_36 (by decide) (fun c2 => ?_) (fun c2 => ?_)
      · have hf := hf.1 c2
        refine lv_aload_n hx hb dX7_faultOf_44 rfl (lv_at hl 0 rfl) ?_
        refine va_get (D := D) (ci := 7) (v := .int t_signs) (C := RX7) (T := TX7) (N := 20) hx hb hts nX7_faultOf_X7 hown hK hP 0 rfl rfl 6 (by decide) (hts _ mX7_faultOf_1) (fun _ h9 => h9) rfl dX7_faultOf_45 ?_
        exact hret 48 ls t_signs dX7_faultOf_48 hf
      · have hf := hf.2 c2
        refine lv_bipush (v := (-6)) hx hb dX7_faultOf_39 (by decide) ?_
        refine lv_goto (tgt := 48) hx hb dX7_faultOf_41 (by decide) ?_
        exact hret 48 ls (-6) dX7_faultOf_48 hf
    · have hf := hf.2 c1
      refine lv_iload_n hx hb dX7_faultOf_12 rfl (lv_at hl 1 rfl) ?_
      refine lv_aload_n hx hb dX7_faultOf_13 rfl (lv_at hl 0 rfl) ?_
      refine va_get (D := D) (ci := 7) (v := .ref q_t_pad) (C := RX7) (T := TX7) (N := 20) hx hb hts nX7_faultOf_X7 hown hK hP 0 rfl rfl 7 (by decide) (hts _ mX7_faultOf_2) (fun _ h9 => h9) rfl dX7_faultOf_14 ?_
      refine lv_iload_n hx hb dX7_faultOf_17 rfl (lv_at hl 2 rfl) ?_
      have g3 := hf.1
      have hf := hf.2
      refine xa_iald hx hb hK hP 1 0 rfl rfl (j := x2.toNatClampNeg) rfl g3 dX7_faultOf_18 ?_
      refine xs_i (va_runS (As := [.int x1, .int (t_pad x2.toNatClampNeg)]) (rest := []) ⟨hx, hb, hml, hown, hts⟩ (kX7_step l D cI cZ cJ cO x1 (t_pad x2.toNatClampNeg) _ hf) (va_cwS 2 hts gX7_faultOf_X7_step rfl rfl rfl (by decide +kernel) ⟨Nat.le_of_ble_eq_true rfl, Nat.le_of_ble_eq_true rfl⟩) (B0_pre (hP.sub (ws' := []) [] rfl) hK hN) rfl rfl hl.1 rfl (lv_room (Nat.le_of_ble_eq_true rfl)) dX7_faultOf_19 ⟨Nat.zero_le _, Nat.zero_le _⟩) (fun r4 hf => ?_)
      refine lv_istore_n (lv' := [(1, .int r4), (0, .ref q_t), (2, .int x2)]) hx hb dX7_faultOf_22 rfl hl (by decide) rfl (fun ls hl => ?_)
      refine lv_iload_n hx hb dX7_faultOf_23 rfl (lv_at hl 0 rfl) ?_
      refine lv_if_ge (tgt := 29) hx hb dX7_faultOf_24 (by decide) (fun c5 => ?_) (fun c5 => ?_)
      · have hf := hf.1 c5
        obtain ⟨v6, ev6⟩ : ∃ y : Int32, y = x2 + 1 := ⟨_, rfl⟩
        have hf := hf v6 ev6
        refine lv_iinc (v := v6) (lv' := [(2, .int v6), (1, .int r4), (0, .ref q_t)]) hx hb dX7_faultOf_29 hl (k := 2) rfl (by rw [ev6]; rfl) (by decide) rfl (fun ls hl => ?_)
        refine lv_goto (tgt := 4) hx hb dX7_faultOf_32 (by decide) ?_
        exact ih r4 v6 hf ls (lv_sub hl [2, 1, 0] rfl)
      · have hf := hf.2 c5
        refine lv_iload_n hx hb dX7_faultOf_27 rfl (lv_at hl 2 rfl) ?_
        exact hret 28 ls x2 dX7_faultOf_28 hf

def pX7_faultOf (t_signs : Int32) (t_pad : (Nat → Int32))  (post : Int32 → Prop) : Prop :=
  ∃ n1, pX7_faultOf_b4 t_signs t_pad post  n1 0 0

set_option maxHeartbeats 4000000 in
set_option maxRecDepth 100000 in
theorem kX7_faultOf (l : Launch) (D : va_G) (cI cZ cJ cO : ClassId) (q_t q_t_pad q_t_book q_t_now q_t_sight q_t_had q_t_takes q_t_worths q_t_fitting q_t_wins q_t_ways q_t_image q_t_isKept : Nat) (t_shift : Int32) (t_kneels : Int32) (t_sights : Int32) (t_metAt : Int32) (t_metWho : Int32) (t_reason : Int32) (t_acts : Int32) (t_signs : Int32) (t_pad : (Nat → Int32))  (post : Int32 → Prop) (hf : pX7_faultOf t_signs t_pad post) :
    Met l yX7_faultOf wsX7_faultOf ({ frames := 2, cells := 0, slots := 0, locals := 43 } : Room) (va_Pc [.ref q_t] (B0 D (tyL cI cZ cJ cO) [(q_t, .inr (7, [.ref q_t_book, .ref q_t_now, .int t_shift, .int t_kneels, .int t_sights, .ref q_t_sight, .int t_signs, .ref q_t_pad, .int t_metAt, .int t_metWho, .int t_reason, .int t_acts, .ref q_t_had, .ref q_t_takes, .ref q_t_worths, .ref q_t_fitting, .ref q_t_wins, .ref q_t_ways, .ref q_t_image, .ref q_t_isKept])), (q_t_pad, .inl (cI, 60, .inl t_pad))])) (vp_Si post) 0 0 (fun _ => False) := by
  unfold pX7_faultOf at hf
  refine xm_0i (own := RX7) (by decide) rfl rfl (Nat.le_of_ble_eq_true rfl) (fun p e s m args below meth c Q C0 hN hK hret hP ls hl => ?_)
  obtain ⟨hx, hb, hml, hown, hts⟩ := id C0
  have hl : lv_has ls 3 [(0, .ref q_t)] := hl
  refine lv_iconst (v := 0) hx hb dX7_faultOf_0 (by decide) ?_
  refine lv_istore_n (lv' := [(1, .int 0), (0, .ref q_t)]) hx hb dX7_faultOf_1 rfl hl (by decide) rfl (fun ls hl => ?_)
  refine lv_iconst (v := 0) hx hb dX7_faultOf_2 (by decide) ?_
  refine lv_istore_n (lv' := [(2, .int 0), (1, .int 0), (0, .ref q_t)]) hx hb dX7_faultOf_3 rfl hl (by decide) rfl (fun ls hl => ?_)
  obtain ⟨n1, hf⟩ := hf
  exact wX7_faultOf_b4 C0 hN hK q_t q_t_pad q_t_book q_t_now q_t_sight q_t_had q_t_takes q_t_worths q_t_fitting q_t_wins q_t_ways q_t_image q_t_isKept t_shift t_kneels t_sights t_metAt t_metWho t_reason t_acts t_signs t_pad post hret hP   n1 0 0 hf ls (lv_sub hl [2, 1, 0] rfl)

/-! X7_fault -/

def pX7_fault (t_signs : Int32) (t_pad : (Nat → Int32))  (post : Int32 → Prop) : Prop :=
  pX7_faultOf t_signs t_pad (fun r1 => post r1)

set_option maxHeartbeats 4000000 in
set_option maxRecDepth 100000 in
theorem kX7_fault (l : Launch) (D : va_G) (cI cZ cJ cO : ClassId) (q_t q_t_pad q_t_book q_t_now q_t_sight q_t_had q_t_takes q_t_worths q_t_fitting q_t_wins q_t_ways q_t_image q_t_isKept : Nat) (t_shift : Int32) (t_kneels : Int32) (t_sights : Int32) (t_metAt : Int32) (t_metWho : Int32) (t_reason : Int32) (t_acts : Int32) (t_signs : Int32) (t_pad : (Nat → Int32))  (post : Int32 → Prop) (hf : pX7_fault t_signs t_pad post) :
    Met l yX7_fault wsX7_fault ({ frames := 3, cells := 0, slots := 0, locals := 65 } : Room) (va_Pc [.ref q_t] (B0 D (tyL cI cZ cJ cO) [(q_t, .inr (7, [.ref q_t_book, .ref q_t_now, .int t_shift, .int t_kneels, .int t_sights, .ref q_t_sight, .int t_signs, .ref q_t_pad, .int t_metAt, .int t_metWho, .int t_reason, .int t_acts, .ref q_t_had, .ref q_t_takes, .ref q_t_worths, .ref q_t_fitting, .ref q_t_wins, .ref q_t_ways, .ref q_t_image, .ref q_t_isKept])), (q_t_pad, .inl (cI, 60, .inl t_pad))])) (vp_Si post) 0 0 (fun _ => False) := by
  unfold pX7_fault at hf
  refine xm_0i (own := RX7) (by decide) rfl rfl (Nat.le_of_ble_eq_true rfl) (fun p e s m args below meth c Q C0 hN hK hret hP ls hl => ?_)
  obtain ⟨hx, hb, hml, hown, hts⟩ := id C0
  have hl : lv_has ls 1 [(0, .ref q_t)] := hl
  refine lv_aload_n hx hb dX7_fault_0 rfl (lv_at hl 0 rfl) ?_
  refine xs_i (va_runV (As := []) (rest := []) ⟨hx, hb, hml, hown, hts⟩ (kX7_faultOf l D cI cZ cJ cO q_t q_t_pad q_t_book q_t_now q_t_sight q_t_had q_t_takes q_t_worths q_t_fitting q_t_wins q_t_ways q_t_image q_t_isKept t_shift t_kneels t_sights t_metAt t_metWho t_reason t_acts t_signs t_pad _ hf) (cwV 0 hts gX7_fault_X7_faultOf rfl rfl rfl (by decide +kernel) ⟨Nat.le_of_ble_eq_true rfl, Nat.le_of_ble_eq_true rfl⟩) (B0_preV (ci := 7) (q0 := 0) hP rfl rfl (hP.sub (ws' := [(q_t, .inr (7, [.ref q_t_book, .ref q_t_now, .int t_shift, .int t_kneels, .int t_sights, .ref q_t_sight, .int t_signs, .ref q_t_pad, .int t_metAt, .int t_metWho, .int t_reason, .int t_acts, .ref q_t_had, .ref q_t_takes, .ref q_t_worths, .ref q_t_fitting, .ref q_t_wins, .ref q_t_ways, .ref q_t_image, .ref q_t_isKept])), (q_t_pad, .inl (cI, 60, .inl t_pad))]) [0, 1] rfl) hK hN) rfl rfl hl.1 rfl (lv_room (Nat.le_of_ble_eq_true rfl)) dX7_fault_1 ⟨Nat.zero_le _, Nat.zero_le _⟩) (fun r1 hf => ?_)
  exact hret 4 ls r1 dX7_fault_4 hf

/-! X7_isKneeling -/
theorem mX7_isKneeling_1 : Cond.fieldLink RX7 13 "OxenKneelModel" "now" "[I" ∈ wsX7_isKneeling := List.mem_of_getElem? (i := 1) rfl
theorem mX7_isKneeling_2 : Cond.fieldLink RX7 20 "OxenKneelModel" "kneels" "I" ∈ wsX7_isKneeling := List.mem_of_getElem? (i := 2) rfl
theorem nX7_isKneeling_X7 : ∀ w ∈ wsX70, w ∈ wsX7_isKneeling := fun _ h => List.mem_cons_of_mem _ (List.mem_append_right _ h)
def pX7_isKneeling (t_kneels : Int32) (t_now : (Nat → Int32))  (post : Int32 → Prop) : Prop :=
  (¬ (t_now 42) = t_kneels → (post 0)) ∧ ((t_now 42) = t_kneels → ((¬ (t_now 43) = 0 → (post 0)) ∧ ((t_now 43) = 0 → (post 1))))

set_option maxHeartbeats 4000000 in
set_option maxRecDepth 100000 in
theorem kX7_isKneeling (l : Launch) (D : va_G) (cI cZ cJ cO : ClassId) (q_t q_t_now q_t_book q_t_sight q_t_pad q_t_had q_t_takes q_t_worths q_t_fitting q_t_wins q_t_ways q_t_image q_t_isKept : Nat) (t_shift : Int32) (t_sights : Int32) (t_signs : Int32) (t_metAt : Int32) (t_metWho : Int32) (t_reason : Int32) (t_acts : Int32) (t_kneels : Int32) (t_now : (Nat → Int32))  (post : Int32 → Prop) (hf : pX7_isKneeling t_kneels t_now post) :
    Met l yX7_isKneeling wsX7_isKneeling ({ frames := 0, cells := 0, slots := 0, locals := 0 } : Room) (va_Pc [.ref q_t] (B0 D (tyL cI cZ cJ cO) [(q_t, .inr (7, [.ref q_t_book, .ref q_t_now, .int t_shift, .int t_kneels, .int t_sights, .ref q_t_sight, .int t_signs, .ref q_t_pad, .int t_metAt, .int t_metWho, .int t_reason, .int t_acts, .ref q_t_had, .ref q_t_takes, .ref q_t_worths, .ref q_t_fitting, .ref q_t_wins, .ref q_t_ways, .ref q_t_image, .ref q_t_isKept])), (q_t_now, .inl (cI, 45, .inl t_now))])) (vp_Si post) 0 0 (fun _ => False) := by
  unfold pX7_isKneeling at hf
  refine xm_0z (own := RX7) (by decide) rfl rfl (Nat.le_of_ble_eq_true rfl) (fun p e s m args below meth c Q C0 hN hK hret hP ls hl => ?_)
  obtain ⟨hx, hb, hml, hown, hts⟩ := id C0
  have hl : lv_has ls 1 [(0, .ref q_t)] := hl
  refine lv_aload_n hx hb dX7_isKneeling_0 rfl (lv_at hl 0 rfl) ?_
  refine va_get (D := D) (ci := 7) (v := .ref q_t_now) (C := RX7) (T := TX7) (N := 20) hx hb hts nX7_isKneeling_X7 hown hK hP 0 rfl rfl 1 (by decide) (hts _ mX7_isKneeling_1) (fun _ h9 => h9) rfl dX7_isKneeling_1 ?_
  refine lv_bipush (v := 42) hx hb dX7_isKneeling_4 (by decide) ?_
  refine xa_iald hx hb hK hP 1 0 rfl rfl (j := 42) (by decide) (vpc rfl) dX7_isKneeling_6 ?_
  refine lv_aload_n hx hb dX7_isKneeling_7 rfl (lv_at hl 0 rfl) ?_
  refine va_get (D := D) (ci := 7) (v := .int t_kneels) (C := RX7) (T := TX7) (N := 20) hx hb hts nX7_isKneeling_X7 hown hK hP 0 rfl rfl 3 (by decide) (hts _ mX7_isKneeling_2) (fun _ h9 => h9) rfl dX7_isKneeling_8 ?_
  refine lv_icmp_ne (tgt := 28) hx hb dX7_isKneeling_11 (by decide) (fun c1 => ?_) (fun c1 => ?_)
  · have hf := hf.1 c1
    refine lv_iconst (v := 0) hx hb dX7_isKneeling_28 (by decide) ?_
    exact hret 29 ls 0 dX7_isKneeling_29 rfl hf
  · have hf := hf.2 c1
    refine lv_aload_n hx hb dX7_isKneeling_14 rfl (lv_at hl 0 rfl) ?_
    refine va_get (D := D) (ci := 7) (v := .ref q_t_now) (C := RX7) (T := TX7) (N := 20) hx hb hts nX7_isKneeling_X7 hown hK hP 0 rfl rfl 1 (by decide) (hts _ mX7_isKneeling_1) (fun _ h9 => h9) rfl dX7_isKneeling_15 ?_
    refine lv_bipush (v := 43) hx hb dX7_isKneeling_18 (by decide) ?_
    refine xa_iald hx hb hK hP 1 0 rfl rfl (j := 43) (by decide) (vpc rfl) dX7_isKneeling_20 ?_
    refine lv_if_ne (tgt := 28) hx hb dX7_isKneeling_21 (by decide) (fun c2 => ?_) (fun c2 => ?_)
    · have hf := hf.1 c2
      refine lv_iconst (v := 0) hx hb dX7_isKneeling_28 (by decide) ?_
      exact hret 29 ls 0 dX7_isKneeling_29 rfl hf
    · have hf := hf.2 c2
      refine lv_iconst (v := 1) hx hb dX7_isKneeling_24 (by decide) ?_
      refine lv_goto (tgt := 29) hx hb dX7_isKneeling_25 (by decide) ?_
      exact hret 29 ls 1 dX7_isKneeling_29 rfl hf

/-! X7_stepOver -/
theorem mX7_stepOver_1 : Cond.fieldLink RX7 13 "OxenKneelModel" "now" "[I" ∈ wsX7_stepOver := List.mem_of_getElem? (i := 1) rfl
theorem mX7_stepOver_2 : Cond.fieldLink RX7 16 "OxenKneelModel" "shift" "I" ∈ wsX7_stepOver := List.mem_of_getElem? (i := 2) rfl
theorem nX7_stepOver_X7 : ∀ w ∈ wsX70, w ∈ wsX7_stepOver := fun _ h => List.mem_cons_of_mem _ (List.mem_append_right _ h)
def pX7_stepOver (t_shift : Int32) (t_kneels : Int32) (t_now : (Nat → Int32)) (a1 : Int32) (post : Int32 → ((Nat → Int32)) → Prop) : Prop :=
  vp_in a1 45 ∧ (((t_now a1.toNatClampNeg) < 0 → (pX7_isKneeling t_kneels t_now (fun r3 => (¬ r3 = 0 → ((¬ t_shift = 0 → (vp_in a1 45 ∧ (post 0 (upd t_now a1.toNatClampNeg 0)))) ∧ (t_shift = 0 → (post 3 t_now)))) ∧ (r3 = 0 → (post 2 t_now))))) ∧ (¬ (t_now a1.toNatClampNeg) < 0 → (post 1 t_now)))

set_option maxHeartbeats 4000000 in
set_option maxRecDepth 100000 in
theorem kX7_stepOver (l : Launch) (D : va_G) (cI cZ cJ cO : ClassId) (q_t q_t_now q_t_book q_t_sight q_t_pad q_t_had q_t_takes q_t_worths q_t_fitting q_t_wins q_t_ways q_t_image q_t_isKept : Nat) (sz : Nat) (t_sights : Int32) (t_signs : Int32) (t_metAt : Int32) (t_metWho : Int32) (t_reason : Int32) (t_acts : Int32) (t_shift : Int32) (t_kneels : Int32) (t_now : (Nat → Int32)) (a1 : Int32) (post : Int32 → ((Nat → Int32)) → Prop) (hf : pX7_stepOver t_shift t_kneels t_now a1 post) :
    Met l yX7_stepOver wsX7_stepOver ({ frames := 1, cells := 0, slots := 0, locals := 20 } : Room) (va_Pc [.ref q_t, .int a1] (B1 D (tyL cI cZ cJ cO) [(q_t, .inr (7, [.ref q_t_book, .ref q_t_now, .int t_shift, .int t_kneels, .int t_sights, .ref q_t_sight, .int t_signs, .ref q_t_pad, .int t_metAt, .int t_metWho, .int t_reason, .int t_acts, .ref q_t_had, .ref q_t_takes, .ref q_t_worths, .ref q_t_fitting, .ref q_t_wins, .ref q_t_ways, .ref q_t_image, .ref q_t_isKept])), (q_t_now, .inl (cI, 45, .inl t_now))] sz)) (va_Qi post (fun u t => E1 D (va_A [(q_t, .inr (7, [.ref q_t_book, .ref q_t_now, .int t_shift, .int t_kneels, .int t_sights, .ref q_t_sight, .int t_signs, .ref q_t_pad, .int t_metAt, .int t_metWho, .int t_reason, .int t_acts, .ref q_t_had, .ref q_t_takes, .ref q_t_worths, .ref q_t_fitting, .ref q_t_wins, .ref q_t_ways, .ref q_t_image, .ref q_t_isKept])), (q_t_now, .inl (cI, 45, .inl t_now))] sz) ((fun u : (Nat → Int32) => [(q_t, .inr (7, [.ref q_t_book, .ref q_t_now, .int t_shift, .int t_kneels, .int t_sights, .ref q_t_sight, .int t_signs, .ref q_t_pad, .int t_metAt, .int t_metWho, .int t_reason, .int t_acts, .ref q_t_had, .ref q_t_takes, .ref q_t_worths, .ref q_t_fitting, .ref q_t_wins, .ref q_t_ways, .ref q_t_image, .ref q_t_isKept])), (q_t_now, .inl (cI, 45, .inl u))]) u) t) (va_A [(q_t, .inr (7, [.ref q_t_book, .ref q_t_now, .int t_shift, .int t_kneels, .int t_sights, .ref q_t_sight, .int t_signs, .ref q_t_pad, .int t_metAt, .int t_metWho, .int t_reason, .int t_acts, .ref q_t_had, .ref q_t_takes, .ref q_t_worths, .ref q_t_fitting, .ref q_t_wins, .ref q_t_ways, .ref q_t_image, .ref q_t_isKept])), (q_t_now, .inl (cI, 45, .inl t_now))] sz)) 0 0 (va_A [(q_t, .inr (7, [.ref q_t_book, .ref q_t_now, .int t_shift, .int t_kneels, .int t_sights, .ref q_t_sight, .int t_signs, .ref q_t_pad, .int t_metAt, .int t_metWho, .int t_reason, .int t_acts, .ref q_t_had, .ref q_t_takes, .ref q_t_worths, .ref q_t_fitting, .ref q_t_wins, .ref q_t_ways, .ref q_t_image, .ref q_t_isKept])), (q_t_now, .inl (cI, 45, .inl t_now))] sz) := by
  unfold pX7_stepOver at hf
  refine xm_1i (own := RX7) (by decide) rfl rfl (Nat.le_of_ble_eq_true rfl) (fun p e s m args below meth c Q A C0 hN hK hA hret hP hD ls hl => ?_)
  obtain ⟨hx, hb, hml, hown, hts⟩ := id C0
  have hl : lv_has ls 2 [(0, .ref q_t), (1, .int a1)] := hl
  have hS : va_S A s.heap s.heap [] := va_S.rf
  obtain ⟨H, hHe⟩ : ∃ H, H = s.heap := ⟨_, rfl⟩
  obtain ⟨locs, hLe⟩ : ∃ L : List Loc, L = [] := ⟨_, rfl⟩
  rw [← hLe]
  rw [← hLe] at hS
  have hP : va_P D vwCl [(q_t, .inr (7, [.ref q_t_book, .ref q_t_now, .int t_shift, .int t_kneels, .int t_sights, .ref q_t_sight, .int t_signs, .ref q_t_pad, .int t_metAt, .int t_metWho, .int t_reason, .int t_acts, .ref q_t_had, .ref q_t_takes, .ref q_t_worths, .ref q_t_fitting, .ref q_t_wins, .ref q_t_ways, .ref q_t_image, .ref q_t_isKept])), (q_t_now, .inl (cI, 45, .inl t_now))] H := by rw [hHe]; exact hP
  have hS : va_S A s.heap H locs := by rw [hHe]; exact hS
  suffices hgo : W p l e ({ frames := 1, cells := 0, slots := 0, locals := 20 } : Room) s m args below meth c H locs 0 0 Q (F0 m 0 ls []) by rw [← hHe]; exact hgo
  clear hHe hLe
  refine lv_aload_n hx hb dX7_stepOver_0 rfl (lv_at hl 0 rfl) ?_
  refine va_get (D := D) (ci := 7) (v := .ref q_t_now) (C := RX7) (T := TX7) (N := 20) hx hb hts nX7_stepOver_X7 hown hK hP 0 rfl rfl 1 (by decide) (hts _ mX7_stepOver_1) (fun _ h9 => h9) rfl dX7_stepOver_1 ?_
  refine lv_iload_n hx hb dX7_stepOver_4 rfl (lv_at hl 1 rfl) ?_
  have g1 := hf.1
  have hf := hf.2
  refine xa_iald hx hb hK hP 1 0 rfl rfl (j := a1.toNatClampNeg) rfl g1 dX7_stepOver_5 ?_
  refine lv_if_lt (tgt := 11) hx hb dX7_stepOver_6 (by decide) (fun c2 => ?_) (fun c2 => ?_)
  · have hf := hf.1 c2
    refine lv_aload_n hx hb dX7_stepOver_11 rfl (lv_at hl 0 rfl) ?_
    refine xs_i (va_runV (As := []) (rest := []) ⟨hx, hb, hml, hown, hts⟩ (kX7_isKneeling l D cI cZ cJ cO q_t q_t_now q_t_book q_t_sight q_t_pad q_t_had q_t_takes q_t_worths q_t_fitting q_t_wins q_t_ways q_t_image q_t_isKept t_shift t_sights t_signs t_metAt t_metWho t_reason t_acts t_kneels t_now _ hf) (cwV 0 hts gX7_stepOver_X7_isKneeling rfl rfl rfl (by decide +kernel) ⟨Nat.le_of_ble_eq_true rfl, Nat.le_of_ble_eq_true rfl⟩) (B0_preV (ci := 7) (q0 := 0) hP rfl rfl (hP.sub (ws' := [(q_t, .inr (7, [.ref q_t_book, .ref q_t_now, .int t_shift, .int t_kneels, .int t_sights, .ref q_t_sight, .int t_signs, .ref q_t_pad, .int t_metAt, .int t_metWho, .int t_reason, .int t_acts, .ref q_t_had, .ref q_t_takes, .ref q_t_worths, .ref q_t_fitting, .ref q_t_wins, .ref q_t_ways, .ref q_t_image, .ref q_t_isKept])), (q_t_now, .inl (cI, 45, .inl t_now))]) [0, 1] rfl) hK hN) rfl rfl hl.1 rfl (lv_room (Nat.le_of_ble_eq_true rfl)) dX7_stepOver_12 ⟨Nat.zero_le _, Nat.zero_le _⟩) (fun r3 hf => ?_)
    refine lv_if_ne (tgt := 20) hx hb dX7_stepOver_15 (by decide) (fun c4 => ?_) (fun c4 => ?_)
    · have hf := hf.1 c4
      refine lv_aload_n hx hb dX7_stepOver_20 rfl (lv_at hl 0 rfl) ?_
      refine va_get (D := D) (ci := 7) (v := .int t_shift) (C := RX7) (T := TX7) (N := 20) hx hb hts nX7_stepOver_X7 hown hK hP 0 rfl rfl 2 (by decide) (hts _ mX7_stepOver_2) (fun _ h9 => h9) rfl dX7_stepOver_21 ?_
      refine lv_if_ne (tgt := 29) hx hb dX7_stepOver_24 (by decide) (fun c5 => ?_) (fun c5 => ?_)
      · have hf := hf.1 c5
        refine lv_aload_n hx hb dX7_stepOver_29 rfl (lv_at hl 0 rfl) ?_
        refine va_get (D := D) (ci := 7) (v := .ref q_t_now) (C := RX7) (T := TX7) (N := 20) hx hb hts nX7_stepOver_X7 hown hK hP 0 rfl rfl 1 (by decide) (hts _ mX7_stepOver_1) (fun _ h9 => h9) rfl dX7_stepOver_30 ?_
        refine lv_iload_n hx hb dX7_stepOver_33 rfl (lv_at hl 1 rfl) ?_
        refine lv_iconst (v := 0) hx hb dX7_stepOver_34 (by decide) ?_
        have g6 := hf.1
        have hf := hf.2
        refine xa_iast hx hb hK hP hD hS 1 0 rfl rfl (j := a1.toNatClampNeg) rfl g6 dX7_stepOver_35 (fun H locs hP hD hS => ?_)
        have hP : va_P D vwCl [(q_t, .inr (7, [.ref q_t_book, .ref q_t_now, .int t_shift, .int t_kneels, .int t_sights, .ref q_t_sight, .int t_signs, .ref q_t_pad, .int t_metAt, .int t_metWho, .int t_reason, .int t_acts, .ref q_t_had, .ref q_t_takes, .ref q_t_worths, .ref q_t_fitting, .ref q_t_wins, .ref q_t_ways, .ref q_t_image, .ref q_t_isKept])), (q_t_now, .inl (cI, 45, .inl (upd t_now a1.toNatClampNeg 0)))] H := hP
        have hD : va_D A [(q_t, .inr (7, [.ref q_t_book, .ref q_t_now, .int t_shift, .int t_kneels, .int t_sights, .ref q_t_sight, .int t_signs, .ref q_t_pad, .int t_metAt, .int t_metWho, .int t_reason, .int t_acts, .ref q_t_had, .ref q_t_takes, .ref q_t_worths, .ref q_t_fitting, .ref q_t_wins, .ref q_t_ways, .ref q_t_image, .ref q_t_isKept])), (q_t_now, .inl (cI, 45, .inl (upd t_now a1.toNatClampNeg 0)))] := hD
        refine lv_iconst (v := 0) hx hb dX7_stepOver_36 (by decide) ?_
        exact hret 37 ls H locs 0 (upd t_now a1.toNatClampNeg 0) dX7_stepOver_37 hf hP hD hS
      · have hf := hf.2 c5
        refine lv_iconst (v := 3) hx hb dX7_stepOver_27 (by decide) ?_
        exact hret 28 ls H locs 3 t_now dX7_stepOver_28 hf hP hD hS
    · have hf := hf.2 c4
      refine lv_iconst (v := 2) hx hb dX7_stepOver_18 (by decide) ?_
      exact hret 19 ls H locs 2 t_now dX7_stepOver_19 hf hP hD hS
  · have hf := hf.2 c2
    refine lv_iconst (v := 1) hx hb dX7_stepOver_9 (by decide) ?_
    exact hret 10 ls H locs 1 t_now dX7_stepOver_10 hf hP hD hS

/-! X7_comeOut -/
theorem mX7_comeOut_1 : Cond.fieldLink RX7 13 "OxenKneelModel" "now" "[I" ∈ wsX7_comeOut := List.mem_of_getElem? (i := 1) rfl
theorem nX7_comeOut_X7 : ∀ w ∈ wsX70, w ∈ wsX7_comeOut := fun _ h => List.mem_cons_of_mem _ (List.mem_append_right _ h)
def pX7_comeOut (t_kneels : Int32) (t_now : (Nat → Int32)) (a1 : Int32) (post : Int32 → ((Nat → Int32)) → Prop) : Prop :=
  vp_in a1 45 ∧ ((0 ≤ (t_now a1.toNatClampNeg) → (pX7_isKneeling t_kneels t_now (fun r3 => (¬ r3 = 0 → (vp_in a1 45 ∧ (post 0 (upd t_now a1.toNatClampNeg (-6))))) ∧ (r3 = 0 → (post 2 t_now))))) ∧ (¬ 0 ≤ (t_now a1.toNatClampNeg) → (post 1 t_now)))

set_option maxHeartbeats 4000000 in
set_option maxRecDepth 100000 in
theorem kX7_comeOut (l : Launch) (D : va_G) (cI cZ cJ cO : ClassId) (q_t q_t_now q_t_book q_t_sight q_t_pad q_t_had q_t_takes q_t_worths q_t_fitting q_t_wins q_t_ways q_t_image q_t_isKept : Nat) (sz : Nat) (t_shift : Int32) (t_sights : Int32) (t_signs : Int32) (t_metAt : Int32) (t_metWho : Int32) (t_reason : Int32) (t_acts : Int32) (t_kneels : Int32) (t_now : (Nat → Int32)) (a1 : Int32) (post : Int32 → ((Nat → Int32)) → Prop) (hf : pX7_comeOut t_kneels t_now a1 post) :
    Met l yX7_comeOut wsX7_comeOut ({ frames := 1, cells := 0, slots := 0, locals := 20 } : Room) (va_Pc [.ref q_t, .int a1] (B1 D (tyL cI cZ cJ cO) [(q_t, .inr (7, [.ref q_t_book, .ref q_t_now, .int t_shift, .int t_kneels, .int t_sights, .ref q_t_sight, .int t_signs, .ref q_t_pad, .int t_metAt, .int t_metWho, .int t_reason, .int t_acts, .ref q_t_had, .ref q_t_takes, .ref q_t_worths, .ref q_t_fitting, .ref q_t_wins, .ref q_t_ways, .ref q_t_image, .ref q_t_isKept])), (q_t_now, .inl (cI, 45, .inl t_now))] sz)) (va_Qi post (fun u t => E1 D (va_A [(q_t, .inr (7, [.ref q_t_book, .ref q_t_now, .int t_shift, .int t_kneels, .int t_sights, .ref q_t_sight, .int t_signs, .ref q_t_pad, .int t_metAt, .int t_metWho, .int t_reason, .int t_acts, .ref q_t_had, .ref q_t_takes, .ref q_t_worths, .ref q_t_fitting, .ref q_t_wins, .ref q_t_ways, .ref q_t_image, .ref q_t_isKept])), (q_t_now, .inl (cI, 45, .inl t_now))] sz) ((fun u : (Nat → Int32) => [(q_t, .inr (7, [.ref q_t_book, .ref q_t_now, .int t_shift, .int t_kneels, .int t_sights, .ref q_t_sight, .int t_signs, .ref q_t_pad, .int t_metAt, .int t_metWho, .int t_reason, .int t_acts, .ref q_t_had, .ref q_t_takes, .ref q_t_worths, .ref q_t_fitting, .ref q_t_wins, .ref q_t_ways, .ref q_t_image, .ref q_t_isKept])), (q_t_now, .inl (cI, 45, .inl u))]) u) t) (va_A [(q_t, .inr (7, [.ref q_t_book, .ref q_t_now, .int t_shift, .int t_kneels, .int t_sights, .ref q_t_sight, .int t_signs, .ref q_t_pad, .int t_metAt, .int t_metWho, .int t_reason, .int t_acts, .ref q_t_had, .ref q_t_takes, .ref q_t_worths, .ref q_t_fitting, .ref q_t_wins, .ref q_t_ways, .ref q_t_image, .ref q_t_isKept])), (q_t_now, .inl (cI, 45, .inl t_now))] sz)) 0 0 (va_A [(q_t, .inr (7, [.ref q_t_book, .ref q_t_now, .int t_shift, .int t_kneels, .int t_sights, .ref q_t_sight, .int t_signs, .ref q_t_pad, .int t_metAt, .int t_metWho, .int t_reason, .int t_acts, .ref q_t_had, .ref q_t_takes, .ref q_t_worths, .ref q_t_fitting, .ref q_t_wins, .ref q_t_ways, .ref q_t_image, .ref q_t_isKept])), (q_t_now, .inl (cI, 45, .inl t_now))] sz) := by
  unfold pX7_comeOut at hf
  refine xm_1i (own := RX7) (by decide) rfl rfl (Nat.le_of_ble_eq_true rfl) (fun p e s m args below meth c Q A C0 hN hK hA hret hP hD ls hl => ?_)
  obtain ⟨hx, hb, hml, hown, hts⟩ := id C0
  have hl : lv_has ls 2 [(0, .ref q_t), (1, .int a1)] := hl
  have hS : va_S A s.heap s.heap [] := va_S.rf
  obtain ⟨H, hHe⟩ : ∃ H, H = s.heap := ⟨_, rfl⟩
  obtain ⟨locs, hLe⟩ : ∃ L : List Loc, L = [] := ⟨_, rfl⟩
  rw [← hLe]
  rw [← hLe] at hS
  have hP : va_P D vwCl [(q_t, .inr (7, [.ref q_t_book, .ref q_t_now, .int t_shift, .int t_kneels, .int t_sights, .ref q_t_sight, .int t_signs, .ref q_t_pad, .int t_metAt, .int t_metWho, .int t_reason, .int t_acts, .ref q_t_had, .ref q_t_takes, .ref q_t_worths, .ref q_t_fitting, .ref q_t_wins, .ref q_t_ways, .ref q_t_image, .ref q_t_isKept])), (q_t_now, .inl (cI, 45, .inl t_now))] H := by rw [hHe]; exact hP
  have hS : va_S A s.heap H locs := by rw [hHe]; exact hS
  suffices hgo : W p l e ({ frames := 1, cells := 0, slots := 0, locals := 20 } : Room) s m args below meth c H locs 0 0 Q (F0 m 0 ls []) by rw [← hHe]; exact hgo
  clear hHe hLe
  refine lv_aload_n hx hb dX7_comeOut_0 rfl (lv_at hl 0 rfl) ?_
  refine va_get (D := D) (ci := 7) (v := .ref q_t_now) (C := RX7) (T := TX7) (N := 20) hx hb hts nX7_comeOut_X7 hown hK hP 0 rfl rfl 1 (by decide) (hts _ mX7_comeOut_1) (fun _ h9 => h9) rfl dX7_comeOut_1 ?_
  refine lv_iload_n hx hb dX7_comeOut_4 rfl (lv_at hl 1 rfl) ?_
  have g1 := hf.1
  have hf := hf.2
  refine xa_iald hx hb hK hP 1 0 rfl rfl (j := a1.toNatClampNeg) rfl g1 dX7_comeOut_5 ?_
  refine lv_if_ge (tgt := 11) hx hb dX7_comeOut_6 (by decide) (fun c2 => ?_) (fun c2 => ?_)
  · have hf := hf.1 c2
    refine lv_aload_n hx hb dX7_comeOut_11 rfl (lv_at hl 0 rfl) ?_
    refine xs_i (va_runV (As := []) (rest := []) ⟨hx, hb, hml, hown, hts⟩ (kX7_isKneeling l D cI cZ cJ cO q_t q_t_now q_t_book q_t_sight q_t_pad q_t_had q_t_takes q_t_worths q_t_fitting q_t_wins q_t_ways q_t_image q_t_isKept t_shift t_sights t_signs t_metAt t_metWho t_reason t_acts t_kneels t_now _ hf) (cwV 0 hts gX7_comeOut_X7_isKneeling rfl rfl rfl (by decide +kernel) ⟨Nat.le_of_ble_eq_true rfl, Nat.le_of_ble_eq_true rfl⟩) (B0_preV (ci := 7) (q0 := 0) hP rfl rfl (hP.sub (ws' := [(q_t, .inr (7, [.ref q_t_book, .ref q_t_now, .int t_shift, .int t_kneels, .int t_sights, .ref q_t_sight, .int t_signs, .ref q_t_pad, .int t_metAt, .int t_metWho, .int t_reason, .int t_acts, .ref q_t_had, .ref q_t_takes, .ref q_t_worths, .ref q_t_fitting, .ref q_t_wins, .ref q_t_ways, .ref q_t_image, .ref q_t_isKept])), (q_t_now, .inl (cI, 45, .inl t_now))]) [0, 1] rfl) hK hN) rfl rfl hl.1 rfl (lv_room (Nat.le_of_ble_eq_true rfl)) dX7_comeOut_12 ⟨Nat.zero_le _, Nat.zero_le _⟩) (fun r3 hf => ?_)
    refine lv_if_ne (tgt := 20) hx hb dX7_comeOut_15 (by decide) (fun c4 => ?_) (fun c4 => ?_)
    · have hf := hf.1 c4
      refine lv_aload_n hx hb dX7_comeOut_20 rfl (lv_at hl 0 rfl) ?_
      refine va_get (D := D) (ci := 7) (v := .ref q_t_now) (C := RX7) (T := TX7) (N := 20) hx hb hts nX7_comeOut_X7 hown hK hP 0 rfl rfl 1 (by decide) (hts _ mX7_comeOut_1) (fun _ h9 => h9) rfl dX7_comeOut_21 ?_
      refine lv_iload_n hx hb dX7_comeOut_24 rfl (lv_at hl 1 rfl) ?_
      refine lv_bipush (v := (-6)) hx hb dX7_comeOut_25 (by decide) ?_
      have g5 := hf.1
      have hf := hf.2
      refine xa_iast hx hb hK hP hD hS 1 0 rfl rfl (j := a1.toNatClampNeg) rfl g5 dX7_comeOut_27 (fun H locs hP hD hS => ?_)
      have hP : va_P D vwCl [(q_t, .inr (7, [.ref q_t_book, .ref q_t_now, .int t_shift, .int t_kneels, .int t_sights, .ref q_t_sight, .int t_signs, .ref q_t_pad, .int t_metAt, .int t_metWho, .int t_reason, .int t_acts, .ref q_t_had, .ref q_t_takes, .ref q_t_worths, .ref q_t_fitting, .ref q_t_wins, .ref q_t_ways, .ref q_t_image, .ref q_t_isKept])), (q_t_now, .inl (cI, 45, .inl (upd t_now a1.toNatClampNeg (-6))))] H := hP
      have hD : va_D A [(q_t, .inr (7, [.ref q_t_book, .ref q_t_now, .int t_shift, .int t_kneels, .int t_sights, .ref q_t_sight, .int t_signs, .ref q_t_pad, .int t_metAt, .int t_metWho, .int t_reason, .int t_acts, .ref q_t_had, .ref q_t_takes, .ref q_t_worths, .ref q_t_fitting, .ref q_t_wins, .ref q_t_ways, .ref q_t_image, .ref q_t_isKept])), (q_t_now, .inl (cI, 45, .inl (upd t_now a1.toNatClampNeg (-6))))] := hD
      refine lv_iconst (v := 0) hx hb dX7_comeOut_28 (by decide) ?_
      exact hret 29 ls H locs 0 (upd t_now a1.toNatClampNeg (-6)) dX7_comeOut_29 hf hP hD hS
    · have hf := hf.2 c4
      refine lv_iconst (v := 2) hx hb dX7_comeOut_18 (by decide) ?_
      exact hret 19 ls H locs 2 t_now dX7_comeOut_19 hf hP hD hS
  · have hf := hf.2 c2
    refine lv_iconst (v := 1) hx hb dX7_comeOut_9 (by decide) ?_
    exact hret 10 ls H locs 1 t_now dX7_comeOut_10 hf hP hD hS

/-! X7_walk -/
theorem mX7_walk_1 : Cond.fieldLink RX7 13 "OxenKneelModel" "now" "[I" ∈ wsX7_walk := List.mem_of_getElem? (i := 1) rfl
theorem mX7_walk_2 : Cond.fieldLink RX7 16 "OxenKneelModel" "shift" "I" ∈ wsX7_walk := List.mem_of_getElem? (i := 2) rfl
theorem nX7_walk_X7 : ∀ w ∈ wsX70, w ∈ wsX7_walk := fun _ h => List.mem_cons_of_mem _ (List.mem_append_right _ h)
def pX7_walk (t_shift : Int32) (t_now : (Nat → Int32)) (a1 : Int32) (a2 : Int32) (post : Int32 → ((Nat → Int32)) → Prop) : Prop :=
  vp_in a1 45 ∧ ((0 ≤ (t_now a1.toNatClampNeg) → (vp_in a1 45 ∧ (pX7_in ((t_now a1.toNatClampNeg) + a2) 0 (t_shift - 1) (fun r4 => (¬ r4 = 0 → (vp_in a1 45 ∧ (∀ v7 : Int32, v7 = ((t_now a1.toNatClampNeg) + a2) → (vp_in a1 45 ∧ (post 0 (upd t_now a1.toNatClampNeg v7)))))) ∧ (r4 = 0 → (post 4 t_now)))))) ∧ (¬ 0 ≤ (t_now a1.toNatClampNeg) → (post 1 t_now)))

set_option maxHeartbeats 4000000 in
set_option maxRecDepth 100000 in
theorem kX7_walk (l : Launch) (D : va_G) (cI cZ cJ cO : ClassId) (q_t q_t_now q_t_book q_t_sight q_t_pad q_t_had q_t_takes q_t_worths q_t_fitting q_t_wins q_t_ways q_t_image q_t_isKept : Nat) (sz : Nat) (t_kneels : Int32) (t_sights : Int32) (t_signs : Int32) (t_metAt : Int32) (t_metWho : Int32) (t_reason : Int32) (t_acts : Int32) (t_shift : Int32) (t_now : (Nat → Int32)) (a1 : Int32) (a2 : Int32) (post : Int32 → ((Nat → Int32)) → Prop) (hf : pX7_walk t_shift t_now a1 a2 post) :
    Met l yX7_walk wsX7_walk ({ frames := 1, cells := 0, slots := 0, locals := 22 } : Room) (va_Pc [.ref q_t, .int a1, .int a2] (B1 D (tyL cI cZ cJ cO) [(q_t, .inr (7, [.ref q_t_book, .ref q_t_now, .int t_shift, .int t_kneels, .int t_sights, .ref q_t_sight, .int t_signs, .ref q_t_pad, .int t_metAt, .int t_metWho, .int t_reason, .int t_acts, .ref q_t_had, .ref q_t_takes, .ref q_t_worths, .ref q_t_fitting, .ref q_t_wins, .ref q_t_ways, .ref q_t_image, .ref q_t_isKept])), (q_t_now, .inl (cI, 45, .inl t_now))] sz)) (va_Qi post (fun u t => E1 D (va_A [(q_t, .inr (7, [.ref q_t_book, .ref q_t_now, .int t_shift, .int t_kneels, .int t_sights, .ref q_t_sight, .int t_signs, .ref q_t_pad, .int t_metAt, .int t_metWho, .int t_reason, .int t_acts, .ref q_t_had, .ref q_t_takes, .ref q_t_worths, .ref q_t_fitting, .ref q_t_wins, .ref q_t_ways, .ref q_t_image, .ref q_t_isKept])), (q_t_now, .inl (cI, 45, .inl t_now))] sz) ((fun u : (Nat → Int32) => [(q_t, .inr (7, [.ref q_t_book, .ref q_t_now, .int t_shift, .int t_kneels, .int t_sights, .ref q_t_sight, .int t_signs, .ref q_t_pad, .int t_metAt, .int t_metWho, .int t_reason, .int t_acts, .ref q_t_had, .ref q_t_takes, .ref q_t_worths, .ref q_t_fitting, .ref q_t_wins, .ref q_t_ways, .ref q_t_image, .ref q_t_isKept])), (q_t_now, .inl (cI, 45, .inl u))]) u) t) (va_A [(q_t, .inr (7, [.ref q_t_book, .ref q_t_now, .int t_shift, .int t_kneels, .int t_sights, .ref q_t_sight, .int t_signs, .ref q_t_pad, .int t_metAt, .int t_metWho, .int t_reason, .int t_acts, .ref q_t_had, .ref q_t_takes, .ref q_t_worths, .ref q_t_fitting, .ref q_t_wins, .ref q_t_ways, .ref q_t_image, .ref q_t_isKept])), (q_t_now, .inl (cI, 45, .inl t_now))] sz)) 0 0 (va_A [(q_t, .inr (7, [.ref q_t_book, .ref q_t_now, .int t_shift, .int t_kneels, .int t_sights, .ref q_t_sight, .int t_signs, .ref q_t_pad, .int t_metAt, .int t_metWho, .int t_reason, .int t_acts, .ref q_t_had, .ref q_t_takes, .ref q_t_worths, .ref q_t_fitting, .ref q_t_wins, .ref q_t_ways, .ref q_t_image, .ref q_t_isKept])), (q_t_now, .inl (cI, 45, .inl t_now))] sz) := by
  unfold pX7_walk at hf
  refine xm_1i (own := RX7) (by decide) rfl rfl (Nat.le_of_ble_eq_true rfl) (fun p e s m args below meth c Q A C0 hN hK hA hret hP hD ls hl => ?_)
  obtain ⟨hx, hb, hml, hown, hts⟩ := id C0
  have hl : lv_has ls 3 [(0, .ref q_t), (1, .int a1), (2, .int a2)] := hl
  have hS : va_S A s.heap s.heap [] := va_S.rf
  obtain ⟨H, hHe⟩ : ∃ H, H = s.heap := ⟨_, rfl⟩
  obtain ⟨locs, hLe⟩ : ∃ L : List Loc, L = [] := ⟨_, rfl⟩
  rw [← hLe]
  rw [← hLe] at hS
  have hP : va_P D vwCl [(q_t, .inr (7, [.ref q_t_book, .ref q_t_now, .int t_shift, .int t_kneels, .int t_sights, .ref q_t_sight, .int t_signs, .ref q_t_pad, .int t_metAt, .int t_metWho, .int t_reason, .int t_acts, .ref q_t_had, .ref q_t_takes, .ref q_t_worths, .ref q_t_fitting, .ref q_t_wins, .ref q_t_ways, .ref q_t_image, .ref q_t_isKept])), (q_t_now, .inl (cI, 45, .inl t_now))] H := by rw [hHe]; exact hP
  have hS : va_S A s.heap H locs := by rw [hHe]; exact hS
  suffices hgo : W p l e ({ frames := 1, cells := 0, slots := 0, locals := 22 } : Room) s m args below meth c H locs 0 0 Q (F0 m 0 ls []) by rw [← hHe]; exact hgo
  clear hHe hLe
  refine lv_aload_n hx hb dX7_walk_0 rfl (lv_at hl 0 rfl) ?_
  refine va_get (D := D) (ci := 7) (v := .ref q_t_now) (C := RX7) (T := TX7) (N := 20) hx hb hts nX7_walk_X7 hown hK hP 0 rfl rfl 1 (by decide) (hts _ mX7_walk_1) (fun _ h9 => h9) rfl dX7_walk_1 ?_
  refine lv_iload_n hx hb dX7_walk_4 rfl (lv_at hl 1 rfl) ?_
  have g1 := hf.1
  have hf := hf.2
  refine xa_iald hx hb hK hP 1 0 rfl rfl (j := a1.toNatClampNeg) rfl g1 dX7_walk_5 ?_
  refine lv_if_ge (tgt := 11) hx hb dX7_walk_6 (by decide) (fun c2 => ?_) (fun c2 => ?_)
  · have hf := hf.1 c2
    refine lv_aload_n hx hb dX7_walk_11 rfl (lv_at hl 0 rfl) ?_
    refine va_get (D := D) (ci := 7) (v := .ref q_t_now) (C := RX7) (T := TX7) (N := 20) hx hb hts nX7_walk_X7 hown hK hP 0 rfl rfl 1 (by decide) (hts _ mX7_walk_1) (fun _ h9 => h9) rfl dX7_walk_12 ?_
    refine lv_iload_n hx hb dX7_walk_15 rfl (lv_at hl 1 rfl) ?_
    have g3 := hf.1
    have hf := hf.2
    refine xa_iald hx hb hK hP 1 0 rfl rfl (j := a1.toNatClampNeg) rfl g3 dX7_walk_16 ?_
    refine lv_iload_n hx hb dX7_walk_17 rfl (lv_at hl 2 rfl) ?_
    refine lv_iadd hx hb dX7_walk_18 ?_
    refine lv_iconst (v := 0) hx hb dX7_walk_19 (by decide) ?_
    refine lv_aload_n hx hb dX7_walk_20 rfl (lv_at hl 0 rfl) ?_
    refine va_get (D := D) (ci := 7) (v := .int t_shift) (C := RX7) (T := TX7) (N := 20) hx hb hts nX7_walk_X7 hown hK hP 0 rfl rfl 2 (by decide) (hts _ mX7_walk_2) (fun _ h9 => h9) rfl dX7_walk_21 ?_
    refine lv_iconst (v := 1) hx hb dX7_walk_24 (by decide) ?_
    refine lv_isub hx hb dX7_walk_25 ?_
    refine xs_i (va_runS (As := [.int ((t_now a1.toNatClampNeg) + a2), .int 0, .int (t_shift - 1)]) (rest := []) ⟨hx, hb, hml, hown, hts⟩ (kX7_in l D cI cZ cJ cO ((t_now a1.toNatClampNeg) + a2) 0 (t_shift - 1) _ hf) (va_cwS 3 hts gX7_walk_X7_in rfl rfl rfl (by decide +kernel) ⟨Nat.le_of_ble_eq_true rfl, Nat.le_of_ble_eq_true rfl⟩) (B0_pre (hP.sub (ws' := []) [] rfl) hK hN) rfl rfl hl.1 rfl (lv_room (Nat.le_of_ble_eq_true rfl)) dX7_walk_26 ⟨Nat.zero_le _, Nat.zero_le _⟩) (fun r4 hf => ?_)
    refine lv_if_ne (tgt := 34) hx hb dX7_walk_29 (by decide) (fun c5 => ?_) (fun c5 => ?_)
    · have hf := hf.1 c5
      refine lv_aload_n hx hb dX7_walk_34 rfl (lv_at hl 0 rfl) ?_
      refine va_get (D := D) (ci := 7) (v := .ref q_t_now) (C := RX7) (T := TX7) (N := 20) hx hb hts nX7_walk_X7 hown hK hP 0 rfl rfl 1 (by decide) (hts _ mX7_walk_1) (fun _ h9 => h9) rfl dX7_walk_35 ?_
      refine lv_iload_n hx hb dX7_walk_38 rfl (lv_at hl 1 rfl) ?_
      refine lv_dup2_11 hx hb dX7_walk_39 rfl rfl ?_
      have g6 := hf.1
      have hf := hf.2
      refine xa_iald hx hb hK hP 1 0 rfl rfl (j := a1.toNatClampNeg) rfl g6 dX7_walk_40 ?_
      refine lv_iload_n hx hb dX7_walk_41 rfl (lv_at hl 2 rfl) ?_
      refine lv_iadd hx hb dX7_walk_42 ?_
      refine lv_topi (fun v7 ev7 => ?_)
      have hf := hf v7 ev7
      have g8 := hf.1
      have hf := hf.2
      refine xa_iast hx hb hK hP hD hS 1 0 rfl rfl (j := a1.toNatClampNeg) rfl g8 dX7_walk_43 (fun H locs hP hD hS => ?_)
      have hP : va_P D vwCl [(q_t, .inr (7, [.ref q_t_book, .ref q_t_now, .int t_shift, .int t_kneels, .int t_sights, .ref q_t_sight, .int t_signs, .ref q_t_pad, .int t_metAt, .int t_metWho, .int t_reason, .int t_acts, .ref q_t_had, .ref q_t_takes, .ref q_t_worths, .ref q_t_fitting, .ref q_t_wins, .ref q_t_ways, .ref q_t_image, .ref q_t_isKept])), (q_t_now, .inl (cI, 45, .inl (upd t_now a1.toNatClampNeg v7)))] H := hP
      have hD : va_D A [(q_t, .inr (7, [.ref q_t_book, .ref q_t_now, .int t_shift, .int t_kneels, .int t_sights, .ref q_t_sight, .int t_signs, .ref q_t_pad, .int t_metAt, .int t_metWho, .int t_reason, .int t_acts, .ref q_t_had, .ref q_t_takes, .ref q_t_worths, .ref q_t_fitting, .ref q_t_wins, .ref q_t_ways, .ref q_t_image, .ref q_t_isKept])), (q_t_now, .inl (cI, 45, .inl (upd t_now a1.toNatClampNeg v7)))] := hD
      refine lv_iconst (v := 0) hx hb dX7_walk_44 (by decide) ?_
      exact hret 45 ls H locs 0 (upd t_now a1.toNatClampNeg v7) dX7_walk_45 hf hP hD hS
    · have hf := hf.2 c5
      refine lv_iconst (v := 4) hx hb dX7_walk_32 (by decide) ?_
      exact hret 33 ls H locs 4 t_now dX7_walk_33 hf hP hD hS
  · have hf := hf.2 c2
    refine lv_iconst (v := 1) hx hb dX7_walk_9 (by decide) ?_
    exact hret 10 ls H locs 1 t_now dX7_walk_10 hf hP hD hS

/-! X7_leave -/
theorem mX7_leave_1 : Cond.fieldLink RX7 13 "OxenKneelModel" "now" "[I" ∈ wsX7_leave := List.mem_of_getElem? (i := 1) rfl
theorem nX7_leave_X7 : ∀ w ∈ wsX70, w ∈ wsX7_leave := fun _ h => List.mem_cons_of_mem _ (List.mem_append_right _ h)
def pX7_leave (t_now : (Nat → Int32)) (a1 : Int32) (a2 : Int32) (post : Int32 → ((Nat → Int32)) → Prop) : Prop :=
  vp_in a1 45 ∧ ((0 ≤ (t_now a1.toNatClampNeg) → (vp_in (6 + a1) 45 ∧ ((a2 ≤ (t_now (6 + a1).toNatClampNeg) → (vp_in (6 + a1) 45 ∧ (∀ v6 : Int32, v6 = ((t_now (6 + a1).toNatClampNeg) - a2) → (vp_in (6 + a1) 45 ∧ (vp_in a1 45 ∧ (vp_in (12 + ((upd t_now (6 + a1).toNatClampNeg v6) a1.toNatClampNeg)) 45 ∧ (∀ v10 : Int32, v10 = (((upd t_now (6 + a1).toNatClampNeg v6) (12 + ((upd t_now (6 + a1).toNatClampNeg v6) a1.toNatClampNeg)).toNatClampNeg) + a2) → (vp_in (12 + ((upd t_now (6 + a1).toNatClampNeg v6) a1.toNatClampNeg)) 45 ∧ (post 0 (upd (upd t_now (6 + a1).toNatClampNeg v6) (12 + ((upd t_now (6 + a1).toNatClampNeg v6) a1.toNatClampNeg)).toNatClampNeg v10)))))))))) ∧ (¬ a2 ≤ (t_now (6 + a1).toNatClampNeg) → (post 5 t_now))))) ∧ (¬ 0 ≤ (t_now a1.toNatClampNeg) → (post 1 t_now)))

set_option maxHeartbeats 4000000 in
set_option maxRecDepth 100000 in
theorem kX7_leave (l : Launch) (D : va_G) (cI cZ cJ cO : ClassId) (q_t q_t_now q_t_book q_t_sight q_t_pad q_t_had q_t_takes q_t_worths q_t_fitting q_t_wins q_t_ways q_t_image q_t_isKept : Nat) (sz : Nat) (t_shift : Int32) (t_kneels : Int32) (t_sights : Int32) (t_signs : Int32) (t_metAt : Int32) (t_metWho : Int32) (t_reason : Int32) (t_acts : Int32) (t_now : (Nat → Int32)) (a1 : Int32) (a2 : Int32) (post : Int32 → ((Nat → Int32)) → Prop) (hf : pX7_leave t_now a1 a2 post) :
    Met l yX7_leave wsX7_leave ({ frames := 0, cells := 0, slots := 0, locals := 0 } : Room) (va_Pc [.ref q_t, .int a1, .int a2] (B1 D (tyL cI cZ cJ cO) [(q_t, .inr (7, [.ref q_t_book, .ref q_t_now, .int t_shift, .int t_kneels, .int t_sights, .ref q_t_sight, .int t_signs, .ref q_t_pad, .int t_metAt, .int t_metWho, .int t_reason, .int t_acts, .ref q_t_had, .ref q_t_takes, .ref q_t_worths, .ref q_t_fitting, .ref q_t_wins, .ref q_t_ways, .ref q_t_image, .ref q_t_isKept])), (q_t_now, .inl (cI, 45, .inl t_now))] sz)) (va_Qi post (fun u t => E1 D (va_A [(q_t, .inr (7, [.ref q_t_book, .ref q_t_now, .int t_shift, .int t_kneels, .int t_sights, .ref q_t_sight, .int t_signs, .ref q_t_pad, .int t_metAt, .int t_metWho, .int t_reason, .int t_acts, .ref q_t_had, .ref q_t_takes, .ref q_t_worths, .ref q_t_fitting, .ref q_t_wins, .ref q_t_ways, .ref q_t_image, .ref q_t_isKept])), (q_t_now, .inl (cI, 45, .inl t_now))] sz) ((fun u : (Nat → Int32) => [(q_t, .inr (7, [.ref q_t_book, .ref q_t_now, .int t_shift, .int t_kneels, .int t_sights, .ref q_t_sight, .int t_signs, .ref q_t_pad, .int t_metAt, .int t_metWho, .int t_reason, .int t_acts, .ref q_t_had, .ref q_t_takes, .ref q_t_worths, .ref q_t_fitting, .ref q_t_wins, .ref q_t_ways, .ref q_t_image, .ref q_t_isKept])), (q_t_now, .inl (cI, 45, .inl u))]) u) t) (va_A [(q_t, .inr (7, [.ref q_t_book, .ref q_t_now, .int t_shift, .int t_kneels, .int t_sights, .ref q_t_sight, .int t_signs, .ref q_t_pad, .int t_metAt, .int t_metWho, .int t_reason, .int t_acts, .ref q_t_had, .ref q_t_takes, .ref q_t_worths, .ref q_t_fitting, .ref q_t_wins, .ref q_t_ways, .ref q_t_image, .ref q_t_isKept])), (q_t_now, .inl (cI, 45, .inl t_now))] sz)) 0 0 (va_A [(q_t, .inr (7, [.ref q_t_book, .ref q_t_now, .int t_shift, .int t_kneels, .int t_sights, .ref q_t_sight, .int t_signs, .ref q_t_pad, .int t_metAt, .int t_metWho, .int t_reason, .int t_acts, .ref q_t_had, .ref q_t_takes, .ref q_t_worths, .ref q_t_fitting, .ref q_t_wins, .ref q_t_ways, .ref q_t_image, .ref q_t_isKept])), (q_t_now, .inl (cI, 45, .inl t_now))] sz) := by
  unfold pX7_leave at hf
  refine xm_1i (own := RX7) (by decide) rfl rfl (Nat.le_of_ble_eq_true rfl) (fun p e s m args below meth c Q A C0 hN hK hA hret hP hD ls hl => ?_)
  obtain ⟨hx, hb, hml, hown, hts⟩ := id C0
  have hl : lv_has ls 3 [(0, .ref q_t), (1, .int a1), (2, .int a2)] := hl
  have hS : va_S A s.heap s.heap [] := va_S.rf
  obtain ⟨H, hHe⟩ : ∃ H, H = s.heap := ⟨_, rfl⟩
  obtain ⟨locs, hLe⟩ : ∃ L : List Loc, L = [] := ⟨_, rfl⟩
  rw [← hLe]
  rw [← hLe] at hS
  have hP : va_P D vwCl [(q_t, .inr (7, [.ref q_t_book, .ref q_t_now, .int t_shift, .int t_kneels, .int t_sights, .ref q_t_sight, .int t_signs, .ref q_t_pad, .int t_metAt, .int t_metWho, .int t_reason, .int t_acts, .ref q_t_had, .ref q_t_takes, .ref q_t_worths, .ref q_t_fitting, .ref q_t_wins, .ref q_t_ways, .ref q_t_image, .ref q_t_isKept])), (q_t_now, .inl (cI, 45, .inl t_now))] H := by rw [hHe]; exact hP
  have hS : va_S A s.heap H locs := by rw [hHe]; exact hS
  suffices hgo : W p l e ({ frames := 0, cells := 0, slots := 0, locals := 0 } : Room) s m args below meth c H locs 0 0 Q (F0 m 0 ls []) by rw [← hHe]; exact hgo
  clear hHe hLe
  refine lv_aload_n hx hb dX7_leave_0 rfl (lv_at hl 0 rfl) ?_
  refine va_get (D := D) (ci := 7) (v := .ref q_t_now) (C := RX7) (T := TX7) (N := 20) hx hb hts nX7_leave_X7 hown hK hP 0 rfl rfl 1 (by decide) (hts _ mX7_leave_1) (fun _ h9 => h9) rfl dX7_leave_1 ?_
  refine lv_iload_n hx hb dX7_leave_4 rfl (lv_at hl 1 rfl) ?_
  have g1 := hf.1
  have hf := hf.2
  refine xa_iald hx hb hK hP 1 0 rfl rfl (j := a1.toNatClampNeg) rfl g1 dX7_leave_5 ?_
  refine lv_if_ge (tgt := 11) hx hb dX7_leave_6 (by decide) (fun c2 => ?_) (fun c2 => ?_)
  · have hf := hf.1 c2
    refine lv_aload_n hx hb dX7_leave_11 rfl (lv_at hl 0 rfl) ?_
    refine va_get (D := D) (ci := 7) (v := .ref q_t_now) (C := RX7) (T := TX7) (N := 20) hx hb hts nX7_leave_X7 hown hK hP 0 rfl rfl 1 (by decide) (hts _ mX7_leave_1) (fun _ h9 => h9) rfl dX7_leave_12 ?_
    refine lv_bipush (v := 6) hx hb dX7_leave_15 (by decide) ?_
    refine lv_iload_n hx hb dX7_leave_17 rfl (lv_at hl 1 rfl) ?_
    refine lv_iadd hx hb dX7_leave_18 ?_
    have g3 := hf.1
    have hf := hf.2
    refine xa_iald hx hb hK hP 1 0 rfl rfl (j := (6 + a1).toNatClampNeg) rfl g3 dX7_leave_19 ?_
    refine lv_iload_n hx hb dX7_leave_20 rfl (lv_at hl 2 rfl) ?_
    refine lv_icmp_ge (tgt := 26) hx hb dX7_leave_21 (by decide) (fun c4 => ?_) (fun c4 => ?_)
    · have hf := hf.1 c4
      refine lv_aload_n hx hb dX7_leave_26 rfl (lv_at hl 0 rfl) ?_
      refine va_get (D := D) (ci := 7) (v := .ref q_t_now) (C := RX7) (T := TX7) (N := 20) hx hb hts nX7_leave_X7 hown hK hP 0 rfl rfl 1 (by decide) (hts _ mX7_leave_1) (fun _ h9 => h9) rfl dX7_leave_27 ?_
      refine lv_bipush (v := 6) hx hb dX7_leave_30 (by decide) ?_
      refine lv_iload_n hx hb dX7_leave_32 rfl (lv_at hl 1 rfl) ?_
      refine lv_iadd hx hb dX7_leave_33 ?_
      refine lv_dup2_11 hx hb dX7_leave_34 rfl rfl ?_
      have g5 := hf.1
      have hf := hf.2
      refine xa_iald hx hb hK hP 1 0 rfl rfl (j := (6 + a1).toNatClampNeg) rfl g5 dX7_leave_35 ?_
      refine lv_iload_n hx hb dX7_leave_36 rfl (lv_at hl 2 rfl) ?_
      refine lv_isub hx hb dX7_leave_37 ?_
      refine lv_topi (fun v6 ev6 => ?_)
      have hf := hf v6 ev6
      have g7 := hf.1
      have hf := hf.2
      refine xa_iast hx hb hK hP hD hS 1 0 rfl rfl (j := (6 + a1).toNatClampNeg) rfl g7 dX7_leave_38 (fun H locs hP hD hS => ?_)
      have hP : va_P D vwCl [(q_t, .inr (7, [.ref q_t_book, .ref q_t_now, .int t_shift, .int t_kneels, .int t_sights, .ref q_t_sight, .int t_signs, .ref q_t_pad, .int t_metAt, .int t_metWho, .int t_reason, .int t_acts, .ref q_t_had, .ref q_t_takes, .ref q_t_worths, .ref q_t_fitting, .ref q_t_wins, .ref q_t_ways, .ref q_t_image, .ref q_t_isKept])), (q_t_now, .inl (cI, 45, .inl (upd t_now (6 + a1).toNatClampNeg v6)))] H := hP
      have hD : va_D A [(q_t, .inr (7, [.ref q_t_book, .ref q_t_now, .int t_shift, .int t_kneels, .int t_sights, .ref q_t_sight, .int t_signs, .ref q_t_pad, .int t_metAt, .int t_metWho, .int t_reason, .int t_acts, .ref q_t_had, .ref q_t_takes, .ref q_t_worths, .ref q_t_fitting, .ref q_t_wins, .ref q_t_ways, .ref q_t_image, .ref q_t_isKept])), (q_t_now, .inl (cI, 45, .inl (upd t_now (6 + a1).toNatClampNeg v6)))] := hD
      refine lv_aload_n hx hb dX7_leave_39 rfl (lv_at hl 0 rfl) ?_
      refine va_get (D := D) (ci := 7) (v := .ref q_t_now) (C := RX7) (T := TX7) (N := 20) hx hb hts nX7_leave_X7 hown hK hP 0 rfl rfl 1 (by decide) (hts _ mX7_leave_1) (fun _ h9 => h9) rfl dX7_leave_40 ?_
      refine lv_bipush (v := 12) hx hb dX7_leave_43 (by decide) ?_
      refine lv_aload_n hx hb dX7_leave_45 rfl (lv_at hl 0 rfl) ?_
      refine va_get (D := D) (ci := 7) (v := .ref q_t_now) (C := RX7) (T := TX7) (N := 20) hx hb hts nX7_leave_X7 hown hK hP 0 rfl rfl 1 (by decide) (hts _ mX7_leave_1) (fun _ h9 => h9) rfl dX7_leave_46 ?_
      refine lv_iload_n hx hb dX7_leave_49 rfl (lv_at hl 1 rfl) ?_
      have g8 := hf.1
      have hf := hf.2
      refine xa_iald hx hb hK hP 1 0 rfl rfl (j := a1.toNatClampNeg) rfl g8 dX7_leave_50 ?_
      refine lv_iadd hx hb dX7_leave_51 ?_
      refine lv_dup2_11 hx hb dX7_leave_52 rfl rfl ?_
      have g9 := hf.1
      have hf := hf.2
      refine xa_iald hx hb hK hP 1 0 rfl rfl (j := (12 + ((upd t_now (6 + a1).toNatClampNeg v6) a1.toNatClampNeg)).toNatClampNeg) rfl g9 dX7_leave_53 ?_
      refine lv_iload_n hx hb dX7_leave_54 rfl (lv_at hl 2 rfl) ?_
      refine lv_iadd hx hb dX7_leave_55 ?_
      refine lv_topi (fun v10 ev10 => ?_)
      have hf := hf v10 ev10
      have g11 := hf.1
      have hf := hf.2
      refine xa_iast hx hb hK hP hD hS 1 0 rfl rfl (j := (12 + ((upd t_now (6 + a1).toNatClampNeg v6) a1.toNatClampNeg)).toNatClampNeg) rfl g11 dX7_leave_56 (fun H locs hP hD hS => ?_)
      have hP : va_P D vwCl [(q_t, .inr (7, [.ref q_t_book, .ref q_t_now, .int t_shift, .int t_kneels, .int t_sights, .ref q_t_sight, .int t_signs, .ref q_t_pad, .int t_metAt, .int t_metWho, .int t_reason, .int t_acts, .ref q_t_had, .ref q_t_takes, .ref q_t_worths, .ref q_t_fitting, .ref q_t_wins, .ref q_t_ways, .ref q_t_image, .ref q_t_isKept])), (q_t_now, .inl (cI, 45, .inl (upd (upd t_now (6 + a1).toNatClampNeg v6) (12 + ((upd t_now (6 + a1).toNatClampNeg v6) a1.toNatClampNeg)).toNatClampNeg v10)))] H := hP
      have hD : va_D A [(q_t, .inr (7, [.ref q_t_book, .ref q_t_now, .int t_shift, .int t_kneels, .int t_sights, .ref q_t_sight, .int t_signs, .ref q_t_pad, .int t_metAt, .int t_metWho, .int t_reason, .int t_acts, .ref q_t_had, .ref q_t_takes, .ref q_t_worths, .ref q_t_fitting, .ref q_t_wins, .ref q_t_ways, .ref q_t_image, .ref q_t_isKept])), (q_t_now, .inl (cI, 45, .inl (upd (upd t_now (6 + a1).toNatClampNeg v6) (12 + ((upd t_now (6 + a1).toNatClampNeg v6) a1.toNatClampNeg)).toNatClampNeg v10)))] := hD
      refine lv_iconst (v := 0) hx hb dX7_leave_57 (by decide) ?_
      exact hret 58 ls H locs 0 (upd (upd t_now (6 + a1).toNatClampNeg v6) (12 + ((upd t_now (6 + a1).toNatClampNeg v6) a1.toNatClampNeg)).toNatClampNeg v10) dX7_leave_58 hf hP hD hS
    · have hf := hf.2 c4
      refine lv_iconst (v := 5) hx hb dX7_leave_24 (by decide) ?_
      exact hret 25 ls H locs 5 t_now dX7_leave_25 hf hP hD hS
  · have hf := hf.2 c2
    refine lv_iconst (v := 1) hx hb dX7_leave_9 (by decide) ?_
    exact hret 10 ls H locs 1 t_now dX7_leave_10 hf hP hD hS

/-! X7_find -/
theorem mX7_find_1 : Cond.fieldLink RX7 13 "OxenKneelModel" "now" "[I" ∈ wsX7_find := List.mem_of_getElem? (i := 1) rfl
theorem nX7_find_X7 : ∀ w ∈ wsX70, w ∈ wsX7_find := fun _ h => List.mem_cons_of_mem _ (List.mem_append_right _ h)
def pX7_find (t_now : (Nat → Int32)) (a1 : Int32) (post : Int32 → ((Nat → Int32)) → Prop) : Prop :=
  vp_in a1 45 ∧ ((0 ≤ (t_now a1.toNatClampNeg) → (vp_in a1 45 ∧ (∀ v4 : Int32, v4 = (12 + (t_now a1.toNatClampNeg)) → (vp_in v4 45 ∧ ((¬ (t_now v4.toNatClampNeg) = 0 → (vp_in (6 + a1) 45 ∧ (vp_in v4 45 ∧ (∀ v9 : Int32, v9 = ((t_now (6 + a1).toNatClampNeg) + (t_now v4.toNatClampNeg)) → (vp_in (6 + a1) 45 ∧ (vp_in v4 45 ∧ (post 0 (upd (upd t_now (6 + a1).toNatClampNeg v9) v4.toNatClampNeg 0)))))))) ∧ ((t_now v4.toNatClampNeg) = 0 → (post 6 t_now))))))) ∧ (¬ 0 ≤ (t_now a1.toNatClampNeg) → (post 1 t_now)))

set_option maxHeartbeats 4000000 in
set_option maxRecDepth 100000 in
theorem kX7_find (l : Launch) (D : va_G) (cI cZ cJ cO : ClassId) (q_t q_t_now q_t_book q_t_sight q_t_pad q_t_had q_t_takes q_t_worths q_t_fitting q_t_wins q_t_ways q_t_image q_t_isKept : Nat) (sz : Nat) (t_shift : Int32) (t_kneels : Int32) (t_sights : Int32) (t_signs : Int32) (t_metAt : Int32) (t_metWho : Int32) (t_reason : Int32) (t_acts : Int32) (t_now : (Nat → Int32)) (a1 : Int32) (post : Int32 → ((Nat → Int32)) → Prop) (hf : pX7_find t_now a1 post) :
    Met l yX7_find wsX7_find ({ frames := 0, cells := 0, slots := 0, locals := 0 } : Room) (va_Pc [.ref q_t, .int a1] (B1 D (tyL cI cZ cJ cO) [(q_t, .inr (7, [.ref q_t_book, .ref q_t_now, .int t_shift, .int t_kneels, .int t_sights, .ref q_t_sight, .int t_signs, .ref q_t_pad, .int t_metAt, .int t_metWho, .int t_reason, .int t_acts, .ref q_t_had, .ref q_t_takes, .ref q_t_worths, .ref q_t_fitting, .ref q_t_wins, .ref q_t_ways, .ref q_t_image, .ref q_t_isKept])), (q_t_now, .inl (cI, 45, .inl t_now))] sz)) (va_Qi post (fun u t => E1 D (va_A [(q_t, .inr (7, [.ref q_t_book, .ref q_t_now, .int t_shift, .int t_kneels, .int t_sights, .ref q_t_sight, .int t_signs, .ref q_t_pad, .int t_metAt, .int t_metWho, .int t_reason, .int t_acts, .ref q_t_had, .ref q_t_takes, .ref q_t_worths, .ref q_t_fitting, .ref q_t_wins, .ref q_t_ways, .ref q_t_image, .ref q_t_isKept])), (q_t_now, .inl (cI, 45, .inl t_now))] sz) ((fun u : (Nat → Int32) => [(q_t, .inr (7, [.ref q_t_book, .ref q_t_now, .int t_shift, .int t_kneels, .int t_sights, .ref q_t_sight, .int t_signs, .ref q_t_pad, .int t_metAt, .int t_metWho, .int t_reason, .int t_acts, .ref q_t_had, .ref q_t_takes, .ref q_t_worths, .ref q_t_fitting, .ref q_t_wins, .ref q_t_ways, .ref q_t_image, .ref q_t_isKept])), (q_t_now, .inl (cI, 45, .inl u))]) u) t) (va_A [(q_t, .inr (7, [.ref q_t_book, .ref q_t_now, .int t_shift, .int t_kneels, .int t_sights, .ref q_t_sight, .int t_signs, .ref q_t_pad, .int t_metAt, .int t_metWho, .int t_reason, .int t_acts, .ref q_t_had, .ref q_t_takes, .ref q_t_worths, .ref q_t_fitting, .ref q_t_wins, .ref q_t_ways, .ref q_t_image, .ref q_t_isKept])), (q_t_now, .inl (cI, 45, .inl t_now))] sz)) 0 0 (va_A [(q_t, .inr (7, [.ref q_t_book, .ref q_t_now, .int t_shift, .int t_kneels, .int t_sights, .ref q_t_sight, .int t_signs, .ref q_t_pad, .int t_metAt, .int t_metWho, .int t_reason, .int t_acts, .ref q_t_had, .ref q_t_takes, .ref q_t_worths, .ref q_t_fitting, .ref q_t_wins, .ref q_t_ways, .ref q_t_image, .ref q_t_isKept])), (q_t_now, .inl (cI, 45, .inl t_now))] sz) := by
  unfold pX7_find at hf
  refine xm_1i (own := RX7) (by decide) rfl rfl (Nat.le_of_ble_eq_true rfl) (fun p e s m args below meth c Q A C0 hN hK hA hret hP hD ls hl => ?_)
  obtain ⟨hx, hb, hml, hown, hts⟩ := id C0
  have hl : lv_has ls 3 [(0, .ref q_t), (1, .int a1)] := hl
  have hS : va_S A s.heap s.heap [] := va_S.rf
  obtain ⟨H, hHe⟩ : ∃ H, H = s.heap := ⟨_, rfl⟩
  obtain ⟨locs, hLe⟩ : ∃ L : List Loc, L = [] := ⟨_, rfl⟩
  rw [← hLe]
  rw [← hLe] at hS
  have hP : va_P D vwCl [(q_t, .inr (7, [.ref q_t_book, .ref q_t_now, .int t_shift, .int t_kneels, .int t_sights, .ref q_t_sight, .int t_signs, .ref q_t_pad, .int t_metAt, .int t_metWho, .int t_reason, .int t_acts, .ref q_t_had, .ref q_t_takes, .ref q_t_worths, .ref q_t_fitting, .ref q_t_wins, .ref q_t_ways, .ref q_t_image, .ref q_t_isKept])), (q_t_now, .inl (cI, 45, .inl t_now))] H := by rw [hHe]; exact hP
  have hS : va_S A s.heap H locs := by rw [hHe]; exact hS
  suffices hgo : W p l e ({ frames := 0, cells := 0, slots := 0, locals := 0 } : Room) s m args below meth c H locs 0 0 Q (F0 m 0 ls []) by rw [← hHe]; exact hgo
  clear hHe hLe
  refine lv_aload_n hx hb dX7_find_0 rfl (lv_at hl 0 rfl) ?_
  refine va_get (D := D) (ci := 7) (v := .ref q_t_now) (C := RX7) (T := TX7) (N := 20) hx hb hts nX7_find_X7 hown hK hP 0 rfl rfl 1 (by decide) (hts _ mX7_find_1) (fun _ h9 => h9) rfl dX7_find_1 ?_
  refine lv_iload_n hx hb dX7_find_4 rfl (lv_at hl 1 rfl) ?_
  have g1 := hf.1
  have hf := hf.2
  refine xa_iald hx hb hK hP 1 0 rfl rfl (j := a1.toNatClampNeg) rfl g1 dX7_find_5 ?_
  refine lv_if_ge (tgt := 11) hx hb dX7_find_6 (by decide) (fun c2 => ?_) (fun c2 => ?_)
  · have hf := hf.1 c2
    refine lv_bipush (v := 12) hx hb dX7_find_11 (by decide) ?_
    refine lv_aload_n hx hb dX7_find_13 rfl (lv_at hl 0 rfl) ?_
    refine va_get (D := D) (ci := 7) (v := .ref q_t_now) (C := RX7) (T := TX7) (N := 20) hx hb hts nX7_find_X7 hown hK hP 0 rfl rfl 1 (by decide) (hts _ mX7_find_1) (fun _ h9 => h9) rfl dX7_find_14 ?_
    refine lv_iload_n hx hb dX7_find_17 rfl (lv_at hl 1 rfl) ?_
    have g3 := hf.1
    have hf := hf.2
    refine xa_iald hx hb hK hP 1 0 rfl rfl (j := a1.toNatClampNeg) rfl g3 dX7_find_18 ?_
    refine lv_iadd hx hb dX7_find_19 ?_
    refine lv_topi (fun v4 ev4 => ?_)
    have hf := hf v4 ev4
    refine lv_istore_n (lv' := [(2, .int v4), (0, .ref q_t), (1, .int a1)]) hx hb dX7_find_20 rfl hl (by decide) rfl (fun ls hl => ?_)
    refine lv_aload_n hx hb dX7_find_21 rfl (lv_at hl 1 rfl) ?_
    refine va_get (D := D) (ci := 7) (v := .ref q_t_now) (C := RX7) (T := TX7) (N := 20) hx hb hts nX7_find_X7 hown hK hP 0 rfl rfl 1 (by decide) (hts _ mX7_find_1) (fun _ h9 => h9) rfl dX7_find_22 ?_
    refine lv_iload_n hx hb dX7_find_25 rfl (lv_at hl 0 rfl) ?_
    have g5 := hf.1
    have hf := hf.2
    refine xa_iald hx hb hK hP 1 0 rfl rfl (j := v4.toNatClampNeg) rfl g5 dX7_find_26 ?_
    refine lv_if_ne (tgt := 33) hx hb dX7_find_27 (by decide) (fun c6 => ?_) (fun c6 => ?_)
    · have hf := hf.1 c6
      refine lv_aload_n hx hb dX7_find_33 rfl (lv_at hl 1 rfl) ?_
      refine va_get (D := D) (ci := 7) (v := .ref q_t_now) (C := RX7) (T := TX7) (N := 20) hx hb hts nX7_find_X7 hown hK hP 0 rfl rfl 1 (by decide) (hts _ mX7_find_1) (fun _ h9 => h9) rfl dX7_find_34 ?_
      refine lv_bipush (v := 6) hx hb dX7_find_37 (by decide) ?_
      refine lv_iload_n hx hb dX7_find_39 rfl (lv_at hl 2 rfl) ?_
      refine lv_iadd hx hb dX7_find_40 ?_
      refine lv_dup2_11 hx hb dX7_find_41 rfl rfl ?_
      have g7 := hf.1
      have hf := hf.2
      refine xa_iald hx hb hK hP 1 0 rfl rfl (j := (6 + a1).toNatClampNeg) rfl g7 dX7_find_42 ?_
      refine lv_aload_n hx hb dX7_find_43 rfl (lv_at hl 1 rfl) ?_
      refine va_get (D := D) (ci := 7) (v := .ref q_t_now) (C := RX7) (T := TX7) (N := 20) hx hb hts nX7_find_X7 hown hK hP 0 rfl rfl 1 (by decide) (hts _ mX7_find_1) (fun _ h9 => h9) rfl dX7_find_44 ?_
      refine lv_iload_n hx hb dX7_find_47 rfl (lv_at hl 0 rfl) ?_
      have g8 := hf.1
      have hf := hf.2
      refine xa_iald hx hb hK hP 1 0 rfl rfl (j := v4.toNatClampNeg) rfl g8 dX7_find_48 ?_
      refine lv_iadd hx hb dX7_find_49 ?_
      refine lv_topi (fun v9 ev9 => ?_)
      have hf := hf v9 ev9
      have g10 := hf.1
      have hf := hf.2
      refine xa_iast hx hb hK hP hD hS 1 0 rfl rfl (j := (6 + a1).toNatClampNeg) rfl g10 dX7_find_50 (fun H locs hP hD hS => ?_)
      have hP : va_P D vwCl [(q_t, .inr (7, [.ref q_t_book, .ref q_t_now, .int t_shift, .int t_kneels, .int t_sights, .ref q_t_sight, .int t_signs, .ref q_t_pad, .int t_metAt, .int t_metWho, .int t_reason, .int t_acts, .ref q_t_had, .ref q_t_takes, .ref q_t_worths, .ref q_t_fitting, .ref q_t_wins, .ref q_t_ways, .ref q_t_image, .ref q_t_isKept])), (q_t_now, .inl (cI, 45, .inl (upd t_now (6 + a1).toNatClampNeg v9)))] H := hP
      have hD : va_D A [(q_t, .inr (7, [.ref q_t_book, .ref q_t_now, .int t_shift, .int t_kneels, .int t_sights, .ref q_t_sight, .int t_signs, .ref q_t_pad, .int t_metAt, .int t_metWho, .int t_reason, .int t_acts, .ref q_t_had, .ref q_t_takes, .ref q_t_worths, .ref q_t_fitting, .ref q_t_wins, .ref q_t_ways, .ref q_t_image, .ref q_t_isKept])), (q_t_now, .inl (cI, 45, .inl (upd t_now (6 + a1).toNatClampNeg v9)))] := hD
      refine lv_aload_n hx hb dX7_find_51 rfl (lv_at hl 1 rfl) ?_
      refine va_get (D := D) (ci := 7) (v := .ref q_t_now) (C := RX7) (T := TX7) (N := 20) hx hb hts nX7_find_X7 hown hK hP 0 rfl rfl 1 (by decide) (hts _ mX7_find_1) (fun _ h9 => h9) rfl dX7_find_52 ?_
      refine lv_iload_n hx hb dX7_find_55 rfl (lv_at hl 0 rfl) ?_
      refine lv_iconst (v := 0) hx hb dX7_find_56 (by decide) ?_
      have g11 := hf.1
      have hf := hf.2
      refine xa_iast hx hb hK hP hD hS 1 0 rfl rfl (j := v4.toNatClampNeg) rfl g11 dX7_find_57 (fun H locs hP hD hS => ?_)
      have hP : va_P D vwCl [(q_t, .inr (7, [.ref q_t_book, .ref q_t_now, .int t_shift, .int t_kneels, .int t_sights, .ref q_t_sight, .int t_signs, .ref q_t_pad, .int t_metAt, .int t_metWho, .int t_reason, .int t_acts, .ref q_t_had, .ref q_t_takes, .ref q_t_worths, .ref q_t_fitting, .ref q_t_wins, .ref q_t_ways, .ref q_t_image, .ref q_t_isKept])), (q_t_now, .inl (cI, 45, .inl (upd (upd t_now (6 + a1).toNatClampNeg v9) v4.toNatClampNeg 0)))] H := hP
      have hD : va_D A [(q_t, .inr (7, [.ref q_t_book, .ref q_t_now, .int t_shift, .int t_kneels, .int t_sights, .ref q_t_sight, .int t_signs, .ref q_t_pad, .int t_metAt, .int t_metWho, .int t_reason, .int t_acts, .ref q_t_had, .ref q_t_takes, .ref q_t_worths, .ref q_t_fitting, .ref q_t_wins, .ref q_t_ways, .ref q_t_image, .ref q_t_isKept])), (q_t_now, .inl (cI, 45, .inl (upd (upd t_now (6 + a1).toNatClampNeg v9) v4.toNatClampNeg 0)))] := hD
      refine lv_iconst (v := 0) hx hb dX7_find_58 (by decide) ?_
      exact hret 59 ls H locs 0 (upd (upd t_now (6 + a1).toNatClampNeg v9) v4.toNatClampNeg 0) dX7_find_59 hf hP hD hS
    · have hf := hf.2 c6
      refine lv_bipush (v := 6) hx hb dX7_find_30 (by decide) ?_
      exact hret 32 ls H locs 6 t_now dX7_find_32 hf hP hD hS
  · have hf := hf.2 c2
    refine lv_iconst (v := 1) hx hb dX7_find_9 (by decide) ?_
    exact hret 10 ls H locs 1 t_now dX7_find_10 hf hP hD hS

/-! X7_pass -/
theorem mX7_pass_1 : Cond.fieldLink RX7 13 "OxenKneelModel" "now" "[I" ∈ wsX7_pass := List.mem_of_getElem? (i := 1) rfl
theorem nX7_pass_X7 : ∀ w ∈ wsX70, w ∈ wsX7_pass := fun _ h => List.mem_cons_of_mem _ (List.mem_append_right _ h)
def pX7_pass (t_now : (Nat → Int32)) (a1 : Int32) (post : Int32 → ((Nat → Int32)) → Prop) : Prop :=
  ∀ v1 : Int32, v1 = ((t_now 43) + a1) → (∀ v2 : Int32, v2 = ((t_now 42) + (v1 / 24)) → (∀ v3 : Int32, v3 = ((t_now 44) + (v2 / 365)) → ((v3 ≤ 99 → (∀ v5 : Int32, v5 = (v1 - v1 / 24 * 24) → (∀ v6 : Int32, v6 = (v2 - v2 / 365 * 365) → (post 0 (upd (upd (upd t_now 43 v5) 42 v6) 44 v3))))) ∧ (¬ v3 ≤ 99 → (post 7 t_now)))))

set_option maxHeartbeats 4000000 in
set_option maxRecDepth 100000 in
theorem kX7_pass (l : Launch) (D : va_G) (cI cZ cJ cO : ClassId) (q_t q_t_now q_t_book q_t_sight q_t_pad q_t_had q_t_takes q_t_worths q_t_fitting q_t_wins q_t_ways q_t_image q_t_isKept : Nat) (sz : Nat) (t_shift : Int32) (t_kneels : Int32) (t_sights : Int32) (t_signs : Int32) (t_metAt : Int32) (t_metWho : Int32) (t_reason : Int32) (t_acts : Int32) (t_now : (Nat → Int32)) (a1 : Int32) (post : Int32 → ((Nat → Int32)) → Prop) (hf : pX7_pass t_now a1 post) :
    Met l yX7_pass wsX7_pass ({ frames := 0, cells := 0, slots := 0, locals := 0 } : Room) (va_Pc [.ref q_t, .int a1] (B1 D (tyL cI cZ cJ cO) [(q_t, .inr (7, [.ref q_t_book, .ref q_t_now, .int t_shift, .int t_kneels, .int t_sights, .ref q_t_sight, .int t_signs, .ref q_t_pad, .int t_metAt, .int t_metWho, .int t_reason, .int t_acts, .ref q_t_had, .ref q_t_takes, .ref q_t_worths, .ref q_t_fitting, .ref q_t_wins, .ref q_t_ways, .ref q_t_image, .ref q_t_isKept])), (q_t_now, .inl (cI, 45, .inl t_now))] sz)) (va_Qi post (fun u t => E1 D (va_A [(q_t, .inr (7, [.ref q_t_book, .ref q_t_now, .int t_shift, .int t_kneels, .int t_sights, .ref q_t_sight, .int t_signs, .ref q_t_pad, .int t_metAt, .int t_metWho, .int t_reason, .int t_acts, .ref q_t_had, .ref q_t_takes, .ref q_t_worths, .ref q_t_fitting, .ref q_t_wins, .ref q_t_ways, .ref q_t_image, .ref q_t_isKept])), (q_t_now, .inl (cI, 45, .inl t_now))] sz) ((fun u : (Nat → Int32) => [(q_t, .inr (7, [.ref q_t_book, .ref q_t_now, .int t_shift, .int t_kneels, .int t_sights, .ref q_t_sight, .int t_signs, .ref q_t_pad, .int t_metAt, .int t_metWho, .int t_reason, .int t_acts, .ref q_t_had, .ref q_t_takes, .ref q_t_worths, .ref q_t_fitting, .ref q_t_wins, .ref q_t_ways, .ref q_t_image, .ref q_t_isKept])), (q_t_now, .inl (cI, 45, .inl u))]) u) t) (va_A [(q_t, .inr (7, [.ref q_t_book, .ref q_t_now, .int t_shift, .int t_kneels, .int t_sights, .ref q_t_sight, .int t_signs, .ref q_t_pad, .int t_metAt, .int t_metWho, .int t_reason, .int t_acts, .ref q_t_had, .ref q_t_takes, .ref q_t_worths, .ref q_t_fitting, .ref q_t_wins, .ref q_t_ways, .ref q_t_image, .ref q_t_isKept])), (q_t_now, .inl (cI, 45, .inl t_now))] sz)) 0 0 (va_A [(q_t, .inr (7, [.ref q_t_book, .ref q_t_now, .int t_shift, .int t_kneels, .int t_sights, .ref q_t_sight, .int t_signs, .ref q_t_pad, .int t_metAt, .int t_metWho, .int t_reason, .int t_acts, .ref q_t_had, .ref q_t_takes, .ref q_t_worths, .ref q_t_fitting, .ref q_t_wins, .ref q_t_ways, .ref q_t_image, .ref q_t_isKept])), (q_t_now, .inl (cI, 45, .inl t_now))] sz) := by
  unfold pX7_pass at hf
  refine xm_1i (own := RX7) (by decide) rfl rfl (Nat.le_of_ble_eq_true rfl) (fun p e s m args below meth c Q A C0 hN hK hA hret hP hD ls hl => ?_)
  obtain ⟨hx, hb, hml, hown, hts⟩ := id C0
  have hl : lv_has ls 5 [(0, .ref q_t), (1, .int a1)] := hl
  have hS : va_S A s.heap s.heap [] := va_S.rf
  obtain ⟨H, hHe⟩ : ∃ H, H = s.heap := ⟨_, rfl⟩
  obtain ⟨locs, hLe⟩ : ∃ L : List Loc, L = [] := ⟨_, rfl⟩
  rw [← hLe]
  rw [← hLe] at hS
  have hP : va_P D vwCl [(q_t, .inr (7, [.ref q_t_book, .ref q_t_now, .int t_shift, .int t_kneels, .int t_sights, .ref q_t_sight, .int t_signs, .ref q_t_pad, .int t_metAt, .int t_metWho, .int t_reason, .int t_acts, .ref q_t_had, .ref q_t_takes, .ref q_t_worths, .ref q_t_fitting, .ref q_t_wins, .ref q_t_ways, .ref q_t_image, .ref q_t_isKept])), (q_t_now, .inl (cI, 45, .inl t_now))] H := by rw [hHe]; exact hP
  have hS : va_S A s.heap H locs := by rw [hHe]; exact hS
  suffices hgo : W p l e ({ frames := 0, cells := 0, slots := 0, locals := 0 } : Room) s m args below meth c H locs 0 0 Q (F0 m 0 ls []) by rw [← hHe]; exact hgo
  clear hHe hLe
  refine lv_aload_n hx hb dX7_pass_0 rfl (lv_at hl 0 rfl) ?_
  refine va_get (D := D) (ci := 7) (v := .ref q_t_now) (C := RX7) (T := TX7) (N := 20) hx hb hts nX7_pass_X7 hown hK hP 0 rfl rfl 1 (by decide) (hts _ mX7_pass_1) (fun _ h9 => h9) rfl dX7_pass_1 ?_
  refine lv_bipush (v := 43) hx hb dX7_pass_4 (by decide) ?_
  refine xa_iald hx hb hK hP 1 0 rfl rfl (j := 43) (by decide) (vpc rfl) dX7_pass_6 ?_
  refine lv_iload_n hx hb dX7_pass_7 rfl (lv_at hl 1 rfl) ?_
  refine lv_iadd hx hb dX7_pass_8 ?_
  refine lv_topi (fun v1 ev1 => ?_)
  have hf := hf v1 ev1
  refine lv_istore_n (lv' := [(2, .int v1), (0, .ref q_t), (1, .int a1)]) hx hb dX7_pass_9 rfl hl (by decide) rfl (fun ls hl => ?_)
  refine lv_aload_n hx hb dX7_pass_10 rfl (lv_at hl 1 rfl) ?_
  refine va_get (D := D) (ci := 7) (v := .ref q_t_now) (C := RX7) (T := TX7) (N := 20) hx hb hts nX7_pass_X7 hown hK hP 0 rfl rfl 1 (by decide) (hts _ mX7_pass_1) (fun _ h9 => h9) rfl dX7_pass_11 ?_
  refine lv_bipush (v := 42) hx hb dX7_pass_14 (by decide) ?_
  refine xa_iald hx hb hK hP 1 0 rfl rfl (j := 42) (by decide) (vpc rfl) dX7_pass_16 ?_
  refine lv_iload_n hx hb dX7_pass_17 rfl (lv_at hl 0 rfl) ?_
  refine lv_bipush (v := 24) hx hb dX7_pass_18 (by decide) ?_
  refine lv_idiv hx hb dX7_pass_20 (by decide) ?_
  refine lv_iadd hx hb dX7_pass_21 ?_
  refine lv_topi (fun v2 ev2 => ?_)
  have hf := hf v2 ev2
  refine lv_istore_n (lv' := [(3, .int v2), (2, .int v1), (0, .ref q_t), (1, .int a1)]) hx hb dX7_pass_22 rfl hl (by decide) rfl (fun ls hl => ?_)
  refine lv_aload_n hx hb dX7_pass_23 rfl (lv_at hl 2 rfl) ?_
  refine va_get (D := D) (ci := 7) (v := .ref q_t_now) (C := RX7) (T := TX7) (N := 20) hx hb hts nX7_pass_X7 hown hK hP 0 rfl rfl 1 (by decide) (hts _ mX7_pass_1) (fun _ h9 => h9) rfl dX7_pass_24 ?_
  refine lv_bipush (v := 44) hx hb dX7_pass_27 (by decide) ?_
  refine xa_iald hx hb hK hP 1 0 rfl rfl (j := 44) (by decide) (vpc rfl) dX7_pass_29 ?_
  refine lv_iload_n hx hb dX7_pass_30 rfl (lv_at hl 0 rfl) ?_
  refine lv_sipush (v := 365) hx hb dX7_pass_31 (by decide) ?_
  refine lv_idiv hx hb dX7_pass_34 (by decide) ?_
  refine lv_iadd hx hb dX7_pass_35 ?_
  refine lv_topi (fun v3 ev3 => ?_)
  have hf := hf v3 ev3
  refine lv_istore (lv' := [(4, .int v3), (3, .int v2), (2, .int v1), (0, .ref q_t), (1, .int a1)]) hx hb dX7_pass_36 hl (by decide) rfl (fun ls hl => ?_)
  refine lv_iload hx hb dX7_pass_38 (lv_at hl 0 rfl) ?_
  refine lv_bipush (v := 99) hx hb dX7_pass_40 (by decide) ?_
  refine lv_icmp_le (tgt := 48) hx hb dX7_pass_42 (by decide) (fun c4 => ?_) (fun c4 => ?_)
  · have hf := hf.1 c4
    refine lv_aload_n hx hb dX7_pass_48 rfl (lv_at hl 3 rfl) ?_
    refine va_get (D := D) (ci := 7) (v := .ref q_t_now) (C := RX7) (T := TX7) (N := 20) hx hb hts nX7_pass_X7 hown hK hP 0 rfl rfl 1 (by decide) (hts _ mX7_pass_1) (fun _ h9 => h9) rfl dX7_pass_49 ?_
    refine lv_bipush (v := 43) hx hb dX7_pass_52 (by decide) ?_
    refine lv_iload_n hx hb dX7_pass_54 rfl (lv_at hl 2 rfl) ?_
    refine lv_bipush (v := 24) hx hb dX7_pass_55 (by decide) ?_
    refine lv_irem hx hb dX7_pass_57 (by decide) ?_
    refine lv_topi (fun v5 ev5 => ?_)
    have hf := hf v5 ev5
    refine xa_iast hx hb hK hP hD hS 1 0 rfl rfl (j := 43) (by decide) (vpc rfl) dX7_pass_58 (fun H locs hP hD hS => ?_)
    have hP : va_P D vwCl [(q_t, .inr (7, [.ref q_t_book, .ref q_t_now, .int t_shift, .int t_kneels, .int t_sights, .ref q_t_sight, .int t_signs, .ref q_t_pad, .int t_metAt, .int t_metWho, .int t_reason, .int t_acts, .ref q_t_had, .ref q_t_takes, .ref q_t_worths, .ref q_t_fitting, .ref q_t_wins, .ref q_t_ways, .ref q_t_image, .ref q_t_isKept])), (q_t_now, .inl (cI, 45, .inl (upd t_now 43 v5)))] H := hP
    have hD : va_D A [(q_t, .inr (7, [.ref q_t_book, .ref q_t_now, .int t_shift, .int t_kneels, .int t_sights, .ref q_t_sight, .int t_signs, .ref q_t_pad, .int t_metAt, .int t_metWho, .int t_reason, .int t_acts, .ref q_t_had, .ref q_t_takes, .ref q_t_worths, .ref q_t_fitting, .ref q_t_wins, .ref q_t_ways, .ref q_t_image, .ref q_t_isKept])), (q_t_now, .inl (cI, 45, .inl (upd t_now 43 v5)))] := hD
    refine lv_aload_n hx hb dX7_pass_59 rfl (lv_at hl 3 rfl) ?_
    refine va_get (D := D) (ci := 7) (v := .ref q_t_now) (C := RX7) (T := TX7) (N := 20) hx hb hts nX7_pass_X7 hown hK hP 0 rfl rfl 1 (by decide) (hts _ mX7_pass_1) (fun _ h9 => h9) rfl dX7_pass_60 ?_
    refine lv_bipush (v := 42) hx hb dX7_pass_63 (by decide) ?_
    refine lv_iload_n hx hb dX7_pass_65 rfl (lv_at hl 1 rfl) ?_
    refine lv_sipush (v := 365) hx hb dX7_pass_66 (by decide) ?_
    refine lv_irem hx hb dX7_pass_69 (by decide) ?_
    refine lv_topi (fun v6 ev6 => ?_)
    have hf := hf v6 ev6
    refine xa_iast hx hb hK hP hD hS 1 0 rfl rfl (j := 42) (by decide) (vpc rfl) dX7_pass_70 (fun H locs hP hD hS => ?_)
    have hP : va_P D vwCl [(q_t, .inr (7, [.ref q_t_book, .ref q_t_now, .int t_shift, .int t_kneels, .int t_sights, .ref q_t_sight, .int t_signs, .ref q_t_pad, .int t_metAt, .int t_metWho, .int t_reason, .int t_acts, .ref q_t_had, .ref q_t_takes, .ref q_t_worths, .ref q_t_fitting, .ref q_t_wins, .ref q_t_ways, .ref q_t_image, .ref q_t_isKept])), (q_t_now, .inl (cI, 45, .inl (upd (upd t_now 43 v5) 42 v6)))] H := hP
    have hD : va_D A [(q_t, .inr (7, [.ref q_t_book, .ref q_t_now, .int t_shift, .int t_kneels, .int t_sights, .ref q_t_sight, .int t_signs, .ref q_t_pad, .int t_metAt, .int t_metWho, .int t_reason, .int t_acts, .ref q_t_had, .ref q_t_takes, .ref q_t_worths, .ref q_t_fitting, .ref q_t_wins, .ref q_t_ways, .ref q_t_image, .ref q_t_isKept])), (q_t_now, .inl (cI, 45, .inl (upd (upd t_now 43 v5) 42 v6)))] := hD
    refine lv_aload_n hx hb dX7_pass_71 rfl (lv_at hl 3 rfl) ?_
    refine va_get (D := D) (ci := 7) (v := .ref q_t_now) (C := RX7) (T := TX7) (N := 20) hx hb hts nX7_pass_X7 hown hK hP 0 rfl rfl 1 (by decide) (hts _ mX7_pass_1) (fun _ h9 => h9) rfl dX7_pass_72 ?_
    refine lv_bipush (v := 44) hx hb dX7_pass_75 (by decide) ?_
    refine lv_iload hx hb dX7_pass_77 (lv_at hl 0 rfl) ?_
    refine xa_iast hx hb hK hP hD hS 1 0 rfl rfl (j := 44) (by decide) (vpc rfl) dX7_pass_79 (fun H locs hP hD hS => ?_)
    have hP : va_P D vwCl [(q_t, .inr (7, [.ref q_t_book, .ref q_t_now, .int t_shift, .int t_kneels, .int t_sights, .ref q_t_sight, .int t_signs, .ref q_t_pad, .int t_metAt, .int t_metWho, .int t_reason, .int t_acts, .ref q_t_had, .ref q_t_takes, .ref q_t_worths, .ref q_t_fitting, .ref q_t_wins, .ref q_t_ways, .ref q_t_image, .ref q_t_isKept])), (q_t_now, .inl (cI, 45, .inl (upd (upd (upd t_now 43 v5) 42 v6) 44 v3)))] H := hP
    have hD : va_D A [(q_t, .inr (7, [.ref q_t_book, .ref q_t_now, .int t_shift, .int t_kneels, .int t_sights, .ref q_t_sight, .int t_signs, .ref q_t_pad, .int t_metAt, .int t_metWho, .int t_reason, .int t_acts, .ref q_t_had, .ref q_t_takes, .ref q_t_worths, .ref q_t_fitting, .ref q_t_wins, .ref q_t_ways, .ref q_t_image, .ref q_t_isKept])), (q_t_now, .inl (cI, 45, .inl (upd (upd (upd t_now 43 v5) 42 v6) 44 v3)))] := hD
    refine lv_iconst (v := 0) hx hb dX7_pass_80 (by decide) ?_
    exact hret 81 ls H locs 0 (upd (upd (upd t_now 43 v5) 42 v6) 44 v3) dX7_pass_81 hf hP hD hS
  · have hf := hf.2 c4
    refine lv_bipush (v := 7) hx hb dX7_pass_45 (by decide) ?_
    exact hret 47 ls H locs 7 t_now dX7_pass_47 hf hP hD hS

/-! X7_nextTime -/
theorem mX7_nextTime_1 : Cond.fieldLink RX7 13 "OxenKneelModel" "now" "[I" ∈ wsX7_nextTime := List.mem_of_getElem? (i := 1) rfl
theorem mX7_nextTime_2 : Cond.fieldLink RX7 20 "OxenKneelModel" "kneels" "I" ∈ wsX7_nextTime := List.mem_of_getElem? (i := 2) rfl
theorem nX7_nextTime_X7 : ∀ w ∈ wsX70, w ∈ wsX7_nextTime := fun _ h => List.mem_cons_of_mem _ (List.mem_append_right _ h)
def pX7_nextTime_b56 (t_kneels : Int32) (post : Int32 → ((Nat → Int32)) → Prop) (s0 : Int32) (s1 : Int32) (s2 : Int32) (t_now : (Nat → Int32)) : Prop :=
  ∀ v1 : Int32, v1 = (s1 + s0) → (vp_in s2 45 ∧ (post 0 (upd (upd (upd t_now s2.toNatClampNeg v1) 42 t_kneels) 43 0)))

set_option maxHeartbeats 4000000 in
set_option maxRecDepth 100000 in
theorem wX7_nextTime_b56 {p : Program} {l : Launch} {e : Env} {s : State} {m : MethodId} {args : Array Value} {below : List Frame} {meth : Method} {c : Code} {Q : State → Prop} {D : va_G} {cI cZ cJ cO : ClassId} {A : Nat → Prop} (C0 : CallFix p m c cX7_nextTime 2 s args wsX7_nextTime RX7) (hN : nw s) (hK : va_K D vwCl (tyL cI cZ cJ cO) s) (hA : ∀ q, s.heap.size ≤ q → A q) (q_t q_t_now q_t_book q_t_sight q_t_pad q_t_had q_t_takes q_t_worths q_t_fitting q_t_wins q_t_ways q_t_image q_t_isKept : Nat) (t_shift : Int32) (t_sights : Int32) (t_signs : Int32) (t_metAt : Int32) (t_metWho : Int32) (t_reason : Int32) (t_acts : Int32) (t_kneels : Int32) (post : Int32 → ((Nat → Int32)) → Prop) (hret : hrI p l e ({ frames := 0, cells := 0, slots := 0, locals := 0 } : Room) s m args below meth c cX7_nextTime D A Q post (fun u : (Nat → Int32) => [(q_t, .inr (7, [.ref q_t_book, .ref q_t_now, .int t_shift, .int t_kneels, .int t_sights, .ref q_t_sight, .int t_signs, .ref q_t_pad, .int t_metAt, .int t_metWho, .int t_reason, .int t_acts, .ref q_t_had, .ref q_t_takes, .ref q_t_worths, .ref q_t_fitting, .ref q_t_wins, .ref q_t_ways, .ref q_t_image, .ref q_t_isKept])), (q_t_now, .inl (cI, 45, .inl u))])) :
    ∀ (s0 : Int32) (s1 : Int32) (s2 : Int32) (t_now : (Nat → Int32)), pX7_nextTime_b56 t_kneels post s0 s1 s2 t_now → ∀ (H : Heap) (locs : List Loc), va_P D vwCl [(q_t, .inr (7, [.ref q_t_book, .ref q_t_now, .int t_shift, .int t_kneels, .int t_sights, .ref q_t_sight, .int t_signs, .ref q_t_pad, .int t_metAt, .int t_metWho, .int t_reason, .int t_acts, .ref q_t_had, .ref q_t_takes, .ref q_t_worths, .ref q_t_fitting, .ref q_t_wins, .ref q_t_ways, .ref q_t_image, .ref q_t_isKept])), (q_t_now, .inl (cI, 45, .inl t_now))] H → va_D A [(q_t, .inr (7, [.ref q_t_book, .ref q_t_now, .int t_shift, .int t_kneels, .int t_sights, .ref q_t_sight, .int t_signs, .ref q_t_pad, .int t_metAt, .int t_metWho, .int t_reason, .int t_acts, .ref q_t_had, .ref q_t_takes, .ref q_t_worths, .ref q_t_fitting, .ref q_t_wins, .ref q_t_ways, .ref q_t_image, .ref q_t_isKept])), (q_t_now, .inl (cI, 45, .inl t_now))] → va_S A s.heap H locs → ∀ ls : Array Slot, lv_has ls 2 [(0, .ref q_t)] → W p l e ({ frames := 0, cells := 0, slots := 0, locals := 0 } : Room) s m args below meth c H locs 0 0 Q (F0 m 56 ls [.int s0, .int s1, .int s2, .ref q_t_now]) := by
  obtain ⟨hx, hb, hml, hown, hts⟩ := id C0
  intro s0 s1 s2 t_now hf H locs hP hD hS ls hl
  unfold pX7_nextTime_b56 at hf
  refine lv_iadd hx hb dX7_nextTime_56 ?_
  refine lv_topi (fun v1 ev1 => ?_)
  have hf := hf v1 ev1
  have g2 := hf.1
  have hf := hf.2
  refine xa_iast hx hb hK hP hD hS 1 0 rfl rfl (j := s2.toNatClampNeg) rfl g2 dX7_nextTime_57 (fun H locs hP hD hS => ?_)
  have hP : va_P D vwCl [(q_t, .inr (7, [.ref q_t_book, .ref q_t_now, .int t_shift, .int t_kneels, .int t_sights, .ref q_t_sight, .int t_signs, .ref q_t_pad, .int t_metAt, .int t_metWho, .int t_reason, .int t_acts, .ref q_t_had, .ref q_t_takes, .ref q_t_worths, .ref q_t_fitting, .ref q_t_wins, .ref q_t_ways, .ref q_t_image, .ref q_t_isKept])), (q_t_now, .inl (cI, 45, .inl (upd t_now s2.toNatClampNeg v1)))] H := hP
  have hD : va_D A [(q_t, .inr (7, [.ref q_t_book, .ref q_t_now, .int t_shift, .int t_kneels, .int t_sights, .ref q_t_sight, .int t_signs, .ref q_t_pad, .int t_metAt, .int t_metWho, .int t_reason, .int t_acts, .ref q_t_had, .ref q_t_takes, .ref q_t_worths, .ref q_t_fitting, .ref q_t_wins, .ref q_t_ways, .ref q_t_image, .ref q_t_isKept])), (q_t_now, .inl (cI, 45, .inl (upd t_now s2.toNatClampNeg v1)))] := hD
  refine lv_aload_n hx hb dX7_nextTime_58 rfl (lv_at hl 0 rfl) ?_
  refine va_get (D := D) (ci := 7) (v := .ref q_t_now) (C := RX7) (T := TX7) (N := 20) hx hb hts nX7_nextTime_X7 hown hK hP 0 rfl rfl 1 (by decide) (hts _ mX7_nextTime_1) (fun _ h9 => h9) rfl dX7_nextTime_59 ?_
  refine lv_bipush (v := 42) hx hb dX7_nextTime_62 (by decide) ?_
  refine lv_aload_n hx hb dX7_nextTime_64 rfl (lv_at hl 0 rfl) ?_
  refine va_get (D := D) (ci := 7) (v := .int t_kneels) (C := RX7) (T := TX7) (N := 20) hx hb hts nX7_nextTime_X7 hown hK hP 0 rfl rfl 3 (by decide) (hts _ mX7_nextTime_2) (fun _ h9 => h9) rfl dX7_nextTime_65 ?_
  refine xa_iast hx hb hK hP hD hS 1 0 rfl rfl (j := 42) (by decide) (vpc rfl) dX7_nextTime_68 (fun H locs hP hD hS => ?_)
  have hP : va_P D vwCl [(q_t, .inr (7, [.ref q_t_book, .ref q_t_now, .int t_shift, .int t_kneels, .int t_sights, .ref q_t_sight, .int t_signs, .ref q_t_pad, .int t_metAt, .int t_metWho, .int t_reason, .int t_acts, .ref q_t_had, .ref q_t_takes, .ref q_t_worths, .ref q_t_fitting, .ref q_t_wins, .ref q_t_ways, .ref q_t_image, .ref q_t_isKept])), (q_t_now, .inl (cI, 45, .inl (upd (upd t_now s2.toNatClampNeg v1) 42 t_kneels)))] H := hP
  have hD : va_D A [(q_t, .inr (7, [.ref q_t_book, .ref q_t_now, .int t_shift, .int t_kneels, .int t_sights, .ref q_t_sight, .int t_signs, .ref q_t_pad, .int t_metAt, .int t_metWho, .int t_reason, .int t_acts, .ref q_t_had, .ref q_t_takes, .ref q_t_worths, .ref q_t_fitting, .ref q_t_wins, .ref q_t_ways, .ref q_t_image, .ref q_t_isKept])), (q_t_now, .inl (cI, 45, .inl (upd (upd t_now s2.toNatClampNeg v1) 42 t_kneels)))] := hD
  refine lv_aload_n hx hb dX7_nextTime_69 rfl (lv_at hl 0 rfl) ?_
  refine va_get (D := D) (ci := 7) (v := .ref q_t_now) (C := RX7) (T := TX7) (N := 20) hx hb hts nX7_nextTime_X7 hown hK hP 0 rfl rfl 1 (by decide) (hts _ mX7_nextTime_1) (fun _ h9 => h9) rfl dX7_nextTime_70 ?_
  refine lv_bipush (v := 43) hx hb dX7_nextTime_73 (by decide) ?_
  refine lv_iconst (v := 0) hx hb dX7_nextTime_75 (by decide) ?_
  refine xa_iast hx hb hK hP hD hS 1 0 rfl rfl (j := 43) (by decide) (vpc rfl) dX7_nextTime_76 (fun H locs hP hD hS => ?_)
  have hP : va_P D vwCl [(q_t, .inr (7, [.ref q_t_book, .ref q_t_now, .int t_shift, .int t_kneels, .int t_sights, .ref q_t_sight, .int t_signs, .ref q_t_pad, .int t_metAt, .int t_metWho, .int t_reason, .int t_acts, .ref q_t_had, .ref q_t_takes, .ref q_t_worths, .ref q_t_fitting, .ref q_t_wins, .ref q_t_ways, .ref q_t_image, .ref q_t_isKept])), (q_t_now, .inl (cI, 45, .inl (upd (upd (upd t_now s2.toNatClampNeg v1) 42 t_kneels) 43 0)))] H := hP
  have hD : va_D A [(q_t, .inr (7, [.ref q_t_book, .ref q_t_now, .int t_shift, .int t_kneels, .int t_sights, .ref q_t_sight, .int t_signs, .ref q_t_pad, .int t_metAt, .int t_metWho, .int t_reason, .int t_acts, .ref q_t_had, .ref q_t_takes, .ref q_t_worths, .ref q_t_fitting, .ref q_t_wins, .ref q_t_ways, .ref q_t_image, .ref q_t_isKept])), (q_t_now, .inl (cI, 45, .inl (upd (upd (upd t_now s2.toNatClampNeg v1) 42 t_kneels) 43 0)))] := hD
  refine lv_iconst (v := 0) hx hb dX7_nextTime_77 (by decide) ?_
  exact hret 78 ls H locs 0 (upd (upd (upd t_now s2.toNatClampNeg v1) 42 t_kneels) 43 0) dX7_nextTime_78 hf hP hD hS

def pX7_nextTime_b39 (t_kneels : Int32) (post : Int32 → ((Nat → Int32)) → Prop) (x1 : Int32) (t_now : (Nat → Int32)) : Prop :=
  (x1 = 0 → (pX7_nextTime_b56 t_kneels post  1 (t_now 44) 44 t_now)) ∧ (¬ x1 = 0 → (pX7_nextTime_b56 t_kneels post  0 (t_now 44) 44 t_now))

set_option maxHeartbeats 4000000 in
set_option maxRecDepth 100000 in
theorem wX7_nextTime_b39 {p : Program} {l : Launch} {e : Env} {s : State} {m : MethodId} {args : Array Value} {below : List Frame} {meth : Method} {c : Code} {Q : State → Prop} {D : va_G} {cI cZ cJ cO : ClassId} {A : Nat → Prop} (C0 : CallFix p m c cX7_nextTime 2 s args wsX7_nextTime RX7) (hN : nw s) (hK : va_K D vwCl (tyL cI cZ cJ cO) s) (hA : ∀ q, s.heap.size ≤ q → A q) (q_t q_t_now q_t_book q_t_sight q_t_pad q_t_had q_t_takes q_t_worths q_t_fitting q_t_wins q_t_ways q_t_image q_t_isKept : Nat) (t_shift : Int32) (t_sights : Int32) (t_signs : Int32) (t_metAt : Int32) (t_metWho : Int32) (t_reason : Int32) (t_acts : Int32) (t_kneels : Int32) (post : Int32 → ((Nat → Int32)) → Prop) (hret : hrI p l e ({ frames := 0, cells := 0, slots := 0, locals := 0 } : Room) s m args below meth c cX7_nextTime D A Q post (fun u : (Nat → Int32) => [(q_t, .inr (7, [.ref q_t_book, .ref q_t_now, .int t_shift, .int t_kneels, .int t_sights, .ref q_t_sight, .int t_signs, .ref q_t_pad, .int t_metAt, .int t_metWho, .int t_reason, .int t_acts, .ref q_t_had, .ref q_t_takes, .ref q_t_worths, .ref q_t_fitting, .ref q_t_wins, .ref q_t_ways, .ref q_t_image, .ref q_t_isKept])), (q_t_now, .inl (cI, 45, .inl u))])) :
    ∀ (x1 : Int32) (t_now : (Nat → Int32)), pX7_nextTime_b39 t_kneels post x1 t_now → ∀ (H : Heap) (locs : List Loc), va_P D vwCl [(q_t, .inr (7, [.ref q_t_book, .ref q_t_now, .int t_shift, .int t_kneels, .int t_sights, .ref q_t_sight, .int t_signs, .ref q_t_pad, .int t_metAt, .int t_metWho, .int t_reason, .int t_acts, .ref q_t_had, .ref q_t_takes, .ref q_t_worths, .ref q_t_fitting, .ref q_t_wins, .ref q_t_ways, .ref q_t_image, .ref q_t_isKept])), (q_t_now, .inl (cI, 45, .inl t_now))] H → va_D A [(q_t, .inr (7, [.ref q_t_book, .ref q_t_now, .int t_shift, .int t_kneels, .int t_sights, .ref q_t_sight, .int t_signs, .ref q_t_pad, .int t_metAt, .int t_metWho, .int t_reason, .int t_acts, .ref q_t_had, .ref q_t_takes, .ref q_t_worths, .ref q_t_fitting, .ref q_t_wins, .ref q_t_ways, .ref q_t_image, .ref q_t_isKept])), (q_t_now, .inl (cI, 45, .inl t_now))] → va_S A s.heap H locs → ∀ ls : Array Slot, lv_has ls 2 [(0, .ref q_t), (1, .int x1)] → W p l e ({ frames := 0, cells := 0, slots := 0, locals := 0 } : Room) s m args below meth c H locs 0 0 Q (F0 m 39 ls []) := by
  obtain ⟨hx, hb, hml, hown, hts⟩ := id C0
  intro x1 t_now hf H locs hP hD hS ls hl
  unfold pX7_nextTime_b39 at hf
  refine lv_aload_n hx hb dX7_nextTime_39 rfl (lv_at hl 0 rfl) ?_
  refine va_get (D := D) (ci := 7) (v := .ref q_t_now) (C := RX7) (T := TX7) (N := 20) hx hb hts nX7_nextTime_X7 hown hK hP 0 rfl rfl 1 (by decide) (hts _ mX7_nextTime_1) (fun _ h9 => h9) rfl dX7_nextTime_40 ?_
  refine lv_bipush (v := 44) hx hb dX7_nextTime_43 (by decide) ?_
  refine lv_dup2_11 hx hb dX7_nextTime_45 rfl rfl ?_
  refine xa_iald hx hb hK hP 1 0 rfl rfl (j := 44) (by decide) (vpc rfl) dX7_nextTime_46 ?_
  refine lv_iload_n hx hb dX7_nextTime_47 rfl (lv_at hl 1 rfl) ?_
  refine lv_if_eq (tgt := 55) hx hb dX7_nextTime_48 (by decide) (fun c1 => ?_) (fun c1 => ?_)
  · have hf := hf.1 c1
    refine lv_iconst (v := 1) hx hb dX7_nextTime_55 (by decide) ?_
    exact wX7_nextTime_b56 C0 hN hK hA q_t q_t_now q_t_book q_t_sight q_t_pad q_t_had q_t_takes q_t_worths q_t_fitting q_t_wins q_t_ways q_t_image q_t_isKept t_shift t_sights t_signs t_metAt t_metWho t_reason t_acts t_kneels post hret   1 (t_now 44) 44 t_now hf H locs hP hD hS ls (lv_sub hl [0] rfl)
  · have hf := hf.2 c1
    refine lv_iconst (v := 0) hx hb dX7_nextTime_51 (by decide) ?_
    refine lv_goto (tgt := 56) hx hb dX7_nextTime_52 (by decide) ?_
    exact wX7_nextTime_b56 C0 hN hK hA q_t q_t_now q_t_book q_t_sight q_t_pad q_t_had q_t_takes q_t_worths q_t_fitting q_t_wins q_t_ways q_t_image q_t_isKept t_shift t_sights t_signs t_metAt t_metWho t_reason t_acts t_kneels post hret   0 (t_now 44) 44 t_now hf H locs hP hD hS ls (lv_sub hl [0] rfl)

def pX7_nextTime_b19 (t_kneels : Int32) (post : Int32 → ((Nat → Int32)) → Prop) (s0 : Int32) (t_now : (Nat → Int32)) : Prop :=
  (¬ s0 = 0 → (pX7_nextTime_b39 t_kneels post  s0 t_now)) ∧ (s0 = 0 → ((¬ (t_now 44) = 99 → (pX7_nextTime_b39 t_kneels post  s0 t_now)) ∧ ((t_now 44) = 99 → (post 7 t_now))))

set_option maxHeartbeats 4000000 in
set_option maxRecDepth 100000 in
theorem wX7_nextTime_b19 {p : Program} {l : Launch} {e : Env} {s : State} {m : MethodId} {args : Array Value} {below : List Frame} {meth : Method} {c : Code} {Q : State → Prop} {D : va_G} {cI cZ cJ cO : ClassId} {A : Nat → Prop} (C0 : CallFix p m c cX7_nextTime 2 s args wsX7_nextTime RX7) (hN : nw s) (hK : va_K D vwCl (tyL cI cZ cJ cO) s) (hA : ∀ q, s.heap.size ≤ q → A q) (q_t q_t_now q_t_book q_t_sight q_t_pad q_t_had q_t_takes q_t_worths q_t_fitting q_t_wins q_t_ways q_t_image q_t_isKept : Nat) (t_shift : Int32) (t_sights : Int32) (t_signs : Int32) (t_metAt : Int32) (t_metWho : Int32) (t_reason : Int32) (t_acts : Int32) (t_kneels : Int32) (post : Int32 → ((Nat → Int32)) → Prop) (hret : hrI p l e ({ frames := 0, cells := 0, slots := 0, locals := 0 } : Room) s m args below meth c cX7_nextTime D A Q post (fun u : (Nat → Int32) => [(q_t, .inr (7, [.ref q_t_book, .ref q_t_now, .int t_shift, .int t_kneels, .int t_sights, .ref q_t_sight, .int t_signs, .ref q_t_pad, .int t_metAt, .int t_metWho, .int t_reason, .int t_acts, .ref q_t_had, .ref q_t_takes, .ref q_t_worths, .ref q_t_fitting, .ref q_t_wins, .ref q_t_ways, .ref q_t_image, .ref q_t_isKept])), (q_t_now, .inl (cI, 45, .inl u))])) :
    ∀ (s0 : Int32) (t_now : (Nat → Int32)), pX7_nextTime_b19 t_kneels post s0 t_now → ∀ (H : Heap) (locs : List Loc), va_P D vwCl [(q_t, .inr (7, [.ref q_t_book, .ref q_t_now, .int t_shift, .int t_kneels, .int t_sights, .ref q_t_sight, .int t_signs, .ref q_t_pad, .int t_metAt, .int t_metWho, .int t_reason, .int t_acts, .ref q_t_had, .ref q_t_takes, .ref q_t_worths, .ref q_t_fitting, .ref q_t_wins, .ref q_t_ways, .ref q_t_image, .ref q_t_isKept])), (q_t_now, .inl (cI, 45, .inl t_now))] H → va_D A [(q_t, .inr (7, [.ref q_t_book, .ref q_t_now, .int t_shift, .int t_kneels, .int t_sights, .ref q_t_sight, .int t_signs, .ref q_t_pad, .int t_metAt, .int t_metWho, .int t_reason, .int t_acts, .ref q_t_had, .ref q_t_takes, .ref q_t_worths, .ref q_t_fitting, .ref q_t_wins, .ref q_t_ways, .ref q_t_image, .ref q_t_isKept])), (q_t_now, .inl (cI, 45, .inl t_now))] → va_S A s.heap H locs → ∀ ls : Array Slot, lv_has ls 2 [(0, .ref q_t)] → W p l e ({ frames := 0, cells := 0, slots := 0, locals := 0 } : Room) s m args below meth c H locs 0 0 Q (F0 m 19 ls [.int s0]) := by
  obtain ⟨hx, hb, hml, hown, hts⟩ := id C0
  intro s0 t_now hf H locs hP hD hS ls hl
  unfold pX7_nextTime_b19 at hf
  refine lv_istore_n (lv' := [(1, .int s0), (0, .ref q_t)]) hx hb dX7_nextTime_19 rfl hl (by decide) rfl (fun ls hl => ?_)
  refine lv_iload_n hx hb dX7_nextTime_20 rfl (lv_at hl 0 rfl) ?_
  refine lv_if_ne (tgt := 39) hx hb dX7_nextTime_21 (by decide) (fun c1 => ?_) (fun c1 => ?_)
  · have hf := hf.1 c1
    exact wX7_nextTime_b39 C0 hN hK hA q_t q_t_now q_t_book q_t_sight q_t_pad q_t_had q_t_takes q_t_worths q_t_fitting q_t_wins q_t_ways q_t_image q_t_isKept t_shift t_sights t_signs t_metAt t_metWho t_reason t_acts t_kneels post hret   s0 t_now hf H locs hP hD hS ls (lv_sub hl [1, 0] rfl)
  · have hf := hf.2 c1
    refine lv_aload_n hx hb dX7_nextTime_24 rfl (lv_at hl 1 rfl) ?_
    refine va_get (D := D) (ci := 7) (v := .ref q_t_now) (C := RX7) (T := TX7) (N := 20) hx hb hts nX7_nextTime_X7 hown hK hP 0 rfl rfl 1 (by decide) (hts _ mX7_nextTime_1) (fun _ h9 => h9) rfl dX7_nextTime_25 ?_
    refine lv_bipush (v := 44) hx hb dX7_nextTime_28 (by decide) ?_
    refine xa_iald hx hb hK hP 1 0 rfl rfl (j := 44) (by decide) (vpc rfl) dX7_nextTime_30 ?_
    refine lv_bipush (v := 99) hx hb dX7_nextTime_31 (by decide) ?_
    refine lv_icmp_ne (tgt := 39) hx hb dX7_nextTime_33 (by decide) (fun c2 => ?_) (fun c2 => ?_)
    · have hf := hf.1 c2
      exact wX7_nextTime_b39 C0 hN hK hA q_t q_t_now q_t_book q_t_sight q_t_pad q_t_had q_t_takes q_t_worths q_t_fitting q_t_wins q_t_ways q_t_image q_t_isKept t_shift t_sights t_signs t_metAt t_metWho t_reason t_acts t_kneels post hret   s0 t_now hf H locs hP hD hS ls (lv_sub hl [1, 0] rfl)
    · have hf := hf.2 c2
      refine lv_bipush (v := 7) hx hb dX7_nextTime_36 (by decide) ?_
      exact hret 38 ls H locs 7 t_now dX7_nextTime_38 hf hP hD hS

def pX7_nextTime (t_kneels : Int32) (t_now : (Nat → Int32))  (post : Int32 → ((Nat → Int32)) → Prop) : Prop :=
  (t_kneels ≤ (t_now 42) → (pX7_nextTime_b19 t_kneels post  0 t_now)) ∧ (¬ t_kneels ≤ (t_now 42) → (pX7_nextTime_b19 t_kneels post  1 t_now))

set_option maxHeartbeats 4000000 in
set_option maxRecDepth 100000 in
theorem kX7_nextTime (l : Launch) (D : va_G) (cI cZ cJ cO : ClassId) (q_t q_t_now q_t_book q_t_sight q_t_pad q_t_had q_t_takes q_t_worths q_t_fitting q_t_wins q_t_ways q_t_image q_t_isKept : Nat) (sz : Nat) (t_shift : Int32) (t_sights : Int32) (t_signs : Int32) (t_metAt : Int32) (t_metWho : Int32) (t_reason : Int32) (t_acts : Int32) (t_kneels : Int32) (t_now : (Nat → Int32))  (post : Int32 → ((Nat → Int32)) → Prop) (hf : pX7_nextTime t_kneels t_now post) :
    Met l yX7_nextTime wsX7_nextTime ({ frames := 0, cells := 0, slots := 0, locals := 0 } : Room) (va_Pc [.ref q_t] (B1 D (tyL cI cZ cJ cO) [(q_t, .inr (7, [.ref q_t_book, .ref q_t_now, .int t_shift, .int t_kneels, .int t_sights, .ref q_t_sight, .int t_signs, .ref q_t_pad, .int t_metAt, .int t_metWho, .int t_reason, .int t_acts, .ref q_t_had, .ref q_t_takes, .ref q_t_worths, .ref q_t_fitting, .ref q_t_wins, .ref q_t_ways, .ref q_t_image, .ref q_t_isKept])), (q_t_now, .inl (cI, 45, .inl t_now))] sz)) (va_Qi post (fun u t => E1 D (va_A [(q_t, .inr (7, [.ref q_t_book, .ref q_t_now, .int t_shift, .int t_kneels, .int t_sights, .ref q_t_sight, .int t_signs, .ref q_t_pad, .int t_metAt, .int t_metWho, .int t_reason, .int t_acts, .ref q_t_had, .ref q_t_takes, .ref q_t_worths, .ref q_t_fitting, .ref q_t_wins, .ref q_t_ways, .ref q_t_image, .ref q_t_isKept])), (q_t_now, .inl (cI, 45, .inl t_now))] sz) ((fun u : (Nat → Int32) => [(q_t, .inr (7, [.ref q_t_book, .ref q_t_now, .int t_shift, .int t_kneels, .int t_sights, .ref q_t_sight, .int t_signs, .ref q_t_pad, .int t_metAt, .int t_metWho, .int t_reason, .int t_acts, .ref q_t_had, .ref q_t_takes, .ref q_t_worths, .ref q_t_fitting, .ref q_t_wins, .ref q_t_ways, .ref q_t_image, .ref q_t_isKept])), (q_t_now, .inl (cI, 45, .inl u))]) u) t) (va_A [(q_t, .inr (7, [.ref q_t_book, .ref q_t_now, .int t_shift, .int t_kneels, .int t_sights, .ref q_t_sight, .int t_signs, .ref q_t_pad, .int t_metAt, .int t_metWho, .int t_reason, .int t_acts, .ref q_t_had, .ref q_t_takes, .ref q_t_worths, .ref q_t_fitting, .ref q_t_wins, .ref q_t_ways, .ref q_t_image, .ref q_t_isKept])), (q_t_now, .inl (cI, 45, .inl t_now))] sz)) 0 0 (va_A [(q_t, .inr (7, [.ref q_t_book, .ref q_t_now, .int t_shift, .int t_kneels, .int t_sights, .ref q_t_sight, .int t_signs, .ref q_t_pad, .int t_metAt, .int t_metWho, .int t_reason, .int t_acts, .ref q_t_had, .ref q_t_takes, .ref q_t_worths, .ref q_t_fitting, .ref q_t_wins, .ref q_t_ways, .ref q_t_image, .ref q_t_isKept])), (q_t_now, .inl (cI, 45, .inl t_now))] sz) := by
  unfold pX7_nextTime at hf
  refine xm_1i (own := RX7) (by decide) rfl rfl (Nat.le_of_ble_eq_true rfl) (fun p e s m args below meth c Q A C0 hN hK hA hret hP hD ls hl => ?_)
  obtain ⟨hx, hb, hml, hown, hts⟩ := id C0
  have hl : lv_has ls 2 [(0, .ref q_t)] := hl
  have hS : va_S A s.heap s.heap [] := va_S.rf
  obtain ⟨H, hHe⟩ : ∃ H, H = s.heap := ⟨_, rfl⟩
  obtain ⟨locs, hLe⟩ : ∃ L : List Loc, L = [] := ⟨_, rfl⟩
  rw [← hLe]
  rw [← hLe] at hS
  have hP : va_P D vwCl [(q_t, .inr (7, [.ref q_t_book, .ref q_t_now, .int t_shift, .int t_kneels, .int t_sights, .ref q_t_sight, .int t_signs, .ref q_t_pad, .int t_metAt, .int t_metWho, .int t_reason, .int t_acts, .ref q_t_had, .ref q_t_takes, .ref q_t_worths, .ref q_t_fitting, .ref q_t_wins, .ref q_t_ways, .ref q_t_image, .ref q_t_isKept])), (q_t_now, .inl (cI, 45, .inl t_now))] H := by rw [hHe]; exact hP
  have hS : va_S A s.heap H locs := by rw [hHe]; exact hS
  suffices hgo : W p l e ({ frames := 0, cells := 0, slots := 0, locals := 0 } : Room) s m args below meth c H locs 0 0 Q (F0 m 0 ls []) by rw [← hHe]; exact hgo
  clear hHe hLe
  refine lv_aload_n hx hb dX7_nextTime_0 rfl (lv_at hl 0 rfl) ?_
  refine va_get (D := D) (ci := 7) (v := .ref q_t_now) (C := RX7) (T := TX7) (N := 20) hx hb hts nX7_nextTime_X7 hown hK hP 0 rfl rfl 1 (by decide) (hts _ mX7_nextTime_1) (fun _ h9 => h9) rfl dX7_nextTime_1 ?_
  refine lv_bipush (v := 42) hx hb dX7_nextTime_4 (by decide) ?_
  refine xa_iald hx hb hK hP 1 0 rfl rfl (j := 42) (by decide) (vpc rfl) dX7_nextTime_6 ?_
  refine lv_aload_n hx hb dX7_nextTime_7 rfl (lv_at hl 0 rfl) ?_
  refine va_get (D := D) (ci := 7) (v := .int t_kneels) (C := RX7) (T := TX7) (N := 20) hx hb hts nX7_nextTime_X7 hown hK hP 0 rfl rfl 3 (by decide) (hts _ mX7_nextTime_2) (fun _ h9 => h9) rfl dX7_nextTime_8 ?_
  refine lv_icmp_ge (tgt := 18) hx hb dX7_nextTime_11 (by decide) (fun c1 => ?_) (fun c1 => ?_)
  · have hf := hf.1 c1
    refine lv_iconst (v := 0) hx hb dX7_nextTime_18 (by decide) ?_
    exact wX7_nextTime_b19 C0 hN hK hA q_t q_t_now q_t_book q_t_sight q_t_pad q_t_had q_t_takes q_t_worths q_t_fitting q_t_wins q_t_ways q_t_image q_t_isKept t_shift t_sights t_signs t_metAt t_metWho t_reason t_acts t_kneels post hret   0 t_now hf H locs hP hD hS ls (lv_sub hl [0] rfl)
  · have hf := hf.2 c1
    refine lv_iconst (v := 1) hx hb dX7_nextTime_14 (by decide) ?_
    refine lv_goto (tgt := 19) hx hb dX7_nextTime_15 (by decide) ?_
    exact wX7_nextTime_b19 C0 hN hK hA q_t q_t_now q_t_book q_t_sight q_t_pad q_t_had q_t_takes q_t_worths q_t_fitting q_t_wins q_t_ways q_t_image q_t_isKept t_shift t_sights t_signs t_metAt t_metWho t_reason t_acts t_kneels post hret   1 t_now hf H locs hP hD hS ls (lv_sub hl [0] rfl)

/-! X7_personAct -/
theorem mX7_personAct_1 : Cond.fieldLink RX7 26 "OxenKneelModel" "pad" "[I" ∈ wsX7_personAct := List.mem_of_getElem? (i := 1) rfl
theorem nX7_personAct_X7 : ∀ w ∈ wsX70, w ∈ wsX7_personAct := fun _ h => List.mem_cons_of_mem _ (List.mem_append_right _ h)
def pX7_personAct (t_shift : Int32) (t_kneels : Int32) (t_now : (Nat → Int32)) (t_pad : (Nat → Int32)) (a1 : Int32) (post : Int32 → ((Nat → Int32)) → Prop) : Prop :=
  vp_in a1 60 ∧ (∀ v2 : Int32, v2 = ((t_pad a1.toNatClampNeg) - 65) → (vp_in (a1 + 1) 60 ∧ (∀ v4 : Int32, v4 = (t_pad (a1 + 1).toNatClampNeg) → ((v4 = 36 → (vp_in (a1 + 2) 60 ∧ (pX7_leave t_now v2 ((t_pad (a1 + 2).toNatClampNeg) - 48) (fun (r7 : Int32) (u8 : (Nat → Int32)) => post r7 u8)))) ∧ ((v4 = 40 → (pX7_stepOver t_shift t_kneels t_now v2 (fun (r10 : Int32) (u11 : (Nat → Int32)) => post r10 u11))) ∧ ((v4 = 41 → (pX7_comeOut t_kneels t_now v2 (fun (r13 : Int32) (u14 : (Nat → Int32)) => post r13 u14))) ∧ ((v4 = 60 → (pX7_walk t_shift t_now v2 (-1) (fun (r16 : Int32) (u17 : (Nat → Int32)) => post r16 u17))) ∧ ((v4 = 62 → (pX7_walk t_shift t_now v2 1 (fun (r19 : Int32) (u20 : (Nat → Int32)) => post r19 u20))) ∧ ((¬ v4 = 36 → ¬ v4 = 40 → ¬ v4 = 41 → ¬ v4 = 60 → ¬ v4 = 62 → (pX7_find t_now v2 (fun (r21 : Int32) (u22 : (Nat → Int32)) => post r21 u22))))))))))))

set_option maxHeartbeats 4000000 in
set_option maxRecDepth 100000 in
theorem kX7_personAct (l : Launch) (D : va_G) (cI cZ cJ cO : ClassId) (q_t q_t_now q_t_pad q_t_book q_t_sight q_t_had q_t_takes q_t_worths q_t_fitting q_t_wins q_t_ways q_t_image q_t_isKept : Nat) (sz : Nat) (t_sights : Int32) (t_signs : Int32) (t_metAt : Int32) (t_metWho : Int32) (t_reason : Int32) (t_acts : Int32) (t_shift : Int32) (t_kneels : Int32) (t_now : (Nat → Int32)) (t_pad : (Nat → Int32)) (a1 : Int32) (post : Int32 → ((Nat → Int32)) → Prop) (hf : pX7_personAct t_shift t_kneels t_now t_pad a1 post) :
    Met l yX7_personAct wsX7_personAct ({ frames := 2, cells := 0, slots := 0, locals := 44 } : Room) (va_Pc [.ref q_t, .int a1] (B1 D (tyL cI cZ cJ cO) [(q_t, .inr (7, [.ref q_t_book, .ref q_t_now, .int t_shift, .int t_kneels, .int t_sights, .ref q_t_sight, .int t_signs, .ref q_t_pad, .int t_metAt, .int t_metWho, .int t_reason, .int t_acts, .ref q_t_had, .ref q_t_takes, .ref q_t_worths, .ref q_t_fitting, .ref q_t_wins, .ref q_t_ways, .ref q_t_image, .ref q_t_isKept])), (q_t_now, .inl (cI, 45, .inl t_now)), (q_t_pad, .inl (cI, 60, .inl t_pad))] sz)) (va_Qi post (fun u t => E1 D (va_A [(q_t, .inr (7, [.ref q_t_book, .ref q_t_now, .int t_shift, .int t_kneels, .int t_sights, .ref q_t_sight, .int t_signs, .ref q_t_pad, .int t_metAt, .int t_metWho, .int t_reason, .int t_acts, .ref q_t_had, .ref q_t_takes, .ref q_t_worths, .ref q_t_fitting, .ref q_t_wins, .ref q_t_ways, .ref q_t_image, .ref q_t_isKept])), (q_t_now, .inl (cI, 45, .inl t_now)), (q_t_pad, .inl (cI, 60, .inl t_pad))] sz) ((fun u : (Nat → Int32) => [(q_t, .inr (7, [.ref q_t_book, .ref q_t_now, .int t_shift, .int t_kneels, .int t_sights, .ref q_t_sight, .int t_signs, .ref q_t_pad, .int t_metAt, .int t_metWho, .int t_reason, .int t_acts, .ref q_t_had, .ref q_t_takes, .ref q_t_worths, .ref q_t_fitting, .ref q_t_wins, .ref q_t_ways, .ref q_t_image, .ref q_t_isKept])), (q_t_now, .inl (cI, 45, .inl u)), (q_t_pad, .inl (cI, 60, .inl t_pad))]) u) t) (va_A [(q_t, .inr (7, [.ref q_t_book, .ref q_t_now, .int t_shift, .int t_kneels, .int t_sights, .ref q_t_sight, .int t_signs, .ref q_t_pad, .int t_metAt, .int t_metWho, .int t_reason, .int t_acts, .ref q_t_had, .ref q_t_takes, .ref q_t_worths, .ref q_t_fitting, .ref q_t_wins, .ref q_t_ways, .ref q_t_image, .ref q_t_isKept])), (q_t_now, .inl (cI, 45, .inl t_now)), (q_t_pad, .inl (cI, 60, .inl t_pad))] sz)) 0 0 (va_A [(q_t, .inr (7, [.ref q_t_book, .ref q_t_now, .int t_shift, .int t_kneels, .int t_sights, .ref q_t_sight, .int t_signs, .ref q_t_pad, .int t_metAt, .int t_metWho, .int t_reason, .int t_acts, .ref q_t_had, .ref q_t_takes, .ref q_t_worths, .ref q_t_fitting, .ref q_t_wins, .ref q_t_ways, .ref q_t_image, .ref q_t_isKept])), (q_t_now, .inl (cI, 45, .inl t_now)), (q_t_pad, .inl (cI, 60, .inl t_pad))] sz) := by
  unfold pX7_personAct at hf
  refine xm_1i (own := RX7) (by decide) rfl rfl (Nat.le_of_ble_eq_true rfl) (fun p e s m args below meth c Q A C0 hN hK hA hret hP hD ls hl => ?_)
  obtain ⟨hx, hb, hml, hown, hts⟩ := id C0
  have hl : lv_has ls 3 [(0, .ref q_t), (1, .int a1)] := hl
  have hS : va_S A s.heap s.heap [] := va_S.rf
  obtain ⟨H, hHe⟩ : ∃ H, H = s.heap := ⟨_, rfl⟩
  obtain ⟨locs, hLe⟩ : ∃ L : List Loc, L = [] := ⟨_, rfl⟩
  rw [← hLe]
  rw [← hLe] at hS
  have hP : va_P D vwCl [(q_t, .inr (7, [.ref q_t_book, .ref q_t_now, .int t_shift, .int t_kneels, .int t_sights, .ref q_t_sight, .int t_signs, .ref q_t_pad, .int t_metAt, .int t_metWho, .int t_reason, .int t_acts, .ref q_t_had, .ref q_t_takes, .ref q_t_worths, .ref q_t_fitting, .ref q_t_wins, .ref q_t_ways, .ref q_t_image, .ref q_t_isKept])), (q_t_now, .inl (cI, 45, .inl t_now)), (q_t_pad, .inl (cI, 60, .inl t_pad))] H := by rw [hHe]; exact hP
  have hS : va_S A s.heap H locs := by rw [hHe]; exact hS
  suffices hgo : W p l e ({ frames := 2, cells := 0, slots := 0, locals := 44 } : Room) s m args below meth c H locs 0 0 Q (F0 m 0 ls []) by rw [← hHe]; exact hgo
  clear hHe hLe
  refine lv_aload_n hx hb dX7_personAct_0 rfl (lv_at hl 0 rfl) ?_
  refine va_get (D := D) (ci := 7) (v := .ref q_t_pad) (C := RX7) (T := TX7) (N := 20) hx hb hts nX7_personAct_X7 hown hK hP 0 rfl rfl 7 (by decide) (hts _ mX7_personAct_1) (fun _ h9 => h9) rfl dX7_personAct_1 ?_
  refine lv_iload_n hx hb dX7_personAct_4 rfl (lv_at hl 1 rfl) ?_
  have g1 := hf.1
  have hf := hf.2
  refine xa_iald hx hb hK hP 2 0 rfl rfl (j := a1.toNatClampNeg) rfl g1 dX7_personAct_5 ?_
  refine lv_bipush (v := 65) hx hb dX7_personAct_6 (by decide) ?_
  refine lv_isub hx hb dX7_personAct_8 ?_
  refine lv_topi (fun v2 ev2 => ?_)
  have hf := hf v2 ev2
  refine lv_istore_n (lv' := [(2, .int v2), (0, .ref q_t), (1, .int a1)]) hx hb dX7_personAct_9 rfl hl (by decide) rfl (fun ls hl => ?_)
  refine lv_aload_n hx hb dX7_personAct_10 rfl (lv_at hl 1 rfl) ?_
  refine va_get (D := D) (ci := 7) (v := .ref q_t_pad) (C := RX7) (T := TX7) (N := 20) hx hb hts nX7_personAct_X7 hown hK hP 0 rfl rfl 7 (by decide) (hts _ mX7_personAct_1) (fun _ h9 => h9) rfl dX7_personAct_11 ?_
  refine lv_iload_n hx hb dX7_personAct_14 rfl (lv_at hl 2 rfl) ?_
  refine lv_iconst (v := 1) hx hb dX7_personAct_15 (by decide) ?_
  refine lv_iadd hx hb dX7_personAct_16 ?_
  have g3 := hf.1
  have hf := hf.2
  refine xa_iald hx hb hK hP 2 0 rfl rfl (j := (a1 + 1).toNatClampNeg) rfl g3 dX7_personAct_17 ?_
  refine lv_topi (fun v4 ev4 => ?_)
  have hf := hf v4 ev4
  by_cases z5 : v4 = 36
  · have hf := hf.1 z5
    refine lv_lookup (off := 76) (tgt := 94) hx hb dX7_personAct_18 (by decide) (by rw [z5]; decide) (by decide) ?_
    refine lv_aload_n hx hb dX7_personAct_94 rfl (lv_at hl 1 rfl) ?_
    refine lv_iload_n hx hb dX7_personAct_95 rfl (lv_at hl 0 rfl) ?_
    refine lv_aload_n hx hb dX7_personAct_96 rfl (lv_at hl 1 rfl) ?_
    refine va_get (D := D) (ci := 7) (v := .ref q_t_pad) (C := RX7) (T := TX7) (N := 20) hx hb hts nX7_personAct_X7 hown hK hP 0 rfl rfl 7 (by decide) (hts _ mX7_personAct_1) (fun _ h9 => h9) rfl dX7_personAct_97 ?_
    refine lv_iload_n hx hb dX7_personAct_100 rfl (lv_at hl 2 rfl) ?_
    refine lv_iconst (v := 2) hx hb dX7_personAct_101 (by decide) ?_
    refine lv_iadd hx hb dX7_personAct_102 ?_
    have g6 := hf.1
    have hf := hf.2
    refine xa_iald hx hb hK hP 2 0 rfl rfl (j := (a1 + 2).toNatClampNeg) rfl g6 dX7_personAct_103 ?_
    refine lv_bipush (v := 48) hx hb dX7_personAct_104 (by decide) ?_
    refine lv_isub hx hb dX7_personAct_106 ?_
    refine xc_i (wr := [(q_t_pad, .inl (cI, 60, .inl t_pad))]) (va_runV (As := [.int v2, .int ((t_pad (a1 + 2).toNatClampNeg) - 48)]) (rest := []) ⟨hx, hb, hml, hown, hts⟩ (kX7_leave l D cI cZ cJ cO q_t q_t_now q_t_book q_t_sight q_t_pad q_t_had q_t_takes q_t_worths q_t_fitting q_t_wins q_t_ways q_t_image q_t_isKept H.size t_shift t_kneels t_sights t_signs t_metAt t_metWho t_reason t_acts t_now v2 ((t_pad (a1 + 2).toNatClampNeg) - 48) _ hf) (cwV 2 hts gX7_personAct_X7_leave rfl rfl rfl (by decide +kernel) ⟨Nat.le_of_ble_eq_true rfl, Nat.le_of_ble_eq_true rfl⟩) (B1_preV (ci := 7) (q0 := 0) hP rfl rfl (hP.sub (ws' := [(q_t, .inr (7, [.ref q_t_book, .ref q_t_now, .int t_shift, .int t_kneels, .int t_sights, .ref q_t_sight, .int t_signs, .ref q_t_pad, .int t_metAt, .int t_metWho, .int t_reason, .int t_acts, .ref q_t_had, .ref q_t_takes, .ref q_t_worths, .ref q_t_fitting, .ref q_t_wins, .ref q_t_ways, .ref q_t_image, .ref q_t_isKept])), (q_t_now, .inl (cI, 45, .inl t_now))]) [0, 1] rfl) hK hN (hD.sub (ws' := [(q_t, .inr (7, [.ref q_t_book, .ref q_t_now, .int t_shift, .int t_kneels, .int t_sights, .ref q_t_sight, .int t_signs, .ref q_t_pad, .int t_metAt, .int t_metWho, .int t_reason, .int t_acts, .ref q_t_had, .ref q_t_takes, .ref q_t_worths, .ref q_t_fitting, .ref q_t_wins, .ref q_t_ways, .ref q_t_image, .ref q_t_isKept])), (q_t_now, .inl (cI, 45, .inl t_now))]) [0, 1] (by decide) rfl)) rfl rfl hl.1 rfl (lv_room (Nat.le_of_ble_eq_true rfl)) dX7_personAct_107 ⟨Nat.zero_le _, Nat.zero_le _⟩) hP hD hS hA [0, 1] [2] rfl rfl (by decide) (by decide) (fun r7 u8 H locs hf hP hD hS => ?_)
    have hP : va_P D vwCl [(q_t_pad, .inl (cI, 60, .inl t_pad)), (q_t, .inr (7, [.ref q_t_book, .ref q_t_now, .int t_shift, .int t_kneels, .int t_sights, .ref q_t_sight, .int t_signs, .ref q_t_pad, .int t_metAt, .int t_metWho, .int t_reason, .int t_acts, .ref q_t_had, .ref q_t_takes, .ref q_t_worths, .ref q_t_fitting, .ref q_t_wins, .ref q_t_ways, .ref q_t_image, .ref q_t_isKept])), (q_t_now, .inl (cI, 45, .inl u8))] H := hP
    have hD : va_D A [(q_t_pad, .inl (cI, 60, .inl t_pad)), (q_t, .inr (7, [.ref q_t_book, .ref q_t_now, .int t_shift, .int t_kneels, .int t_sights, .ref q_t_sight, .int t_signs, .ref q_t_pad, .int t_metAt, .int t_metWho, .int t_reason, .int t_acts, .ref q_t_had, .ref q_t_takes, .ref q_t_worths, .ref q_t_fitting, .ref q_t_wins, .ref q_t_ways, .ref q_t_image, .ref q_t_isKept])), (q_t_now, .inl (cI, 45, .inl u8))] := hD
    exact hret 110 ls H locs r7 u8 dX7_personAct_110 hf (hP.sub [1, 2, 0] rfl) (hD.sub [1, 2, 0] (by decide) rfl) hS
  · have hf := hf.2
    by_cases z9 : v4 = 40
    · have hf := hf.1 z9
      refine lv_lookup (off := 50) (tgt := 68) hx hb dX7_personAct_18 (by decide) (by rw [z9]; decide) (by decide) ?_
      refine lv_aload_n hx hb dX7_personAct_68 rfl (lv_at hl 1 rfl) ?_
      refine lv_iload_n hx hb dX7_personAct_69 rfl (lv_at hl 0 rfl) ?_
      refine xc_i (wr := [(q_t_pad, .inl (cI, 60, .inl t_pad))]) (va_runV (As := [.int v2]) (rest := []) ⟨hx, hb, hml, hown, hts⟩ (kX7_stepOver l D cI cZ cJ cO q_t q_t_now q_t_book q_t_sight q_t_pad q_t_had q_t_takes q_t_worths q_t_fitting q_t_wins q_t_ways q_t_image q_t_isKept H.size t_sights t_signs t_metAt t_metWho t_reason t_acts t_shift t_kneels t_now v2 _ hf) (cwV 1 hts gX7_personAct_X7_stepOver rfl rfl rfl (by decide +kernel) ⟨Nat.le_of_ble_eq_true rfl, Nat.le_of_ble_eq_true rfl⟩) (B1_preV (ci := 7) (q0 := 0) hP rfl rfl (hP.sub (ws' := [(q_t, .inr (7, [.ref q_t_book, .ref q_t_now, .int t_shift, .int t_kneels, .int t_sights, .ref q_t_sight, .int t_signs, .ref q_t_pad, .int t_metAt, .int t_metWho, .int t_reason, .int t_acts, .ref q_t_had, .ref q_t_takes, .ref q_t_worths, .ref q_t_fitting, .ref q_t_wins, .ref q_t_ways, .ref q_t_image, .ref q_t_isKept])), (q_t_now, .inl (cI, 45, .inl t_now))]) [0, 1] rfl) hK hN (hD.sub (ws' := [(q_t, .inr (7, [.ref q_t_book, .ref q_t_now, .int t_shift, .int t_kneels, .int t_sights, .ref q_t_sight, .int t_signs, .ref q_t_pad, .int t_metAt, .int t_metWho, .int t_reason, .int t_acts, .ref q_t_had, .ref q_t_takes, .ref q_t_worths, .ref q_t_fitting, .ref q_t_wins, .ref q_t_ways, .ref q_t_image, .ref q_t_isKept])), (q_t_now, .inl (cI, 45, .inl t_now))]) [0, 1] (by decide) rfl)) rfl rfl hl.1 rfl (lv_room (Nat.le_of_ble_eq_true rfl)) dX7_personAct_70 ⟨Nat.zero_le _, Nat.zero_le _⟩) hP hD hS hA [0, 1] [2] rfl rfl (by decide) (by decide) (fun r10 u11 H locs hf hP hD hS => ?_)
      have hP : va_P D vwCl [(q_t_pad, .inl (cI, 60, .inl t_pad)), (q_t, .inr (7, [.ref q_t_book, .ref q_t_now, .int t_shift, .int t_kneels, .int t_sights, .ref q_t_sight, .int t_signs, .ref q_t_pad, .int t_metAt, .int t_metWho, .int t_reason, .int t_acts, .ref q_t_had, .ref q_t_takes, .ref q_t_worths, .ref q_t_fitting, .ref q_t_wins, .ref q_t_ways, .ref q_t_image, .ref q_t_isKept])), (q_t_now, .inl (cI, 45, .inl u11))] H := hP
      have hD : va_D A [(q_t_pad, .inl (cI, 60, .inl t_pad)), (q_t, .inr (7, [.ref q_t_book, .ref q_t_now, .int t_shift, .int t_kneels, .int t_sights, .ref q_t_sight, .int t_signs, .ref q_t_pad, .int t_metAt, .int t_metWho, .int t_reason, .int t_acts, .ref q_t_had, .ref q_t_takes, .ref q_t_worths, .ref q_t_fitting, .ref q_t_wins, .ref q_t_ways, .ref q_t_image, .ref q_t_isKept])), (q_t_now, .inl (cI, 45, .inl u11))] := hD
      exact hret 73 ls H locs r10 u11 dX7_personAct_73 hf (hP.sub [1, 2, 0] rfl) (hD.sub [1, 2, 0] (by decide) rfl) hS
    · have hf := hf.2
      by_cases z12 : v4 = 41
      · have hf := hf.1 z12
        refine lv_lookup (off := 56) (tgt := 74) hx hb dX7_personAct_18 (by decide) (by rw [z12]; decide) (by decide) ?_
        refine lv_aload_n hx hb dX7_personAct_74 rfl (lv_at hl 1 rfl) ?_
        refine lv_iload_n hx hb dX7_personAct_75 rfl (lv_at hl 0 rfl) ?_
        refine xc_i (wr := [(q_t_pad, .inl (cI, 60, .inl t_pad))]) (va_runV (As := [.int v2]) (rest := []) ⟨hx, hb, hml, hown, hts⟩ (kX7_comeOut l D cI cZ cJ cO q_t q_t_now q_t_book q_t_sight q_t_pad q_t_had q_t_takes q_t_worths q_t_fitting q_t_wins q_t_ways q_t_image q_t_isKept H.size t_shift t_sights t_signs t_metAt t_metWho t_reason t_acts t_kneels t_now v2 _ hf) (cwV 1 hts gX7_personAct_X7_comeOut rfl rfl rfl (by decide +kernel) ⟨Nat.le_of_ble_eq_true rfl, Nat.le_of_ble_eq_true rfl⟩) (B1_preV (ci := 7) (q0 := 0) hP rfl rfl (hP.sub (ws' := [(q_t, .inr (7, [.ref q_t_book, .ref q_t_now, .int t_shift, .int t_kneels, .int t_sights, .ref q_t_sight, .int t_signs, .ref q_t_pad, .int t_metAt, .int t_metWho, .int t_reason, .int t_acts, .ref q_t_had, .ref q_t_takes, .ref q_t_worths, .ref q_t_fitting, .ref q_t_wins, .ref q_t_ways, .ref q_t_image, .ref q_t_isKept])), (q_t_now, .inl (cI, 45, .inl t_now))]) [0, 1] rfl) hK hN (hD.sub (ws' := [(q_t, .inr (7, [.ref q_t_book, .ref q_t_now, .int t_shift, .int t_kneels, .int t_sights, .ref q_t_sight, .int t_signs, .ref q_t_pad, .int t_metAt, .int t_metWho, .int t_reason, .int t_acts, .ref q_t_had, .ref q_t_takes, .ref q_t_worths, .ref q_t_fitting, .ref q_t_wins, .ref q_t_ways, .ref q_t_image, .ref q_t_isKept])), (q_t_now, .inl (cI, 45, .inl t_now))]) [0, 1] (by decide) rfl)) rfl rfl hl.1 rfl (lv_room (Nat.le_of_ble_eq_true rfl)) dX7_personAct_76 ⟨Nat.zero_le _, Nat.zero_le _⟩) hP hD hS hA [0, 1] [2] rfl rfl (by decide) (by decide) (fun r13 u14 H locs hf hP hD hS => ?_)
        have hP : va_P D vwCl [(q_t_pad, .inl (cI, 60, .inl t_pad)), (q_t, .inr (7, [.ref q_t_book, .ref q_t_now, .int t_shift, .int t_kneels, .int t_sights, .ref q_t_sight, .int t_signs, .ref q_t_pad, .int t_metAt, .int t_metWho, .int t_reason, .int t_acts, .ref q_t_had, .ref q_t_takes, .ref q_t_worths, .ref q_t_fitting, .ref q_t_wins, .ref q_t_ways, .ref q_t_image, .ref q_t_isKept])), (q_t_now, .inl (cI, 45, .inl u14))] H := hP
        have hD : va_D A [(q_t_pad, .inl (cI, 60, .inl t_pad)), (q_t, .inr (7, [.ref q_t_book, .ref q_t_now, .int t_shift, .int t_kneels, .int t_sights, .ref q_t_sight, .int t_signs, .ref q_t_pad, .int t_metAt, .int t_metWho, .int t_reason, .int t_acts, .ref q_t_had, .ref q_t_takes, .ref q_t_worths, .ref q_t_fitting, .ref q_t_wins, .ref q_t_ways, .ref q_t_image, .ref q_t_isKept])), (q_t_now, .inl (cI, 45, .inl u14))] := hD
        exact hret 79 ls H locs r13 u14 dX7_personAct_79 hf (hP.sub [1, 2, 0] rfl) (hD.sub [1, 2, 0] (by decide) rfl) hS
      · have hf := hf.2
        by_cases z15 : v4 = 60
        · have hf := hf.1 z15
          refine lv_lookup (off := 69) (tgt := 87) hx hb dX7_personAct_18 (by decide) (by rw [z15]; decide) (by decide) ?_
          refine lv_aload_n hx hb dX7_personAct_87 rfl (lv_at hl 1 rfl) ?_
          refine lv_iload_n hx hb dX7_personAct_88 rfl (lv_at hl 0 rfl) ?_
          refine lv_iconst (v := (-1)) hx hb dX7_personAct_89 (by decide) ?_
          refine xc_i (wr := [(q_t_pad, .inl (cI, 60, .inl t_pad))]) (va_runV (As := [.int v2, .int (-1)]) (rest := []) ⟨hx, hb, hml, hown, hts⟩ (kX7_walk l D cI cZ cJ cO q_t q_t_now q_t_book q_t_sight q_t_pad q_t_had q_t_takes q_t_worths q_t_fitting q_t_wins q_t_ways q_t_image q_t_isKept H.size t_kneels t_sights t_signs t_metAt t_metWho t_reason t_acts t_shift t_now v2 (-1) _ hf) (cwV 2 hts gX7_personAct_X7_walk rfl rfl rfl (by decide +kernel) ⟨Nat.le_of_ble_eq_true rfl, Nat.le_of_ble_eq_true rfl⟩) (B1_preV (ci := 7) (q0 := 0) hP rfl rfl (hP.sub (ws' := [(q_t, .inr (7, [.ref q_t_book, .ref q_t_now, .int t_shift, .int t_kneels, .int t_sights, .ref q_t_sight, .int t_signs, .ref q_t_pad, .int t_metAt, .int t_metWho, .int t_reason, .int t_acts, .ref q_t_had, .ref q_t_takes, .ref q_t_worths, .ref q_t_fitting, .ref q_t_wins, .ref q_t_ways, .ref q_t_image, .ref q_t_isKept])), (q_t_now, .inl (cI, 45, .inl t_now))]) [0, 1] rfl) hK hN (hD.sub (ws' := [(q_t, .inr (7, [.ref q_t_book, .ref q_t_now, .int t_shift, .int t_kneels, .int t_sights, .ref q_t_sight, .int t_signs, .ref q_t_pad, .int t_metAt, .int t_metWho, .int t_reason, .int t_acts, .ref q_t_had, .ref q_t_takes, .ref q_t_worths, .ref q_t_fitting, .ref q_t_wins, .ref q_t_ways, .ref q_t_image, .ref q_t_isKept])), (q_t_now, .inl (cI, 45, .inl t_now))]) [0, 1] (by decide) rfl)) rfl rfl hl.1 rfl (lv_room (Nat.le_of_ble_eq_true rfl)) dX7_personAct_90 ⟨Nat.zero_le _, Nat.zero_le _⟩) hP hD hS hA [0, 1] [2] rfl rfl (by decide) (by decide) (fun r16 u17 H locs hf hP hD hS => ?_)
          have hP : va_P D vwCl [(q_t_pad, .inl (cI, 60, .inl t_pad)), (q_t, .inr (7, [.ref q_t_book, .ref q_t_now, .int t_shift, .int t_kneels, .int t_sights, .ref q_t_sight, .int t_signs, .ref q_t_pad, .int t_metAt, .int t_metWho, .int t_reason, .int t_acts, .ref q_t_had, .ref q_t_takes, .ref q_t_worths, .ref q_t_fitting, .ref q_t_wins, .ref q_t_ways, .ref q_t_image, .ref q_t_isKept])), (q_t_now, .inl (cI, 45, .inl u17))] H := hP
          have hD : va_D A [(q_t_pad, .inl (cI, 60, .inl t_pad)), (q_t, .inr (7, [.ref q_t_book, .ref q_t_now, .int t_shift, .int t_kneels, .int t_sights, .ref q_t_sight, .int t_signs, .ref q_t_pad, .int t_metAt, .int t_metWho, .int t_reason, .int t_acts, .ref q_t_had, .ref q_t_takes, .ref q_t_worths, .ref q_t_fitting, .ref q_t_wins, .ref q_t_ways, .ref q_t_image, .ref q_t_isKept])), (q_t_now, .inl (cI, 45, .inl u17))] := hD
          exact hret 93 ls H locs r16 u17 dX7_personAct_93 hf (hP.sub [1, 2, 0] rfl) (hD.sub [1, 2, 0] (by decide) rfl) hS
        · have hf := hf.2
          by_cases z18 : v4 = 62
          · have hf := hf.1 z18
            refine lv_lookup (off := 62) (tgt := 80) hx hb dX7_personAct_18 (by decide) (by rw [z18]; decide) (by decide) ?_
            refine lv_aload_n hx hb dX7_personAct_80 rfl (lv_at hl 1 rfl) ?_
            refine lv_iload_n hx hb dX7_personAct_81 rfl (lv_at hl 0 rfl) ?_
            refine lv_iconst (v := 1) hx hb dX7_personAct_82 (by decide) ?_
            refine xc_i (wr := [(q_t_pad, .inl (cI, 60, .inl t_pad))]) (va_runV (As := [.int v2, .int 1]) (rest := []) ⟨hx, hb, hml, hown, hts⟩ (kX7_walk l D cI cZ cJ cO q_t q_t_now q_t_book q_t_sight q_t_pad q_t_had q_t_takes q_t_worths q_t_fitting q_t_wins q_t_ways q_t_image q_t_isKept H.size t_kneels t_sights t_signs t_metAt t_metWho t_reason t_acts t_shift t_now v2 1 _ hf) (cwV 2 hts gX7_personAct_X7_walk rfl rfl rfl (by decide +kernel) ⟨Nat.le_of_ble_eq_true rfl, Nat.le_of_ble_eq_true rfl⟩) (B1_preV (ci := 7) (q0 := 0) hP rfl rfl (hP.sub (ws' := [(q_t, .inr (7, [.ref q_t_book, .ref q_t_now, .int t_shift, .int t_kneels, .int t_sights, .ref q_t_sight, .int t_signs, .ref q_t_pad, .int t_metAt, .int t_metWho, .int t_reason, .int t_acts, .ref q_t_had, .ref q_t_takes, .ref q_t_worths, .ref q_t_fitting, .ref q_t_wins, .ref q_t_ways, .ref q_t_image, .ref q_t_isKept])), (q_t_now, .inl (cI, 45, .inl t_now))]) [0, 1] rfl) hK hN (hD.sub (ws' := [(q_t, .inr (7, [.ref q_t_book, .ref q_t_now, .int t_shift, .int t_kneels, .int t_sights, .ref q_t_sight, .int t_signs, .ref q_t_pad, .int t_metAt, .int t_metWho, .int t_reason, .int t_acts, .ref q_t_had, .ref q_t_takes, .ref q_t_worths, .ref q_t_fitting, .ref q_t_wins, .ref q_t_ways, .ref q_t_image, .ref q_t_isKept])), (q_t_now, .inl (cI, 45, .inl t_now))]) [0, 1] (by decide) rfl)) rfl rfl hl.1 rfl (lv_room (Nat.le_of_ble_eq_true rfl)) dX7_personAct_83 ⟨Nat.zero_le _, Nat.zero_le _⟩) hP hD hS hA [0, 1] [2] rfl rfl (by decide) (by decide) (fun r19 u20 H locs hf hP hD hS => ?_)
            have hP : va_P D vwCl [(q_t_pad, .inl (cI, 60, .inl t_pad)), (q_t, .inr (7, [.ref q_t_book, .ref q_t_now, .int t_shift, .int t_kneels, .int t_sights, .ref q_t_sight, .int t_signs, .ref q_t_pad, .int t_metAt, .int t_metWho, .int t_reason, .int t_acts, .ref q_t_had, .ref q_t_takes, .ref q_t_worths, .ref q_t_fitting, .ref q_t_wins, .ref q_t_ways, .ref q_t_image, .ref q_t_isKept])), (q_t_now, .inl (cI, 45, .inl u20))] H := hP
            have hD : va_D A [(q_t_pad, .inl (cI, 60, .inl t_pad)), (q_t, .inr (7, [.ref q_t_book, .ref q_t_now, .int t_shift, .int t_kneels, .int t_sights, .ref q_t_sight, .int t_signs, .ref q_t_pad, .int t_metAt, .int t_metWho, .int t_reason, .int t_acts, .ref q_t_had, .ref q_t_takes, .ref q_t_worths, .ref q_t_fitting, .ref q_t_wins, .ref q_t_ways, .ref q_t_image, .ref q_t_isKept])), (q_t_now, .inl (cI, 45, .inl u20))] := hD
            exact hret 86 ls H locs r19 u20 dX7_personAct_86 hf (hP.sub [1, 2, 0] rfl) (hD.sub [1, 2, 0] (by decide) rfl) hS
          · have hf := hf.2
            have hf := hf z5 z9 z12 z15 z18
            refine lv_lookup (off := 93) (tgt := 111) hx hb dX7_personAct_18 (by decide) ((lv_osw z5 (by decide)).trans ((lv_osw z9 (by decide)).trans ((lv_osw z12 (by decide)).trans ((lv_osw z15 (by decide)).trans ((lv_osw z18 (by decide)).trans (rfl)))))) (by decide) ?_
            refine lv_aload_n hx hb dX7_personAct_111 rfl (lv_at hl 1 rfl) ?_
            refine lv_iload_n hx hb dX7_personAct_112 rfl (lv_at hl 0 rfl) ?_
            refine xc_i (wr := [(q_t_pad, .inl (cI, 60, .inl t_pad))]) (va_runV (As := [.int v2]) (rest := []) ⟨hx, hb, hml, hown, hts⟩ (kX7_find l D cI cZ cJ cO q_t q_t_now q_t_book q_t_sight q_t_pad q_t_had q_t_takes q_t_worths q_t_fitting q_t_wins q_t_ways q_t_image q_t_isKept H.size t_shift t_kneels t_sights t_signs t_metAt t_metWho t_reason t_acts t_now v2 _ hf) (cwV 1 hts gX7_personAct_X7_find rfl rfl rfl (by decide +kernel) ⟨Nat.le_of_ble_eq_true rfl, Nat.le_of_ble_eq_true rfl⟩) (B1_preV (ci := 7) (q0 := 0) hP rfl rfl (hP.sub (ws' := [(q_t, .inr (7, [.ref q_t_book, .ref q_t_now, .int t_shift, .int t_kneels, .int t_sights, .ref q_t_sight, .int t_signs, .ref q_t_pad, .int t_metAt, .int t_metWho, .int t_reason, .int t_acts, .ref q_t_had, .ref q_t_takes, .ref q_t_worths, .ref q_t_fitting, .ref q_t_wins, .ref q_t_ways, .ref q_t_image, .ref q_t_isKept])), (q_t_now, .inl (cI, 45, .inl t_now))]) [0, 1] rfl) hK hN (hD.sub (ws' := [(q_t, .inr (7, [.ref q_t_book, .ref q_t_now, .int t_shift, .int t_kneels, .int t_sights, .ref q_t_sight, .int t_signs, .ref q_t_pad, .int t_metAt, .int t_metWho, .int t_reason, .int t_acts, .ref q_t_had, .ref q_t_takes, .ref q_t_worths, .ref q_t_fitting, .ref q_t_wins, .ref q_t_ways, .ref q_t_image, .ref q_t_isKept])), (q_t_now, .inl (cI, 45, .inl t_now))]) [0, 1] (by decide) rfl)) rfl rfl hl.1 rfl (lv_room (Nat.le_of_ble_eq_true rfl)) dX7_personAct_113 ⟨Nat.zero_le _, Nat.zero_le _⟩) hP hD hS hA [0, 1] [2] rfl rfl (by decide) (by decide) (fun r21 u22 H locs hf hP hD hS => ?_)
            have hP : va_P D vwCl [(q_t_pad, .inl (cI, 60, .inl t_pad)), (q_t, .inr (7, [.ref q_t_book, .ref q_t_now, .int t_shift, .int t_kneels, .int t_sights, .ref q_t_sight, .int t_signs, .ref q_t_pad, .int t_metAt, .int t_metWho, .int t_reason, .int t_acts, .ref q_t_had, .ref q_t_takes, .ref q_t_worths, .ref q_t_fitting, .ref q_t_wins, .ref q_t_ways, .ref q_t_image, .ref q_t_isKept])), (q_t_now, .inl (cI, 45, .inl u22))] H := hP
            have hD : va_D A [(q_t_pad, .inl (cI, 60, .inl t_pad)), (q_t, .inr (7, [.ref q_t_book, .ref q_t_now, .int t_shift, .int t_kneels, .int t_sights, .ref q_t_sight, .int t_signs, .ref q_t_pad, .int t_metAt, .int t_metWho, .int t_reason, .int t_acts, .ref q_t_had, .ref q_t_takes, .ref q_t_worths, .ref q_t_fitting, .ref q_t_wins, .ref q_t_ways, .ref q_t_image, .ref q_t_isKept])), (q_t_now, .inl (cI, 45, .inl u22))] := hD
            exact hret 116 ls H locs r21 u22 dX7_personAct_116 hf (hP.sub [1, 2, 0] rfl) (hD.sub [1, 2, 0] (by decide) rfl) hS
