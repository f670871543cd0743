/-! X0_becomeDrawn -/
theorem mX0_becomeDrawn_1 : Cond.fieldLink RX0 9 "OxenKneel$Act" "person" "I" ∈ wsX0_becomeDrawn := List.mem_of_getElem? (i := 1) rfl
theorem mX0_becomeDrawn_2 : Cond.fieldLink RX0 15 "OxenKneel$Act" "number" "I" ∈ wsX0_becomeDrawn := List.mem_of_getElem? (i := 2) rfl
theorem mX0_becomeDrawn_3 : Cond.fieldLink RX0 18 "OxenKneel$Act" "sign" "I" ∈ wsX0_becomeDrawn := List.mem_of_getElem? (i := 3) rfl
theorem nX0_becomeDrawn_X0 : ∀ w ∈ wsX00, w ∈ wsX0_becomeDrawn := fun _ h => List.mem_cons_of_mem _ (List.mem_append_right _ h)
def pX0_becomeDrawn (t_sign : Int32) (t_person : Int32) (t_number : Int32) (a1 : Int32) (post : (Int32 × Int32 × Int32) → Prop) : Prop :=
  ∀ v1 : Int32, v1 = (a1 / 48) → (∀ v2 : Int32, v2 = (a1 - a1 / 6 * 6) → (∀ v3 : Int32, v3 = (1 + (v1 - v1 / 9 * 9)) → (∀ v4 : Int32, v4 = ((a1 / 6) - (a1 / 6) / 8 * 8) → ((v4 = 0 → (post (40, v2, v3))) ∧ ((v4 = 1 → ((¬ (v1 - v1 / 4 * 4) = 0 → (post (62, v2, v3))) ∧ ((v1 - v1 / 4 * 4) = 0 → (post (41, v2, v3))))) ∧ ((v4 = 2 → (post (60, v2, v3))) ∧ ((v4 = 3 → (post (36, v2, v3))) ∧ ((v4 = 4 → (post (37, v2, v3))) ∧ ((v4 = 5 → (post (104, v2, v3))) ∧ ((v4 = 6 → (post (100, v2, v3))) ∧ ((¬ v4 = 0 → ¬ v4 = 1 → ¬ v4 = 2 → ¬ v4 = 3 → ¬ v4 = 4 → ¬ v4 = 5 → ¬ v4 = 6 → (post (107, v2, v3))))))))))))))

set_option maxHeartbeats 4000000 in
set_option maxRecDepth 100000 in
theorem kX0_becomeDrawn (l : Launch) (D : va_G) (cI cZ cJ cO : ClassId) (q_t : Nat) (sz : Nat)  (t_sign : Int32) (t_person : Int32) (t_number : Int32) (a1 : Int32) (post : (Int32 × Int32 × Int32) → Prop) (hf : pX0_becomeDrawn t_sign t_person t_number a1 post) :
    Met l yX0_becomeDrawn wsX0_becomeDrawn ({ frames := 0, cells := 0, slots := 0, locals := 0 } : Room) (va_Pc [.ref q_t, .int a1] (B1 D (tyL cI cZ cJ cO) [(q_t, .inr (0, [.int t_sign, .int t_person, .int t_number]))] sz)) (va_Qv post (fun u t => E1 D (va_A [(q_t, .inr (0, [.int t_sign, .int t_person, .int t_number]))] sz) ((fun u : Int32 × Int32 × Int32 => [(q_t, .inr (0, [.int u.1, .int u.2.1, .int u.2.2]))]) u) t) (va_A [(q_t, .inr (0, [.int t_sign, .int t_person, .int t_number]))] sz)) 0 0 (va_A [(q_t, .inr (0, [.int t_sign, .int t_person, .int t_number]))] sz) := by
  unfold pX0_becomeDrawn at hf
  refine xm_1v (own := RX0) (by decide) rfl rfl (Nat.le_of_ble_eq_true rfl) (fun p e s m args below meth c Q A C0 hN hK hA hret hP hD ls hl => ?_)
  obtain ⟨hx, hb, hml, hown, hts⟩ := id C0
  have hl : lv_has ls 3 [(0, .ref q_t), (1, .int a1)] := hl
  have hS : va_S A s.heap s.heap [] := va_S.rf
  obtain ⟨H, hHe⟩ : ∃ H, H = s.heap := ⟨_, rfl⟩
  obtain ⟨locs, hLe⟩ : ∃ L : List Loc, L = [] := ⟨_, rfl⟩
  rw [← hLe]
  rw [← hLe] at hS
  have hP : va_P D vwCl [(q_t, .inr (0, [.int t_sign, .int t_person, .int t_number]))] H := by rw [hHe]; exact hP
  have hS : va_S A s.heap H locs := by rw [hHe]; exact hS
  suffices hgo : W p l e ({ frames := 0, cells := 0, slots := 0, locals := 0 } : Room) s m args below meth c H locs 0 0 Q (F0 m 0 ls []) by rw [← hHe]; exact hgo
  clear hHe hLe
  refine lv_iload_n hx hb dX0_becomeDrawn_0 rfl (lv_at hl 1 rfl) ?_
  refine lv_bipush (v := 48) hx hb dX0_becomeDrawn_1 (by decide) ?_
  refine lv_idiv hx hb dX0_becomeDrawn_3 (by decide) ?_
  refine lv_topi (fun v1 ev1 => ?_)
  have hf := hf v1 ev1
  refine lv_istore_n (lv' := [(2, .int v1), (0, .ref q_t), (1, .int a1)]) hx hb dX0_becomeDrawn_4 rfl hl (by decide) rfl (fun ls hl => ?_)
  refine lv_aload_n hx hb dX0_becomeDrawn_5 rfl (lv_at hl 1 rfl) ?_
  refine lv_iload_n hx hb dX0_becomeDrawn_6 rfl (lv_at hl 2 rfl) ?_
  refine lv_bipush (v := 6) hx hb dX0_becomeDrawn_7 (by decide) ?_
  refine lv_irem hx hb dX0_becomeDrawn_9 (by decide) ?_
  refine lv_topi (fun v2 ev2 => ?_)
  have hf := hf v2 ev2
  refine va_put (D := D) (ci := 0) (v := .int v2) (ty := .int) (C := RX0) (T := TX0) (N := 3) hx hb hts nX0_becomeDrawn_X0 tyX0 tyX0_ok nmX0 hown hK hP hD hS 0 rfl rfl 1 (by decide) (hts _ mX0_becomeDrawn_1) (fun _ h9 => h9) rfl (by decide +kernel) rfl rfl (Nat.le_of_ble_eq_true rfl) dX0_becomeDrawn_10 (fun H locs hP hD hS => ?_)
  have hP : va_P D vwCl [(q_t, .inr (0, [.int t_sign, .int v2, .int t_number]))] H := hP
  have hD : va_D A [(q_t, .inr (0, [.int t_sign, .int v2, .int t_number]))] := hD
  refine lv_aload_n hx hb dX0_becomeDrawn_13 rfl (lv_at hl 1 rfl) ?_
  refine lv_iconst (v := 1) hx hb dX0_becomeDrawn_14 (by decide) ?_
  refine lv_iload_n hx hb dX0_becomeDrawn_15 rfl (lv_at hl 0 rfl) ?_
  refine lv_bipush (v := 9) hx hb dX0_becomeDrawn_16 (by decide) ?_
  refine lv_irem hx hb dX0_becomeDrawn_18 (by decide) ?_
  refine lv_iadd hx hb dX0_becomeDrawn_19 ?_
  refine lv_topi (fun v3 ev3 => ?_)
  have hf := hf v3 ev3
  refine va_put (D := D) (ci := 0) (v := .int v3) (ty := .int) (C := RX0) (T := TX0) (N := 3) hx hb hts nX0_becomeDrawn_X0 tyX0 tyX0_ok nmX0 hown hK hP hD hS 0 rfl rfl 2 (by decide) (hts _ mX0_becomeDrawn_2) (fun _ h9 => h9) rfl (by decide +kernel) rfl rfl (Nat.le_of_ble_eq_true rfl) dX0_becomeDrawn_20 (fun H locs hP hD hS => ?_)
  have hP : va_P D vwCl [(q_t, .inr (0, [.int t_sign, .int v2, .int v3]))] H := hP
  have hD : va_D A [(q_t, .inr (0, [.int t_sign, .int v2, .int v3]))] := hD
  refine lv_iload_n hx hb dX0_becomeDrawn_23 rfl (lv_at hl 2 rfl) ?_
  refine lv_bipush (v := 6) hx hb dX0_becomeDrawn_24 (by decide) ?_
  refine lv_idiv hx hb dX0_becomeDrawn_26 (by decide) ?_
  refine lv_bipush (v := 8) hx hb dX0_becomeDrawn_27 (by decide) ?_
  refine lv_irem hx hb dX0_becomeDrawn_29 (by decide) ?_
  refine lv_topi (fun v4 ev4 => ?_)
  have hf := hf v4 ev4
  by_cases z5 : v4 = 0
  · have hf := hf.1 z5
    refine lv_tableIn (off := 42) (tgt := 72) hx hb dX0_becomeDrawn_30 (by rw [z5]; decide) (by rw [z5]; decide) (by rw [z5]; decide) (by decide) ?_
    refine lv_aload_n hx hb dX0_becomeDrawn_72 rfl (lv_at hl 1 rfl) ?_
    refine lv_bipush (v := 40) hx hb dX0_becomeDrawn_73 (by decide) ?_
    refine va_put (D := D) (ci := 0) (v := .int 40) (ty := .int) (C := RX0) (T := TX0) (N := 3) hx hb hts nX0_becomeDrawn_X0 tyX0 tyX0_ok nmX0 hown hK hP hD hS 0 rfl rfl 0 (by decide) (hts _ mX0_becomeDrawn_3) (fun _ h9 => h9) rfl (by decide +kernel) rfl rfl (Nat.le_of_ble_eq_true rfl) dX0_becomeDrawn_75 (fun H locs hP hD hS => ?_)
    have hP : va_P D vwCl [(q_t, .inr (0, [.int 40, .int v2, .int v3]))] H := hP
    have hD : va_D A [(q_t, .inr (0, [.int 40, .int v2, .int v3]))] := hD
    refine lv_goto (tgt := 152) hx hb dX0_becomeDrawn_78 (by decide) ?_
    exact hret 152 ls H locs (40, v2, v3) dX0_becomeDrawn_152 hf hP hD hS
  · have hf := hf.2
    by_cases z6 : v4 = 1
    · have hf := hf.1 z6
      refine lv_tableIn (off := 51) (tgt := 81) hx hb dX0_becomeDrawn_30 (by rw [z6]; decide) (by rw [z6]; decide) (by rw [z6]; decide) (by decide) ?_
      refine lv_aload_n hx hb dX0_becomeDrawn_81 rfl (lv_at hl 1 rfl) ?_
      refine lv_iload_n hx hb dX0_becomeDrawn_82 rfl (lv_at hl 0 rfl) ?_
      refine lv_iconst (v := 4) hx hb dX0_becomeDrawn_83 (by decide) ?_
      refine lv_irem hx hb dX0_becomeDrawn_84 (by decide) ?_
      refine lv_if_ne (tgt := 93) hx hb dX0_becomeDrawn_85 (by decide) (fun c7 => ?_) (fun c7 => ?_)
      · have hf := hf.1 c7
        refine lv_bipush (v := 62) hx hb dX0_becomeDrawn_93 (by decide) ?_
        refine va_put (D := D) (ci := 0) (v := .int 62) (ty := .int) (C := RX0) (T := TX0) (N := 3) hx hb hts nX0_becomeDrawn_X0 tyX0 tyX0_ok nmX0 hown hK hP hD hS 0 rfl rfl 0 (by decide) (hts _ mX0_becomeDrawn_3) (fun _ h9 => h9) rfl (by decide +kernel) rfl rfl (Nat.le_of_ble_eq_true rfl) dX0_becomeDrawn_95 (fun H locs hP hD hS => ?_)
        have hP : va_P D vwCl [(q_t, .inr (0, [.int 62, .int v2, .int v3]))] H := hP
        have hD : va_D A [(q_t, .inr (0, [.int 62, .int v2, .int v3]))] := hD
        refine lv_goto (tgt := 152) hx hb dX0_becomeDrawn_98 (by decide) ?_
        exact hret 152 ls H locs (62, v2, v3) dX0_becomeDrawn_152 hf hP hD hS
      · have hf := hf.2 c7
        refine lv_bipush (v := 41) hx hb dX0_becomeDrawn_88 (by decide) ?_
        refine lv_goto (tgt := 95) hx hb dX0_becomeDrawn_90 (by decide) ?_
        refine va_put (D := D) (ci := 0) (v := .int 41) (ty := .int) (C := RX0) (T := TX0) (N := 3) hx hb hts nX0_becomeDrawn_X0 tyX0 tyX0_ok nmX0 hown hK hP hD hS 0 rfl rfl 0 (by decide) (hts _ mX0_becomeDrawn_3) (fun _ h9 => h9) rfl (by decide +kernel) rfl rfl (Nat.le_of_ble_eq_true rfl) dX0_becomeDrawn_95 (fun H locs hP hD hS => ?_)
        have hP : va_P D vwCl [(q_t, .inr (0, [.int 41, .int v2, .int v3]))] H := hP
        have hD : va_D A [(q_t, .inr (0, [.int 41, .int v2, .int v3]))] := hD
        refine lv_goto (tgt := 152) hx hb dX0_becomeDrawn_98 (by decide) ?_
        exact hret 152 ls H locs (41, v2, v3) dX0_becomeDrawn_152 hf hP hD hS
    · have hf := hf.2
      by_cases z8 : v4 = 2
      · have hf := hf.1 z8
        refine lv_tableIn (off := 71) (tgt := 101) hx hb dX0_becomeDrawn_30 (by rw [z8]; decide) (by rw [z8]; decide) (by rw [z8]; decide) (by decide) ?_
        refine lv_aload_n hx hb dX0_becomeDrawn_101 rfl (lv_at hl 1 rfl) ?_
        refine lv_bipush (v := 60) hx hb dX0_becomeDrawn_102 (by decide) ?_
        refine va_put (D := D) (ci := 0) (v := .int 60) (ty := .int) (C := RX0) (T := TX0) (N := 3) hx hb hts nX0_becomeDrawn_X0 tyX0 tyX0_ok nmX0 hown hK hP hD hS 0 rfl rfl 0 (by decide) (hts _ mX0_becomeDrawn_3) (fun _ h9 => h9) rfl (by decide +kernel) rfl rfl (Nat.le_of_ble_eq_true rfl) dX0_becomeDrawn_104 (fun H locs hP hD hS => ?_)
        have hP : va_P D vwCl [(q_t, .inr (0, [.int 60, .int v2, .int v3]))] H := hP
        have hD : va_D A [(q_t, .inr (0, [.int 60, .int v2, .int v3]))] := hD
        refine lv_goto (tgt := 152) hx hb dX0_becomeDrawn_107 (by decide) ?_
        exact hret 152 ls H locs (60, v2, v3) dX0_becomeDrawn_152 hf hP hD hS
      · have hf := hf.2
        by_cases z9 : v4 = 3
        · have hf := hf.1 z9
          refine lv_tableIn (off := 80) (tgt := 110) hx hb dX0_becomeDrawn_30 (by rw [z9]; decide) (by rw [z9]; decide) (by rw [z9]; decide) (by decide) ?_
          refine lv_aload_n hx hb dX0_becomeDrawn_110 rfl (lv_at hl 1 rfl) ?_
          refine lv_bipush (v := 36) hx hb dX0_becomeDrawn_111 (by decide) ?_
          refine va_put (D := D) (ci := 0) (v := .int 36) (ty := .int) (C := RX0) (T := TX0) (N := 3) hx hb hts nX0_becomeDrawn_X0 tyX0 tyX0_ok nmX0 hown hK hP hD hS 0 rfl rfl 0 (by decide) (hts _ mX0_becomeDrawn_3) (fun _ h9 => h9) rfl (by decide +kernel) rfl rfl (Nat.le_of_ble_eq_true rfl) dX0_becomeDrawn_113 (fun H locs hP hD hS => ?_)
          have hP : va_P D vwCl [(q_t, .inr (0, [.int 36, .int v2, .int v3]))] H := hP
          have hD : va_D A [(q_t, .inr (0, [.int 36, .int v2, .int v3]))] := hD
          refine lv_goto (tgt := 152) hx hb dX0_becomeDrawn_116 (by decide) ?_
          exact hret 152 ls H locs (36, v2, v3) dX0_becomeDrawn_152 hf hP hD hS
        · have hf := hf.2
          by_cases z10 : v4 = 4
          · have hf := hf.1 z10
            refine lv_tableIn (off := 89) (tgt := 119) hx hb dX0_becomeDrawn_30 (by rw [z10]; decide) (by rw [z10]; decide) (by rw [z10]; decide) (by decide) ?_
            refine lv_aload_n hx hb dX0_becomeDrawn_119 rfl (lv_at hl 1 rfl) ?_
            refine lv_bipush (v := 37) hx hb dX0_becomeDrawn_120 (by decide) ?_
            refine va_put (D := D) (ci := 0) (v := .int 37) (ty := .int) (C := RX0) (T := TX0) (N := 3) hx hb hts nX0_becomeDrawn_X0 tyX0 tyX0_ok nmX0 hown hK hP hD hS 0 rfl rfl 0 (by decide) (hts _ mX0_becomeDrawn_3) (fun _ h9 => h9) rfl (by decide +kernel) rfl rfl (Nat.le_of_ble_eq_true rfl) dX0_becomeDrawn_122 (fun H locs hP hD hS => ?_)
            have hP : va_P D vwCl [(q_t, .inr (0, [.int 37, .int v2, .int v3]))] H := hP
            have hD : va_D A [(q_t, .inr (0, [.int 37, .int v2, .int v3]))] := hD
            refine lv_goto (tgt := 152) hx hb dX0_becomeDrawn_125 (by decide) ?_
            exact hret 152 ls H locs (37, v2, v3) dX0_becomeDrawn_152 hf hP hD hS
          · have hf := hf.2
            by_cases z11 : v4 = 5
            · have hf := hf.1 z11
              refine lv_tableIn (off := 98) (tgt := 128) hx hb dX0_becomeDrawn_30 (by rw [z11]; decide) (by rw [z11]; decide) (by rw [z11]; decide) (by decide) ?_
              refine lv_aload_n hx hb dX0_becomeDrawn_128 rfl (lv_at hl 1 rfl) ?_
              refine lv_bipush (v := 104) hx hb dX0_becomeDrawn_129 (by decide) ?_
              refine va_put (D := D) (ci := 0) (v := .int 104) (ty := .int) (C := RX0) (T := TX0) (N := 3) hx hb hts nX0_becomeDrawn_X0 tyX0 tyX0_ok nmX0 hown hK hP hD hS 0 rfl rfl 0 (by decide) (hts _ mX0_becomeDrawn_3) (fun _ h9 => h9) rfl (by decide +kernel) rfl rfl (Nat.le_of_ble_eq_true rfl) dX0_becomeDrawn_131 (fun H locs hP hD hS => ?_)
              have hP : va_P D vwCl [(q_t, .inr (0, [.int 104, .int v2, .int v3]))] H := hP
              have hD : va_D A [(q_t, .inr (0, [.int 104, .int v2, .int v3]))] := hD
              refine lv_goto (tgt := 152) hx hb dX0_becomeDrawn_134 (by decide) ?_
              exact hret 152 ls H locs (104, v2, v3) dX0_becomeDrawn_152 hf hP hD hS
            · have hf := hf.2
              by_cases z12 : v4 = 6
              · have hf := hf.1 z12
                refine lv_tableIn (off := 107) (tgt := 137) hx hb dX0_becomeDrawn_30 (by rw [z12]; decide) (by rw [z12]; decide) (by rw [z12]; decide) (by decide) ?_
                refine lv_aload_n hx hb dX0_becomeDrawn_137 rfl (lv_at hl 1 rfl) ?_
                refine lv_bipush (v := 100) hx hb dX0_becomeDrawn_138 (by decide) ?_
                refine va_put (D := D) (ci := 0) (v := .int 100) (ty := .int) (C := RX0) (T := TX0) (N := 3) hx hb hts nX0_becomeDrawn_X0 tyX0 tyX0_ok nmX0 hown hK hP hD hS 0 rfl rfl 0 (by decide) (hts _ mX0_becomeDrawn_3) (fun _ h9 => h9) rfl (by decide +kernel) rfl rfl (Nat.le_of_ble_eq_true rfl) dX0_becomeDrawn_140 (fun H locs hP hD hS => ?_)
                have hP : va_P D vwCl [(q_t, .inr (0, [.int 100, .int v2, .int v3]))] H := hP
                have hD : va_D A [(q_t, .inr (0, [.int 100, .int v2, .int v3]))] := hD
                refine lv_goto (tgt := 152) hx hb dX0_becomeDrawn_143 (by decide) ?_
                exact hret 152 ls H locs (100, v2, v3) dX0_becomeDrawn_152 hf hP hD hS
              · have hf := hf.2
                have hf := hf z5 z6 z8 z9 z10 z11 z12
                refine lv_tableOut (tgt := 146) hx hb dX0_becomeDrawn_30 (by have yz5 := lv_neT (a := 0) z5 (by decide); have yz6 := lv_neT (a := 1) z6 (by decide); have yz8 := lv_neT (a := 2) z8 (by decide); have yz9 := lv_neT (a := 3) z9 (by decide); have yz10 := lv_neT (a := 4) z10 (by decide); have yz11 := lv_neT (a := 5) z11 (by decide); have yz12 := lv_neT (a := 6) z12 (by decide); omega) (by decide) ?_
                refine lv_aload_n hx hb dX0_becomeDrawn_146 rfl (lv_at hl 1 rfl) ?_
                refine lv_bipush (v := 107) hx hb dX0_becomeDrawn_147 (by decide) ?_
                refine va_put (D := D) (ci := 0) (v := .int 107) (ty := .int) (C := RX0) (T := TX0) (N := 3) hx hb hts nX0_becomeDrawn_X0 tyX0 tyX0_ok nmX0 hown hK hP hD hS 0 rfl rfl 0 (by decide) (hts _ mX0_becomeDrawn_3) (fun _ h9 => h9) rfl (by decide +kernel) rfl rfl (Nat.le_of_ble_eq_true rfl) dX0_becomeDrawn_149 (fun H locs hP hD hS => ?_)
                have hP : va_P D vwCl [(q_t, .inr (0, [.int 107, .int v2, .int v3]))] H := hP
                have hD : va_D A [(q_t, .inr (0, [.int 107, .int v2, .int v3]))] := hD
                exact hret 152 ls H locs (107, v2, v3) dX0_becomeDrawn_152 hf hP hD hS

/-! X6_isIn -/

def pX6_isIn  (a1 : Int32) (a2 : Int32) (a3 : Int32) (post : Int32 → Prop) : Prop :=
  (a1 < a2 → (post 0)) ∧ (¬ a1 < a2 → ((a3 < a1 → (post 0)) ∧ (¬ a3 < a1 → (post 1))))

set_option maxHeartbeats 4000000 in
set_option maxRecDepth 100000 in
theorem kX6_isIn (l : Launch) (D : va_G) (cI cZ cJ cO : ClassId)    (a1 : Int32) (a2 : Int32) (a3 : Int32) (post : Int32 → Prop) (hf : pX6_isIn a1 a2 a3 post) :
    Met l yX6_isIn wsX6_isIn ({ frames := 0, cells := 0, slots := 0, locals := 0 } : Room) (va_Pc [.int a1, .int a2, .int a3] (B0 D (tyL cI cZ cJ cO) [])) (vp_Si post) 0 0 (fun _ => False) := by
  unfold pX6_isIn at hf
  refine xm_0z (own := RX6) (by decide) rfl rfl (Nat.le_of_ble_eq_true rfl) (fun p e s m args below meth c Q C0 hN hK hret hP ls hl => ?_)
  obtain ⟨hx, hb, hml, hown, hts⟩ := id C0
  have hl : lv_has ls 3 [(0, .int a1), (1, .int a2), (2, .int a3)] := hl
  refine lv_iload_n hx hb dX6_isIn_0 rfl (lv_at hl 0 rfl) ?_
  refine lv_iload_n hx hb dX6_isIn_1 rfl (lv_at hl 1 rfl) ?_
  refine lv_icmp_lt (tgt := 14) hx hb dX6_isIn_2 (by decide) (fun c1 => ?_) (fun c1 => ?_)
  · have hf := hf.1 c1
    refine lv_iconst (v := 0) hx hb dX6_isIn_14 (by decide) ?_
    exact hret 15 ls 0 dX6_isIn_15 rfl hf
  · have hf := hf.2 c1
    refine lv_iload_n hx hb dX6_isIn_5 rfl (lv_at hl 0 rfl) ?_
    refine lv_iload_n hx hb dX6_isIn_6 rfl (lv_at hl 2 rfl) ?_
    refine lv_icmp_gt (tgt := 14) hx hb dX6_isIn_7 (by decide) (fun c2 => ?_) (fun c2 => ?_)
    · have hf := hf.1 c2
      refine lv_iconst (v := 0) hx hb dX6_isIn_14 (by decide) ?_
      exact hret 15 ls 0 dX6_isIn_15 rfl hf
    · have hf := hf.2 c2
      refine lv_iconst (v := 1) hx hb dX6_isIn_10 (by decide) ?_
      refine lv_goto (tgt := 15) hx hb dX6_isIn_11 (by decide) ?_
      exact hret 15 ls 1 dX6_isIn_15 rfl hf

/-! X2_add -/
theorem mX2_add_1 : Cond.fieldLink RX2 9 "OxenKneel$Pad" "count" "I" ∈ wsX2_add := List.mem_of_getElem? (i := 1) rfl
theorem mX2_add_4 : Cond.initialized RX6 ∈ wsX2_add := List.mem_of_getElem? (i := 4) rfl
theorem mX2_add_3 : Cond.static yX6_isIn ∈ wsX2_add := List.mem_of_getElem? (i := 3) rfl
theorem mX2_add_2 : Cond.fieldLink RX2 15 "OxenKneel$Pad" "signs" "[I" ∈ wsX2_add := List.mem_of_getElem? (i := 2) rfl
theorem nX2_add_X2 : ∀ w ∈ wsX20, w ∈ wsX2_add := fun _ h => List.mem_cons_of_mem _ (List.mem_append_right _ h)
def pX2_add (t_count : Int32) (t_signs : (Nat → Int32)) (a1 : Int32) (post : Int32 → (Int32 × (Nat → Int32)) → Prop) : Prop :=
  pX6_isIn t_count 0 59 (fun r1 => (¬ r1 = 0 → (vp_in t_count 60 ∧ (∀ v4 : Int32, v4 = (t_count + 1) → (post 1 (v4, (upd t_signs t_count.toNatClampNeg a1)))))) ∧ (r1 = 0 → (post 0 (t_count, t_signs))))

set_option maxHeartbeats 4000000 in
set_option maxRecDepth 100000 in
theorem kX2_add (l : Launch) (D : va_G) (cI cZ cJ cO : ClassId) (q_t q_t_signs : Nat) (sz : Nat)  (t_count : Int32) (t_signs : (Nat → Int32)) (a1 : Int32) (post : Int32 → (Int32 × (Nat → Int32)) → Prop) (hf : pX2_add t_count t_signs a1 post) :
    Met l yX2_add wsX2_add ({ frames := 1, cells := 0, slots := 0, locals := 22 } : Room) (va_Pc [.ref q_t, .int a1] (B1 D (tyL cI cZ cJ cO) [(q_t, .inr (2, [.int t_count, .ref q_t_signs])), (q_t_signs, .inl (cI, 60, .inl t_signs))] sz)) (va_Qi post (fun u t => E1 D (va_A [(q_t, .inr (2, [.int t_count, .ref q_t_signs])), (q_t_signs, .inl (cI, 60, .inl t_signs))] sz) ((fun u : Int32 × (Nat → Int32) => [(q_t, .inr (2, [.int u.1, .ref q_t_signs])), (q_t_signs, .inl (cI, 60, .inl u.2))]) u) t) (va_A [(q_t, .inr (2, [.int t_count, .ref q_t_signs])), (q_t_signs, .inl (cI, 60, .inl t_signs))] sz)) 0 0 (va_A [(q_t, .inr (2, [.int t_count, .ref q_t_signs])), (q_t_signs, .inl (cI, 60, .inl t_signs))] sz) := by
  unfold pX2_add at hf
  refine xm_1z (own := RX2) (by decide) rfl rfl (Nat.le_of_ble_eq_true rfl) (fun p e s m args below meth c Q A C0 hN hK hA hret hP hD ls hl => ?_)
  obtain ⟨hx, hb, hml, hown, hts⟩ := id C0
  have hl : lv_has ls 2 [(0, .ref q_t), (1, .int a1)] := hl
  have hS : va_S A s.heap s.heap [] := va_S.rf
  obtain ⟨H, hHe⟩ : ∃ H, H = s.heap := ⟨_, rfl⟩
  obtain ⟨locs, hLe⟩ : ∃ L : List Loc, L = [] := ⟨_, rfl⟩
  rw [← hLe]
  rw [← hLe] at hS
  have hP : va_P D vwCl [(q_t, .inr (2, [.int t_count, .ref q_t_signs])), (q_t_signs, .inl (cI, 60, .inl t_signs))] H := by rw [hHe]; exact hP
  have hS : va_S A s.heap H locs := by rw [hHe]; exact hS
  suffices hgo : W p l e ({ frames := 1, cells := 0, slots := 0, locals := 22 } : Room) s m args below meth c H locs 0 0 Q (F0 m 0 ls []) by rw [← hHe]; exact hgo
  clear hHe hLe
  refine lv_aload_n hx hb dX2_add_0 rfl (lv_at hl 0 rfl) ?_
  refine va_get (D := D) (ci := 2) (v := .int t_count) (C := RX2) (T := TX2) (N := 2) hx hb hts nX2_add_X2 hown hK hP 0 rfl rfl 0 (by decide) (hts _ mX2_add_1) (fun _ h9 => h9) rfl dX2_add_1 ?_
  refine lv_iconst (v := 0) hx hb dX2_add_4 (by decide) ?_
  refine lv_bipush (v := 59) hx hb dX2_add_5 (by decide) ?_
  refine xs_i (va_runSN (As := [.int t_count, .int 0, .int 59]) (rest := []) ⟨hx, hb, hml, hown, hts⟩ (kX6_isIn l D cI cZ cJ cO t_count 0 59 _ hf) ⟨va_cnB 3 hts gX2_add_X6_isIn_n19 rfl rfl rfl (nw_at hN 6 rfl) (hts _ mX2_add_4) (by decide +kernel) ⟨Nat.le_of_ble_eq_true rfl, Nat.le_of_ble_eq_true rfl⟩, hts _ mX2_add_3, trivial⟩ (B0_pre (hP.sub (ws' := []) [] rfl) hK hN) rfl rfl hl.1 rfl (lv_room (Nat.le_of_ble_eq_true rfl)) dX2_add_7 ⟨Nat.zero_le _, Nat.zero_le _⟩) (fun r1 hf => ?_)
  refine lv_if_ne (tgt := 15) hx hb dX2_add_10 (by decide) (fun c2 => ?_) (fun c2 => ?_)
  · have hf := hf.1 c2
    refine lv_aload_n hx hb dX2_add_15 rfl (lv_at hl 0 rfl) ?_
    refine va_get (D := D) (ci := 2) (v := .ref q_t_signs) (C := RX2) (T := TX2) (N := 2) hx hb hts nX2_add_X2 hown hK hP 0 rfl rfl 1 (by decide) (hts _ mX2_add_2) (fun _ h9 => h9) rfl dX2_add_16 ?_
    refine lv_aload_n hx hb dX2_add_19 rfl (lv_at hl 0 rfl) ?_
    refine va_get (D := D) (ci := 2) (v := .int t_count) (C := RX2) (T := TX2) (N := 2) hx hb hts nX2_add_X2 hown hK hP 0 rfl rfl 0 (by decide) (hts _ mX2_add_1) (fun _ h9 => h9) rfl dX2_add_20 ?_
    refine lv_iload_n hx hb dX2_add_23 rfl (lv_at hl 1 rfl) ?_
    have g3 := hf.1
    have hf := hf.2
    refine xa_iast hx hb hK hP hD hS 1 0 rfl rfl (j := t_count.toNatClampNeg) rfl g3 dX2_add_24 (fun H locs hP hD hS => ?_)
    have hP : va_P D vwCl [(q_t, .inr (2, [.int t_count, .ref q_t_signs])), (q_t_signs, .inl (cI, 60, .inl (upd t_signs t_count.toNatClampNeg a1)))] H := hP
    have hD : va_D A [(q_t, .inr (2, [.int t_count, .ref q_t_signs])), (q_t_signs, .inl (cI, 60, .inl (upd t_signs t_count.toNatClampNeg a1)))] := hD
    refine lv_aload_n hx hb dX2_add_25 rfl (lv_at hl 0 rfl) ?_
    refine lv_dup hx hb dX2_add_26 rfl ?_
    refine va_get (D := D) (ci := 2) (v := .int t_count) (C := RX2) (T := TX2) (N := 2) hx hb hts nX2_add_X2 hown hK hP 0 rfl rfl 0 (by decide) (hts _ mX2_add_1) (fun _ h9 => h9) rfl dX2_add_27 ?_
    refine lv_iconst (v := 1) hx hb dX2_add_30 (by decide) ?_
    refine lv_iadd hx hb dX2_add_31 ?_
    refine lv_topi (fun v4 ev4 => ?_)
    have hf := hf v4 ev4
    refine va_put (D := D) (ci := 2) (v := .int v4) (ty := .int) (C := RX2) (T := TX2) (N := 2) hx hb hts nX2_add_X2 tyX2 tyX2_ok nmX2 hown hK hP hD hS 0 rfl rfl 0 (by decide) (hts _ mX2_add_1) (fun _ h9 => h9) rfl (by decide +kernel) rfl rfl (Nat.le_of_ble_eq_true rfl) dX2_add_32 (fun H locs hP hD hS => ?_)
    have hP : va_P D vwCl [(q_t, .inr (2, [.int v4, .ref q_t_signs])), (q_t_signs, .inl (cI, 60, .inl (upd t_signs t_count.toNatClampNeg a1)))] H := hP
    have hD : va_D A [(q_t, .inr (2, [.int v4, .ref q_t_signs])), (q_t_signs, .inl (cI, 60, .inl (upd t_signs t_count.toNatClampNeg a1)))] := hD
    refine lv_iconst (v := 1) hx hb dX2_add_35 (by decide) ?_
    exact hret 36 ls H locs 1 (v4, (upd t_signs t_count.toNatClampNeg a1)) dX2_add_36 rfl hf hP hD hS
  · have hf := hf.2 c2
    refine lv_iconst (v := 0) hx hb dX2_add_13 (by decide) ?_
    exact hret 14 ls H locs 0 (t_count, t_signs) dX2_add_14 rfl hf hP hD hS

/-! X2_signAt -/
theorem mX2_signAt_1 : Cond.fieldLink RX2 9 "OxenKneel$Pad" "count" "I" ∈ wsX2_signAt := List.mem_of_getElem? (i := 1) rfl
theorem mX2_signAt_2 : Cond.methodLink RX2 23 Lib.Math.min.name ∈ wsX2_signAt := List.mem_of_getElem? (i := 2) rfl
theorem mX2_signAt_3 : Cond.static Lib.Math.min.name ∈ wsX2_signAt := List.mem_of_getElem? (i := 3) rfl
theorem mX2_signAt_4 : Cond.initialized "java/lang/Math" ∈ wsX2_signAt := List.mem_of_getElem? (i := 4) rfl
theorem mX2_signAt_5 : Cond.code Lib.Math.min.name Lib.Math.min.code 2 (some .int) ∈ wsX2_signAt := List.mem_of_getElem? (i := 5) rfl
theorem mX2_signAt_8 : Cond.initialized RX6 ∈ wsX2_signAt := List.mem_of_getElem? (i := 8) rfl
theorem mX2_signAt_7 : Cond.static yX6_isIn ∈ wsX2_signAt := List.mem_of_getElem? (i := 7) rfl
theorem mX2_signAt_6 : Cond.fieldLink RX2 15 "OxenKneel$Pad" "signs" "[I" ∈ wsX2_signAt := List.mem_of_getElem? (i := 6) rfl
theorem nX2_signAt_X2 : ∀ w ∈ wsX20, w ∈ wsX2_signAt := fun _ h => List.mem_cons_of_mem _ (List.mem_append_right _ h)
def pX2_signAt (t_count : Int32) (t_signs : (Nat → Int32)) (a1 : Int32) (post : Int32 → Prop) : Prop :=
  ∀ v1 : Int32, v1 = (if 60 < t_count then 60 else t_count) → (pX6_isIn a1 0 (v1 - 1) (fun r2 => (r2 = 0 → (post 0)) ∧ (¬ r2 = 0 → (vp_in a1 60 ∧ (post (t_signs a1.toNatClampNeg))))))

set_option maxHeartbeats 4000000 in
set_option maxRecDepth 100000 in
theorem kX2_signAt (l : Launch) (D : va_G) (cI cZ cJ cO : ClassId) (q_t q_t_signs : Nat)  (t_count : Int32) (t_signs : (Nat → Int32)) (a1 : Int32) (post : Int32 → Prop) (hf : pX2_signAt t_count t_signs a1 post) :
    Met l yX2_signAt wsX2_signAt ({ frames := 1, cells := 0, slots := 0, locals := 22 } : Room) (va_Pc [.ref q_t, .int a1] (B0 D (tyL cI cZ cJ cO) [(q_t, .inr (2, [.int t_count, .ref q_t_signs])), (q_t_signs, .inl (cI, 60, .inl t_signs))])) (vp_Si post) 0 0 (fun _ => False) := by
  unfold pX2_signAt at hf
  refine xm_0i (own := RX2) (by decide) rfl rfl (Nat.le_of_ble_eq_true rfl) (fun p e s m args below meth c Q C0 hN hK hret hP ls hl => ?_)
  obtain ⟨hx, hb, hml, hown, hts⟩ := id C0
  have hl : lv_has ls 2 [(0, .ref q_t), (1, .int a1)] := hl
  refine lv_iload_n hx hb dX2_signAt_0 rfl (lv_at hl 1 rfl) ?_
  refine lv_iconst (v := 0) hx hb dX2_signAt_1 (by decide) ?_
  refine lv_aload_n hx hb dX2_signAt_2 rfl (lv_at hl 0 rfl) ?_
  refine va_get (D := D) (ci := 2) (v := .int t_count) (C := RX2) (T := TX2) (N := 2) hx hb hts nX2_signAt_X2 hown hK hP 0 rfl rfl 0 (by decide) (hts _ mX2_signAt_1) (fun _ h9 => h9) rfl dX2_signAt_3 ?_
  refine lv_bipush (v := 60) hx hb dX2_signAt_6 (by decide) ?_
  refine va_mmin hx hb (hml.trans hl.1.symm) hown (hts _ mX2_signAt_2) (hts _ mX2_signAt_3) (hts _ mX2_signAt_4) (hts _ mX2_signAt_5) (Nat.le_of_ble_eq_true rfl) (Nat.le_of_ble_eq_true rfl) (Nat.zero_le _) (Nat.zero_le _) dX2_signAt_8 ?_
  refine lv_topi (fun v1 ev1 => ?_)
  have hf := hf v1 ev1
  refine lv_iconst (v := 1) hx hb dX2_signAt_11 (by decide) ?_
  refine lv_isub hx hb dX2_signAt_12 ?_
  refine xs_i (va_runSN (As := [.int a1, .int 0, .int (v1 - 1)]) (rest := []) ⟨hx, hb, hml, hown, hts⟩ (kX6_isIn l D cI cZ cJ cO a1 0 (v1 - 1) _ hf) ⟨va_cnB 3 hts gX2_signAt_X6_isIn_n19 rfl rfl rfl (nw_at hN 6 rfl) (hts _ mX2_signAt_8) (by decide +kernel) ⟨Nat.le_of_ble_eq_true rfl, Nat.le_of_ble_eq_true rfl⟩, hts _ mX2_signAt_7, trivial⟩ (B0_pre (hP.sub (ws' := []) [] rfl) hK hN) rfl rfl hl.1 rfl (lv_room (Nat.le_of_ble_eq_true rfl)) dX2_signAt_13 ⟨Nat.zero_le _, Nat.zero_le _⟩) (fun r2 hf => ?_)
  refine lv_if_eq (tgt := 28) hx hb dX2_signAt_16 (by decide) (fun c3 => ?_) (fun c3 => ?_)
  · have hf := hf.1 c3
    refine lv_iconst (v := 0) hx hb dX2_signAt_28 (by decide) ?_
    exact hret 29 ls 0 dX2_signAt_29 hf
  · have hf := hf.2 c3
    refine lv_aload_n hx hb dX2_signAt_19 rfl (lv_at hl 0 rfl) ?_
    refine va_get (D := D) (ci := 2) (v := .ref q_t_signs) (C := RX2) (T := TX2) (N := 2) hx hb hts nX2_signAt_X2 hown hK hP 0 rfl rfl 1 (by decide) (hts _ mX2_signAt_6) (fun _ h9 => h9) rfl dX2_signAt_20 ?_
    refine lv_iload_n hx hb dX2_signAt_23 rfl (lv_at hl 1 rfl) ?_
    have g4 := hf.1
    have hf := hf.2
    refine xa_iald hx hb hK hP 1 0 rfl rfl (j := a1.toNatClampNeg) rfl g4 dX2_signAt_24 ?_
    refine lv_goto (tgt := 29) hx hb dX2_signAt_25 (by decide) ?_
    exact hret 29 ls (t_signs a1.toNatClampNeg) dX2_signAt_29 hf

/-! X2_digitAt -/

def pX2_digitAt (t_count : Int32) (t_signs : (Nat → Int32)) (a1 : Int32) (post : Int32 → Prop) : Prop :=
  pX2_signAt t_count t_signs a1 (fun r1 => post (r1 - 48))

set_option maxHeartbeats 4000000 in
set_option maxRecDepth 100000 in
theorem kX2_digitAt (l : Launch) (D : va_G) (cI cZ cJ cO : ClassId) (q_t q_t_signs : Nat)  (t_count : Int32) (t_signs : (Nat → Int32)) (a1 : Int32) (post : Int32 → Prop) (hf : pX2_digitAt t_count t_signs a1 post) :
    Met l yX2_digitAt wsX2_digitAt ({ frames := 2, cells := 0, slots := 0, locals := 43 } : Room) (va_Pc [.ref q_t, .int a1] (B0 D (tyL cI cZ cJ cO) [(q_t, .inr (2, [.int t_count, .ref q_t_signs])), (q_t_signs, .inl (cI, 60, .inl t_signs))])) (vp_Si post) 0 0 (fun _ => False) := by
  unfold pX2_digitAt at hf
  refine xm_0i (own := RX2) (by decide) rfl rfl (Nat.le_of_ble_eq_true rfl) (fun p e s m args below meth c Q C0 hN hK hret hP ls hl => ?_)
  obtain ⟨hx, hb, hml, hown, hts⟩ := id C0
  have hl : lv_has ls 2 [(0, .ref q_t), (1, .int a1)] := hl
  refine lv_aload_n hx hb dX2_digitAt_0 rfl (lv_at hl 0 rfl) ?_
  refine lv_iload_n hx hb dX2_digitAt_1 rfl (lv_at hl 1 rfl) ?_
  refine xs_i (va_runV (As := [.int a1]) (rest := []) ⟨hx, hb, hml, hown, hts⟩ (kX2_signAt l D cI cZ cJ cO q_t q_t_signs t_count t_signs a1 _ hf) (cwV 1 hts gX2_digitAt_X2_signAt rfl rfl rfl (by decide +kernel) ⟨Nat.le_of_ble_eq_true rfl, Nat.le_of_ble_eq_true rfl⟩) (B0_preV (ci := 2) (q0 := 0) hP rfl rfl (hP.sub (ws' := [(q_t, .inr (2, [.int t_count, .ref q_t_signs])), (q_t_signs, .inl (cI, 60, .inl t_signs))]) [0, 1] rfl) hK hN) rfl rfl hl.1 rfl (lv_room (Nat.le_of_ble_eq_true rfl)) dX2_digitAt_2 ⟨Nat.zero_le _, Nat.zero_le _⟩) (fun r1 hf => ?_)
  refine lv_bipush (v := 48) hx hb dX2_digitAt_5 (by decide) ?_
  refine lv_isub hx hb dX2_digitAt_7 ?_
  exact hret 8 ls (r1 - 48) dX2_digitAt_8 hf

/-! X2_isDeed -/

def pX2_isDeed  (a1 : Int32) (post : Int32 → Prop) : Prop :=
  (a1 = 40 → (post 1)) ∧ (¬ a1 = 40 → ((a1 = 41 → (post 1)) ∧ (¬ a1 = 41 → ((a1 = 62 → (post 1)) ∧ (¬ a1 = 62 → ((a1 = 60 → (post 1)) ∧ (¬ a1 = 60 → ((a1 = 36 → (post 1)) ∧ (¬ a1 = 36 → ((¬ a1 = 37 → (post 0)) ∧ (a1 = 37 → (post 1))))))))))))

set_option maxHeartbeats 4000000 in
set_option maxRecDepth 100000 in
theorem kX2_isDeed (l : Launch) (D : va_G) (cI cZ cJ cO : ClassId)    (a1 : Int32) (post : Int32 → Prop) (hf : pX2_isDeed a1 post) :
    Met l yX2_isDeed wsX2_isDeed ({ frames := 0, cells := 0, slots := 0, locals := 0 } : Room) (va_Pc [.int a1] (B0 D (tyL cI cZ cJ cO) [])) (vp_Si post) 0 0 (fun _ => False) := by
  unfold pX2_isDeed at hf
  refine xm_0z (own := RX2) (by decide) rfl rfl (Nat.le_of_ble_eq_true rfl) (fun p e s m args below meth c Q C0 hN hK hret hP ls hl => ?_)
  obtain ⟨hx, hb, hml, hown, hts⟩ := id C0
  have hl : lv_has ls 1 [(0, .int a1)] := hl
  refine lv_iload_n hx hb dX2_isDeed_0 rfl (lv_at hl 0 rfl) ?_
  refine lv_bipush (v := 40) hx hb dX2_isDeed_1 (by decide) ?_
  refine lv_icmp_eq (tgt := 36) hx hb dX2_isDeed_3 (by decide) (fun c1 => ?_) (fun c1 => ?_)
  · have hf := hf.1 c1
    refine lv_iconst (v := 1) hx hb dX2_isDeed_36 (by decide) ?_
    refine lv_goto (tgt := 41) hx hb dX2_isDeed_37 (by decide) ?_
    exact hret 41 ls 1 dX2_isDeed_41 rfl hf
  · have hf := hf.2 c1
    refine lv_iload_n hx hb dX2_isDeed_6 rfl (lv_at hl 0 rfl) ?_
    refine lv_bipush (v := 41) hx hb dX2_isDeed_7 (by decide) ?_
    refine lv_icmp_eq (tgt := 36) hx hb dX2_isDeed_9 (by decide) (fun c2 => ?_) (fun c2 => ?_)
    · have hf := hf.1 c2
      refine lv_iconst (v := 1) hx hb dX2_isDeed_36 (by decide) ?_
      refine lv_goto (tgt := 41) hx hb dX2_isDeed_37 (by decide) ?_
      exact hret 41 ls 1 dX2_isDeed_41 rfl hf
    · have hf := hf.2 c2
      refine lv_iload_n hx hb dX2_isDeed_12 rfl (lv_at hl 0 rfl) ?_
      refine lv_bipush (v := 62) hx hb dX2_isDeed_13 (by decide) ?_
      refine lv_icmp_eq (tgt := 36) hx hb dX2_isDeed_15 (by decide) (fun c3 => ?_) (fun c3 => ?_)
      · have hf := hf.1 c3
        refine lv_iconst (v := 1) hx hb dX2_isDeed_36 (by decide) ?_
        refine lv_goto (tgt := 41) hx hb dX2_isDeed_37 (by decide) ?_
        exact hret 41 ls 1 dX2_isDeed_41 rfl hf
      · have hf := hf.2 c3
        refine lv_iload_n hx hb dX2_isDeed_18 rfl (lv_at hl 0 rfl) ?_
        refine lv_bipush (v := 60) hx hb dX2_isDeed_19 (by decide) ?_
        refine lv_icmp_eq (tgt := 36) hx hb dX2_isDeed_21 (by decide) (fun c4 => ?_) (fun c4 => ?_)
        · have hf := hf.1 c4
          refine lv_iconst (v := 1) hx hb dX2_isDeed_36 (by decide) ?_
          refine lv_goto (tgt := 41) hx hb dX2_isDeed_37 (by decide) ?_
          exact hret 41 ls 1 dX2_isDeed_41 rfl hf
        · have hf := hf.2 c4
          refine lv_iload_n hx hb dX2_isDeed_24 rfl (lv_at hl 0 rfl) ?_
          refine lv_bipush (v := 36) hx hb dX2_isDeed_25 (by decide) ?_
          refine lv_icmp_eq (tgt := 36) hx hb dX2_isDeed_27 (by decide) (fun c5 => ?_) (fun c5 => ?_)
          · have hf := hf.1 c5
            refine lv_iconst (v := 1) hx hb dX2_isDeed_36 (by decide) ?_
            refine lv_goto (tgt := 41) hx hb dX2_isDeed_37 (by decide) ?_
            exact hret 41 ls 1 dX2_isDeed_41 rfl hf
          · have hf := hf.2 c5
            refine lv_iload_n hx hb dX2_isDeed_30 rfl (lv_at hl 0 rfl) ?_
            refine lv_bipush (v := 37) hx hb dX2_isDeed_31 (by decide) ?_
            refine lv_icmp_ne (tgt := 40) hx hb dX2_isDeed_33 (by decide) (fun c6 => ?_) (fun c6 => ?_)
            · have hf := hf.1 c6
              refine lv_iconst (v := 0) hx hb dX2_isDeed_40 (by decide) ?_
              exact hret 41 ls 0 dX2_isDeed_41 rfl hf
            · have hf := hf.2 c6
              refine lv_iconst (v := 1) hx hb dX2_isDeed_36 (by decide) ?_
              refine lv_goto (tgt := 41) hx hb dX2_isDeed_37 (by decide) ?_
              exact hret 41 ls 1 dX2_isDeed_41 rfl hf

/-! X2_isLetter -/
theorem mX2_isLetter_2 : Cond.initialized RX6 ∈ wsX2_isLetter := List.mem_of_getElem? (i := 2) rfl
theorem mX2_isLetter_1 : Cond.static yX6_isIn ∈ wsX2_isLetter := List.mem_of_getElem? (i := 1) rfl
def pX2_isLetter  (a1 : Int32) (post : Int32 → Prop) : Prop :=
  pX6_isIn a1 65 70 (fun r1 => zb r1 ∧ post r1)

set_option maxHeartbeats 4000000 in
set_option maxRecDepth 100000 in
theorem kX2_isLetter (l : Launch) (D : va_G) (cI cZ cJ cO : ClassId)    (a1 : Int32) (post : Int32 → Prop) (hf : pX2_isLetter a1 post) :
    Met l yX2_isLetter wsX2_isLetter ({ frames := 1, cells := 0, slots := 0, locals := 22 } : Room) (va_Pc [.int a1] (B0 D (tyL cI cZ cJ cO) [])) (vp_Si post) 0 0 (fun _ => False) := by
  unfold pX2_isLetter at hf
  refine xm_0z (own := RX2) (by decide) rfl rfl (Nat.le_of_ble_eq_true rfl) (fun p e s m args below meth c Q C0 hN hK hret hP ls hl => ?_)
  obtain ⟨hx, hb, hml, hown, hts⟩ := id C0
  have hl : lv_has ls 1 [(0, .int a1)] := hl
  refine lv_iload_n hx hb dX2_isLetter_0 rfl (lv_at hl 0 rfl) ?_
  refine lv_bipush (v := 65) hx hb dX2_isLetter_1 (by decide) ?_
  refine lv_bipush (v := 70) hx hb dX2_isLetter_3 (by decide) ?_
  refine xs_i (va_runSN (As := [.int a1, .int 65, .int 70]) (rest := []) ⟨hx, hb, hml, hown, hts⟩ (kX6_isIn l D cI cZ cJ cO a1 65 70 _ hf) ⟨va_cnB 3 hts gX2_isLetter_X6_isIn_n19 rfl rfl rfl (nw_at hN 6 rfl) (hts _ mX2_isLetter_2) (by decide +kernel) ⟨Nat.le_of_ble_eq_true rfl, Nat.le_of_ble_eq_true rfl⟩, hts _ mX2_isLetter_1, trivial⟩ (B0_pre (hP.sub (ws' := []) [] rfl) hK hN) rfl rfl hl.1 rfl (lv_room (Nat.le_of_ble_eq_true rfl)) dX2_isLetter_5 ⟨Nat.zero_le _, Nat.zero_le _⟩) (fun r1 hf => ?_)
  exact hret 8 ls r1 dX2_isLetter_8 hf.1 hf.2

/-! X2_firstFault -/
theorem mX2_firstFault_1 : Cond.fieldLink RX2 9 "OxenKneel$Pad" "count" "I" ∈ wsX2_firstFault := List.mem_of_getElem? (i := 1) rfl
theorem mX2_firstFault_13 : Cond.initialized RX6 ∈ wsX2_firstFault := List.mem_of_getElem? (i := 13) rfl
theorem mX2_firstFault_12 : Cond.static yX6_isIn ∈ wsX2_firstFault := List.mem_of_getElem? (i := 12) rfl
theorem nX2_firstFault_X2 : ∀ w ∈ wsX20, w ∈ wsX2_firstFault := fun _ h => List.mem_cons_of_mem _ (List.mem_append_right _ h)
def pX2_firstFault_b101 (t_count : Int32) (t_signs : (Nat → Int32)) (post : Int32 → Prop) (k6 : Int32 → Int32 → Int32 → Prop) (x1 : Int32) (x3 : Int32) (x4 : Int32) (s0 : Int32) : Prop :=
  (¬ x1 = 0 → (∀ v2 : Int32, v2 = x3 + 1 → (k6 x1 s0 v2))) ∧ (x1 = 0 → ((¬ s0 = 0 → (∀ v4 : Int32, v4 = x3 + 1 → (k6 x1 s0 v4))) ∧ (s0 = 0 → ((x4 = 107 → (∀ v6 : Int32, v6 = x3 + 1 → (k6 x1 s0 v6))) ∧ (¬ x4 = 107 → (post x3))))))

set_option maxHeartbeats 4000000 in
set_option maxRecDepth 100000 in
theorem wX2_firstFault_b101 {p : Program} {l : Launch} {e : Env} {s : State} {m : MethodId} {args : Array Value} {below : List Frame} {meth : Method} {c : Code} {Q : State → Prop} {D : va_G} {cI cZ cJ cO : ClassId} (C0 : CallFix p m c cX2_firstFault 5 s args wsX2_firstFault RX2) (hN : nw s) (hK : va_K D vwCl (tyL cI cZ cJ cO) s) (q_t q_t_signs : Nat)  (t_count : Int32) (t_signs : (Nat → Int32)) (post : Int32 → Prop) (hret : h0I p l e ({ frames := 2, cells := 0, slots := 0, locals := 43 } : Room) s m args below meth c cX2_firstFault Q post) (hP : va_P D vwCl [(q_t, .inr (2, [.int t_count, .ref q_t_signs])), (q_t_signs, .inl (cI, 60, .inl t_signs))] s.heap) (k6 : Int32 → Int32 → Int32 → Prop) (hk6 : ∀ (x1 : Int32) (x2 : Int32) (x3 : Int32), k6 x1 x2 x3 → ∀ ls : Array Slot, lv_has ls 5 [(0, .ref q_t), (1, .int x1), (2, .int x2), (3, .int x3)] → W p l e ({ frames := 2, cells := 0, slots := 0, locals := 43 } : Room) s m args below meth c s.heap [] 0 0 Q (F0 m 6 ls [])) :
    ∀ (x1 : Int32) (x3 : Int32) (x4 : Int32) (s0 : Int32), pX2_firstFault_b101 t_count t_signs post k6 x1 x3 x4 s0 → ∀ ls : Array Slot, lv_has ls 5 [(0, .ref q_t), (1, .int x1), (3, .int x3), (4, .int x4)] → W p l e ({ frames := 2, cells := 0, slots := 0, locals := 43 } : Room) s m args below meth c s.heap [] 0 0 Q (F0 m 101 ls [.int s0]) := by
  obtain ⟨hx, hb, hml, hown, hts⟩ := id C0
  intro x1 x3 x4 s0 hf ls hl
  unfold pX2_firstFault_b101 at hf
  refine lv_istore_n (lv' := [(2, .int s0), (0, .ref q_t), (1, .int x1), (3, .int x3), (4, .int x4)]) hx hb dX2_firstFault_101 rfl hl (by decide) rfl (fun ls hl => ?_)
  refine lv_iload_n hx hb dX2_firstFault_102 rfl (lv_at hl 2 rfl) ?_
  refine lv_if_ne (tgt := 119) hx hb dX2_firstFault_103 (by decide) (fun c1 => ?_) (fun c1 => ?_)
  · have hf := hf.1 c1
    obtain ⟨v2, ev2⟩ : ∃ y : Int32, y = x3 + 1 := ⟨_, rfl⟩
    have hf := hf v2 ev2
    refine lv_iinc (v := v2) (lv' := [(3, .int v2), (2, .int s0), (0, .ref q_t), (1, .int x1), (4, .int x4)]) hx hb dX2_firstFault_119 hl (k := 3) rfl (by rw [ev2]; rfl) (by decide) rfl (fun ls hl => ?_)
    refine lv_goto (tgt := 6) hx hb dX2_firstFault_122 (by decide) ?_
    exact hk6 x1 s0 v2 hf ls (lv_sub hl [2, 3, 1, 0] rfl)
  · have hf := hf.2 c1
    refine lv_iload_n hx hb dX2_firstFault_106 rfl (lv_at hl 0 rfl) ?_
    refine lv_if_ne (tgt := 119) hx hb dX2_firstFault_107 (by decide) (fun c3 => ?_) (fun c3 => ?_)
    · have hf := hf.1 c3
      obtain ⟨v4, ev4⟩ : ∃ y : Int32, y = x3 + 1 := ⟨_, rfl⟩
      have hf := hf v4 ev4
      refine lv_iinc (v := v4) (lv' := [(3, .int v4), (2, .int s0), (0, .ref q_t), (1, .int x1), (4, .int x4)]) hx hb dX2_firstFault_119 hl (k := 3) rfl (by rw [ev4]; rfl) (by decide) rfl (fun ls hl => ?_)
      refine lv_goto (tgt := 6) hx hb dX2_firstFault_122 (by decide) ?_
      exact hk6 x1 s0 v4 hf ls (lv_sub hl [2, 3, 1, 0] rfl)
    · have hf := hf.2 c3
      refine lv_iload hx hb dX2_firstFault_110 (lv_at hl 4 rfl) ?_
      refine lv_bipush (v := 107) hx hb dX2_firstFault_112 (by decide) ?_
      refine lv_icmp_eq (tgt := 119) hx hb dX2_firstFault_114 (by decide) (fun c5 => ?_) (fun c5 => ?_)
      · have hf := hf.1 c5
        obtain ⟨v6, ev6⟩ : ∃ y : Int32, y = x3 + 1 := ⟨_, rfl⟩
        have hf := hf v6 ev6
        refine lv_iinc (v := v6) (lv' := [(3, .int v6), (2, .int s0), (0, .ref q_t), (1, .int x1), (4, .int x4)]) hx hb dX2_firstFault_119 hl (k := 3) rfl (by rw [ev6]; rfl) (by decide) rfl (fun ls hl => ?_)
        refine lv_goto (tgt := 6) hx hb dX2_firstFault_122 (by decide) ?_
        exact hk6 x1 s0 v6 hf ls (lv_sub hl [2, 3, 1, 0] rfl)
      · have hf := hf.2 c5
        refine lv_iload_n hx hb dX2_firstFault_117 rfl (lv_at hl 3 rfl) ?_
        exact hret 118 ls x3 dX2_firstFault_118 hf

def pX2_firstFault_b96 (t_count : Int32) (t_signs : (Nat → Int32)) (post : Int32 → Prop) (k6 : Int32 → Int32 → Int32 → Prop) (x1 : Int32) (x3 : Int32) (x4 : Int32) : Prop :=
  pX2_firstFault_b101 t_count t_signs post k6 x1 x3 x4 1

set_option maxHeartbeats 4000000 in
set_option maxRecDepth 100000 in
theorem wX2_firstFault_b96 {p : Program} {l : Launch} {e : Env} {s : State} {m : MethodId} {args : Array Value} {below : List Frame} {meth : Method} {c : Code} {Q : State → Prop} {D : va_G} {cI cZ cJ cO : ClassId} (C0 : CallFix p m c cX2_firstFault 5 s args wsX2_firstFault RX2) (hN : nw s) (hK : va_K D vwCl (tyL cI cZ cJ cO) s) (q_t q_t_signs : Nat)  (t_count : Int32) (t_signs : (Nat → Int32)) (post : Int32 → Prop) (hret : h0I p l e ({ frames := 2, cells := 0, slots := 0, locals := 43 } : Room) s m args below meth c cX2_firstFault Q post) (hP : va_P D vwCl [(q_t, .inr (2, [.int t_count, .ref q_t_signs])), (q_t_signs, .inl (cI, 60, .inl t_signs))] s.heap) (k6 : Int32 → Int32 → Int32 → Prop) (hk6 : ∀ (x1 : Int32) (x2 : Int32) (x3 : Int32), k6 x1 x2 x3 → ∀ ls : Array Slot, lv_has ls 5 [(0, .ref q_t), (1, .int x1), (2, .int x2), (3, .int x3)] → W p l e ({ frames := 2, cells := 0, slots := 0, locals := 43 } : Room) s m args below meth c s.heap [] 0 0 Q (F0 m 6 ls [])) :
    ∀ (x1 : Int32) (x3 : Int32) (x4 : Int32), pX2_firstFault_b96 t_count t_signs post k6 x1 x3 x4 → ∀ ls : Array Slot, lv_has ls 5 [(0, .ref q_t), (1, .int x1), (3, .int x3), (4, .int x4)] → W p l e ({ frames := 2, cells := 0, slots := 0, locals := 43 } : Room) s m args below meth c s.heap [] 0 0 Q (F0 m 96 ls []) := by
  obtain ⟨hx, hb, hml, hown, hts⟩ := id C0
  intro x1 x3 x4 hf ls hl
  unfold pX2_firstFault_b96 at hf
  refine lv_iconst (v := 1) hx hb dX2_firstFault_96 (by decide) ?_
  refine lv_goto (tgt := 101) hx hb dX2_firstFault_97 (by decide) ?_
  exact wX2_firstFault_b101 C0 hN hK q_t q_t_signs t_count t_signs post hret hP _ hk6 x1 x3 x4 1 hf ls (lv_sub hl [0, 1, 2, 3] rfl)

def pX2_firstFault_b6 (t_count : Int32) (t_signs : (Nat → Int32)) (post : Int32 → Prop) : Nat → Int32 → Int32 → Int32 → Prop
  | 0 => fun _ _ _ => False
  | n + 1 => fun x1 x2 x3 => (t_count ≤ x3 → ((¬ x1 = 0 → (post t_count)) ∧ (x1 = 0 → ((x2 = 0 → (post (-6))) ∧ (¬ x2 = 0 → (post t_count)))))) ∧ (¬ t_count ≤ x3 → (pX2_signAt t_count t_signs x3 (fun r4 => (x2 = 0 → ((x1 = 0 → (pX2_isLetter r4 (fun r7 => (r4 = 104 → (pX2_firstFault_b96 t_count t_signs post (fun x1 x2 x3 => pX2_firstFault_b6 t_count t_signs post  n x1 x2 x3) r7 x3 r4)) ∧ (¬ r4 = 104 → ((¬ r4 = 100 → (pX2_firstFault_b101 t_count t_signs post (fun x1 x2 x3 => pX2_firstFault_b6 t_count t_signs post  n x1 x2 x3) r7 x3 r4 0)) ∧ (r4 = 100 → (pX2_firstFault_b96 t_count t_signs post (fun x1 x2 x3 => pX2_firstFault_b6 t_count t_signs post  n x1 x2 x3) r7 x3 r4))))))) ∧ (¬ x1 = 0 → (pX2_isDeed r4 (fun r10 => (¬ r10 = 0 → ((¬ r4 = 36 → (∀ v13 : Int32, v13 = x3 + 1 → (pX2_firstFault_b6 t_count t_signs post  n 0 0 v13))) ∧ (r4 = 36 → (∀ v14 : Int32, v14 = x3 + 1 → (pX2_firstFault_b6 t_count t_signs post  n 0 1 v14))))) ∧ (r10 = 0 → (post x3))))))) ∧ (¬ x2 = 0 → (pX6_isIn r4 49 57 (fun r15 => (¬ r15 = 0 → (∀ v17 : Int32, v17 = x3 + 1 → (pX2_firstFault_b6 t_count t_signs post  n x1 0 v17))) ∧ (r15 = 0 → (post x3))))))))

set_option maxHeartbeats 4000000 in
set_option maxRecDepth 100000 in
theorem wX2_firstFault_b6 {p : Program} {l : Launch} {e : Env} {s : State} {m : MethodId} {args : Array Value} {below : List Frame} {meth : Method} {c : Code} {Q : State → Prop} {D : va_G} {cI cZ cJ cO : ClassId} (C0 : CallFix p m c cX2_firstFault 5 s args wsX2_firstFault RX2) (hN : nw s) (hK : va_K D vwCl (tyL cI cZ cJ cO) s) (q_t q_t_signs : Nat)  (t_count : Int32) (t_signs : (Nat → Int32)) (post : Int32 → Prop) (hret : h0I p l e ({ frames := 2, cells := 0, slots := 0, locals := 43 } : Room) s m args below meth c cX2_firstFault Q post) (hP : va_P D vwCl [(q_t, .inr (2, [.int t_count, .ref q_t_signs])), (q_t_signs, .inl (cI, 60, .inl t_signs))] s.heap) :
    ∀ (n : Nat) (x1 : Int32) (x2 : Int32) (x3 : Int32), pX2_firstFault_b6 t_count t_signs post n x1 x2 x3 → ∀ ls : Array Slot, lv_has ls 5 [(0, .ref q_t), (1, .int x1), (2, .int x2), (3, .int x3)] → W p l e ({ frames := 2, cells := 0, slots := 0, locals := 43 } : Room) s m args below meth c s.heap [] 0 0 Q (F0 m 6 ls []) := by
  obtain ⟨hx, hb, hml, hown, hts⟩ := id C0
  intro n
  induction n with
  | zero =>
    intro x1 x2 x3 hf
    exact False.elim hf
  | succ n ih =>
    intro x1 x2 x3 hf ls hl
    rw [pX2_firstFault_b6] at hf
    refine lv_iload_n hx hb dX2_firstFault_6 rfl (lv_at hl 3 rfl) ?_
    refine lv_aload_n hx hb dX2_firstFault_7 rfl (lv_at hl 0 rfl) ?_
    refine va_get (D := D) (ci := 2) (v := .int t_count) (C := RX2) (T := TX2) (N := 2) hx hb hts nX2_firstFault_X2 hown hK hP 0 rfl rfl 0 (by decide) (hts _ mX2_firstFault_1) (fun _ h9 => h9) rfl dX2_firstFault_8 ?_
    refine lv_icmp_ge (tgt := 125) hx hb dX2_firstFault_11 (by decide) (fun c1 => ?_) (fun c1 => ?_)
    · have hf := hf.1 c1
      refine lv_iload_n hx hb dX2_firstFault_125 rfl (lv_at hl 1 rfl) ?_
      refine lv_if_ne (tgt := 133) hx hb dX2_firstFault_126 (by decide) (fun c2 => ?_) (fun c2 => ?_)
      · have hf := hf.1 c2
        refine lv_aload_n hx hb dX2_firstFault_133 rfl (lv_at hl 0 rfl) ?_
        refine va_get (D := D) (ci := 2) (v := .int t_count) (C := RX2) (T := TX2) (N := 2) hx hb hts nX2_firstFault_X2 hown hK hP 0 rfl rfl 0 (by decide) (hts _ mX2_firstFault_1) (fun _ h9 => h9) rfl dX2_firstFault_134 ?_
        refine lv_goto (tgt := 142) hx hb dX2_firstFault_137 (by decide) ?_
        exact hret 142 ls t_count dX2_firstFault_142 hf
      · have hf := hf.2 c2
        refine lv_iload_n hx hb dX2_firstFault_129 rfl (lv_at hl 2 rfl) ?_
        refine lv_if_eq (tgt := 140) hx hb dX2_firstFault_130 (by decide) (fun c3 => ?_) (fun c3 => ?_)
        · have hf := hf.1 c3
          refine lv_bipush (v := (-6)) hx hb dX2_firstFault_140 (by decide) ?_
          exact hret 142 ls (-6) dX2_firstFault_142 hf
        · have hf := hf.2 c3
          refine lv_aload_n hx hb dX2_firstFault_133 rfl (lv_at hl 0 rfl) ?_
          refine va_get (D := D) (ci := 2) (v := .int t_count) (C := RX2) (T := TX2) (N := 2) hx hb hts nX2_firstFault_X2 hown hK hP 0 rfl rfl 0 (by decide) (hts _ mX2_firstFault_1) (fun _ h9 => h9) rfl dX2_firstFault_134 ?_
          refine lv_goto (tgt := 142) hx hb dX2_firstFault_137 (by decide) ?_
          exact hret 142 ls t_count dX2_firstFault_142 hf
    · have hf := hf.2 c1
      refine lv_aload_n hx hb dX2_firstFault_14 rfl (lv_at hl 0 rfl) ?_
      refine lv_iload_n hx hb dX2_firstFault_15 rfl (lv_at hl 3 rfl) ?_
      refine xs_i (va_runV (As := [.int x3]) (rest := []) ⟨hx, hb, hml, hown, hts⟩ (kX2_signAt l D cI cZ cJ cO q_t q_t_signs t_count t_signs x3 _ hf) (cwV 1 hts gX2_firstFault_X2_signAt rfl rfl rfl (by decide +kernel) ⟨Nat.le_of_ble_eq_true rfl, Nat.le_of_ble_eq_true rfl⟩) (B0_preV (ci := 2) (q0 := 0) hP rfl rfl (hP.sub (ws' := [(q_t, .inr (2, [.int t_count, .ref q_t_signs])), (q_t_signs, .inl (cI, 60, .inl t_signs))]) [0, 1] rfl) hK hN) rfl rfl hl.1 rfl (lv_room (Nat.le_of_ble_eq_true rfl)) dX2_firstFault_16 ⟨Nat.zero_le _, Nat.zero_le _⟩) (fun r4 hf => ?_)
      refine lv_istore (lv' := [(4, .int r4), (0, .ref q_t), (1, .int x1), (2, .int x2), (3, .int x3)]) hx hb dX2_firstFault_19 hl (by decide) rfl (fun ls hl => ?_)
      refine lv_iload_n hx hb dX2_firstFault_21 rfl (lv_at hl 3 rfl) ?_
      refine lv_if_eq (tgt := 44) hx hb dX2_firstFault_22 (by decide) (fun c5 => ?_) (fun c5 => ?_)
      · have hf := hf.1 c5
        refine lv_iload_n hx hb dX2_firstFault_44 rfl (lv_at hl 2 rfl) ?_
        refine lv_if_eq (tgt := 76) hx hb dX2_firstFault_45 (by decide) (fun c6 => ?_) (fun c6 => ?_)
        · have hf := hf.1 c6
          refine lv_iload hx hb dX2_firstFault_76 (lv_at hl 0 rfl) ?_
          refine xs_i (va_runS (As := [.int r4]) (rest := []) ⟨hx, hb, hml, hown, hts⟩ (kX2_isLetter l D cI cZ cJ cO r4 _ hf) (va_cwS 1 hts gX2_firstFault_X2_isLetter rfl rfl rfl (by decide +kernel) ⟨Nat.le_of_ble_eq_true rfl, Nat.le_of_ble_eq_true rfl⟩) (B0_pre (hP.sub (ws' := []) [] rfl) hK hN) rfl rfl hl.1 rfl (lv_room (Nat.le_of_ble_eq_true rfl)) dX2_firstFault_78 ⟨Nat.zero_le _, Nat.zero_le _⟩) (fun r7 hf => ?_)
          refine lv_istore_n (lv' := [(1, .int r7), (4, .int r4), (0, .ref q_t), (2, .int x2), (3, .int x3)]) hx hb dX2_firstFault_81 rfl hl (by decide) rfl (fun ls hl => ?_)
          refine lv_iload hx hb dX2_firstFault_82 (lv_at hl 1 rfl) ?_
          refine lv_bipush (v := 104) hx hb dX2_firstFault_84 (by decide) ?_
          refine lv_icmp_eq (tgt := 96) hx hb dX2_firstFault_86 (by decide) (fun c8 => ?_) (fun c8 => ?_)
          · have hf := hf.1 c8
            exact wX2_firstFault_b96 C0 hN hK q_t q_t_signs t_count t_signs post hret hP _ ih r7 x3 r4 hf ls (lv_sub hl [2, 0, 4, 1] rfl)
          · have hf := hf.2 c8
            refine lv_iload hx hb dX2_firstFault_89 (lv_at hl 1 rfl) ?_
            refine lv_bipush (v := 100) hx hb dX2_firstFault_91 (by decide) ?_
            refine lv_icmp_ne (tgt := 100) hx hb dX2_firstFault_93 (by decide) (fun c9 => ?_) (fun c9 => ?_)
            · have hf := hf.1 c9
              refine lv_iconst (v := 0) hx hb dX2_firstFault_100 (by decide) ?_
              exact wX2_firstFault_b101 C0 hN hK q_t q_t_signs t_count t_signs post hret hP _ ih r7 x3 r4 0 hf ls (lv_sub hl [2, 0, 4, 1] rfl)
            · have hf := hf.2 c9
              exact wX2_firstFault_b96 C0 hN hK q_t q_t_signs t_count t_signs post hret hP _ ih r7 x3 r4 hf ls (lv_sub hl [2, 0, 4, 1] rfl)
        · have hf := hf.2 c6
          refine lv_iload hx hb dX2_firstFault_48 (lv_at hl 0 rfl) ?_
          refine xs_i (va_runS (As := [.int r4]) (rest := []) ⟨hx, hb, hml, hown, hts⟩ (kX2_isDeed l D cI cZ cJ cO r4 _ hf) (va_cwS 1 hts gX2_firstFault_X2_isDeed rfl rfl rfl (by decide +kernel) ⟨Nat.le_of_ble_eq_true rfl, Nat.le_of_ble_eq_true rfl⟩) (B0_pre (hP.sub (ws' := []) [] rfl) hK hN) rfl rfl hl.1 rfl (lv_room (Nat.le_of_ble_eq_true rfl)) dX2_firstFault_50 ⟨Nat.zero_le _, Nat.zero_le _⟩) (fun r10 hf => ?_)
          refine lv_if_ne (tgt := 58) hx hb dX2_firstFault_53 (by decide) (fun c11 => ?_) (fun c11 => ?_)
          · have hf := hf.1 c11
            refine lv_iconst (v := 0) hx hb dX2_firstFault_58 (by decide) ?_
            refine lv_istore_n (lv' := [(1, .int 0), (4, .int r4), (0, .ref q_t), (2, .int x2), (3, .int x3)]) hx hb dX2_firstFault_59 rfl hl (by decide) rfl (fun ls hl => ?_)
            refine lv_iload hx hb dX2_firstFault_60 (lv_at hl 1 rfl) ?_
            refine lv_bipush (v := 36) hx hb dX2_firstFault_62 (by decide) ?_
            refine lv_icmp_ne (tgt := 71) hx hb dX2_firstFault_64 (by decide) (fun c12 => ?_) (fun c12 => ?_)
            · have hf := hf.1 c12
              refine lv_iconst (v := 0) hx hb dX2_firstFault_71 (by decide) ?_
              refine lv_istore_n (lv' := [(2, .int 0), (1, .int 0), (4, .int r4), (0, .ref q_t), (3, .int x3)]) hx hb dX2_firstFault_72 rfl hl (by decide) rfl (fun ls hl => ?_)
              refine lv_goto (tgt := 119) hx hb dX2_firstFault_73 (by decide) ?_
              obtain ⟨v13, ev13⟩ : ∃ y : Int32, y = x3 + 1 := ⟨_, rfl⟩
              have hf := hf v13 ev13
              refine lv_iinc (v := v13) (lv' := [(3, .int v13), (2, .int 0), (1, .int 0), (4, .int r4), (0, .ref q_t)]) hx hb dX2_firstFault_119 hl (k := 4) rfl (by rw [ev13]; rfl) (by decide) rfl (fun ls hl => ?_)
              refine lv_goto (tgt := 6) hx hb dX2_firstFault_122 (by decide) ?_
              exact ih 0 0 v13 hf ls (lv_sub hl [4, 2, 1, 0] rfl)
            · have hf := hf.2 c12
              refine lv_iconst (v := 1) hx hb dX2_firstFault_67 (by decide) ?_
              refine lv_goto (tgt := 72) hx hb dX2_firstFault_68 (by decide) ?_
              refine lv_istore_n (lv' := [(2, .int 1), (1, .int 0), (4, .int r4), (0, .ref q_t), (3, .int x3)]) hx hb dX2_firstFault_72 rfl hl (by decide) rfl (fun ls hl => ?_)
              refine lv_goto (tgt := 119) hx hb dX2_firstFault_73 (by decide) ?_
              obtain ⟨v14, ev14⟩ : ∃ y : Int32, y = x3 + 1 := ⟨_, rfl⟩
              have hf := hf v14 ev14
              refine lv_iinc (v := v14) (lv' := [(3, .int v14), (2, .int 1), (1, .int 0), (4, .int r4), (0, .ref q_t)]) hx hb dX2_firstFault_119 hl (k := 4) rfl (by rw [ev14]; rfl) (by decide) rfl (fun ls hl => ?_)
              refine lv_goto (tgt := 6) hx hb dX2_firstFault_122 (by decide) ?_
              exact ih 0 1 v14 hf ls (lv_sub hl [4, 2, 1, 0] rfl)
          · have hf := hf.2 c11
            refine lv_iload_n hx hb dX2_firstFault_56 rfl (lv_at hl 4 rfl) ?_
            exact hret 57 ls x3 dX2_firstFault_57 hf
      · have hf := hf.2 c5
        refine lv_iload hx hb dX2_firstFault_25 (lv_at hl 0 rfl) ?_
        refine lv_bipush (v := 49) hx hb dX2_firstFault_27 (by decide) ?_
        refine lv_bipush (v := 57) hx hb dX2_firstFault_29 (by decide) ?_
        refine xs_i (va_runSN (As := [.int r4, .int 49, .int 57]) (rest := []) ⟨hx, hb, hml, hown, hts⟩ (kX6_isIn l D cI cZ cJ cO r4 49 57 _ hf) ⟨va_cnB 3 hts gX2_firstFault_X6_isIn_n19 rfl rfl rfl (nw_at hN 6 rfl) (hts _ mX2_firstFault_13) (by decide +kernel) ⟨Nat.le_of_ble_eq_true rfl, Nat.le_of_ble_eq_true rfl⟩, hts _ mX2_firstFault_12, trivial⟩ (B0_pre (hP.sub (ws' := []) [] rfl) hK hN) rfl rfl hl.1 rfl (lv_room (Nat.le_of_ble_eq_true rfl)) dX2_firstFault_31 ⟨Nat.zero_le _, Nat.zero_le _⟩) (fun r15 hf => ?_)
        refine lv_if_ne (tgt := 39) hx hb dX2_firstFault_34 (by decide) (fun c16 => ?_) (fun c16 => ?_)
        · have hf := hf.1 c16
          refine lv_iconst (v := 0) hx hb dX2_firstFault_39 (by decide) ?_
          refine lv_istore_n (lv' := [(2, .int 0), (4, .int r4), (0, .ref q_t), (1, .int x1), (3, .int x3)]) hx hb dX2_firstFault_40 rfl hl (by decide) rfl (fun ls hl => ?_)
          refine lv_goto (tgt := 119) hx hb dX2_firstFault_41 (by decide) ?_
          obtain ⟨v17, ev17⟩ : ∃ y : Int32, y = x3 + 1 := ⟨_, rfl⟩
          have hf := hf v17 ev17
          refine lv_iinc (v := v17) (lv' := [(3, .int v17), (2, .int 0), (4, .int r4), (0, .ref q_t), (1, .int x1)]) hx hb dX2_firstFault_119 hl (k := 4) rfl (by rw [ev17]; rfl) (by decide) rfl (fun ls hl => ?_)
          refine lv_goto (tgt := 6) hx hb dX2_firstFault_122 (by decide) ?_
          exact ih x1 0 v17 hf ls (lv_sub hl [3, 4, 1, 0] rfl)
        · have hf := hf.2 c16
          refine lv_iload_n hx hb dX2_firstFault_37 rfl (lv_at hl 4 rfl) ?_
          exact hret 38 ls x3 dX2_firstFault_38 hf

def pX2_firstFault (t_count : Int32) (t_signs : (Nat → Int32))  (post : Int32 → Prop) : Prop :=
  ∃ n1, pX2_firstFault_b6 t_count t_signs post  n1 0 0 0

set_option maxHeartbeats 4000000 in
set_option maxRecDepth 100000 in
theorem kX2_firstFault (l : Launch) (D : va_G) (cI cZ cJ cO : ClassId) (q_t q_t_signs : Nat)  (t_count : Int32) (t_signs : (Nat → Int32))  (post : Int32 → Prop) (hf : pX2_firstFault t_count t_signs post) :
    Met l yX2_firstFault wsX2_firstFault ({ frames := 2, cells := 0, slots := 0, locals := 43 } : Room) (va_Pc [.ref q_t] (B0 D (tyL cI cZ cJ cO) [(q_t, .inr (2, [.int t_count, .ref q_t_signs])), (q_t_signs, .inl (cI, 60, .inl t_signs))])) (vp_Si post) 0 0 (fun _ => False) := by
  unfold pX2_firstFault at hf
  refine xm_0i (own := RX2) (by decide) rfl rfl (Nat.le_of_ble_eq_true rfl) (fun p e s m args below meth c Q C0 hN hK hret hP ls hl => ?_)
  obtain ⟨hx, hb, hml, hown, hts⟩ := id C0
  have hl : lv_has ls 5 [(0, .ref q_t)] := hl
  refine lv_iconst (v := 0) hx hb dX2_firstFault_0 (by decide) ?_
  refine lv_istore_n (lv' := [(1, .int 0), (0, .ref q_t)]) hx hb dX2_firstFault_1 rfl hl (by decide) rfl (fun ls hl => ?_)
  refine lv_iconst (v := 0) hx hb dX2_firstFault_2 (by decide) ?_
  refine lv_istore_n (lv' := [(2, .int 0), (1, .int 0), (0, .ref q_t)]) hx hb dX2_firstFault_3 rfl hl (by decide) rfl (fun ls hl => ?_)
  refine lv_iconst (v := 0) hx hb dX2_firstFault_4 (by decide) ?_
  refine lv_istore_n (lv' := [(3, .int 0), (2, .int 0), (1, .int 0), (0, .ref q_t)]) hx hb dX2_firstFault_5 rfl hl (by decide) rfl (fun ls hl => ?_)
  obtain ⟨n1, hf⟩ := hf
  exact wX2_firstFault_b6 C0 hN hK q_t q_t_signs t_count t_signs post hret hP   n1 0 0 0 hf ls (lv_sub hl [3, 2, 1, 0] rfl)

/-! X2_readAct -/
theorem mX2_readAct_2 : Cond.fieldLink RX2 45 "OxenKneel$Act" "sign" "I" ∈ wsX2_readAct := List.mem_of_getElem? (i := 2) rfl
theorem mX2_readAct_3 : Cond.fieldLink RX2 51 "OxenKneel$Act" "number" "I" ∈ wsX2_readAct := List.mem_of_getElem? (i := 3) rfl
theorem mX2_readAct_1 : Cond.fieldLink RX2 40 "OxenKneel$Act" "person" "I" ∈ wsX2_readAct := List.mem_of_getElem? (i := 1) rfl
theorem nX2_readAct_X0 : ∀ w ∈ wsX00, w ∈ wsX2_readAct := fun _ h => List.mem_cons_of_mem _ (List.mem_append_left _ (List.mem_append_right _ h))
def pX2_readAct_b67 (t_count : Int32) (t_signs : (Nat → Int32)) (a1 : Int32) (post : Int32 → (Int32 × Int32 × Int32) → Prop) (x3 : Int32) (a2_sign : Int32) (a2_person : Int32) (a2_number : Int32) : Prop :=
  pX2_digitAt t_count t_signs x3 (fun r1 => ∀ v2 : Int32, v2 = x3 + 1 → (post v2 (a2_sign, a2_person, r1)))

set_option maxHeartbeats 4000000 in
set_option maxRecDepth 100000 in
theorem wX2_readAct_b67 {p : Program} {l : Launch} {e : Env} {s : State} {m : MethodId} {args : Array Value} {below : List Frame} {meth : Method} {c : Code} {Q : State → Prop} {D : va_G} {cI cZ cJ cO : ClassId} {A : Nat → Prop} (C0 : CallFix p m c cX2_readAct 4 s args wsX2_readAct RX2) (hN : nw s) (hK : va_K D vwCl (tyL cI cZ cJ cO) s) (hA : ∀ q, s.heap.size ≤ q → A q) (q_t q_t_signs q_a2 : Nat)  (t_count : Int32) (t_signs : (Nat → Int32)) (a1 : Int32) (post : Int32 → (Int32 × Int32 × Int32) → Prop) (hret : hrI p l e ({ frames := 3, cells := 0, slots := 0, locals := 64 } : Room) s m args below meth c cX2_readAct D A Q post (fun u : Int32 × Int32 × Int32 => [(q_t, .inr (2, [.int t_count, .ref q_t_signs])), (q_t_signs, .inl (cI, 60, .inl t_signs)), (q_a2, .inr (0, [.int u.1, .int u.2.1, .int u.2.2]))])) :
    ∀ (x3 : Int32) (a2_sign : Int32) (a2_person : Int32) (a2_number : Int32), pX2_readAct_b67 t_count t_signs a1 post x3 a2_sign a2_person a2_number → ∀ (H : Heap) (locs : List Loc), va_P D vwCl [(q_t, .inr (2, [.int t_count, .ref q_t_signs])), (q_t_signs, .inl (cI, 60, .inl t_signs)), (q_a2, .inr (0, [.int a2_sign, .int a2_person, .int a2_number]))] H → va_D A [(q_t, .inr (2, [.int t_count, .ref q_t_signs])), (q_t_signs, .inl (cI, 60, .inl t_signs)), (q_a2, .inr (0, [.int a2_sign, .int a2_person, .int a2_number]))] → va_S A s.heap H locs → ∀ ls : Array Slot, lv_has ls 4 [(0, .ref q_t), (2, .ref q_a2), (3, .int x3)] → W p l e ({ frames := 3, cells := 0, slots := 0, locals := 64 } : Room) s m args below meth c H locs 0 0 Q (F0 m 67 ls []) := by
  obtain ⟨hx, hb, hml, hown, hts⟩ := id C0
  intro x3 a2_sign a2_person a2_number hf H locs hP hD hS ls hl
  unfold pX2_readAct_b67 at hf
  refine lv_aload_n hx hb dX2_readAct_67 rfl (lv_at hl 1 rfl) ?_
  refine lv_aload_n hx hb dX2_readAct_68 rfl (lv_at hl 0 rfl) ?_
  refine lv_iload_n hx hb dX2_readAct_69 rfl (lv_at hl 2 rfl) ?_
  refine xs_i (va_runV (As := [.int x3]) (rest := [.ref q_a2]) ⟨hx, hb, hml, hown, hts⟩ (kX2_digitAt l D cI cZ cJ cO q_t q_t_signs t_count t_signs x3 _ hf) (cwV 1 hts gX2_readAct_X2_digitAt rfl rfl rfl (by decide +kernel) ⟨Nat.le_of_ble_eq_true rfl, Nat.le_of_ble_eq_true rfl⟩) (B0_preV (ci := 2) (q0 := 0) hP rfl rfl (hP.sub (ws' := [(q_t, .inr (2, [.int t_count, .ref q_t_signs])), (q_t_signs, .inl (cI, 60, .inl t_signs))]) [0, 1] rfl) hK hN) rfl rfl hl.1 rfl (lv_room (Nat.le_of_ble_eq_true rfl)) dX2_readAct_70 ⟨Nat.zero_le _, Nat.zero_le _⟩) (fun r1 hf => ?_)
  refine va_put (D := D) (ci := 0) (v := .int r1) (ty := .int) (C := RX0) (T := TX0) (N := 3) hx hb hts nX2_readAct_X0 tyX0 tyX0_ok nmX0 hown hK hP hD hS 2 rfl rfl 2 (by decide) (hts _ mX2_readAct_3) (fun _ h9 => h9) rfl (by decide +kernel) rfl rfl (Nat.le_of_ble_eq_true rfl) dX2_readAct_73 (fun H locs hP hD hS => ?_)
  have hP : va_P D vwCl [(q_t, .inr (2, [.int t_count, .ref q_t_signs])), (q_t_signs, .inl (cI, 60, .inl t_signs)), (q_a2, .inr (0, [.int a2_sign, .int a2_person, .int r1]))] H := hP
  have hD : va_D A [(q_t, .inr (2, [.int t_count, .ref q_t_signs])), (q_t_signs, .inl (cI, 60, .inl t_signs)), (q_a2, .inr (0, [.int a2_sign, .int a2_person, .int r1]))] := hD
  obtain ⟨v2, ev2⟩ : ∃ y : Int32, y = x3 + 1 := ⟨_, rfl⟩
  have hf := hf v2 ev2
  refine lv_iinc (v := v2) (lv' := [(3, .int v2), (0, .ref q_t), (2, .ref q_a2)]) hx hb dX2_readAct_76 hl (k := 2) rfl (by rw [ev2]; rfl) (by decide) rfl (fun ls hl => ?_)
  refine lv_iload_n hx hb dX2_readAct_79 rfl (lv_at hl 0 rfl) ?_
  exact hret 80 ls H locs v2 (a2_sign, a2_person, r1) dX2_readAct_80 hf hP hD hS

def pX2_readAct_b28 (t_count : Int32) (t_signs : (Nat → Int32)) (a1 : Int32) (post : Int32 → (Int32 × Int32 × Int32) → Prop) (x3 : Int32) (a2_sign : Int32) (a2_person : Int32) (a2_number : Int32) : Prop :=
  pX2_signAt t_count t_signs x3 (fun r1 => ∀ v2 : Int32, v2 = x3 + 1 → ((r1 = 36 → (pX2_readAct_b67 t_count t_signs a1 post  v2 r1 a2_person a2_number)) ∧ (¬ r1 = 36 → ((r1 = 104 → (pX2_readAct_b67 t_count t_signs a1 post  v2 r1 a2_person a2_number)) ∧ (¬ r1 = 104 → ((¬ r1 = 100 → (post v2 (r1, a2_person, a2_number))) ∧ (r1 = 100 → (pX2_readAct_b67 t_count t_signs a1 post  v2 r1 a2_person a2_number))))))))

set_option maxHeartbeats 4000000 in
set_option maxRecDepth 100000 in
theorem wX2_readAct_b28 {p : Program} {l : Launch} {e : Env} {s : State} {m : MethodId} {args : Array Value} {below : List Frame} {meth : Method} {c : Code} {Q : State → Prop} {D : va_G} {cI cZ cJ cO : ClassId} {A : Nat → Prop} (C0 : CallFix p m c cX2_readAct 4 s args wsX2_readAct RX2) (hN : nw s) (hK : va_K D vwCl (tyL cI cZ cJ cO) s) (hA : ∀ q, s.heap.size ≤ q → A q) (q_t q_t_signs q_a2 : Nat)  (t_count : Int32) (t_signs : (Nat → Int32)) (a1 : Int32) (post : Int32 → (Int32 × Int32 × Int32) → Prop) (hret : hrI p l e ({ frames := 3, cells := 0, slots := 0, locals := 64 } : Room) s m args below meth c cX2_readAct D A Q post (fun u : Int32 × Int32 × Int32 => [(q_t, .inr (2, [.int t_count, .ref q_t_signs])), (q_t_signs, .inl (cI, 60, .inl t_signs)), (q_a2, .inr (0, [.int u.1, .int u.2.1, .int u.2.2]))])) :
    ∀ (x3 : Int32) (a2_sign : Int32) (a2_person : Int32) (a2_number : Int32), pX2_readAct_b28 t_count t_signs a1 post x3 a2_sign a2_person a2_number → ∀ (H : Heap) (locs : List Loc), va_P D vwCl [(q_t, .inr (2, [.int t_count, .ref q_t_signs])), (q_t_signs, .inl (cI, 60, .inl t_signs)), (q_a2, .inr (0, [.int a2_sign, .int a2_person, .int a2_number]))] H → va_D A [(q_t, .inr (2, [.int t_count, .ref q_t_signs])), (q_t_signs, .inl (cI, 60, .inl t_signs)), (q_a2, .inr (0, [.int a2_sign, .int a2_person, .int a2_number]))] → va_S A s.heap H locs → ∀ ls : Array Slot, lv_has ls 4 [(0, .ref q_t), (2, .ref q_a2), (3, .int x3)] → W p l e ({ frames := 3, cells := 0, slots := 0, locals := 64 } : Room) s m args below meth c H locs 0 0 Q (F0 m 28 ls []) := by
  obtain ⟨hx, hb, hml, hown, hts⟩ := id C0
  intro x3 a2_sign a2_person a2_number hf H locs hP hD hS ls hl
  unfold pX2_readAct_b28 at hf
  refine lv_aload_n hx hb dX2_readAct_28 rfl (lv_at hl 1 rfl) ?_
  refine lv_aload_n hx hb dX2_readAct_29 rfl (lv_at hl 0 rfl) ?_
  refine lv_iload_n hx hb dX2_readAct_30 rfl (lv_at hl 2 rfl) ?_
  refine xs_i (va_runV (As := [.int x3]) (rest := [.ref q_a2]) ⟨hx, hb, hml, hown, hts⟩ (kX2_signAt l D cI cZ cJ cO q_t q_t_signs t_count t_signs x3 _ hf) (cwV 1 hts gX2_readAct_X2_signAt rfl rfl rfl (by decide +kernel) ⟨Nat.le_of_ble_eq_true rfl, Nat.le_of_ble_eq_true rfl⟩) (B0_preV (ci := 2) (q0 := 0) hP rfl rfl (hP.sub (ws' := [(q_t, .inr (2, [.int t_count, .ref q_t_signs])), (q_t_signs, .inl (cI, 60, .inl t_signs))]) [0, 1] rfl) hK hN) rfl rfl hl.1 rfl (lv_room (Nat.le_of_ble_eq_true rfl)) dX2_readAct_31 ⟨Nat.zero_le _, Nat.zero_le _⟩) (fun r1 hf => ?_)
  refine va_put (D := D) (ci := 0) (v := .int r1) (ty := .int) (C := RX0) (T := TX0) (N := 3) hx hb hts nX2_readAct_X0 tyX0 tyX0_ok nmX0 hown hK hP hD hS 2 rfl rfl 0 (by decide) (hts _ mX2_readAct_2) (fun _ h9 => h9) rfl (by decide +kernel) rfl rfl (Nat.le_of_ble_eq_true rfl) dX2_readAct_34 (fun H locs hP hD hS => ?_)
  have hP : va_P D vwCl [(q_t, .inr (2, [.int t_count, .ref q_t_signs])), (q_t_signs, .inl (cI, 60, .inl t_signs)), (q_a2, .inr (0, [.int r1, .int a2_person, .int a2_number]))] H := hP
  have hD : va_D A [(q_t, .inr (2, [.int t_count, .ref q_t_signs])), (q_t_signs, .inl (cI, 60, .inl t_signs)), (q_a2, .inr (0, [.int r1, .int a2_person, .int a2_number]))] := hD
  obtain ⟨v2, ev2⟩ : ∃ y : Int32, y = x3 + 1 := ⟨_, rfl⟩
  have hf := hf v2 ev2
  refine lv_iinc (v := v2) (lv' := [(3, .int v2), (0, .ref q_t), (2, .ref q_a2)]) hx hb dX2_readAct_37 hl (k := 2) rfl (by rw [ev2]; rfl) (by decide) rfl (fun ls hl => ?_)
  refine lv_aload_n hx hb dX2_readAct_40 rfl (lv_at hl 2 rfl) ?_
  refine va_get (D := D) (ci := 0) (v := .int r1) (C := RX0) (T := TX0) (N := 3) hx hb hts nX2_readAct_X0 hown hK hP 2 rfl rfl 0 (by decide) (hts _ mX2_readAct_2) (fun _ h9 => h9) rfl dX2_readAct_41 ?_
  refine lv_bipush (v := 36) hx hb dX2_readAct_44 (by decide) ?_
  refine lv_icmp_eq (tgt := 67) hx hb dX2_readAct_46 (by decide) (fun c3 => ?_) (fun c3 => ?_)
  · have hf := hf.1 c3
    exact wX2_readAct_b67 C0 hN hK hA q_t q_t_signs q_a2 t_count t_signs a1 post hret   v2 r1 a2_person a2_number hf H locs hP hD hS ls (lv_sub hl [1, 2, 0] rfl)
  · have hf := hf.2 c3
    refine lv_aload_n hx hb dX2_readAct_49 rfl (lv_at hl 2 rfl) ?_
    refine va_get (D := D) (ci := 0) (v := .int r1) (C := RX0) (T := TX0) (N := 3) hx hb hts nX2_readAct_X0 hown hK hP 2 rfl rfl 0 (by decide) (hts _ mX2_readAct_2) (fun _ h9 => h9) rfl dX2_readAct_50 ?_
    refine lv_bipush (v := 104) hx hb dX2_readAct_53 (by decide) ?_
    refine lv_icmp_eq (tgt := 67) hx hb dX2_readAct_55 (by decide) (fun c4 => ?_) (fun c4 => ?_)
    · have hf := hf.1 c4
      exact wX2_readAct_b67 C0 hN hK hA q_t q_t_signs q_a2 t_count t_signs a1 post hret   v2 r1 a2_person a2_number hf H locs hP hD hS ls (lv_sub hl [1, 2, 0] rfl)
    · have hf := hf.2 c4
      refine lv_aload_n hx hb dX2_readAct_58 rfl (lv_at hl 2 rfl) ?_
      refine va_get (D := D) (ci := 0) (v := .int r1) (C := RX0) (T := TX0) (N := 3) hx hb hts nX2_readAct_X0 hown hK hP 2 rfl rfl 0 (by decide) (hts _ mX2_readAct_2) (fun _ h9 => h9) rfl dX2_readAct_59 ?_
      refine lv_bipush (v := 100) hx hb dX2_readAct_62 (by decide) ?_
      refine lv_icmp_ne (tgt := 79) hx hb dX2_readAct_64 (by decide) (fun c5 => ?_) (fun c5 => ?_)
      · have hf := hf.1 c5
        refine lv_iload_n hx hb dX2_readAct_79 rfl (lv_at hl 0 rfl) ?_
        exact hret 80 ls H locs v2 (r1, a2_person, a2_number) dX2_readAct_80 hf hP hD hS
      · have hf := hf.2 c5
        exact wX2_readAct_b67 C0 hN hK hA q_t q_t_signs q_a2 t_count t_signs a1 post hret   v2 r1 a2_person a2_number hf H locs hP hD hS ls (lv_sub hl [1, 2, 0] rfl)

def pX2_readAct (t_count : Int32) (t_signs : (Nat → Int32)) (a2_sign : Int32) (a2_person : Int32) (a2_number : Int32) (a1 : Int32) (post : Int32 → (Int32 × Int32 × Int32) → Prop) : Prop :=
  pX2_signAt t_count t_signs a1 (fun r1 => pX2_isLetter r1 (fun r2 => (r2 = 0 → (pX2_readAct_b28 t_count t_signs a1 post  a1 a2_sign a2_person a2_number)) ∧ (¬ r2 = 0 → (pX2_signAt t_count t_signs a1 (fun r4 => ∀ v5 : Int32, v5 = (r4 - 65) → (∀ v6 : Int32, v6 = a1 + 1 → (pX2_readAct_b28 t_count t_signs a1 post  v6 a2_sign v5 a2_number)))))))

set_option maxHeartbeats 4000000 in
set_option maxRecDepth 100000 in
theorem kX2_readAct (l : Launch) (D : va_G) (cI cZ cJ cO : ClassId) (q_t q_t_signs q_a2 : Nat) (sz : Nat)  (t_count : Int32) (t_signs : (Nat → Int32)) (a2_sign : Int32) (a2_person : Int32) (a2_number : Int32) (a1 : Int32) (post : Int32 → (Int32 × Int32 × Int32) → Prop) (hf : pX2_readAct t_count t_signs a2_sign a2_person a2_number a1 post) :
    Met l yX2_readAct wsX2_readAct ({ frames := 3, cells := 0, slots := 0, locals := 64 } : Room) (va_Pc [.ref q_t, .int a1, .ref q_a2] (B1 D (tyL cI cZ cJ cO) [(q_t, .inr (2, [.int t_count, .ref q_t_signs])), (q_t_signs, .inl (cI, 60, .inl t_signs)), (q_a2, .inr (0, [.int a2_sign, .int a2_person, .int a2_number]))] sz)) (va_Qi post (fun u t => E1 D (va_A [(q_t, .inr (2, [.int t_count, .ref q_t_signs])), (q_t_signs, .inl (cI, 60, .inl t_signs)), (q_a2, .inr (0, [.int a2_sign, .int a2_person, .int a2_number]))] sz) ((fun u : Int32 × Int32 × Int32 => [(q_t, .inr (2, [.int t_count, .ref q_t_signs])), (q_t_signs, .inl (cI, 60, .inl t_signs)), (q_a2, .inr (0, [.int u.1, .int u.2.1, .int u.2.2]))]) u) t) (va_A [(q_t, .inr (2, [.int t_count, .ref q_t_signs])), (q_t_signs, .inl (cI, 60, .inl t_signs)), (q_a2, .inr (0, [.int a2_sign, .int a2_person, .int a2_number]))] sz)) 0 0 (va_A [(q_t, .inr (2, [.int t_count, .ref q_t_signs])), (q_t_signs, .inl (cI, 60, .inl t_signs)), (q_a2, .inr (0, [.int a2_sign, .int a2_person, .int a2_number]))] sz) := by
  unfold pX2_readAct at hf
  refine xm_1i (own := RX2) (by decide) rfl rfl (Nat.le_of_ble_eq_true rfl) (fun p e s m args below meth c Q A C0 hN hK hA hret hP hD ls hl => ?_)
  obtain ⟨hx, hb, hml, hown, hts⟩ := id C0
  have hl : lv_has ls 4 [(0, .ref q_t), (1, .int a1), (2, .ref q_a2)] := hl
  have hS : va_S A s.heap s.heap [] := va_S.rf
  obtain ⟨H, hHe⟩ : ∃ H, H = s.heap := ⟨_, rfl⟩
  obtain ⟨locs, hLe⟩ : ∃ L : List Loc, L = [] := ⟨_, rfl⟩
  rw [← hLe]
  rw [← hLe] at hS
  have hP : va_P D vwCl [(q_t, .inr (2, [.int t_count, .ref q_t_signs])), (q_t_signs, .inl (cI, 60, .inl t_signs)), (q_a2, .inr (0, [.int a2_sign, .int a2_person, .int a2_number]))] H := by rw [hHe]; exact hP
  have hS : va_S A s.heap H locs := by rw [hHe]; exact hS
  suffices hgo : W p l e ({ frames := 3, cells := 0, slots := 0, locals := 64 } : Room) s m args below meth c H locs 0 0 Q (F0 m 0 ls []) by rw [← hHe]; exact hgo
  clear hHe hLe
  refine lv_iload_n hx hb dX2_readAct_0 rfl (lv_at hl 1 rfl) ?_
  refine lv_istore_n (lv' := [(3, .int a1), (0, .ref q_t), (1, .int a1), (2, .ref q_a2)]) hx hb dX2_readAct_1 rfl hl (by decide) rfl (fun ls hl => ?_)
  refine lv_aload_n hx hb dX2_readAct_2 rfl (lv_at hl 1 rfl) ?_
  refine lv_iload_n hx hb dX2_readAct_3 rfl (lv_at hl 0 rfl) ?_
  refine xs_i (va_runV (As := [.int a1]) (rest := []) ⟨hx, hb, hml, hown, hts⟩ (kX2_signAt l D cI cZ cJ cO q_t q_t_signs t_count t_signs a1 _ hf) (cwV 1 hts gX2_readAct_X2_signAt rfl rfl rfl (by decide +kernel) ⟨Nat.le_of_ble_eq_true rfl, Nat.le_of_ble_eq_true rfl⟩) (B0_preV (ci := 2) (q0 := 0) hP rfl rfl (hP.sub (ws' := [(q_t, .inr (2, [.int t_count, .ref q_t_signs])), (q_t_signs, .inl (cI, 60, .inl t_signs))]) [0, 1] rfl) hK hN) rfl rfl hl.1 rfl (lv_room (Nat.le_of_ble_eq_true rfl)) dX2_readAct_4 ⟨Nat.zero_le _, Nat.zero_le _⟩) (fun r1 hf => ?_)
  refine xs_i (va_runS (As := [.int r1]) (rest := []) ⟨hx, hb, hml, hown, hts⟩ (kX2_isLetter l D cI cZ cJ cO r1 _ hf) (va_cwS 1 hts gX2_readAct_X2_isLetter rfl rfl rfl (by decide +kernel) ⟨Nat.le_of_ble_eq_true rfl, Nat.le_of_ble_eq_true rfl⟩) (B0_pre (hP.sub (ws' := []) [] rfl) hK hN) rfl rfl hl.1 rfl (lv_room (Nat.le_of_ble_eq_true rfl)) dX2_readAct_7 ⟨Nat.zero_le _, Nat.zero_le _⟩) (fun r2 hf => ?_)
  refine lv_if_eq (tgt := 28) hx hb dX2_readAct_10 (by decide) (fun c3 => ?_) (fun c3 => ?_)
  · have hf := hf.1 c3
    exact wX2_readAct_b28 C0 hN hK hA q_t q_t_signs q_a2 t_count t_signs a1 post hret   a1 a2_sign a2_person a2_number hf H locs hP hD hS ls (lv_sub hl [1, 3, 0] rfl)
  · have hf := hf.2 c3
    refine lv_aload_n hx hb dX2_readAct_13 rfl (lv_at hl 3 rfl) ?_
    refine lv_aload_n hx hb dX2_readAct_14 rfl (lv_at hl 1 rfl) ?_
    refine lv_iload_n hx hb dX2_readAct_15 rfl (lv_at hl 0 rfl) ?_
    refine xs_i (va_runV (As := [.int a1]) (rest := [.ref q_a2]) ⟨hx, hb, hml, hown, hts⟩ (kX2_signAt l D cI cZ cJ cO q_t q_t_signs t_count t_signs a1 _ hf) (cwV 1 hts gX2_readAct_X2_signAt rfl rfl rfl (by decide +kernel) ⟨Nat.le_of_ble_eq_true rfl, Nat.le_of_ble_eq_true rfl⟩) (B0_preV (ci := 2) (q0 := 0) hP rfl rfl (hP.sub (ws' := [(q_t, .inr (2, [.int t_count, .ref q_t_signs])), (q_t_signs, .inl (cI, 60, .inl t_signs))]) [0, 1] rfl) hK hN) rfl rfl hl.1 rfl (lv_room (Nat.le_of_ble_eq_true rfl)) dX2_readAct_16 ⟨Nat.zero_le _, Nat.zero_le _⟩) (fun r4 hf => ?_)
    refine lv_bipush (v := 65) hx hb dX2_readAct_19 (by decide) ?_
    refine lv_isub hx hb dX2_readAct_21 ?_
    refine lv_topi (fun v5 ev5 => ?_)
    have hf := hf v5 ev5
    refine va_put (D := D) (ci := 0) (v := .int v5) (ty := .int) (C := RX0) (T := TX0) (N := 3) hx hb hts nX2_readAct_X0 tyX0 tyX0_ok nmX0 hown hK hP hD hS 2 rfl rfl 1 (by decide) (hts _ mX2_readAct_1) (fun _ h9 => h9) rfl (by decide +kernel) rfl rfl (Nat.le_of_ble_eq_true rfl) dX2_readAct_22 (fun H locs hP hD hS => ?_)
    have hP : va_P D vwCl [(q_t, .inr (2, [.int t_count, .ref q_t_signs])), (q_t_signs, .inl (cI, 60, .inl t_signs)), (q_a2, .inr (0, [.int a2_sign, .int v5, .int a2_number]))] H := hP
    have hD : va_D A [(q_t, .inr (2, [.int t_count, .ref q_t_signs])), (q_t_signs, .inl (cI, 60, .inl t_signs)), (q_a2, .inr (0, [.int a2_sign, .int v5, .int a2_number]))] := hD
    obtain ⟨v6, ev6⟩ : ∃ y : Int32, y = a1 + 1 := ⟨_, rfl⟩
    have hf := hf v6 ev6
    refine lv_iinc (v := v6) (lv' := [(3, .int v6), (0, .ref q_t), (1, .int a1), (2, .ref q_a2)]) hx hb dX2_readAct_25 hl (k := 0) rfl (by rw [ev6]; rfl) (by decide) rfl (fun ls hl => ?_)
    exact wX2_readAct_b28 C0 hN hK hA q_t q_t_signs q_a2 t_count t_signs a1 post hret   v6 a2_sign v5 a2_number hf H locs hP hD hS ls (lv_sub hl [1, 3, 0] rfl)

/-! X3_become -/
theorem mX3_become_1 : Cond.fieldLink RX3 9 "OxenKneel$Sights" "count" "I" ∈ wsX3_become := List.mem_of_getElem? (i := 1) rfl
theorem mX3_become_2 : Cond.fieldLink RX3 15 "OxenKneel$Sights" "hours" "[I" ∈ wsX3_become := List.mem_of_getElem? (i := 2) rfl
theorem mX3_become_3 : Cond.fieldLink RX3 19 "OxenKneel$Sights" "rang" "[Z" ∈ wsX3_become := List.mem_of_getElem? (i := 3) rfl
theorem nX3_become_X3 : ∀ w ∈ wsX30, w ∈ wsX3_become := fun _ h => List.mem_cons_of_mem _ (List.mem_append_right _ h)
def pX3_become_b10 (a1_count : Int32) (a1_hours : (Nat → Int32)) (a1_rang : (Nat → Int32)) (post : (Int32 × (Nat → Int32) × (Nat → Int32)) → Prop) : Nat → Int32 → Int32 → (Nat → Int32) → (Nat → Int32) → Prop
  | 0 => fun _ _ _ _ => False
  | n + 1 => fun x2 t_count t_hours t_rang => (8 ≤ x2 → (post (t_count, t_hours, t_rang))) ∧ (¬ 8 ≤ x2 → (vp_in x2 8 ∧ (∀ v3 : Int32, v3 = (a1_hours x2.toNatClampNeg) → (vp_in x2 8 ∧ (vp_in x2 8 ∧ (∀ v6 : Int32, v6 = (a1_rang x2.toNatClampNeg) → (vp_in x2 8 ∧ (∀ v8 : Int32, v8 = x2 + 1 → (pX3_become_b10 a1_count a1_hours a1_rang post  n v8 t_count (upd t_hours x2.toNatClampNeg v3) (upd t_rang x2.toNatClampNeg (vp_nar .boolean v6)))))))))))

set_option maxHeartbeats 4000000 in
set_option maxRecDepth 100000 in
theorem wX3_become_b10 {p : Program} {l : Launch} {e : Env} {s : State} {m : MethodId} {args : Array Value} {below : List Frame} {meth : Method} {c : Code} {Q : State → Prop} {D : va_G} {cI cZ cJ cO : ClassId} {A : Nat → Prop} (C0 : CallFix p m c cX3_become 3 s args wsX3_become RX3) (hN : nw s) (hK : va_K D vwCl (tyL cI cZ cJ cO) s) (hA : ∀ q, s.heap.size ≤ q → A q) (q_t q_t_hours q_t_rang q_a1 q_a1_hours q_a1_rang : Nat)  (a1_count : Int32) (a1_hours : (Nat → Int32)) (a1_rang : (Nat → Int32)) (post : (Int32 × (Nat → Int32) × (Nat → Int32)) → Prop) (hret : hrV p l e ({ frames := 0, cells := 0, slots := 0, locals := 0 } : Room) s m args below meth c cX3_become D A Q post (fun u : Int32 × (Nat → Int32) × (Nat → Int32) => [(q_t, .inr (3, [.int u.1, .ref q_t_hours, .ref q_t_rang])), (q_t_hours, .inl (cI, 8, .inl u.2.1)), (q_t_rang, .inl (cZ, 8, .inl u.2.2)), (q_a1, .inr (3, [.int a1_count, .ref q_a1_hours, .ref q_a1_rang])), (q_a1_hours, .inl (cI, 8, .inl a1_hours)), (q_a1_rang, .inl (cZ, 8, .inl a1_rang))])) :
    ∀ (n : Nat) (x2 : Int32) (t_count : Int32) (t_hours : (Nat → Int32)) (t_rang : (Nat → Int32)), pX3_become_b10 a1_count a1_hours a1_rang post n x2 t_count t_hours t_rang → ∀ (H : Heap) (locs : List Loc), va_P D vwCl [(q_t, .inr (3, [.int t_count, .ref q_t_hours, .ref q_t_rang])), (q_t_hours, .inl (cI, 8, .inl t_hours)), (q_t_rang, .inl (cZ, 8, .inl t_rang)), (q_a1, .inr (3, [.int a1_count, .ref q_a1_hours, .ref q_a1_rang])), (q_a1_hours, .inl (cI, 8, .inl a1_hours)), (q_a1_rang, .inl (cZ, 8, .inl a1_rang))] H → va_D A [(q_t, .inr (3, [.int t_count, .ref q_t_hours, .ref q_t_rang])), (q_t_hours, .inl (cI, 8, .inl t_hours)), (q_t_rang, .inl (cZ, 8, .inl t_rang)), (q_a1, .inr (3, [.int a1_count, .ref q_a1_hours, .ref q_a1_rang])), (q_a1_hours, .inl (cI, 8, .inl a1_hours)), (q_a1_rang, .inl (cZ, 8, .inl a1_rang))] → va_S A s.heap H locs → ∀ ls : Array Slot, lv_has ls 3 [(0, .ref q_t), (1, .ref q_a1), (2, .int x2)] → W p l e ({ frames := 0, cells := 0, slots := 0, locals := 0 } : Room) s m args below meth c H locs 0 0 Q (F0 m 10 ls []) := by
  obtain ⟨hx, hb, hml, hown, hts⟩ := id C0
  intro n
  induction n with
  | zero =>
    intro x2 t_count t_hours t_rang hf
    exact False.elim hf
  | succ n ih =>
    intro x2 t_count t_hours t_rang hf H locs hP hD hS ls hl
    rw [pX3_become_b10] at hf
    refine lv_iload_n hx hb dX3_become_10 rfl (lv_at hl 2 rfl) ?_
    refine lv_bipush (v := 8) hx hb dX3_become_11 (by decide) ?_
    refine lv_icmp_ge (tgt := 46) hx hb dX3_become_13 (by decide) (fun c1 => ?_) (fun c1 => ?_)
    · have hf := hf.1 c1
      exact hret 46 ls H locs (t_count, t_hours, t_rang) dX3_become_46 hf hP hD hS
    · have hf := hf.2 c1
      refine lv_aload_n hx hb dX3_become_16 rfl (lv_at hl 0 rfl) ?_
      refine va_get (D := D) (ci := 3) (v := .ref q_t_hours) (C := RX3) (T := TX3) (N := 3) hx hb hts nX3_become_X3 hown hK hP 0 rfl rfl 1 (by decide) (hts _ mX3_become_2) (fun _ h9 => h9) rfl dX3_become_17 ?_
      refine lv_iload_n hx hb dX3_become_20 rfl (lv_at hl 2 rfl) ?_
      refine lv_aload_n hx hb dX3_become_21 rfl (lv_at hl 1 rfl) ?_
      refine va_get (D := D) (ci := 3) (v := .ref q_a1_hours) (C := RX3) (T := TX3) (N := 3) hx hb hts nX3_become_X3 hown hK hP 3 rfl rfl 1 (by decide) (hts _ mX3_become_2) (fun _ h9 => h9) rfl dX3_become_22 ?_
      refine lv_iload_n hx hb dX3_become_25 rfl (lv_at hl 2 rfl) ?_
      have g2 := hf.1
      have hf := hf.2
      refine xa_iald hx hb hK hP 4 0 rfl rfl (j := x2.toNatClampNeg) rfl g2 dX3_become_26 ?_
      refine lv_topi (fun v3 ev3 => ?_)
      have hf := hf v3 ev3
      have g4 := hf.1
      have hf := hf.2
      refine xa_iast hx hb hK hP hD hS 1 0 rfl rfl (j := x2.toNatClampNeg) rfl g4 dX3_become_27 (fun H locs hP hD hS => ?_)
      have hP : va_P D vwCl [(q_t, .inr (3, [.int t_count, .ref q_t_hours, .ref q_t_rang])), (q_t_hours, .inl (cI, 8, .inl (upd t_hours x2.toNatClampNeg v3))), (q_t_rang, .inl (cZ, 8, .inl t_rang)), (q_a1, .inr (3, [.int a1_count, .ref q_a1_hours, .ref q_a1_rang])), (q_a1_hours, .inl (cI, 8, .inl a1_hours)), (q_a1_rang, .inl (cZ, 8, .inl a1_rang))] H := hP
      have hD : va_D A [(q_t, .inr (3, [.int t_count, .ref q_t_hours, .ref q_t_rang])), (q_t_hours, .inl (cI, 8, .inl (upd t_hours x2.toNatClampNeg v3))), (q_t_rang, .inl (cZ, 8, .inl t_rang)), (q_a1, .inr (3, [.int a1_count, .ref q_a1_hours, .ref q_a1_rang])), (q_a1_hours, .inl (cI, 8, .inl a1_hours)), (q_a1_rang, .inl (cZ, 8, .inl a1_rang))] := hD
      refine lv_aload_n hx hb dX3_become_28 rfl (lv_at hl 0 rfl) ?_
      refine va_get (D := D) (ci := 3) (v := .ref q_t_rang) (C := RX3) (T := TX3) (N := 3) hx hb hts nX3_become_X3 hown hK hP 0 rfl rfl 2 (by decide) (hts _ mX3_become_3) (fun _ h9 => h9) rfl dX3_become_29 ?_
      refine lv_iload_n hx hb dX3_become_32 rfl (lv_at hl 2 rfl) ?_
      refine lv_aload_n hx hb dX3_become_33 rfl (lv_at hl 1 rfl) ?_
      refine va_get (D := D) (ci := 3) (v := .ref q_a1_rang) (C := RX3) (T := TX3) (N := 3) hx hb hts nX3_become_X3 hown hK hP 3 rfl rfl 2 (by decide) (hts _ mX3_become_3) (fun _ h9 => h9) rfl dX3_become_34 ?_
      refine lv_iload_n hx hb dX3_become_37 rfl (lv_at hl 2 rfl) ?_
      have g5 := hf.1
      have hf := hf.2
      refine xa_zald hx hb hK hP 5 1 rfl rfl (j := x2.toNatClampNeg) rfl g5 dX3_become_38 ?_
      refine lv_topi (fun v6 ev6 => ?_)
      have hf := hf v6 ev6
      have g7 := hf.1
      have hf := hf.2
      refine xa_zast hx hb hK hP hD hS 2 1 rfl rfl (j := x2.toNatClampNeg) rfl g7 dX3_become_39 (fun H locs hP hD hS => ?_)
      have hP : va_P D vwCl [(q_t, .inr (3, [.int t_count, .ref q_t_hours, .ref q_t_rang])), (q_t_hours, .inl (cI, 8, .inl (upd t_hours x2.toNatClampNeg v3))), (q_t_rang, .inl (cZ, 8, .inl (upd t_rang x2.toNatClampNeg (vp_nar .boolean v6)))), (q_a1, .inr (3, [.int a1_count, .ref q_a1_hours, .ref q_a1_rang])), (q_a1_hours, .inl (cI, 8, .inl a1_hours)), (q_a1_rang, .inl (cZ, 8, .inl a1_rang))] H := hP
      have hD : va_D A [(q_t, .inr (3, [.int t_count, .ref q_t_hours, .ref q_t_rang])), (q_t_hours, .inl (cI, 8, .inl (upd t_hours x2.toNatClampNeg v3))), (q_t_rang, .inl (cZ, 8, .inl (upd t_rang x2.toNatClampNeg (vp_nar .boolean v6)))), (q_a1, .inr (3, [.int a1_count, .ref q_a1_hours, .ref q_a1_rang])), (q_a1_hours, .inl (cI, 8, .inl a1_hours)), (q_a1_rang, .inl (cZ, 8, .inl a1_rang))] := hD
      obtain ⟨v8, ev8⟩ : ∃ y : Int32, y = x2 + 1 := ⟨_, rfl⟩
      have hf := hf v8 ev8
      refine lv_iinc (v := v8) (lv' := [(2, .int v8), (0, .ref q_t), (1, .ref q_a1)]) hx hb dX3_become_40 hl (k := 2) rfl (by rw [ev8]; rfl) (by decide) rfl (fun ls hl => ?_)
      refine lv_goto (tgt := 10) hx hb dX3_become_43 (by decide) ?_
      exact ih v8 t_count (upd t_hours x2.toNatClampNeg v3) (upd t_rang x2.toNatClampNeg (vp_nar .boolean v6)) hf H locs hP hD hS ls (lv_sub hl [1, 2, 0] rfl)

def pX3_become (t_count : Int32) (t_hours : (Nat → Int32)) (t_rang : (Nat → Int32)) (a1_count : Int32) (a1_hours : (Nat → Int32)) (a1_rang : (Nat → Int32))  (post : (Int32 × (Nat → Int32) × (Nat → Int32)) → Prop) : Prop :=
  ∃ n1, pX3_become_b10 a1_count a1_hours a1_rang post  n1 0 a1_count t_hours t_rang

set_option maxHeartbeats 4000000 in
set_option maxRecDepth 100000 in
theorem kX3_become (l : Launch) (D : va_G) (cI cZ cJ cO : ClassId) (q_t q_t_hours q_t_rang q_a1 q_a1_hours q_a1_rang : Nat) (sz : Nat)  (t_count : Int32) (t_hours : (Nat → Int32)) (t_rang : (Nat → Int32)) (a1_count : Int32) (a1_hours : (Nat → Int32)) (a1_rang : (Nat → Int32))  (post : (Int32 × (Nat → Int32) × (Nat → Int32)) → Prop) (hf : pX3_become t_count t_hours t_rang a1_count a1_hours a1_rang post) :
    Met l yX3_become wsX3_become ({ frames := 0, cells := 0, slots := 0, locals := 0 } : Room) (va_Pc [.ref q_t, .ref q_a1] (B1 D (tyL cI cZ cJ cO) [(q_t, .inr (3, [.int t_count, .ref q_t_hours, .ref q_t_rang])), (q_t_hours, .inl (cI, 8, .inl t_hours)), (q_t_rang, .inl (cZ, 8, .inl t_rang)), (q_a1, .inr (3, [.int a1_count, .ref q_a1_hours, .ref q_a1_rang])), (q_a1_hours, .inl (cI, 8, .inl a1_hours)), (q_a1_rang, .inl (cZ, 8, .inl a1_rang))] sz)) (va_Qv post (fun u t => E1 D (va_A [(q_t, .inr (3, [.int t_count, .ref q_t_hours, .ref q_t_rang])), (q_t_hours, .inl (cI, 8, .inl t_hours)), (q_t_rang, .inl (cZ, 8, .inl t_rang)), (q_a1, .inr (3, [.int a1_count, .ref q_a1_hours, .ref q_a1_rang])), (q_a1_hours, .inl (cI, 8, .inl a1_hours)), (q_a1_rang, .inl (cZ, 8, .inl a1_rang))] sz) ((fun u : Int32 × (Nat → Int32) × (Nat → Int32) => [(q_t, .inr (3, [.int u.1, .ref q_t_hours, .ref q_t_rang])), (q_t_hours, .inl (cI, 8, .inl u.2.1)), (q_t_rang, .inl (cZ, 8, .inl u.2.2)), (q_a1, .inr (3, [.int a1_count, .ref q_a1_hours, .ref q_a1_rang])), (q_a1_hours, .inl (cI, 8, .inl a1_hours)), (q_a1_rang, .inl (cZ, 8, .inl a1_rang))]) u) t) (va_A [(q_t, .inr (3, [.int t_count, .ref q_t_hours, .ref q_t_rang])), (q_t_hours, .inl (cI, 8, .inl t_hours)), (q_t_rang, .inl (cZ, 8, .inl t_rang)), (q_a1, .inr (3, [.int a1_count, .ref q_a1_hours, .ref q_a1_rang])), (q_a1_hours, .inl (cI, 8, .inl a1_hours)), (q_a1_rang, .inl (cZ, 8, .inl a1_rang))] sz)) 0 0 (va_A [(q_t, .inr (3, [.int t_count, .ref q_t_hours, .ref q_t_rang])), (q_t_hours, .inl (cI, 8, .inl t_hours)), (q_t_rang, .inl (cZ, 8, .inl t_rang)), (q_a1, .inr (3, [.int a1_count, .ref q_a1_hours, .ref q_a1_rang])), (q_a1_hours, .inl (cI, 8, .inl a1_hours)), (q_a1_rang, .inl (cZ, 8, .inl a1_rang))] sz) := by
  unfold pX3_become at hf
  refine xm_1v (own := RX3) (by decide) rfl rfl (Nat.le_of_ble_eq_true rfl) (fun p e s m args below meth c Q A C0 hN hK hA hret hP hD ls hl => ?_)
  obtain ⟨hx, hb, hml, hown, hts⟩ := id C0
  have hl : lv_has ls 3 [(0, .ref q_t), (1, .ref q_a1)] := hl
  have hS : va_S A s.heap s.heap [] := va_S.rf
  obtain ⟨H, hHe⟩ : ∃ H, H = s.heap := ⟨_, rfl⟩
  obtain ⟨locs, hLe⟩ : ∃ L : List Loc, L = [] := ⟨_, rfl⟩
  rw [← hLe]
  rw [← hLe] at hS
  have hP : va_P D vwCl [(q_t, .inr (3, [.int t_count, .ref q_t_hours, .ref q_t_rang])), (q_t_hours, .inl (cI, 8, .inl t_hours)), (q_t_rang, .inl (cZ, 8, .inl t_rang)), (q_a1, .inr (3, [.int a1_count, .ref q_a1_hours, .ref q_a1_rang])), (q_a1_hours, .inl (cI, 8, .inl a1_hours)), (q_a1_rang, .inl (cZ, 8, .inl a1_rang))] H := by rw [hHe]; exact hP
  have hS : va_S A s.heap H locs := by rw [hHe]; exact hS
  suffices hgo : W p l e ({ frames := 0, cells := 0, slots := 0, locals := 0 } : Room) s m args below meth c H locs 0 0 Q (F0 m 0 ls []) by rw [← hHe]; exact hgo
  clear hHe hLe
  refine lv_aload_n hx hb dX3_become_0 rfl (lv_at hl 0 rfl) ?_
  refine lv_aload_n hx hb dX3_become_1 rfl (lv_at hl 1 rfl) ?_
  refine va_get (D := D) (ci := 3) (v := .int a1_count) (C := RX3) (T := TX3) (N := 3) hx hb hts nX3_become_X3 hown hK hP 3 rfl rfl 0 (by decide) (hts _ mX3_become_1) (fun _ h9 => h9) rfl dX3_become_2 ?_
  refine va_put (D := D) (ci := 3) (v := .int a1_count) (ty := .int) (C := RX3) (T := TX3) (N := 3) hx hb hts nX3_become_X3 tyX3 tyX3_ok nmX3 hown hK hP hD hS 0 rfl rfl 0 (by decide) (hts _ mX3_become_1) (fun _ h9 => h9) rfl (by decide +kernel) rfl rfl (Nat.le_of_ble_eq_true rfl) dX3_become_5 (fun H locs hP hD hS => ?_)
  have hP : va_P D vwCl [(q_t, .inr (3, [.int a1_count, .ref q_t_hours, .ref q_t_rang])), (q_t_hours, .inl (cI, 8, .inl t_hours)), (q_t_rang, .inl (cZ, 8, .inl t_rang)), (q_a1, .inr (3, [.int a1_count, .ref q_a1_hours, .ref q_a1_rang])), (q_a1_hours, .inl (cI, 8, .inl a1_hours)), (q_a1_rang, .inl (cZ, 8, .inl a1_rang))] H := hP
  have hD : va_D A [(q_t, .inr (3, [.int a1_count, .ref q_t_hours, .ref q_t_rang])), (q_t_hours, .inl (cI, 8, .inl t_hours)), (q_t_rang, .inl (cZ, 8, .inl t_rang)), (q_a1, .inr (3, [.int a1_count, .ref q_a1_hours, .ref q_a1_rang])), (q_a1_hours, .inl (cI, 8, .inl a1_hours)), (q_a1_rang, .inl (cZ, 8, .inl a1_rang))] := hD
  refine lv_iconst (v := 0) hx hb dX3_become_8 (by decide) ?_
  refine lv_istore_n (lv' := [(2, .int 0), (0, .ref q_t), (1, .ref q_a1)]) hx hb dX3_become_9 rfl hl (by decide) rfl (fun ls hl => ?_)
  obtain ⟨n1, hf⟩ := hf
  exact wX3_become_b10 C0 hN hK hA q_t q_t_hours q_t_rang q_a1 q_a1_hours q_a1_rang a1_count a1_hours a1_rang post hret   n1 0 a1_count t_hours t_rang hf H locs hP hD hS ls (lv_sub hl [1, 2, 0] rfl)

/-! X3_add -/
theorem mX3_add_1 : Cond.fieldLink RX3 9 "OxenKneel$Sights" "count" "I" ∈ wsX3_add := List.mem_of_getElem? (i := 1) rfl
theorem mX3_add_5 : Cond.initialized RX6 ∈ wsX3_add := List.mem_of_getElem? (i := 5) rfl
theorem mX3_add_4 : Cond.static yX6_isIn ∈ wsX3_add := List.mem_of_getElem? (i := 4) rfl
theorem mX3_add_2 : Cond.fieldLink RX3 15 "OxenKneel$Sights" "hours" "[I" ∈ wsX3_add := List.mem_of_getElem? (i := 2) rfl
theorem mX3_add_3 : Cond.fieldLink RX3 19 "OxenKneel$Sights" "rang" "[Z" ∈ wsX3_add := List.mem_of_getElem? (i := 3) rfl
theorem nX3_add_X3 : ∀ w ∈ wsX30, w ∈ wsX3_add := fun _ h => List.mem_cons_of_mem _ (List.mem_append_right _ h)
def pX3_add (t_count : Int32) (t_hours : (Nat → Int32)) (t_rang : (Nat → Int32)) (a1 : Int32) (a2 : Int32) (post : Int32 → (Int32 × (Nat → Int32) × (Nat → Int32)) → Prop) : Prop :=
  pX6_isIn t_count 0 7 (fun r1 => (¬ r1 = 0 → (vp_in t_count 8 ∧ (vp_in t_count 8 ∧ (∀ v5 : Int32, v5 = (t_count + 1) → (post 1 (v5, (upd t_hours t_count.toNatClampNeg a1), (upd t_rang t_count.toNatClampNeg (vp_nar .boolean a2)))))))) ∧ (r1 = 0 → (post 0 (t_count, t_hours, t_rang))))

set_option maxHeartbeats 4000000 in
set_option maxRecDepth 100000 in
theorem kX3_add (l : Launch) (D : va_G) (cI cZ cJ cO : ClassId) (q_t q_t_hours q_t_rang : Nat) (sz : Nat)  (t_count : Int32) (t_hours : (Nat → Int32)) (t_rang : (Nat → Int32)) (a1 : Int32) (a2 : Int32) (post : Int32 → (Int32 × (Nat → Int32) × (Nat → Int32)) → Prop) (hf : pX3_add t_count t_hours t_rang a1 a2 post) :
    Met l yX3_add wsX3_add ({ frames := 1, cells := 0, slots := 0, locals := 22 } : Room) (va_Pc [.ref q_t, .int a1, .int a2] (B1 D (tyL cI cZ cJ cO) [(q_t, .inr (3, [.int t_count, .ref q_t_hours, .ref q_t_rang])), (q_t_hours, .inl (cI, 8, .inl t_hours)), (q_t_rang, .inl (cZ, 8, .inl t_rang))] sz)) (va_Qi post (fun u t => E1 D (va_A [(q_t, .inr (3, [.int t_count, .ref q_t_hours, .ref q_t_rang])), (q_t_hours, .inl (cI, 8, .inl t_hours)), (q_t_rang, .inl (cZ, 8, .inl t_rang))] sz) ((fun u : Int32 × (Nat → Int32) × (Nat → Int32) => [(q_t, .inr (3, [.int u.1, .ref q_t_hours, .ref q_t_rang])), (q_t_hours, .inl (cI, 8, .inl u.2.1)), (q_t_rang, .inl (cZ, 8, .inl u.2.2))]) u) t) (va_A [(q_t, .inr (3, [.int t_count, .ref q_t_hours, .ref q_t_rang])), (q_t_hours, .inl (cI, 8, .inl t_hours)), (q_t_rang, .inl (cZ, 8, .inl t_rang))] sz)) 0 0 (va_A [(q_t, .inr (3, [.int t_count, .ref q_t_hours, .ref q_t_rang])), (q_t_hours, .inl (cI, 8, .inl t_hours)), (q_t_rang, .inl (cZ, 8, .inl t_rang))] sz) := by
  unfold pX3_add at hf
  refine xm_1z (own := RX3) (by decide) rfl rfl (Nat.le_of_ble_eq_true rfl) (fun p e s m args below meth c Q A C0 hN hK hA hret hP hD ls hl => ?_)
  obtain ⟨hx, hb, hml, hown, hts⟩ := id C0
  have hl : lv_has ls 3 [(0, .ref q_t), (1, .int a1), (2, .int a2)] := hl
  have hS : va_S A s.heap s.heap [] := va_S.rf
  obtain ⟨H, hHe⟩ : ∃ H, H = s.heap := ⟨_, rfl⟩
  obtain ⟨locs, hLe⟩ : ∃ L : List Loc, L = [] := ⟨_, rfl⟩
  rw [← hLe]
  rw [← hLe] at hS
  have hP : va_P D vwCl [(q_t, .inr (3, [.int t_count, .ref q_t_hours, .ref q_t_rang])), (q_t_hours, .inl (cI, 8, .inl t_hours)), (q_t_rang, .inl (cZ, 8, .inl t_rang))] H := by rw [hHe]; exact hP
  have hS : va_S A s.heap H locs := by rw [hHe]; exact hS
  suffices hgo : W p l e ({ frames := 1, cells := 0, slots := 0, locals := 22 } : Room) s m args below meth c H locs 0 0 Q (F0 m 0 ls []) by rw [← hHe]; exact hgo
  clear hHe hLe
  refine lv_aload_n hx hb dX3_add_0 rfl (lv_at hl 0 rfl) ?_
  refine va_get (D := D) (ci := 3) (v := .int t_count) (C := RX3) (T := TX3) (N := 3) hx hb hts nX3_add_X3 hown hK hP 0 rfl rfl 0 (by decide) (hts _ mX3_add_1) (fun _ h9 => h9) rfl dX3_add_1 ?_
  refine lv_iconst (v := 0) hx hb dX3_add_4 (by decide) ?_
  refine lv_bipush (v := 7) hx hb dX3_add_5 (by decide) ?_
  refine xs_i (va_runSN (As := [.int t_count, .int 0, .int 7]) (rest := []) ⟨hx, hb, hml, hown, hts⟩ (kX6_isIn l D cI cZ cJ cO t_count 0 7 _ hf) ⟨va_cnB 3 hts gX3_add_X6_isIn_n23 rfl rfl rfl (nw_at hN 9 rfl) (hts _ mX3_add_5) (by decide +kernel) ⟨Nat.le_of_ble_eq_true rfl, Nat.le_of_ble_eq_true rfl⟩, hts _ mX3_add_4, trivial⟩ (B0_pre (hP.sub (ws' := []) [] rfl) hK hN) rfl rfl hl.1 rfl (lv_room (Nat.le_of_ble_eq_true rfl)) dX3_add_7 ⟨Nat.zero_le _, Nat.zero_le _⟩) (fun r1 hf => ?_)
  refine lv_if_ne (tgt := 15) hx hb dX3_add_10 (by decide) (fun c2 => ?_) (fun c2 => ?_)
  · have hf := hf.1 c2
    refine lv_aload_n hx hb dX3_add_15 rfl (lv_at hl 0 rfl) ?_
    refine va_get (D := D) (ci := 3) (v := .ref q_t_hours) (C := RX3) (T := TX3) (N := 3) hx hb hts nX3_add_X3 hown hK hP 0 rfl rfl 1 (by decide) (hts _ mX3_add_2) (fun _ h9 => h9) rfl dX3_add_16 ?_
    refine lv_aload_n hx hb dX3_add_19 rfl (lv_at hl 0 rfl) ?_
    refine va_get (D := D) (ci := 3) (v := .int t_count) (C := RX3) (T := TX3) (N := 3) hx hb hts nX3_add_X3 hown hK hP 0 rfl rfl 0 (by decide) (hts _ mX3_add_1) (fun _ h9 => h9) rfl dX3_add_20 ?_
    refine lv_iload_n hx hb dX3_add_23 rfl (lv_at hl 1 rfl) ?_
    have g3 := hf.1
    have hf := hf.2
    refine xa_iast hx hb hK hP hD hS 1 0 rfl rfl (j := t_count.toNatClampNeg) rfl g3 dX3_add_24 (fun H locs hP hD hS => ?_)
    have hP : va_P D vwCl [(q_t, .inr (3, [.int t_count, .ref q_t_hours, .ref q_t_rang])), (q_t_hours, .inl (cI, 8, .inl (upd t_hours t_count.toNatClampNeg a1))), (q_t_rang, .inl (cZ, 8, .inl t_rang))] H := hP
    have hD : va_D A [(q_t, .inr (3, [.int t_count, .ref q_t_hours, .ref q_t_rang])), (q_t_hours, .inl (cI, 8, .inl (upd t_hours t_count.toNatClampNeg a1))), (q_t_rang, .inl (cZ, 8, .inl t_rang))] := hD
    refine lv_aload_n hx hb dX3_add_25 rfl (lv_at hl 0 rfl) ?_
    refine va_get (D := D) (ci := 3) (v := .ref q_t_rang) (C := RX3) (T := TX3) (N := 3) hx hb hts nX3_add_X3 hown hK hP 0 rfl rfl 2 (by decide) (hts _ mX3_add_3) (fun _ h9 => h9) rfl dX3_add_26 ?_
    refine lv_aload_n hx hb dX3_add_29 rfl (lv_at hl 0 rfl) ?_
    refine va_get (D := D) (ci := 3) (v := .int t_count) (C := RX3) (T := TX3) (N := 3) hx hb hts nX3_add_X3 hown hK hP 0 rfl rfl 0 (by decide) (hts _ mX3_add_1) (fun _ h9 => h9) rfl dX3_add_30 ?_
    refine lv_iload_n hx hb dX3_add_33 rfl (lv_at hl 2 rfl) ?_
    have g4 := hf.1
    have hf := hf.2
    refine xa_zast hx hb hK hP hD hS 2 1 rfl rfl (j := t_count.toNatClampNeg) rfl g4 dX3_add_34 (fun H locs hP hD hS => ?_)
    have hP : va_P D vwCl [(q_t, .inr (3, [.int t_count, .ref q_t_hours, .ref q_t_rang])), (q_t_hours, .inl (cI, 8, .inl (upd t_hours t_count.toNatClampNeg a1))), (q_t_rang, .inl (cZ, 8, .inl (upd t_rang t_count.toNatClampNeg (vp_nar .boolean a2))))] H := hP
    have hD : va_D A [(q_t, .inr (3, [.int t_count, .ref q_t_hours, .ref q_t_rang])), (q_t_hours, .inl (cI, 8, .inl (upd t_hours t_count.toNatClampNeg a1))), (q_t_rang, .inl (cZ, 8, .inl (upd t_rang t_count.toNatClampNeg (vp_nar .boolean a2))))] := hD
    refine lv_aload_n hx hb dX3_add_35 rfl (lv_at hl 0 rfl) ?_
    refine lv_dup hx hb dX3_add_36 rfl ?_
    refine va_get (D := D) (ci := 3) (v := .int t_count) (C := RX3) (T := TX3) (N := 3) hx hb hts nX3_add_X3 hown hK hP 0 rfl rfl 0 (by decide) (hts _ mX3_add_1) (fun _ h9 => h9) rfl dX3_add_37 ?_
    refine lv_iconst (v := 1) hx hb dX3_add_40 (by decide) ?_
    refine lv_iadd hx hb dX3_add_41 ?_
    refine lv_topi (fun v5 ev5 => ?_)
    have hf := hf v5 ev5
    refine va_put (D := D) (ci := 3) (v := .int v5) (ty := .int) (C := RX3) (T := TX3) (N := 3) hx hb hts nX3_add_X3 tyX3 tyX3_ok nmX3 hown hK hP hD hS 0 rfl rfl 0 (by decide) (hts _ mX3_add_1) (fun _ h9 => h9) rfl (by decide +kernel) rfl rfl (Nat.le_of_ble_eq_true rfl) dX3_add_42 (fun H locs hP hD hS => ?_)
    have hP : va_P D vwCl [(q_t, .inr (3, [.int v5, .ref q_t_hours, .ref q_t_rang])), (q_t_hours, .inl (cI, 8, .inl (upd t_hours t_count.toNatClampNeg a1))), (q_t_rang, .inl (cZ, 8, .inl (upd t_rang t_count.toNatClampNeg (vp_nar .boolean a2))))] H := hP
    have hD : va_D A [(q_t, .inr (3, [.int v5, .ref q_t_hours, .ref q_t_rang])), (q_t_hours, .inl (cI, 8, .inl (upd t_hours t_count.toNatClampNeg a1))), (q_t_rang, .inl (cZ, 8, .inl (upd t_rang t_count.toNatClampNeg (vp_nar .boolean a2))))] := hD
    refine lv_iconst (v := 1) hx hb dX3_add_45 (by decide) ?_
    exact hret 46 ls H locs 1 (v5, (upd t_hours t_count.toNatClampNeg a1), (upd t_rang t_count.toNatClampNeg (vp_nar .boolean a2))) dX3_add_46 rfl hf hP hD hS
  · have hf := hf.2 c2
    refine lv_iconst (v := 0) hx hb dX3_add_13 (by decide) ?_
    exact hret 14 ls H locs 0 (t_count, t_hours, t_rang) dX3_add_14 rfl hf hP hD hS

/-! X3_fits -/
theorem mX3_fits_1 : Cond.fieldLink RX3 9 "OxenKneel$Sights" "count" "I" ∈ wsX3_fits := List.mem_of_getElem? (i := 1) rfl
theorem mX3_fits_2 : Cond.fieldLink RX3 19 "OxenKneel$Sights" "rang" "[Z" ∈ wsX3_fits := List.mem_of_getElem? (i := 2) rfl
theorem mX3_fits_3 : Cond.fieldLink RX3 15 "OxenKneel$Sights" "hours" "[I" ∈ wsX3_fits := List.mem_of_getElem? (i := 3) rfl
theorem nX3_fits_X3 : ∀ w ∈ wsX30, w ∈ wsX3_fits := fun _ h => List.mem_cons_of_mem _ (List.mem_append_right _ h)
def pX3_fits_b45 (t_count : Int32) (t_hours : (Nat → Int32)) (t_rang : (Nat → Int32)) (a1 : Int32) (a2 : Int32) (post : Int32 → Prop) (k8 : Int32 → Prop) (x3 : Int32) (s0 : Int32) (s1 : Int32) : Prop :=
  (s1 = s0 → (∀ v2 : Int32, v2 = x3 + 1 → (k8 v2))) ∧ (¬ s1 = s0 → (post 0))

set_option maxHeartbeats 4000000 in
set_option maxRecDepth 100000 in
theorem wX3_fits_b45 {p : Program} {l : Launch} {e : Env} {s : State} {m : MethodId} {args : Array Value} {below : List Frame} {meth : Method} {c : Code} {Q : State → Prop} {D : va_G} {cI cZ cJ cO : ClassId} (C0 : CallFix p m c cX3_fits 4 s args wsX3_fits RX3) (hN : nw s) (hK : va_K D vwCl (tyL cI cZ cJ cO) s) (q_t q_t_hours q_t_rang : Nat)  (t_count : Int32) (t_hours : (Nat → Int32)) (t_rang : (Nat → Int32)) (a1 : Int32) (a2 : Int32) (post : Int32 → Prop) (hret : h0Z p l e ({ frames := 0, cells := 0, slots := 0, locals := 0 } : Room) s m args below meth c cX3_fits Q post) (hP : va_P D vwCl [(q_t, .inr (3, [.int t_count, .ref q_t_hours, .ref q_t_rang])), (q_t_hours, .inl (cI, 8, .inl t_hours)), (q_t_rang, .inl (cZ, 8, .inl t_rang))] s.heap) (k8 : Int32 → Prop) (hk8 : ∀ (x3 : Int32), k8 x3 → ∀ ls : Array Slot, lv_has ls 4 [(0, .ref q_t), (1, .int a1), (2, .int a2), (3, .int x3)] → W p l e ({ frames := 0, cells := 0, slots := 0, locals := 0 } : Room) s m args below meth c s.heap [] 0 0 Q (F0 m 8 ls [])) :
    ∀ (x3 : Int32) (s0 : Int32) (s1 : Int32), pX3_fits_b45 t_count t_hours t_rang a1 a2 post k8 x3 s0 s1 → ∀ ls : Array Slot, lv_has ls 4 [(0, .ref q_t), (1, .int a1), (2, .int a2), (3, .int x3)] → W p l e ({ frames := 0, cells := 0, slots := 0, locals := 0 } : Room) s m args below meth c s.heap [] 0 0 Q (F0 m 45 ls [.int s0, .int s1]) := by
  obtain ⟨hx, hb, hml, hown, hts⟩ := id C0
  intro x3 s0 s1 hf ls hl
  unfold pX3_fits_b45 at hf
  refine lv_icmp_eq (tgt := 50) hx hb dX3_fits_45 (by decide) (fun c1 => ?_) (fun c1 => ?_)
  · have hf := hf.1 c1
    obtain ⟨v2, ev2⟩ : ∃ y : Int32, y = x3 + 1 := ⟨_, rfl⟩
    have hf := hf v2 ev2
    refine lv_iinc (v := v2) (lv' := [(3, .int v2), (0, .ref q_t), (1, .int a1), (2, .int a2)]) hx hb dX3_fits_50 hl (k := 3) rfl (by rw [ev2]; rfl) (by decide) rfl (fun ls hl => ?_)
    refine lv_goto (tgt := 8) hx hb dX3_fits_53 (by decide) ?_
    exact hk8 v2 hf ls (lv_sub hl [1, 2, 3, 0] rfl)
  · have hf := hf.2 c1
    refine lv_iconst (v := 0) hx hb dX3_fits_48 (by decide) ?_
    exact hret 49 ls 0 dX3_fits_49 rfl hf

def pX3_fits_b8 (t_count : Int32) (t_hours : (Nat → Int32)) (t_rang : (Nat → Int32)) (a1 : Int32) (a2 : Int32) (post : Int32 → Prop) : Nat → Int32 → Prop
  | 0 => fun _ => False
  | n + 1 => fun x3 => (t_count ≤ x3 → (post 1)) ∧ (¬ t_count ≤ x3 → ((8 ≤ x3 → (post 1)) ∧ (¬ 8 ≤ x3 → (vp_in x3 8 ∧ (vp_in x3 8 ∧ (¬ a1 = 0 ∧ ((¬ ((t_hours x3.toNatClampNeg) - (t_hours x3.toNatClampNeg) / a1 * a1) = a2 → (pX3_fits_b45 t_count t_hours t_rang a1 a2 post (fun x3 => pX3_fits_b8 t_count t_hours t_rang a1 a2 post  n x3) x3 0 (t_rang x3.toNatClampNeg))) ∧ (((t_hours x3.toNatClampNeg) - (t_hours x3.toNatClampNeg) / a1 * a1) = a2 → (pX3_fits_b45 t_count t_hours t_rang a1 a2 post (fun x3 => pX3_fits_b8 t_count t_hours t_rang a1 a2 post  n x3) x3 1 (t_rang x3.toNatClampNeg))))))))))

set_option maxHeartbeats 4000000 in
set_option maxRecDepth 100000 in
theorem wX3_fits_b8 {p : Program} {l : Launch} {e : Env} {s : State} {m : MethodId} {args : Array Value} {below : List Frame} {meth : Method} {c : Code} {Q : State → Prop} {D : va_G} {cI cZ cJ cO : ClassId} (C0 : CallFix p m c cX3_fits 4 s args wsX3_fits RX3) (hN : nw s) (hK : va_K D vwCl (tyL cI cZ cJ cO) s) (q_t q_t_hours q_t_rang : Nat)  (t_count : Int32) (t_hours : (Nat → Int32)) (t_rang : (Nat → Int32)) (a1 : Int32) (a2 : Int32) (post : Int32 → Prop) (hret : h0Z p l e ({ frames := 0, cells := 0, slots := 0, locals := 0 } : Room) s m args below meth c cX3_fits Q post) (hP : va_P D vwCl [(q_t, .inr (3, [.int t_count, .ref q_t_hours, .ref q_t_rang])), (q_t_hours, .inl (cI, 8, .inl t_hours)), (q_t_rang, .inl (cZ, 8, .inl t_rang))] s.heap) :
    ∀ (n : Nat) (x3 : Int32), pX3_fits_b8 t_count t_hours t_rang a1 a2 post n x3 → ∀ ls : Array Slot, lv_has ls 4 [(0, .ref q_t), (1, .int a1), (2, .int a2), (3, .int x3)] → W p l e ({ frames := 0, cells := 0, slots := 0, locals := 0 } : Room) s m args below meth c s.heap [] 0 0 Q (F0 m 8 ls []) := by
  obtain ⟨hx, hb, hml, hown, hts⟩ := id C0
  intro n
  induction n with
  | zero =>
    intro x3 hf
    exact False.elim hf
  | succ n ih =>
    intro x3 hf ls hl
    rw [pX3_fits_b8] at hf
    refine lv_iload_n hx hb dX3_fits_8 rfl (lv_at hl 3 rfl) ?_
    refine lv_aload_n hx hb dX3_fits_9 rfl (lv_at hl 0 rfl) ?_
    refine va_get (D := D) (ci := 3) (v := .int t_count) (C := RX3) (T := TX3) (N := 3) hx hb hts nX3_fits_X3 hown hK hP 0 rfl rfl 0 (by decide) (hts _ mX3_fits_1) (fun _ h9 => h9) rfl dX3_fits_10 ?_
    refine lv_icmp_ge (tgt := 56) hx hb dX3_fits_13 (by decide) (fun c1 => ?_) (fun c1 => ?_)
    · have hf := hf.1 c1
      refine lv_iconst (v := 1) hx hb dX3_fits_56 (by decide) ?_
      exact hret 57 ls 1 dX3_fits_57 rfl hf
    · have hf := hf.2 c1
      refine lv_iload_n hx hb dX3_fits_16 rfl (lv_at hl 3 rfl) ?_
      refine lv_bipush (v := 8) hx hb dX3_fits_17 (by decide) ?_
      refine lv_icmp_ge (tgt := 56) hx hb dX3_fits_19 (by decide) (fun c2 => ?_) (fun c2 => ?_)
      · have hf := hf.1 c2
        refine lv_iconst (v := 1) hx hb dX3_fits_56 (by decide) ?_
        exact hret 57 ls 1 dX3_fits_57 rfl hf
      · have hf := hf.2 c2
        refine lv_aload_n hx hb dX3_fits_22 rfl (lv_at hl 0 rfl) ?_
        refine va_get (D := D) (ci := 3) (v := .ref q_t_rang) (C := RX3) (T := TX3) (N := 3) hx hb hts nX3_fits_X3 hown hK hP 0 rfl rfl 2 (by decide) (hts _ mX3_fits_2) (fun _ h9 => h9) rfl dX3_fits_23 ?_
        refine lv_iload_n hx hb dX3_fits_26 rfl (lv_at hl 3 rfl) ?_
        have g3 := hf.1
        have hf := hf.2
        refine xa_zald hx hb hK hP 2 1 rfl rfl (j := x3.toNatClampNeg) rfl g3 dX3_fits_27 ?_
        refine lv_aload_n hx hb dX3_fits_28 rfl (lv_at hl 0 rfl) ?_
        refine va_get (D := D) (ci := 3) (v := .ref q_t_hours) (C := RX3) (T := TX3) (N := 3) hx hb hts nX3_fits_X3 hown hK hP 0 rfl rfl 1 (by decide) (hts _ mX3_fits_3) (fun _ h9 => h9) rfl dX3_fits_29 ?_
        refine lv_iload_n hx hb dX3_fits_32 rfl (lv_at hl 3 rfl) ?_
        have g4 := hf.1
        have hf := hf.2
        refine xa_iald hx hb hK hP 1 0 rfl rfl (j := x3.toNatClampNeg) rfl g4 dX3_fits_33 ?_
        refine lv_iload_n hx hb dX3_fits_34 rfl (lv_at hl 1 rfl) ?_
        have g5 := hf.1
        have hf := hf.2
        refine lv_irem hx hb dX3_fits_35 g5 ?_
        refine lv_iload_n hx hb dX3_fits_36 rfl (lv_at hl 2 rfl) ?_
        refine lv_icmp_ne (tgt := 44) hx hb dX3_fits_37 (by decide) (fun c6 => ?_) (fun c6 => ?_)
        · have hf := hf.1 c6
          refine lv_iconst (v := 0) hx hb dX3_fits_44 (by decide) ?_
          exact wX3_fits_b45 C0 hN hK q_t q_t_hours q_t_rang t_count t_hours t_rang a1 a2 post hret hP _ ih x3 0 (t_rang x3.toNatClampNeg) hf ls (lv_sub hl [0, 1, 2, 3] rfl)
        · have hf := hf.2 c6
          refine lv_iconst (v := 1) hx hb dX3_fits_40 (by decide) ?_
          refine lv_goto (tgt := 45) hx hb dX3_fits_41 (by decide) ?_
          exact wX3_fits_b45 C0 hN hK q_t q_t_hours q_t_rang t_count t_hours t_rang a1 a2 post hret hP _ ih x3 1 (t_rang x3.toNatClampNeg) hf ls (lv_sub hl [0, 1, 2, 3] rfl)

def pX3_fits (t_count : Int32) (t_hours : (Nat → Int32)) (t_rang : (Nat → Int32)) (a1 : Int32) (a2 : Int32) (post : Int32 → Prop) : Prop :=
  (0 < a1 → (∃ n1, pX3_fits_b8 t_count t_hours t_rang a1 a2 post  n1 0)) ∧ (¬ 0 < a1 → (post 0))

set_option maxHeartbeats 4000000 in
set_option maxRecDepth 100000 in
theorem kX3_fits (l : Launch) (D : va_G) (cI cZ cJ cO : ClassId) (q_t q_t_hours q_t_rang : Nat)  (t_count : Int32) (t_hours : (Nat → Int32)) (t_rang : (Nat → Int32)) (a1 : Int32) (a2 : Int32) (post : Int32 → Prop) (hf : pX3_fits t_count t_hours t_rang a1 a2 post) :
    Met l yX3_fits wsX3_fits ({ frames := 0, cells := 0, slots := 0, locals := 0 } : Room) (va_Pc [.ref q_t, .int a1, .int a2] (B0 D (tyL cI cZ cJ cO) [(q_t, .inr (3, [.int t_count, .ref q_t_hours, .ref q_t_rang])), (q_t_hours, .inl (cI, 8, .inl t_hours)), (q_t_rang, .inl (cZ, 8, .inl t_rang))])) (vp_Si post) 0 0 (fun _ => False) := by
  unfold pX3_fits at hf
  refine xm_0z (own := RX3) (by decide) rfl rfl (Nat.le_of_ble_eq_true rfl) (fun p e s m args below meth c Q C0 hN hK hret hP ls hl => ?_)
  obtain ⟨hx, hb, hml, hown, hts⟩ := id C0
  have hl : lv_has ls 4 [(0, .ref q_t), (1, .int a1), (2, .int a2)] := hl
  refine lv_iload_n hx hb dX3_fits_0 rfl (lv_at hl 1 rfl) ?_
  refine lv_if_gt (tgt := 6) hx hb dX3_fits_1 (by decide) (fun c1 => ?_) (fun c1 => ?_)
  · have hf := hf.1 c1
    refine lv_iconst (v := 0) hx hb dX3_fits_6 (by decide) ?_
    refine lv_istore_n (lv' := [(3, .int 0), (0, .ref q_t), (1, .int a1), (2, .int a2)]) hx hb dX3_fits_7 rfl hl (by decide) rfl (fun ls hl => ?_)
    obtain ⟨n1, hf⟩ := hf
    exact wX3_fits_b8 C0 hN hK q_t q_t_hours q_t_rang t_count t_hours t_rang a1 a2 post hret hP   n1 0 hf ls (lv_sub hl [1, 2, 3, 0] rfl)
  · have hf := hf.2 c1
    refine lv_iconst (v := 0) hx hb dX3_fits_4 (by decide) ?_
    exact hret 5 ls 0 dX3_fits_5 rfl hf

/-! X3_fittingRounds -/

def pX3_fittingRounds_b12 (t_count : Int32) (t_hours : (Nat → Int32)) (t_rang : (Nat → Int32)) (post : Int32 → Prop) (k4 : Int32 → Int32 → Prop) : Nat → Int32 → Int32 → Int32 → Prop
  | 0 => fun _ _ _ => False
  | n + 1 => fun x1 x2 x3 => (x2 ≤ x3 → (∀ v2 : Int32, v2 = x2 + 1 → (k4 x1 v2))) ∧ (¬ x2 ≤ x3 → (pX3_fits t_count t_hours t_rang x2 x3 (fun r3 => (r3 = 0 → (∀ v5 : Int32, v5 = x3 + 1 → (pX3_fittingRounds_b12 t_count t_hours t_rang post k4 n x1 x2 v5))) ∧ (¬ r3 = 0 → (∀ v6 : Int32, v6 = x1 + 1 → (∀ v7 : Int32, v7 = x3 + 1 → (pX3_fittingRounds_b12 t_count t_hours t_rang post k4 n v6 x2 v7)))))))

set_option maxHeartbeats 4000000 in
set_option maxRecDepth 100000 in
theorem wX3_fittingRounds_b12 {p : Program} {l : Launch} {e : Env} {s : State} {m : MethodId} {args : Array Value} {below : List Frame} {meth : Method} {c : Code} {Q : State → Prop} {D : va_G} {cI cZ cJ cO : ClassId} (C0 : CallFix p m c cX3_fittingRounds 4 s args wsX3_fittingRounds RX3) (hN : nw s) (hK : va_K D vwCl (tyL cI cZ cJ cO) s) (q_t q_t_hours q_t_rang : Nat)  (t_count : Int32) (t_hours : (Nat → Int32)) (t_rang : (Nat → Int32)) (post : Int32 → Prop) (hret : h0I p l e ({ frames := 1, cells := 0, slots := 0, locals := 23 } : Room) s m args below meth c cX3_fittingRounds Q post) (hP : va_P D vwCl [(q_t, .inr (3, [.int t_count, .ref q_t_hours, .ref q_t_rang])), (q_t_hours, .inl (cI, 8, .inl t_hours)), (q_t_rang, .inl (cZ, 8, .inl t_rang))] s.heap) (k4 : Int32 → Int32 → Prop) (hk4 : ∀ (x1 : Int32) (x2 : Int32), k4 x1 x2 → ∀ ls : Array Slot, lv_has ls 4 [(0, .ref q_t), (1, .int x1), (2, .int x2)] → W p l e ({ frames := 1, cells := 0, slots := 0, locals := 23 } : Room) s m args below meth c s.heap [] 0 0 Q (F0 m 4 ls [])) :
    ∀ (n : Nat) (x1 : Int32) (x2 : Int32) (x3 : Int32), pX3_fittingRounds_b12 t_count t_hours t_rang post k4 n x1 x2 x3 → ∀ ls : Array Slot, lv_has ls 4 [(0, .ref q_t), (1, .int x1), (2, .int x2), (3, .int x3)] → W p l e ({ frames := 1, cells := 0, slots := 0, locals := 23 } : Room) s m args below meth c s.heap [] 0 0 Q (F0 m 12 ls []) := by
  obtain ⟨hx, hb, hml, hown, hts⟩ := id C0
  intro n
  induction n with
  | zero =>
    intro x1 x2 x3 hf
    exact False.elim hf
  | succ n ih =>
    intro x1 x2 x3 hf ls hl
    rw [pX3_fittingRounds_b12] at hf
    refine lv_iload_n hx hb dX3_fittingRounds_12 rfl (lv_at hl 3 rfl) ?_
    refine lv_iload_n hx hb dX3_fittingRounds_13 rfl (lv_at hl 2 rfl) ?_
    refine lv_icmp_ge (tgt := 35) hx hb dX3_fittingRounds_14 (by decide) (fun c1 => ?_) (fun c1 => ?_)
    · have hf := hf.1 c1
      obtain ⟨v2, ev2⟩ : ∃ y : Int32, y = x2 + 1 := ⟨_, rfl⟩
      have hf := hf v2 ev2
      refine lv_iinc (v := v2) (lv' := [(2, .int v2), (0, .ref q_t), (1, .int x1), (3, .int x3)]) hx hb dX3_fittingRounds_35 hl (k := 2) rfl (by rw [ev2]; rfl) (by decide) rfl (fun ls hl => ?_)
      refine lv_goto (tgt := 4) hx hb dX3_fittingRounds_38 (by decide) ?_
      exact hk4 x1 v2 hf ls (lv_sub hl [1, 2, 0] rfl)
    · have hf := hf.2 c1
      refine lv_aload_n hx hb dX3_fittingRounds_17 rfl (lv_at hl 0 rfl) ?_
      refine lv_iload_n hx hb dX3_fittingRounds_18 rfl (lv_at hl 2 rfl) ?_
      refine lv_iload_n hx hb dX3_fittingRounds_19 rfl (lv_at hl 3 rfl) ?_
      refine xs_i (va_runV (As := [.int x2, .int x3]) (rest := []) ⟨hx, hb, hml, hown, hts⟩ (kX3_fits l D cI cZ cJ cO q_t q_t_hours q_t_rang t_count t_hours t_rang x2 x3 _ hf) (cwV 2 hts gX3_fittingRounds_X3_fits rfl rfl rfl (by decide +kernel) ⟨Nat.le_of_ble_eq_true rfl, Nat.le_of_ble_eq_true rfl⟩) (B0_preV (ci := 3) (q0 := 0) hP rfl rfl (hP.sub (ws' := [(q_t, .inr (3, [.int t_count, .ref q_t_hours, .ref q_t_rang])), (q_t_hours, .inl (cI, 8, .inl t_hours)), (q_t_rang, .inl (cZ, 8, .inl t_rang))]) [0, 1, 2] rfl) hK hN) rfl rfl hl.1 rfl (lv_room (Nat.le_of_ble_eq_true rfl)) dX3_fittingRounds_20 ⟨Nat.zero_le _, Nat.zero_le _⟩) (fun r3 hf => ?_)
      refine lv_if_eq (tgt := 29) hx hb dX3_fittingRounds_23 (by decide) (fun c4 => ?_) (fun c4 => ?_)
      · have hf := hf.1 c4
        obtain ⟨v5, ev5⟩ : ∃ y : Int32, y = x3 + 1 := ⟨_, rfl⟩
        have hf := hf v5 ev5
        refine lv_iinc (v := v5) (lv' := [(3, .int v5), (0, .ref q_t), (1, .int x1), (2, .int x2)]) hx hb dX3_fittingRounds_29 hl (k := 3) rfl (by rw [ev5]; rfl) (by decide) rfl (fun ls hl => ?_)
        refine lv_goto (tgt := 12) hx hb dX3_fittingRounds_32 (by decide) ?_
        exact ih x1 x2 v5 hf ls (lv_sub hl [1, 2, 3, 0] rfl)
      · have hf := hf.2 c4
        obtain ⟨v6, ev6⟩ : ∃ y : Int32, y = x1 + 1 := ⟨_, rfl⟩
        have hf := hf v6 ev6
        refine lv_iinc (v := v6) (lv' := [(1, .int v6), (0, .ref q_t), (2, .int x2), (3, .int x3)]) hx hb dX3_fittingRounds_26 hl (k := 1) rfl (by rw [ev6]; rfl) (by decide) rfl (fun ls hl => ?_)
        obtain ⟨v7, ev7⟩ : ∃ y : Int32, y = x3 + 1 := ⟨_, rfl⟩
        have hf := hf v7 ev7
        refine lv_iinc (v := v7) (lv' := [(3, .int v7), (1, .int v6), (0, .ref q_t), (2, .int x2)]) hx hb dX3_fittingRounds_29 hl (k := 3) rfl (by rw [ev7]; rfl) (by decide) rfl (fun ls hl => ?_)
        refine lv_goto (tgt := 12) hx hb dX3_fittingRounds_32 (by decide) ?_
        exact ih v6 x2 v7 hf ls (lv_sub hl [2, 1, 3, 0] rfl)

def pX3_fittingRounds_b4 (t_count : Int32) (t_hours : (Nat → Int32)) (t_rang : (Nat → Int32)) (post : Int32 → Prop) : Nat → Int32 → Int32 → Prop
  | 0 => fun _ _ => False
  | n + 1 => fun x1 x2 => (20 < x2 → (post x1)) ∧ (¬ 20 < x2 → (∃ n1, pX3_fittingRounds_b12 t_count t_hours t_rang post (fun x1 x2 => pX3_fittingRounds_b4 t_count t_hours t_rang post  n x1 x2) n1 x1 x2 0))

set_option maxHeartbeats 4000000 in
set_option maxRecDepth 100000 in
theorem wX3_fittingRounds_b4 {p : Program} {l : Launch} {e : Env} {s : State} {m : MethodId} {args : Array Value} {below : List Frame} {meth : Method} {c : Code} {Q : State → Prop} {D : va_G} {cI cZ cJ cO : ClassId} (C0 : CallFix p m c cX3_fittingRounds 4 s args wsX3_fittingRounds RX3) (hN : nw s) (hK : va_K D vwCl (tyL cI cZ cJ cO) s) (q_t q_t_hours q_t_rang : Nat)  (t_count : Int32) (t_hours : (Nat → Int32)) (t_rang : (Nat → Int32)) (post : Int32 → Prop) (hret : h0I p l e ({ frames := 1, cells := 0, slots := 0, locals := 23 } : Room) s m args below meth c cX3_fittingRounds Q post) (hP : va_P D vwCl [(q_t, .inr (3, [.int t_count, .ref q_t_hours, .ref q_t_rang])), (q_t_hours, .inl (cI, 8, .inl t_hours)), (q_t_rang, .inl (cZ, 8, .inl t_rang))] s.heap) :
    ∀ (n : Nat) (x1 : Int32) (x2 : Int32), pX3_fittingRounds_b4 t_count t_hours t_rang post n x1 x2 → ∀ ls : Array Slot, lv_has ls 4 [(0, .ref q_t), (1, .int x1), (2, .int x2)] → W p l e ({ frames := 1, cells := 0, slots := 0, locals := 23 } : Room) s m args below meth c s.heap [] 0 0 Q (F0 m 4 ls []) := by
  obtain ⟨hx, hb, hml, hown, hts⟩ := id C0
  intro n
  induction n with
  | zero =>
    intro x1 x2 hf
    exact False.elim hf
  | succ n ih =>
    intro x1 x2 hf ls hl
    rw [pX3_fittingRounds_b4] at hf
    refine lv_iload_n hx hb dX3_fittingRounds_4 rfl (lv_at hl 2 rfl) ?_
    refine lv_bipush (v := 20) hx hb dX3_fittingRounds_5 (by decide) ?_
    refine lv_icmp_gt (tgt := 41) hx hb dX3_fittingRounds_7 (by decide) (fun c1 => ?_) (fun c1 => ?_)
    · have hf := hf.1 c1
      refine lv_iload_n hx hb dX3_fittingRounds_41 rfl (lv_at hl 1 rfl) ?_
      exact hret 42 ls x1 dX3_fittingRounds_42 hf
    · have hf := hf.2 c1
      refine lv_iconst (v := 0) hx hb dX3_fittingRounds_10 (by decide) ?_
      refine lv_istore_n (lv' := [(3, .int 0), (0, .ref q_t), (1, .int x1), (2, .int x2)]) hx hb dX3_fittingRounds_11 rfl hl (by decide) rfl (fun ls hl => ?_)
      obtain ⟨n1, hf⟩ := hf
      exact wX3_fittingRounds_b12 C0 hN hK q_t q_t_hours q_t_rang t_count t_hours t_rang post hret hP _ ih n1 x1 x2 0 hf ls (lv_sub hl [1, 2, 3, 0] rfl)

def pX3_fittingRounds (t_count : Int32) (t_hours : (Nat → Int32)) (t_rang : (Nat → Int32))  (post : Int32 → Prop) : Prop :=
  ∃ n1, pX3_fittingRounds_b4 t_count t_hours t_rang post  n1 0 2

set_option maxHeartbeats 4000000 in
set_option maxRecDepth 100000 in
theorem kX3_fittingRounds (l : Launch) (D : va_G) (cI cZ cJ cO : ClassId) (q_t q_t_hours q_t_rang : Nat)  (t_count : Int32) (t_hours : (Nat → Int32)) (t_rang : (Nat → Int32))  (post : Int32 → Prop) (hf : pX3_fittingRounds t_count t_hours t_rang post) :
    Met l yX3_fittingRounds wsX3_fittingRounds ({ frames := 1, cells := 0, slots := 0, locals := 23 } : Room) (va_Pc [.ref q_t] (B0 D (tyL cI cZ cJ cO) [(q_t, .inr (3, [.int t_count, .ref q_t_hours, .ref q_t_rang])), (q_t_hours, .inl (cI, 8, .inl t_hours)), (q_t_rang, .inl (cZ, 8, .inl t_rang))])) (vp_Si post) 0 0 (fun _ => False) := by
  unfold pX3_fittingRounds at hf
  refine xm_0i (own := RX3) (by decide) rfl rfl (Nat.le_of_ble_eq_true rfl) (fun p e s m args below meth c Q C0 hN hK hret hP ls hl => ?_)
  obtain ⟨hx, hb, hml, hown, hts⟩ := id C0
  have hl : lv_has ls 4 [(0, .ref q_t)] := hl
  refine lv_iconst (v := 0) hx hb dX3_fittingRounds_0 (by decide) ?_
  refine lv_istore_n (lv' := [(1, .int 0), (0, .ref q_t)]) hx hb dX3_fittingRounds_1 rfl hl (by decide) rfl (fun ls hl => ?_)
  refine lv_iconst (v := 2) hx hb dX3_fittingRounds_2 (by decide) ?_
  refine lv_istore_n (lv' := [(2, .int 2), (1, .int 0), (0, .ref q_t)]) hx hb dX3_fittingRounds_3 rfl hl (by decide) rfl (fun ls hl => ?_)
  obtain ⟨n1, hf⟩ := hf
  exact wX3_fittingRounds_b4 C0 hN hK q_t q_t_hours q_t_rang t_count t_hours t_rang post hret hP   n1 0 2 hf ls (lv_sub hl [2, 1, 0] rfl)

/-! X3_fittingRound -/

def pX3_fittingRound_b13 (t_count : Int32) (t_hours : (Nat → Int32)) (t_rang : (Nat → Int32)) (a1 : Int32) (post : Int32 → Prop) (k4 : Int32 → Int32 → Prop) : Nat → Int32 → Int32 → Int32 → Prop
  | 0 => fun _ _ _ => False
  | n + 1 => fun x2 x3 x4 => (x3 ≤ x4 → (∀ v2 : Int32, v2 = x3 + 1 → (k4 x2 v2))) ∧ (¬ x3 ≤ x4 → (pX3_fits t_count t_hours t_rang x3 x4 (fun r3 => (r3 = 0 → (∀ v5 : Int32, v5 = x4 + 1 → (pX3_fittingRound_b13 t_count t_hours t_rang a1 post k4 n x2 x3 v5))) ∧ (¬ r3 = 0 → ((¬ x2 = a1 → (∀ v7 : Int32, v7 = x2 + 1 → (∀ v8 : Int32, v8 = x4 + 1 → (pX3_fittingRound_b13 t_count t_hours t_rang a1 post k4 n v7 x3 v8)))) ∧ (x2 = a1 → (post ((100 * x3) + x4))))))))

set_option maxHeartbeats 4000000 in
set_option maxRecDepth 100000 in
theorem wX3_fittingRound_b13 {p : Program} {l : Launch} {e : Env} {s : State} {m : MethodId} {args : Array Value} {below : List Frame} {meth : Method} {c : Code} {Q : State → Prop} {D : va_G} {cI cZ cJ cO : ClassId} (C0 : CallFix p m c cX3_fittingRound 5 s args wsX3_fittingRound RX3) (hN : nw s) (hK : va_K D vwCl (tyL cI cZ cJ cO) s) (q_t q_t_hours q_t_rang : Nat)  (t_count : Int32) (t_hours : (Nat → Int32)) (t_rang : (Nat → Int32)) (a1 : Int32) (post : Int32 → Prop) (hret : h0I p l e ({ frames := 1, cells := 0, slots := 0, locals := 23 } : Room) s m args below meth c cX3_fittingRound Q post) (hP : va_P D vwCl [(q_t, .inr (3, [.int t_count, .ref q_t_hours, .ref q_t_rang])), (q_t_hours, .inl (cI, 8, .inl t_hours)), (q_t_rang, .inl (cZ, 8, .inl t_rang))] s.heap) (k4 : Int32 → Int32 → Prop) (hk4 : ∀ (x2 : Int32) (x3 : Int32), k4 x2 x3 → ∀ ls : Array Slot, lv_has ls 5 [(0, .ref q_t), (1, .int a1), (2, .int x2), (3, .int x3)] → W p l e ({ frames := 1, cells := 0, slots := 0, locals := 23 } : Room) s m args below meth c s.heap [] 0 0 Q (F0 m 4 ls [])) :
    ∀ (n : Nat) (x2 : Int32) (x3 : Int32) (x4 : Int32), pX3_fittingRound_b13 t_count t_hours t_rang a1 post k4 n x2 x3 x4 → ∀ ls : Array Slot, lv_has ls 5 [(0, .ref q_t), (1, .int a1), (2, .int x2), (3, .int x3), (4, .int x4)] → W p l e ({ frames := 1, cells := 0, slots := 0, locals := 23 } : Room) s m args below meth c s.heap [] 0 0 Q (F0 m 13 ls []) := by
  obtain ⟨hx, hb, hml, hown, hts⟩ := id C0
  intro n
  induction n with
  | zero =>
    intro x2 x3 x4 hf
    exact False.elim hf
  | succ n ih =>
    intro x2 x3 x4 hf ls hl
    rw [pX3_fittingRound_b13] at hf
    refine lv_iload hx hb dX3_fittingRound_13 (lv_at hl 4 rfl) ?_
    refine lv_iload_n hx hb dX3_fittingRound_15 rfl (lv_at hl 3 rfl) ?_
    refine lv_icmp_ge (tgt := 51) hx hb dX3_fittingRound_16 (by decide) (fun c1 => ?_) (fun c1 => ?_)
    · have hf := hf.1 c1
      obtain ⟨v2, ev2⟩ : ∃ y : Int32, y = x3 + 1 := ⟨_, rfl⟩
      have hf := hf v2 ev2
      refine lv_iinc (v := v2) (lv' := [(3, .int v2), (0, .ref q_t), (1, .int a1), (2, .int x2), (4, .int x4)]) hx hb dX3_fittingRound_51 hl (k := 3) rfl (by rw [ev2]; rfl) (by decide) rfl (fun ls hl => ?_)
      refine lv_goto (tgt := 4) hx hb dX3_fittingRound_54 (by decide) ?_
      exact hk4 x2 v2 hf ls (lv_sub hl [1, 2, 3, 0] rfl)
    · have hf := hf.2 c1
      refine lv_aload_n hx hb dX3_fittingRound_19 rfl (lv_at hl 0 rfl) ?_
      refine lv_iload_n hx hb dX3_fittingRound_20 rfl (lv_at hl 3 rfl) ?_
      refine lv_iload hx hb dX3_fittingRound_21 (lv_at hl 4 rfl) ?_
      refine xs_i (va_runV (As := [.int x3, .int x4]) (rest := []) ⟨hx, hb, hml, hown, hts⟩ (kX3_fits l D cI cZ cJ cO q_t q_t_hours q_t_rang t_count t_hours t_rang x3 x4 _ hf) (cwV 2 hts gX3_fittingRound_X3_fits rfl rfl rfl (by decide +kernel) ⟨Nat.le_of_ble_eq_true rfl, Nat.le_of_ble_eq_true rfl⟩) (B0_preV (ci := 3) (q0 := 0) hP rfl rfl (hP.sub (ws' := [(q_t, .inr (3, [.int t_count, .ref q_t_hours, .ref q_t_rang])), (q_t_hours, .inl (cI, 8, .inl t_hours)), (q_t_rang, .inl (cZ, 8, .inl t_rang))]) [0, 1, 2] rfl) hK hN) rfl rfl hl.1 rfl (lv_room (Nat.le_of_ble_eq_true rfl)) dX3_fittingRound_23 ⟨Nat.zero_le _, Nat.zero_le _⟩) (fun r3 hf => ?_)
      refine lv_if_eq (tgt := 45) hx hb dX3_fittingRound_26 (by decide) (fun c4 => ?_) (fun c4 => ?_)
      · have hf := hf.1 c4
        obtain ⟨v5, ev5⟩ : ∃ y : Int32, y = x4 + 1 := ⟨_, rfl⟩
        have hf := hf v5 ev5
        refine lv_iinc (v := v5) (lv' := [(4, .int v5), (0, .ref q_t), (1, .int a1), (2, .int x2), (3, .int x3)]) hx hb dX3_fittingRound_45 hl (k := 4) rfl (by rw [ev5]; rfl) (by decide) rfl (fun ls hl => ?_)
        refine lv_goto (tgt := 13) hx hb dX3_fittingRound_48 (by decide) ?_
        exact ih x2 x3 v5 hf ls (lv_sub hl [1, 2, 3, 4, 0] rfl)
      · have hf := hf.2 c4
        refine lv_iload_n hx hb dX3_fittingRound_29 rfl (lv_at hl 2 rfl) ?_
        refine lv_iload_n hx hb dX3_fittingRound_30 rfl (lv_at hl 1 rfl) ?_
        refine lv_icmp_ne (tgt := 42) hx hb dX3_fittingRound_31 (by decide) (fun c6 => ?_) (fun c6 => ?_)
        · have hf := hf.1 c6
          obtain ⟨v7, ev7⟩ : ∃ y : Int32, y = x2 + 1 := ⟨_, rfl⟩
          have hf := hf v7 ev7
          refine lv_iinc (v := v7) (lv' := [(2, .int v7), (0, .ref q_t), (1, .int a1), (3, .int x3), (4, .int x4)]) hx hb dX3_fittingRound_42 hl (k := 2) rfl (by rw [ev7]; rfl) (by decide) rfl (fun ls hl => ?_)
          obtain ⟨v8, ev8⟩ : ∃ y : Int32, y = x4 + 1 := ⟨_, rfl⟩
          have hf := hf v8 ev8
          refine lv_iinc (v := v8) (lv' := [(4, .int v8), (2, .int v7), (0, .ref q_t), (1, .int a1), (3, .int x3)]) hx hb dX3_fittingRound_45 hl (k := 4) rfl (by rw [ev8]; rfl) (by decide) rfl (fun ls hl => ?_)
          refine lv_goto (tgt := 13) hx hb dX3_fittingRound_48 (by decide) ?_
          exact ih v7 x3 v8 hf ls (lv_sub hl [2, 3, 1, 4, 0] rfl)
        · have hf := hf.2 c6
          refine lv_bipush (v := 100) hx hb dX3_fittingRound_34 (by decide) ?_
          refine lv_iload_n hx hb dX3_fittingRound_36 rfl (lv_at hl 3 rfl) ?_
          refine lv_imul hx hb dX3_fittingRound_37 ?_
          refine lv_iload hx hb dX3_fittingRound_38 (lv_at hl 4 rfl) ?_
          refine lv_iadd hx hb dX3_fittingRound_40 ?_
          exact hret 41 ls ((100 * x3) + x4) dX3_fittingRound_41 hf

def pX3_fittingRound_b4 (t_count : Int32) (t_hours : (Nat → Int32)) (t_rang : (Nat → Int32)) (a1 : Int32) (post : Int32 → Prop) : Nat → Int32 → Int32 → Prop
  | 0 => fun _ _ => False
  | n + 1 => fun x2 x3 => (20 < x3 → (post (-6))) ∧ (¬ 20 < x3 → (∃ n1, pX3_fittingRound_b13 t_count t_hours t_rang a1 post (fun x2 x3 => pX3_fittingRound_b4 t_count t_hours t_rang a1 post  n x2 x3) n1 x2 x3 0))

set_option maxHeartbeats 4000000 in
set_option maxRecDepth 100000 in
theorem wX3_fittingRound_b4 {p : Program} {l : Launch} {e : Env} {s : State} {m : MethodId} {args : Array Value} {below : List Frame} {meth : Method} {c : Code} {Q : State → Prop} {D : va_G} {cI cZ cJ cO : ClassId} (C0 : CallFix p m c cX3_fittingRound 5 s args wsX3_fittingRound RX3) (hN : nw s) (hK : va_K D vwCl (tyL cI cZ cJ cO) s) (q_t q_t_hours q_t_rang : Nat)  (t_count : Int32) (t_hours : (Nat → Int32)) (t_rang : (Nat → Int32)) (a1 : Int32) (post : Int32 → Prop) (hret : h0I p l e ({ frames := 1, cells := 0, slots := 0, locals := 23 } : Room) s m args below meth c cX3_fittingRound Q post) (hP : va_P D vwCl [(q_t, .inr (3, [.int t_count, .ref q_t_hours, .ref q_t_rang])), (q_t_hours, .inl (cI, 8, .inl t_hours)), (q_t_rang, .inl (cZ, 8, .inl t_rang))] s.heap) :
    ∀ (n : Nat) (x2 : Int32) (x3 : Int32), pX3_fittingRound_b4 t_count t_hours t_rang a1 post n x2 x3 → ∀ ls : Array Slot, lv_has ls 5 [(0, .ref q_t), (1, .int a1), (2, .int x2), (3, .int x3)] → W p l e ({ frames := 1, cells := 0, slots := 0, locals := 23 } : Room) s m args below meth c s.heap [] 0 0 Q (F0 m 4 ls []) := by
  obtain ⟨hx, hb, hml, hown, hts⟩ := id C0
  intro n
  induction n with
  | zero =>
    intro x2 x3 hf
    exact False.elim hf
  | succ n ih =>
    intro x2 x3 hf ls hl
    rw [pX3_fittingRound_b4] at hf
    refine lv_iload_n hx hb dX3_fittingRound_4 rfl (lv_at hl 3 rfl) ?_
    refine lv_bipush (v := 20) hx hb dX3_fittingRound_5 (by decide) ?_
    refine lv_icmp_gt (tgt := 57) hx hb dX3_fittingRound_7 (by decide) (fun c1 => ?_) (fun c1 => ?_)
    · have hf := hf.1 c1
      refine lv_bipush (v := (-6)) hx hb dX3_fittingRound_57 (by decide) ?_
      exact hret 59 ls (-6) dX3_fittingRound_59 hf
    · have hf := hf.2 c1
      refine lv_iconst (v := 0) hx hb dX3_fittingRound_10 (by decide) ?_
      refine lv_istore (lv' := [(4, .int 0), (0, .ref q_t), (1, .int a1), (2, .int x2), (3, .int x3)]) hx hb dX3_fittingRound_11 hl (by decide) rfl (fun ls hl => ?_)
      obtain ⟨n1, hf⟩ := hf
      exact wX3_fittingRound_b13 C0 hN hK q_t q_t_hours q_t_rang t_count t_hours t_rang a1 post hret hP _ ih n1 x2 x3 0 hf ls (lv_sub hl [1, 2, 3, 4, 0] rfl)

def pX3_fittingRound (t_count : Int32) (t_hours : (Nat → Int32)) (t_rang : (Nat → Int32)) (a1 : Int32) (post : Int32 → Prop) : Prop :=
  ∃ n1, pX3_fittingRound_b4 t_count t_hours t_rang a1 post  n1 0 2

set_option maxHeartbeats 4000000 in
set_option maxRecDepth 100000 in
theorem kX3_fittingRound (l : Launch) (D : va_G) (cI cZ cJ cO : ClassId) (q_t q_t_hours q_t_rang : Nat)  (t_count : Int32) (t_hours : (Nat → Int32)) (t_rang : (Nat → Int32)) (a1 : Int32) (post : Int32 → Prop) (hf : pX3_fittingRound t_count t_hours t_rang a1 post) :
    Met l yX3_fittingRound wsX3_fittingRound ({ frames := 1, cells := 0, slots := 0, locals := 23 } : Room) (va_Pc [.ref q_t, .int a1] (B0 D (tyL cI cZ cJ cO) [(q_t, .inr (3, [.int t_count, .ref q_t_hours, .ref q_t_rang])), (q_t_hours, .inl (cI, 8, .inl t_hours)), (q_t_rang, .inl (cZ, 8, .inl t_rang))])) (vp_Si post) 0 0 (fun _ => False) := by
  unfold pX3_fittingRound at hf
  refine xm_0i (own := RX3) (by decide) rfl rfl (Nat.le_of_ble_eq_true rfl) (fun p e s m args below meth c Q C0 hN hK hret hP ls hl => ?_)
  obtain ⟨hx, hb, hml, hown, hts⟩ := id C0
  have hl : lv_has ls 5 [(0, .ref q_t), (1, .int a1)] := hl
  refine lv_iconst (v := 0) hx hb dX3_fittingRound_0 (by decide) ?_
  refine lv_istore_n (lv' := [(2, .int 0), (0, .ref q_t), (1, .int a1)]) hx hb dX3_fittingRound_1 rfl hl (by decide) rfl (fun ls hl => ?_)
  refine lv_iconst (v := 2) hx hb dX3_fittingRound_2 (by decide) ?_
  refine lv_istore_n (lv' := [(3, .int 2), (2, .int 0), (0, .ref q_t), (1, .int a1)]) hx hb dX3_fittingRound_3 rfl hl (by decide) rfl (fun ls hl => ?_)
  obtain ⟨n1, hf⟩ := hf
  exact wX3_fittingRound_b4 C0 hN hK q_t q_t_hours q_t_rang t_count t_hours t_rang a1 post hret hP   n1 0 2 hf ls (lv_sub hl [2, 3, 1, 0] rfl)

/-! X3_roundsRingingAt -/

def pX3_roundsRingingAt_b4 (t_count : Int32) (t_hours : (Nat → Int32)) (t_rang : (Nat → Int32)) (a1 : Int32) (post : Int32 → Prop) : Nat → Int32 → Int32 → Prop
  | 0 => fun _ _ => False
  | n + 1 => fun x2 x3 => (20 < x3 → (post x2)) ∧ (¬ 20 < x3 → (¬ x3 = 0 ∧ (pX3_fits t_count t_hours t_rang x3 (a1 - a1 / x3 * x3) (fun r3 => (r3 = 0 → (∀ v5 : Int32, v5 = x3 + 1 → (pX3_roundsRingingAt_b4 t_count t_hours t_rang a1 post  n x2 v5))) ∧ (¬ r3 = 0 → (∀ v6 : Int32, v6 = x2 + 1 → (∀ v7 : Int32, v7 = x3 + 1 → (pX3_roundsRingingAt_b4 t_count t_hours t_rang a1 post  n v6 v7))))))))

set_option maxHeartbeats 4000000 in
set_option maxRecDepth 100000 in
theorem wX3_roundsRingingAt_b4 {p : Program} {l : Launch} {e : Env} {s : State} {m : MethodId} {args : Array Value} {below : List Frame} {meth : Method} {c : Code} {Q : State → Prop} {D : va_G} {cI cZ cJ cO : ClassId} (C0 : CallFix p m c cX3_roundsRingingAt 4 s args wsX3_roundsRingingAt RX3) (hN : nw s) (hK : va_K D vwCl (tyL cI cZ cJ cO) s) (q_t q_t_hours q_t_rang : Nat)  (t_count : Int32) (t_hours : (Nat → Int32)) (t_rang : (Nat → Int32)) (a1 : Int32) (post : Int32 → Prop) (hret : h0I p l e ({ frames := 1, cells := 0, slots := 0, locals := 23 } : Room) s m args below meth c cX3_roundsRingingAt Q post) (hP : va_P D vwCl [(q_t, .inr (3, [.int t_count, .ref q_t_hours, .ref q_t_rang])), (q_t_hours, .inl (cI, 8, .inl t_hours)), (q_t_rang, .inl (cZ, 8, .inl t_rang))] s.heap) :
    ∀ (n : Nat) (x2 : Int32) (x3 : Int32), pX3_roundsRingingAt_b4 t_count t_hours t_rang a1 post n x2 x3 → ∀ ls : Array Slot, lv_has ls 4 [(0, .ref q_t), (1, .int a1), (2, .int x2), (3, .int x3)] → W p l e ({ frames := 1, cells := 0, slots := 0, locals := 23 } : Room) s m args below meth c s.heap [] 0 0 Q (F0 m 4 ls []) := by
  obtain ⟨hx, hb, hml, hown, hts⟩ := id C0
  intro n
  induction n with
  | zero =>
    intro x2 x3 hf
    exact False.elim hf
  | succ n ih =>
    intro x2 x3 hf ls hl
    rw [pX3_roundsRingingAt_b4] at hf
    refine lv_iload_n hx hb dX3_roundsRingingAt_4 rfl (lv_at hl 3 rfl) ?_
    refine lv_bipush (v := 20) hx hb dX3_roundsRingingAt_5 (by decide) ?_
    refine lv_icmp_gt (tgt := 30) hx hb dX3_roundsRingingAt_7 (by decide) (fun c1 => ?_) (fun c1 => ?_)
    · have hf := hf.1 c1
      refine lv_iload_n hx hb dX3_roundsRingingAt_30 rfl (lv_at hl 2 rfl) ?_
      exact hret 31 ls x2 dX3_roundsRingingAt_31 hf
    · have hf := hf.2 c1
      refine lv_aload_n hx hb dX3_roundsRingingAt_10 rfl (lv_at hl 0 rfl) ?_
      refine lv_iload_n hx hb dX3_roundsRingingAt_11 rfl (lv_at hl 3 rfl) ?_
      refine lv_iload_n hx hb dX3_roundsRingingAt_12 rfl (lv_at hl 1 rfl) ?_
      refine lv_iload_n hx hb dX3_roundsRingingAt_13 rfl (lv_at hl 3 rfl) ?_
      have g2 := hf.1
      have hf := hf.2
      refine lv_irem hx hb dX3_roundsRingingAt_14 g2 ?_
      refine xs_i (va_runV (As := [.int x3, .int (a1 - a1 / x3 * x3)]) (rest := []) ⟨hx, hb, hml, hown, hts⟩ (kX3_fits l D cI cZ cJ cO q_t q_t_hours q_t_rang t_count t_hours t_rang x3 (a1 - a1 / x3 * x3) _ hf) (cwV 2 hts gX3_roundsRingingAt_X3_fits rfl rfl rfl (by decide +kernel) ⟨Nat.le_of_ble_eq_true rfl, Nat.le_of_ble_eq_true rfl⟩) (B0_preV (ci := 3) (q0 := 0) hP rfl rfl (hP.sub (ws' := [(q_t, .inr (3, [.int t_count, .ref q_t_hours, .ref q_t_rang])), (q_t_hours, .inl (cI, 8, .inl t_hours)), (q_t_rang, .inl (cZ, 8, .inl t_rang))]) [0, 1, 2] rfl) hK hN) rfl rfl hl.1 rfl (lv_room (Nat.le_of_ble_eq_true rfl)) dX3_roundsRingingAt_15 ⟨Nat.zero_le _, Nat.zero_le _⟩) (fun r3 hf => ?_)
      refine lv_if_eq (tgt := 24) hx hb dX3_roundsRingingAt_18 (by decide) (fun c4 => ?_) (fun c4 => ?_)
      · have hf := hf.1 c4
        obtain ⟨v5, ev5⟩ : ∃ y : Int32, y = x3 + 1 := ⟨_, rfl⟩
        have hf := hf v5 ev5
        refine lv_iinc (v := v5) (lv' := [(3, .int v5), (0, .ref q_t), (1, .int a1), (2, .int x2)]) hx hb dX3_roundsRingingAt_24 hl (k := 3) rfl (by rw [ev5]; rfl) (by decide) rfl (fun ls hl => ?_)
        refine lv_goto (tgt := 4) hx hb dX3_roundsRingingAt_27 (by decide) ?_
        exact ih x2 v5 hf ls (lv_sub hl [1, 2, 3, 0] rfl)
      · have hf := hf.2 c4
        obtain ⟨v6, ev6⟩ : ∃ y : Int32, y = x2 + 1 := ⟨_, rfl⟩
        have hf := hf v6 ev6
        refine lv_iinc (v := v6) (lv' := [(2, .int v6), (0, .ref q_t), (1, .int a1), (3, .int x3)]) hx hb dX3_roundsRingingAt_21 hl (k := 2) rfl (by rw [ev6]; rfl) (by decide) rfl (fun ls hl => ?_)
        obtain ⟨v7, ev7⟩ : ∃ y : Int32, y = x3 + 1 := ⟨_, rfl⟩
        have hf := hf v7 ev7
        refine lv_iinc (v := v7) (lv' := [(3, .int v7), (2, .int v6), (0, .ref q_t), (1, .int a1)]) hx hb dX3_roundsRingingAt_24 hl (k := 3) rfl (by rw [ev7]; rfl) (by decide) rfl (fun ls hl => ?_)
        refine lv_goto (tgt := 4) hx hb dX3_roundsRingingAt_27 (by decide) ?_
        exact ih v6 v7 hf ls (lv_sub hl [2, 3, 1, 0] rfl)

def pX3_roundsRingingAt (t_count : Int32) (t_hours : (Nat → Int32)) (t_rang : (Nat → Int32)) (a1 : Int32) (post : Int32 → Prop) : Prop :=
  ∃ n1, pX3_roundsRingingAt_b4 t_count t_hours t_rang a1 post  n1 0 2

set_option maxHeartbeats 4000000 in
set_option maxRecDepth 100000 in
theorem kX3_roundsRingingAt (l : Launch) (D : va_G) (cI cZ cJ cO : ClassId) (q_t q_t_hours q_t_rang : Nat)  (t_count : Int32) (t_hours : (Nat → Int32)) (t_rang : (Nat → Int32)) (a1 : Int32) (post : Int32 → Prop) (hf : pX3_roundsRingingAt t_count t_hours t_rang a1 post) :
    Met l yX3_roundsRingingAt wsX3_roundsRingingAt ({ frames := 1, cells := 0, slots := 0, locals := 23 } : Room) (va_Pc [.ref q_t, .int a1] (B0 D (tyL cI cZ cJ cO) [(q_t, .inr (3, [.int t_count, .ref q_t_hours, .ref q_t_rang])), (q_t_hours, .inl (cI, 8, .inl t_hours)), (q_t_rang, .inl (cZ, 8, .inl t_rang))])) (vp_Si post) 0 0 (fun _ => False) := by
  unfold pX3_roundsRingingAt at hf
  refine xm_0i (own := RX3) (by decide) rfl rfl (Nat.le_of_ble_eq_true rfl) (fun p e s m args below meth c Q C0 hN hK hret hP ls hl => ?_)
  obtain ⟨hx, hb, hml, hown, hts⟩ := id C0
  have hl : lv_has ls 4 [(0, .ref q_t), (1, .int a1)] := hl
  refine lv_iconst (v := 0) hx hb dX3_roundsRingingAt_0 (by decide) ?_
  refine lv_istore_n (lv' := [(2, .int 0), (0, .ref q_t), (1, .int a1)]) hx hb dX3_roundsRingingAt_1 rfl hl (by decide) rfl (fun ls hl => ?_)
  refine lv_iconst (v := 2) hx hb dX3_roundsRingingAt_2 (by decide) ?_
  refine lv_istore_n (lv' := [(3, .int 2), (2, .int 0), (0, .ref q_t), (1, .int a1)]) hx hb dX3_roundsRingingAt_3 rfl hl (by decide) rfl (fun ls hl => ?_)
  obtain ⟨n1, hf⟩ := hf
  exact wX3_roundsRingingAt_b4 C0 hN hK q_t q_t_hours q_t_rang t_count t_hours t_rang a1 post hret hP   n1 0 2 hf ls (lv_sub hl [2, 3, 1, 0] rfl)

/-! X5_become -/
theorem mX5_become_1 : Cond.fieldLink RX5 9 "OxenKneel$World" "date" "I" ∈ wsX5_become := List.mem_of_getElem? (i := 1) rfl
theorem mX5_become_2 : Cond.fieldLink RX5 15 "OxenKneel$World" "hour" "I" ∈ wsX5_become := List.mem_of_getElem? (i := 2) rfl
theorem mX5_become_3 : Cond.fieldLink RX5 18 "OxenKneel$World" "year" "I" ∈ wsX5_become := List.mem_of_getElem? (i := 3) rfl
theorem mX5_become_4 : Cond.fieldLink RX5 21 "OxenKneel$World" "shift" "I" ∈ wsX5_become := List.mem_of_getElem? (i := 4) rfl
theorem mX5_become_5 : Cond.fieldLink RX5 24 "OxenKneel$World" "kneelDate" "I" ∈ wsX5_become := List.mem_of_getElem? (i := 5) rfl
theorem mX5_become_6 : Cond.fieldLink RX5 27 "OxenKneel$World" "places" "[I" ∈ wsX5_become := List.mem_of_getElem? (i := 6) rfl
theorem mX5_become_7 : Cond.methodLink RX5 37 arraycopyName ∈ wsX5_become := List.mem_of_getElem? (i := 7) rfl
theorem mX5_become_8 : Cond.native arraycopyName ∈ wsX5_become := List.mem_of_getElem? (i := 8) rfl
theorem mX5_become_9 : Cond.static arraycopyName ∈ wsX5_become := List.mem_of_getElem? (i := 9) rfl
theorem mX5_become_10 : Cond.initialized "java/lang/System" ∈ wsX5_become := List.mem_of_getElem? (i := 10) rfl
theorem mX5_become_11 : Cond.fieldLink RX5 31 "OxenKneel$World" "coins" "[I" ∈ wsX5_become := List.mem_of_getElem? (i := 11) rfl
theorem mX5_become_12 : Cond.fieldLink RX5 34 "OxenKneel$World" "lying" "[I" ∈ wsX5_become := List.mem_of_getElem? (i := 12) rfl
theorem nX5_become_X5 : ∀ w ∈ wsX50, w ∈ wsX5_become := fun _ h => List.mem_cons_of_mem _ (List.mem_append_right _ h)
def pX5_become (t_date : Int32) (t_hour : Int32) (t_year : Int32) (t_shift : Int32) (t_kneelDate : Int32) (t_places : (Nat → Int32)) (t_coins : (Nat → Int32)) (t_lying : (Nat → Int32)) (a1_date : Int32) (a1_hour : Int32) (a1_year : Int32) (a1_shift : Int32) (a1_kneelDate : Int32) (a1_places : (Nat → Int32)) (a1_coins : (Nat → Int32)) (a1_lying : (Nat → Int32))  (post : (Int32 × Int32 × Int32 × Int32 × Int32 × (Nat → Int32) × (Nat → Int32) × (Nat → Int32)) → Prop) : Prop :=
  post (a1_date, a1_hour, a1_year, a1_shift, a1_kneelDate, (va_cpy a1_places t_places 0 0 6), (va_cpy a1_coins t_coins 0 0 6), (va_cpy a1_lying t_lying 0 0 30))

set_option maxHeartbeats 4000000 in
set_option maxRecDepth 100000 in
theorem kX5_become (l : Launch) (D : va_G) (cI cZ cJ cO : ClassId) (q_t q_t_places q_t_coins q_t_lying q_a1 q_a1_places q_a1_coins q_a1_lying : Nat) (sz : Nat)  (t_date : Int32) (t_hour : Int32) (t_year : Int32) (t_shift : Int32) (t_kneelDate : Int32) (t_places : (Nat → Int32)) (t_coins : (Nat → Int32)) (t_lying : (Nat → Int32)) (a1_date : Int32) (a1_hour : Int32) (a1_year : Int32) (a1_shift : Int32) (a1_kneelDate : Int32) (a1_places : (Nat → Int32)) (a1_coins : (Nat → Int32)) (a1_lying : (Nat → Int32))  (post : (Int32 × Int32 × Int32 × Int32 × Int32 × (Nat → Int32) × (Nat → Int32) × (Nat → Int32)) → Prop) (hf : pX5_become t_date t_hour t_year t_shift t_kneelDate t_places t_coins t_lying a1_date a1_hour a1_year a1_shift a1_kneelDate a1_places a1_coins a1_lying post) :
    Met l yX5_become wsX5_become ({ frames := 1, cells := 0, slots := 0, locals := 60 } : Room) (va_Pc [.ref q_t, .ref q_a1] (B1 D (tyL cI cZ cJ cO) [(q_t, .inr (5, [.int t_date, .int t_hour, .int t_year, .int t_shift, .int t_kneelDate, .ref q_t_places, .ref q_t_coins, .ref q_t_lying])), (q_t_places, .inl (cI, 6, .inl t_places)), (q_t_coins, .inl (cI, 6, .inl t_coins)), (q_t_lying, .inl (cI, 30, .inl t_lying)), (q_a1, .inr (5, [.int a1_date, .int a1_hour, .int a1_year, .int a1_shift, .int a1_kneelDate, .ref q_a1_places, .ref q_a1_coins, .ref q_a1_lying])), (q_a1_places, .inl (cI, 6, .inl a1_places)), (q_a1_coins, .inl (cI, 6, .inl a1_coins)), (q_a1_lying, .inl (cI, 30, .inl a1_lying))] sz)) (va_Qv post (fun u t => E1 D (va_A [(q_t, .inr (5, [.int t_date, .int t_hour, .int t_year, .int t_shift, .int t_kneelDate, .ref q_t_places, .ref q_t_coins, .ref q_t_lying])), (q_t_places, .inl (cI, 6, .inl t_places)), (q_t_coins, .inl (cI, 6, .inl t_coins)), (q_t_lying, .inl (cI, 30, .inl t_lying)), (q_a1, .inr (5, [.int a1_date, .int a1_hour, .int a1_year, .int a1_shift, .int a1_kneelDate, .ref q_a1_places, .ref q_a1_coins, .ref q_a1_lying])), (q_a1_places, .inl (cI, 6, .inl a1_places)), (q_a1_coins, .inl (cI, 6, .inl a1_coins)), (q_a1_lying, .inl (cI, 30, .inl a1_lying))] sz) ((fun u : Int32 × Int32 × Int32 × Int32 × Int32 × (Nat → Int32) × (Nat → Int32) × (Nat → Int32) => [(q_t, .inr (5, [.int u.1, .int u.2.1, .int u.2.2.1, .int u.2.2.2.1, .int u.2.2.2.2.1, .ref q_t_places, .ref q_t_coins, .ref q_t_lying])), (q_t_places, .inl (cI, 6, .inl u.2.2.2.2.2.1)), (q_t_coins, .inl (cI, 6, .inl u.2.2.2.2.2.2.1)), (q_t_lying, .inl (cI, 30, .inl u.2.2.2.2.2.2.2)), (q_a1, .inr (5, [.int a1_date, .int a1_hour, .int a1_year, .int a1_shift, .int a1_kneelDate, .ref q_a1_places, .ref q_a1_coins, .ref q_a1_lying])), (q_a1_places, .inl (cI, 6, .inl a1_places)), (q_a1_coins, .inl (cI, 6, .inl a1_coins)), (q_a1_lying, .inl (cI, 30, .inl a1_lying))]) u) t) (va_A [(q_t, .inr (5, [.int t_date, .int t_hour, .int t_year, .int t_shift, .int t_kneelDate, .ref q_t_places, .ref q_t_coins, .ref q_t_lying])), (q_t_places, .inl (cI, 6, .inl t_places)), (q_t_coins, .inl (cI, 6, .inl t_coins)), (q_t_lying, .inl (cI, 30, .inl t_lying)), (q_a1, .inr (5, [.int a1_date, .int a1_hour, .int a1_year, .int a1_shift, .int a1_kneelDate, .ref q_a1_places, .ref q_a1_coins, .ref q_a1_lying])), (q_a1_places, .inl (cI, 6, .inl a1_places)), (q_a1_coins, .inl (cI, 6, .inl a1_coins)), (q_a1_lying, .inl (cI, 30, .inl a1_lying))] sz)) 0 0 (va_A [(q_t, .inr (5, [.int t_date, .int t_hour, .int t_year, .int t_shift, .int t_kneelDate, .ref q_t_places, .ref q_t_coins, .ref q_t_lying])), (q_t_places, .inl (cI, 6, .inl t_places)), (q_t_coins, .inl (cI, 6, .inl t_coins)), (q_t_lying, .inl (cI, 30, .inl t_lying)), (q_a1, .inr (5, [.int a1_date, .int a1_hour, .int a1_year, .int a1_shift, .int a1_kneelDate, .ref q_a1_places, .ref q_a1_coins, .ref q_a1_lying])), (q_a1_places, .inl (cI, 6, .inl a1_places)), (q_a1_coins, .inl (cI, 6, .inl a1_coins)), (q_a1_lying, .inl (cI, 30, .inl a1_lying))] sz) := by
  unfold pX5_become at hf
  refine xm_1v (own := RX5) (by decide) rfl rfl (Nat.le_of_ble_eq_true rfl) (fun p e s m args below meth c Q A C0 hN hK hA hret hP hD ls hl => ?_)
  obtain ⟨hx, hb, hml, hown, hts⟩ := id C0
  have hl : lv_has ls 2 [(0, .ref q_t), (1, .ref q_a1)] := hl
  have hS : va_S A s.heap s.heap [] := va_S.rf
  obtain ⟨H, hHe⟩ : ∃ H, H = s.heap := ⟨_, rfl⟩
  obtain ⟨locs, hLe⟩ : ∃ L : List Loc, L = [] := ⟨_, rfl⟩
  rw [← hLe]
  rw [← hLe] at hS
  have hP : va_P D vwCl [(q_t, .inr (5, [.int t_date, .int t_hour, .int t_year, .int t_shift, .int t_kneelDate, .ref q_t_places, .ref q_t_coins, .ref q_t_lying])), (q_t_places, .inl (cI, 6, .inl t_places)), (q_t_coins, .inl (cI, 6, .inl t_coins)), (q_t_lying, .inl (cI, 30, .inl t_lying)), (q_a1, .inr (5, [.int a1_date, .int a1_hour, .int a1_year, .int a1_shift, .int a1_kneelDate, .ref q_a1_places, .ref q_a1_coins, .ref q_a1_lying])), (q_a1_places, .inl (cI, 6, .inl a1_places)), (q_a1_coins, .inl (cI, 6, .inl a1_coins)), (q_a1_lying, .inl (cI, 30, .inl a1_lying))] H := by rw [hHe]; exact hP
  have hS : va_S A s.heap H locs := by rw [hHe]; exact hS
  suffices hgo : W p l e ({ frames := 1, cells := 0, slots := 0, locals := 60 } : Room) s m args below meth c H locs 0 0 Q (F0 m 0 ls []) by rw [← hHe]; exact hgo
  clear hHe hLe
  refine lv_aload_n hx hb dX5_become_0 rfl (lv_at hl 0 rfl) ?_
  refine lv_aload_n hx hb dX5_become_1 rfl (lv_at hl 1 rfl) ?_
  refine va_get (D := D) (ci := 5) (v := .int a1_date) (C := RX5) (T := TX5) (N := 8) hx hb hts nX5_become_X5 hown hK hP 4 rfl rfl 0 (by decide) (hts _ mX5_become_1) (fun _ h9 => h9) rfl dX5_become_2 ?_
  refine va_put (D := D) (ci := 5) (v := .int a1_date) (ty := .int) (C := RX5) (T := TX5) (N := 8) hx hb hts nX5_become_X5 tyX5 tyX5_ok nmX5 hown hK hP hD hS 0 rfl rfl 0 (by decide) (hts _ mX5_become_1) (fun _ h9 => h9) rfl (by decide +kernel) rfl rfl (Nat.le_of_ble_eq_true rfl) dX5_become_5 (fun H locs hP hD hS => ?_)
  have hP : va_P D vwCl [(q_t, .inr (5, [.int a1_date, .int t_hour, .int t_year, .int t_shift, .int t_kneelDate, .ref q_t_places, .ref q_t_coins, .ref q_t_lying])), (q_t_places, .inl (cI, 6, .inl t_places)), (q_t_coins, .inl (cI, 6, .inl t_coins)), (q_t_lying, .inl (cI, 30, .inl t_lying)), (q_a1, .inr (5, [.int a1_date, .int a1_hour, .int a1_year, .int a1_shift, .int a1_kneelDate, .ref q_a1_places, .ref q_a1_coins, .ref q_a1_lying])), (q_a1_places, .inl (cI, 6, .inl a1_places)), (q_a1_coins, .inl (cI, 6, .inl a1_coins)), (q_a1_lying, .inl (cI, 30, .inl a1_lying))] H := hP
  have hD : va_D A [(q_t, .inr (5, [.int a1_date, .int t_hour, .int t_year, .int t_shift, .int t_kneelDate, .ref q_t_places, .ref q_t_coins, .ref q_t_lying])), (q_t_places, .inl (cI, 6, .inl t_places)), (q_t_coins, .inl (cI, 6, .inl t_coins)), (q_t_lying, .inl (cI, 30, .inl t_lying)), (q_a1, .inr (5, [.int a1_date, .int a1_hour, .int a1_year, .int a1_shift, .int a1_kneelDate, .ref q_a1_places, .ref q_a1_coins, .ref q_a1_lying])), (q_a1_places, .inl (cI, 6, .inl a1_places)), (q_a1_coins, .inl (cI, 6, .inl a1_coins)), (q_a1_lying, .inl (cI, 30, .inl a1_lying))] := hD
  refine lv_aload_n hx hb dX5_become_8 rfl (lv_at hl 0 rfl) ?_
  refine lv_aload_n hx hb dX5_become_9 rfl (lv_at hl 1 rfl) ?_
  refine va_get (D := D) (ci := 5) (v := .int a1_hour) (C := RX5) (T := TX5) (N := 8) hx hb hts nX5_become_X5 hown hK hP 4 rfl rfl 1 (by decide) (hts _ mX5_become_2) (fun _ h9 => h9) rfl dX5_become_10 ?_
  refine va_put (D := D) (ci := 5) (v := .int a1_hour) (ty := .int) (C := RX5) (T := TX5) (N := 8) hx hb hts nX5_become_X5 tyX5 tyX5_ok nmX5 hown hK hP hD hS 0 rfl rfl 1 (by decide) (hts _ mX5_become_2) (fun _ h9 => h9) rfl (by decide +kernel) rfl rfl (Nat.le_of_ble_eq_true rfl) dX5_become_13 (fun H locs hP hD hS => ?_)
  have hP : va_P D vwCl [(q_t, .inr (5, [.int a1_date, .int a1_hour, .int t_year, .int t_shift, .int t_kneelDate, .ref q_t_places, .ref q_t_coins, .ref q_t_lying])), (q_t_places, .inl (cI, 6, .inl t_places)), (q_t_coins, .inl (cI, 6, .inl t_coins)), (q_t_lying, .inl (cI, 30, .inl t_lying)), (q_a1, .inr (5, [.int a1_date, .int a1_hour, .int a1_year, .int a1_shift, .int a1_kneelDate, .ref q_a1_places, .ref q_a1_coins, .ref q_a1_lying])), (q_a1_places, .inl (cI, 6, .inl a1_places)), (q_a1_coins, .inl (cI, 6, .inl a1_coins)), (q_a1_lying, .inl (cI, 30, .inl a1_lying))] H := hP
  have hD : va_D A [(q_t, .inr (5, [.int a1_date, .int a1_hour, .int t_year, .int t_shift, .int t_kneelDate, .ref q_t_places, .ref q_t_coins, .ref q_t_lying])), (q_t_places, .inl (cI, 6, .inl t_places)), (q_t_coins, .inl (cI, 6, .inl t_coins)), (q_t_lying, .inl (cI, 30, .inl t_lying)), (q_a1, .inr (5, [.int a1_date, .int a1_hour, .int a1_year, .int a1_shift, .int a1_kneelDate, .ref q_a1_places, .ref q_a1_coins, .ref q_a1_lying])), (q_a1_places, .inl (cI, 6, .inl a1_places)), (q_a1_coins, .inl (cI, 6, .inl a1_coins)), (q_a1_lying, .inl (cI, 30, .inl a1_lying))] := hD
  refine lv_aload_n hx hb dX5_become_16 rfl (lv_at hl 0 rfl) ?_
  refine lv_aload_n hx hb dX5_become_17 rfl (lv_at hl 1 rfl) ?_
  refine va_get (D := D) (ci := 5) (v := .int a1_year) (C := RX5) (T := TX5) (N := 8) hx hb hts nX5_become_X5 hown hK hP 4 rfl rfl 2 (by decide) (hts _ mX5_become_3) (fun _ h9 => h9) rfl dX5_become_18 ?_
  refine va_put (D := D) (ci := 5) (v := .int a1_year) (ty := .int) (C := RX5) (T := TX5) (N := 8) hx hb hts nX5_become_X5 tyX5 tyX5_ok nmX5 hown hK hP hD hS 0 rfl rfl 2 (by decide) (hts _ mX5_become_3) (fun _ h9 => h9) rfl (by decide +kernel) rfl rfl (Nat.le_of_ble_eq_true rfl) dX5_become_21 (fun H locs hP hD hS => ?_)
  have hP : va_P D vwCl [(q_t, .inr (5, [.int a1_date, .int a1_hour, .int a1_year, .int t_shift, .int t_kneelDate, .ref q_t_places, .ref q_t_coins, .ref q_t_lying])), (q_t_places, .inl (cI, 6, .inl t_places)), (q_t_coins, .inl (cI, 6, .inl t_coins)), (q_t_lying, .inl (cI, 30, .inl t_lying)), (q_a1, .inr (5, [.int a1_date, .int a1_hour, .int a1_year, .int a1_shift, .int a1_kneelDate, .ref q_a1_places, .ref q_a1_coins, .ref q_a1_lying])), (q_a1_places, .inl (cI, 6, .inl a1_places)), (q_a1_coins, .inl (cI, 6, .inl a1_coins)), (q_a1_lying, .inl (cI, 30, .inl a1_lying))] H := hP
  have hD : va_D A [(q_t, .inr (5, [.int a1_date, .int a1_hour, .int a1_year, .int t_shift, .int t_kneelDate, .ref q_t_places, .ref q_t_coins, .ref q_t_lying])), (q_t_places, .inl (cI, 6, .inl t_places)), (q_t_coins, .inl (cI, 6, .inl t_coins)), (q_t_lying, .inl (cI, 30, .inl t_lying)), (q_a1, .inr (5, [.int a1_date, .int a1_hour, .int a1_year, .int a1_shift, .int a1_kneelDate, .ref q_a1_places, .ref q_a1_coins, .ref q_a1_lying])), (q_a1_places, .inl (cI, 6, .inl a1_places)), (q_a1_coins, .inl (cI, 6, .inl a1_coins)), (q_a1_lying, .inl (cI, 30, .inl a1_lying))] := hD
  refine lv_aload_n hx hb dX5_become_24 rfl (lv_at hl 0 rfl) ?_
  refine lv_aload_n hx hb dX5_become_25 rfl (lv_at hl 1 rfl) ?_
  refine va_get (D := D) (ci := 5) (v := .int a1_shift) (C := RX5) (T := TX5) (N := 8) hx hb hts nX5_become_X5 hown hK hP 4 rfl rfl 3 (by decide) (hts _ mX5_become_4) (fun _ h9 => h9) rfl dX5_become_26 ?_
  refine va_put (D := D) (ci := 5) (v := .int a1_shift) (ty := .int) (C := RX5) (T := TX5) (N := 8) hx hb hts nX5_become_X5 tyX5 tyX5_ok nmX5 hown hK hP hD hS 0 rfl rfl 3 (by decide) (hts _ mX5_become_4) (fun _ h9 => h9) rfl (by decide +kernel) rfl rfl (Nat.le_of_ble_eq_true rfl) dX5_become_29 (fun H locs hP hD hS => ?_)
  have hP : va_P D vwCl [(q_t, .inr (5, [.int a1_date, .int a1_hour, .int a1_year, .int a1_shift, .int t_kneelDate, .ref q_t_places, .ref q_t_coins, .ref q_t_lying])), (q_t_places, .inl (cI, 6, .inl t_places)), (q_t_coins, .inl (cI, 6, .inl t_coins)), (q_t_lying, .inl (cI, 30, .inl t_lying)), (q_a1, .inr (5, [.int a1_date, .int a1_hour, .int a1_year, .int a1_shift, .int a1_kneelDate, .ref q_a1_places, .ref q_a1_coins, .ref q_a1_lying])), (q_a1_places, .inl (cI, 6, .inl a1_places)), (q_a1_coins, .inl (cI, 6, .inl a1_coins)), (q_a1_lying, .inl (cI, 30, .inl a1_lying))] H := hP
  have hD : va_D A [(q_t, .inr (5, [.int a1_date, .int a1_hour, .int a1_year, .int a1_shift, .int t_kneelDate, .ref q_t_places, .ref q_t_coins, .ref q_t_lying])), (q_t_places, .inl (cI, 6, .inl t_places)), (q_t_coins, .inl (cI, 6, .inl t_coins)), (q_t_lying, .inl (cI, 30, .inl t_lying)), (q_a1, .inr (5, [.int a1_date, .int a1_hour, .int a1_year, .int a1_shift, .int a1_kneelDate, .ref q_a1_places, .ref q_a1_coins, .ref q_a1_lying])), (q_a1_places, .inl (cI, 6, .inl a1_places)), (q_a1_coins, .inl (cI, 6, .inl a1_coins)), (q_a1_lying, .inl (cI, 30, .inl a1_lying))] := hD
  refine lv_aload_n hx hb dX5_become_32 rfl (lv_at hl 0 rfl) ?_
  refine lv_aload_n hx hb dX5_become_33 rfl (lv_at hl 1 rfl) ?_
  refine va_get (D := D) (ci := 5) (v := .int a1_kneelDate) (C := RX5) (T := TX5) (N := 8) hx hb hts nX5_become_X5 hown hK hP 4 rfl rfl 4 (by decide) (hts _ mX5_become_5) (fun _ h9 => h9) rfl dX5_become_34 ?_
  refine va_put (D := D) (ci := 5) (v := .int a1_kneelDate) (ty := .int) (C := RX5) (T := TX5) (N := 8) hx hb hts nX5_become_X5 tyX5 tyX5_ok nmX5 hown hK hP hD hS 0 rfl rfl 4 (by decide) (hts _ mX5_become_5) (fun _ h9 => h9) rfl (by decide +kernel) rfl rfl (Nat.le_of_ble_eq_true rfl) dX5_become_37 (fun H locs hP hD hS => ?_)
  have hP : va_P D vwCl [(q_t, .inr (5, [.int a1_date, .int a1_hour, .int a1_year, .int a1_shift, .int a1_kneelDate, .ref q_t_places, .ref q_t_coins, .ref q_t_lying])), (q_t_places, .inl (cI, 6, .inl t_places)), (q_t_coins, .inl (cI, 6, .inl t_coins)), (q_t_lying, .inl (cI, 30, .inl t_lying)), (q_a1, .inr (5, [.int a1_date, .int a1_hour, .int a1_year, .int a1_shift, .int a1_kneelDate, .ref q_a1_places, .ref q_a1_coins, .ref q_a1_lying])), (q_a1_places, .inl (cI, 6, .inl a1_places)), (q_a1_coins, .inl (cI, 6, .inl a1_coins)), (q_a1_lying, .inl (cI, 30, .inl a1_lying))] H := hP
  have hD : va_D A [(q_t, .inr (5, [.int a1_date, .int a1_hour, .int a1_year, .int a1_shift, .int a1_kneelDate, .ref q_t_places, .ref q_t_coins, .ref q_t_lying])), (q_t_places, .inl (cI, 6, .inl t_places)), (q_t_coins, .inl (cI, 6, .inl t_coins)), (q_t_lying, .inl (cI, 30, .inl t_lying)), (q_a1, .inr (5, [.int a1_date, .int a1_hour, .int a1_year, .int a1_shift, .int a1_kneelDate, .ref q_a1_places, .ref q_a1_coins, .ref q_a1_lying])), (q_a1_places, .inl (cI, 6, .inl a1_places)), (q_a1_coins, .inl (cI, 6, .inl a1_coins)), (q_a1_lying, .inl (cI, 30, .inl a1_lying))] := hD
  refine lv_aload_n hx hb dX5_become_40 rfl (lv_at hl 1 rfl) ?_
  refine va_get (D := D) (ci := 5) (v := .ref q_a1_places) (C := RX5) (T := TX5) (N := 8) hx hb hts nX5_become_X5 hown hK hP 4 rfl rfl 5 (by decide) (hts _ mX5_become_6) (fun _ h9 => h9) rfl dX5_become_41 ?_
  refine lv_iconst (v := 0) hx hb dX5_become_44 (by decide) ?_
  refine lv_aload_n hx hb dX5_become_45 rfl (lv_at hl 0 rfl) ?_
  refine va_get (D := D) (ci := 5) (v := .ref q_t_places) (C := RX5) (T := TX5) (N := 8) hx hb hts nX5_become_X5 hown hK hP 0 rfl rfl 5 (by decide) (hts _ mX5_become_6) (fun _ h9 => h9) rfl dX5_become_46 ?_
  refine lv_iconst (v := 0) hx hb dX5_become_49 (by decide) ?_
  refine lv_bipush (v := 6) hx hb dX5_become_50 (by decide) ?_
  refine va_copyi hx hb (hml.trans hl.1.symm) hown (hts _ mX5_become_7) (hts _ mX5_become_8) (hts _ mX5_become_9) (hts _ mX5_become_10) hK hP hD hS 5 1 0 0 rfl rfl rfl rfl rfl (by decide) (by decide) (by decide) (by decide) (by decide) (fun _ _ => rfl) (Nat.le_of_ble_eq_true rfl) (Nat.le_of_ble_eq_true rfl) dX5_become_52 (fun H locs hP hD hS => ?_)
  have hP : va_P D vwCl [(q_t, .inr (5, [.int a1_date, .int a1_hour, .int a1_year, .int a1_shift, .int a1_kneelDate, .ref q_t_places, .ref q_t_coins, .ref q_t_lying])), (q_t_places, .inl (cI, 6, .inl (va_cpy a1_places t_places 0 0 6))), (q_t_coins, .inl (cI, 6, .inl t_coins)), (q_t_lying, .inl (cI, 30, .inl t_lying)), (q_a1, .inr (5, [.int a1_date, .int a1_hour, .int a1_year, .int a1_shift, .int a1_kneelDate, .ref q_a1_places, .ref q_a1_coins, .ref q_a1_lying])), (q_a1_places, .inl (cI, 6, .inl a1_places)), (q_a1_coins, .inl (cI, 6, .inl a1_coins)), (q_a1_lying, .inl (cI, 30, .inl a1_lying))] H := hP
  have hD : va_D A [(q_t, .inr (5, [.int a1_date, .int a1_hour, .int a1_year, .int a1_shift, .int a1_kneelDate, .ref q_t_places, .ref q_t_coins, .ref q_t_lying])), (q_t_places, .inl (cI, 6, .inl (va_cpy a1_places t_places 0 0 6))), (q_t_coins, .inl (cI, 6, .inl t_coins)), (q_t_lying, .inl (cI, 30, .inl t_lying)), (q_a1, .inr (5, [.int a1_date, .int a1_hour, .int a1_year, .int a1_shift, .int a1_kneelDate, .ref q_a1_places, .ref q_a1_coins, .ref q_a1_lying])), (q_a1_places, .inl (cI, 6, .inl a1_places)), (q_a1_coins, .inl (cI, 6, .inl a1_coins)), (q_a1_lying, .inl (cI, 30, .inl a1_lying))] := hD
  refine lv_aload_n hx hb dX5_become_55 rfl (lv_at hl 1 rfl) ?_
  refine va_get (D := D) (ci := 5) (v := .ref q_a1_coins) (C := RX5) (T := TX5) (N := 8) hx hb hts nX5_become_X5 hown hK hP 4 rfl rfl 6 (by decide) (hts _ mX5_become_11) (fun _ h9 => h9) rfl dX5_become_56 ?_
  refine lv_iconst (v := 0) hx hb dX5_become_59 (by decide) ?_
  refine lv_aload_n hx hb dX5_become_60 rfl (lv_at hl 0 rfl) ?_
  refine va_get (D := D) (ci := 5) (v := .ref q_t_coins) (C := RX5) (T := TX5) (N := 8) hx hb hts nX5_become_X5 hown hK hP 0 rfl rfl 6 (by decide) (hts _ mX5_become_11) (fun _ h9 => h9) rfl dX5_become_61 ?_
  refine lv_iconst (v := 0) hx hb dX5_become_64 (by decide) ?_
  refine lv_bipush (v := 6) hx hb dX5_become_65 (by decide) ?_
  refine va_copyi hx hb (hml.trans hl.1.symm) hown (hts _ mX5_become_7) (hts _ mX5_become_8) (hts _ mX5_become_9) (hts _ mX5_become_10) hK hP hD hS 6 2 0 0 rfl rfl rfl rfl rfl (by decide) (by decide) (by decide) (by decide) (by decide) (fun _ _ => rfl) (Nat.le_of_ble_eq_true rfl) (Nat.le_of_ble_eq_true rfl) dX5_become_67 (fun H locs hP hD hS => ?_)
  have hP : va_P D vwCl [(q_t, .inr (5, [.int a1_date, .int a1_hour, .int a1_year, .int a1_shift, .int a1_kneelDate, .ref q_t_places, .ref q_t_coins, .ref q_t_lying])), (q_t_places, .inl (cI, 6, .inl (va_cpy a1_places t_places 0 0 6))), (q_t_coins, .inl (cI, 6, .inl (va_cpy a1_coins t_coins 0 0 6))), (q_t_lying, .inl (cI, 30, .inl t_lying)), (q_a1, .inr (5, [.int a1_date, .int a1_hour, .int a1_year, .int a1_shift, .int a1_kneelDate, .ref q_a1_places, .ref q_a1_coins, .ref q_a1_lying])), (q_a1_places, .inl (cI, 6, .inl a1_places)), (q_a1_coins, .inl (cI, 6, .inl a1_coins)), (q_a1_lying, .inl (cI, 30, .inl a1_lying))] H := hP
  have hD : va_D A [(q_t, .inr (5, [.int a1_date, .int a1_hour, .int a1_year, .int a1_shift, .int a1_kneelDate, .ref q_t_places, .ref q_t_coins, .ref q_t_lying])), (q_t_places, .inl (cI, 6, .inl (va_cpy a1_places t_places 0 0 6))), (q_t_coins, .inl (cI, 6, .inl (va_cpy a1_coins t_coins 0 0 6))), (q_t_lying, .inl (cI, 30, .inl t_lying)), (q_a1, .inr (5, [.int a1_date, .int a1_hour, .int a1_year, .int a1_shift, .int a1_kneelDate, .ref q_a1_places, .ref q_a1_coins, .ref q_a1_lying])), (q_a1_places, .inl (cI, 6, .inl a1_places)), (q_a1_coins, .inl (cI, 6, .inl a1_coins)), (q_a1_lying, .inl (cI, 30, .inl a1_lying))] := hD
  refine lv_aload_n hx hb dX5_become_70 rfl (lv_at hl 1 rfl) ?_
  refine va_get (D := D) (ci := 5) (v := .ref q_a1_lying) (C := RX5) (T := TX5) (N := 8) hx hb hts nX5_become_X5 hown hK hP 4 rfl rfl 7 (by decide) (hts _ mX5_become_12) (fun _ h9 => h9) rfl dX5_become_71 ?_
  refine lv_iconst (v := 0) hx hb dX5_become_74 (by decide) ?_
  refine lv_aload_n hx hb dX5_become_75 rfl (lv_at hl 0 rfl) ?_
  refine va_get (D := D) (ci := 5) (v := .ref q_t_lying) (C := RX5) (T := TX5) (N := 8) hx hb hts nX5_become_X5 hown hK hP 0 rfl rfl 7 (by decide) (hts _ mX5_become_12) (fun _ h9 => h9) rfl dX5_become_76 ?_
  refine lv_iconst (v := 0) hx hb dX5_become_79 (by decide) ?_
  refine lv_bipush (v := 30) hx hb dX5_become_80 (by decide) ?_
  refine va_copyi hx hb (hml.trans hl.1.symm) hown (hts _ mX5_become_7) (hts _ mX5_become_8) (hts _ mX5_become_9) (hts _ mX5_become_10) hK hP hD hS 7 3 0 0 rfl rfl rfl rfl rfl (by decide) (by decide) (by decide) (by decide) (by decide) (fun _ _ => rfl) (Nat.le_of_ble_eq_true rfl) (Nat.le_of_ble_eq_true rfl) dX5_become_82 (fun H locs hP hD hS => ?_)
  have hP : va_P D vwCl [(q_t, .inr (5, [.int a1_date, .int a1_hour, .int a1_year, .int a1_shift, .int a1_kneelDate, .ref q_t_places, .ref q_t_coins, .ref q_t_lying])), (q_t_places, .inl (cI, 6, .inl (va_cpy a1_places t_places 0 0 6))), (q_t_coins, .inl (cI, 6, .inl (va_cpy a1_coins t_coins 0 0 6))), (q_t_lying, .inl (cI, 30, .inl (va_cpy a1_lying t_lying 0 0 30))), (q_a1, .inr (5, [.int a1_date, .int a1_hour, .int a1_year, .int a1_shift, .int a1_kneelDate, .ref q_a1_places, .ref q_a1_coins, .ref q_a1_lying])), (q_a1_places, .inl (cI, 6, .inl a1_places)), (q_a1_coins, .inl (cI, 6, .inl a1_coins)), (q_a1_lying, .inl (cI, 30, .inl a1_lying))] H := hP
  have hD : va_D A [(q_t, .inr (5, [.int a1_date, .int a1_hour, .int a1_year, .int a1_shift, .int a1_kneelDate, .ref q_t_places, .ref q_t_coins, .ref q_t_lying])), (q_t_places, .inl (cI, 6, .inl (va_cpy a1_places t_places 0 0 6))), (q_t_coins, .inl (cI, 6, .inl (va_cpy a1_coins t_coins 0 0 6))), (q_t_lying, .inl (cI, 30, .inl (va_cpy a1_lying t_lying 0 0 30))), (q_a1, .inr (5, [.int a1_date, .int a1_hour, .int a1_year, .int a1_shift, .int a1_kneelDate, .ref q_a1_places, .ref q_a1_coins, .ref q_a1_lying])), (q_a1_places, .inl (cI, 6, .inl a1_places)), (q_a1_coins, .inl (cI, 6, .inl a1_coins)), (q_a1_lying, .inl (cI, 30, .inl a1_lying))] := hD
  exact hret 85 ls H locs (a1_date, a1_hour, a1_year, a1_shift, a1_kneelDate, (va_cpy a1_places t_places 0 0 6), (va_cpy a1_coins t_coins 0 0 6), (va_cpy a1_lying t_lying 0 0 30)) dX5_become_85 hf hP hD hS

/-! X5_timeOf -/

def pX5_timeOf  (a1 : Int32) (a2 : Int32) (a3 : Int32) (post : Int32 → Prop) : Prop :=
  post ((((a1 * 365) + a2) * 24) + a3)

set_option maxHeartbeats 4000000 in
set_option maxRecDepth 100000 in
theorem kX5_timeOf (l : Launch) (D : va_G) (cI cZ cJ cO : ClassId)    (a1 : Int32) (a2 : Int32) (a3 : Int32) (post : Int32 → Prop) (hf : pX5_timeOf a1 a2 a3 post) :
    Met l yX5_timeOf wsX5_timeOf ({ frames := 0, cells := 0, slots := 0, locals := 0 } : Room) (va_Pc [.int a1, .int a2, .int a3] (B0 D (tyL cI cZ cJ cO) [])) (vp_Si post) 0 0 (fun _ => False) := by
  unfold pX5_timeOf at hf
  refine xm_0i (own := RX5) (by decide) rfl rfl (Nat.le_of_ble_eq_true rfl) (fun p e s m args below meth c Q C0 hN hK hret hP ls hl => ?_)
  obtain ⟨hx, hb, hml, hown, hts⟩ := id C0
  have hl : lv_has ls 3 [(0, .int a1), (1, .int a2), (2, .int a3)] := hl
  refine lv_iload_n hx hb dX5_timeOf_0 rfl (lv_at hl 0 rfl) ?_
  refine lv_sipush (v := 365) hx hb dX5_timeOf_1 (by decide) ?_
  refine lv_imul hx hb dX5_timeOf_4 ?_
  refine lv_iload_n hx hb dX5_timeOf_5 rfl (lv_at hl 1 rfl) ?_
  refine lv_iadd hx hb dX5_timeOf_6 ?_
  refine lv_bipush (v := 24) hx hb dX5_timeOf_7 (by decide) ?_
  refine lv_imul hx hb dX5_timeOf_9 ?_
  refine lv_iload_n hx hb dX5_timeOf_10 rfl (lv_at hl 2 rfl) ?_
  refine lv_iadd hx hb dX5_timeOf_11 ?_
  exact hret 12 ls ((((a1 * 365) + a2) * 24) + a3) dX5_timeOf_12 hf

/-! X5_timeBehind -/
theorem mX5_timeBehind_1 : Cond.fieldLink RX5 43 "OxenKneel$Act" "sign" "I" ∈ wsX5_timeBehind := List.mem_of_getElem? (i := 1) rfl
theorem mX5_timeBehind_2 : Cond.fieldLink RX5 18 "OxenKneel$World" "year" "I" ∈ wsX5_timeBehind := List.mem_of_getElem? (i := 2) rfl
theorem mX5_timeBehind_3 : Cond.fieldLink RX5 9 "OxenKneel$World" "date" "I" ∈ wsX5_timeBehind := List.mem_of_getElem? (i := 3) rfl
theorem mX5_timeBehind_4 : Cond.fieldLink RX5 15 "OxenKneel$World" "hour" "I" ∈ wsX5_timeBehind := List.mem_of_getElem? (i := 4) rfl
theorem mX5_timeBehind_5 : Cond.fieldLink RX5 75 "OxenKneel$Act" "number" "I" ∈ wsX5_timeBehind := List.mem_of_getElem? (i := 5) rfl
theorem mX5_timeBehind_6 : Cond.fieldLink RX5 24 "OxenKneel$World" "kneelDate" "I" ∈ wsX5_timeBehind := List.mem_of_getElem? (i := 6) rfl
theorem nX5_timeBehind_X0 : ∀ w ∈ wsX00, w ∈ wsX5_timeBehind := fun _ h => List.mem_cons_of_mem _ (List.mem_append_left _ (List.mem_append_right _ h))
theorem nX5_timeBehind_X5 : ∀ w ∈ wsX50, w ∈ wsX5_timeBehind := fun _ h => List.mem_cons_of_mem _ (List.mem_append_right _ h)
def pX5_timeBehind_b101 (t_date : Int32) (t_hour : Int32) (t_year : Int32) (t_kneelDate : Int32) (a1_sign : Int32) (a1_number : Int32) (post : Int32 → Prop) (s0 : Int32) : Prop :=
  pX5_timeOf s0 t_kneelDate 0 (fun r1 => post r1)

set_option maxHeartbeats 4000000 in
set_option maxRecDepth 100000 in
theorem wX5_timeBehind_b101 {p : Program} {l : Launch} {e : Env} {s : State} {m : MethodId} {args : Array Value} {below : List Frame} {meth : Method} {c : Code} {Q : State → Prop} {D : va_G} {cI cZ cJ cO : ClassId} (C0 : CallFix p m c cX5_timeBehind 2 s args wsX5_timeBehind RX5) (hN : nw s) (hK : va_K D vwCl (tyL cI cZ cJ cO) s) (q_t q_a1 q_t_places q_t_coins q_t_lying : Nat) (t_shift : Int32) (a1_person : Int32) (t_date : Int32) (t_hour : Int32) (t_year : Int32) (t_kneelDate : Int32) (a1_sign : Int32) (a1_number : Int32) (post : Int32 → Prop) (hret : h0I p l e ({ frames := 1, cells := 0, slots := 0, locals := 22 } : Room) s m args below meth c cX5_timeBehind Q post) (hP : va_P D vwCl [(q_t, .inr (5, [.int t_date, .int t_hour, .int t_year, .int t_shift, .int t_kneelDate, .ref q_t_places, .ref q_t_coins, .ref q_t_lying])), (q_a1, .inr (0, [.int a1_sign, .int a1_person, .int a1_number]))] s.heap) :
    ∀ (s0 : Int32), pX5_timeBehind_b101 t_date t_hour t_year t_kneelDate a1_sign a1_number post s0 → ∀ ls : Array Slot, lv_has ls 2 [(0, .ref q_t)] → W p l e ({ frames := 1, cells := 0, slots := 0, locals := 22 } : Room) s m args below meth c s.heap [] 0 0 Q (F0 m 101 ls [.int s0]) := by
  obtain ⟨hx, hb, hml, hown, hts⟩ := id C0
  intro s0 hf ls hl
  unfold pX5_timeBehind_b101 at hf
  refine lv_aload_n hx hb dX5_timeBehind_101 rfl (lv_at hl 0 rfl) ?_
  refine va_get (D := D) (ci := 5) (v := .int t_kneelDate) (C := RX5) (T := TX5) (N := 8) hx hb hts nX5_timeBehind_X5 hown hK hP 0 rfl rfl 4 (by decide) (hts _ mX5_timeBehind_6) (fun _ h9 => h9) rfl dX5_timeBehind_102 ?_
  refine lv_iconst (v := 0) hx hb dX5_timeBehind_105 (by decide) ?_
  refine xs_i (va_runS (As := [.int s0, .int t_kneelDate, .int 0]) (rest := []) ⟨hx, hb, hml, hown, hts⟩ (kX5_timeOf l D cI cZ cJ cO s0 t_kneelDate 0 _ hf) (va_cwS 3 hts gX5_timeBehind_X5_timeOf rfl rfl rfl (by decide +kernel) ⟨Nat.le_of_ble_eq_true rfl, Nat.le_of_ble_eq_true rfl⟩) (B0_pre (hP.sub (ws' := []) [] rfl) hK hN) rfl rfl hl.1 rfl (lv_room (Nat.le_of_ble_eq_true rfl)) dX5_timeBehind_106 ⟨Nat.zero_le _, Nat.zero_le _⟩) (fun r1 hf => ?_)
  exact hret 109 ls r1 dX5_timeBehind_109 hf

def pX5_timeBehind (t_date : Int32) (t_hour : Int32) (t_year : Int32) (t_kneelDate : Int32) (a1_sign : Int32) (a1_number : Int32)  (post : Int32 → Prop) : Prop :=
  (a1_sign = 100 → (pX5_timeOf t_year t_date t_hour (fun r2 => post (r2 + (a1_number * 24))))) ∧ ((a1_sign = 104 → (pX5_timeOf t_year t_date t_hour (fun r4 => post (r4 + a1_number)))) ∧ ((¬ a1_sign = 100 → ¬ a1_sign = 104 → ((t_kneelDate ≤ t_date → (pX5_timeBehind_b101 t_date t_hour t_year t_kneelDate a1_sign a1_number post  (t_year + 1))) ∧ (¬ t_kneelDate ≤ t_date → (pX5_timeBehind_b101 t_date t_hour t_year t_kneelDate a1_sign a1_number post  t_year))))))

set_option maxHeartbeats 4000000 in
set_option maxRecDepth 100000 in
theorem kX5_timeBehind (l : Launch) (D : va_G) (cI cZ cJ cO : ClassId) (q_t q_a1 q_t_places q_t_coins q_t_lying : Nat) (t_shift : Int32) (a1_person : Int32) (t_date : Int32) (t_hour : Int32) (t_year : Int32) (t_kneelDate : Int32) (a1_sign : Int32) (a1_number : Int32)  (post : Int32 → Prop) (hf : pX5_timeBehind t_date t_hour t_year t_kneelDate a1_sign a1_number post) :
    Met l yX5_timeBehind wsX5_timeBehind ({ frames := 1, cells := 0, slots := 0, locals := 22 } : Room) (va_Pc [.ref q_t, .ref q_a1] (B0 D (tyL cI cZ cJ cO) [(q_t, .inr (5, [.int t_date, .int t_hour, .int t_year, .int t_shift, .int t_kneelDate, .ref q_t_places, .ref q_t_coins, .ref q_t_lying])), (q_a1, .inr (0, [.int a1_sign, .int a1_person, .int a1_number]))])) (vp_Si post) 0 0 (fun _ => False) := by
  unfold pX5_timeBehind at hf
  refine xm_0i (own := RX5) (by decide) rfl rfl (Nat.le_of_ble_eq_true rfl) (fun p e s m args below meth c Q C0 hN hK hret hP ls hl => ?_)
  obtain ⟨hx, hb, hml, hown, hts⟩ := id C0
  have hl : lv_has ls 2 [(0, .ref q_t), (1, .ref q_a1)] := hl
  refine lv_aload_n hx hb dX5_timeBehind_0 rfl (lv_at hl 1 rfl) ?_
  refine va_get (D := D) (ci := 0) (v := .int a1_sign) (C := RX0) (T := TX0) (N := 3) hx hb hts nX5_timeBehind_X0 hown hK hP 1 rfl rfl 0 (by decide) (hts _ mX5_timeBehind_1) (fun _ h9 => h9) rfl dX5_timeBehind_1 ?_
  by_cases z1 : a1_sign = 100
  · have hf := hf.1 z1
    refine lv_lookup (off := 49) (tgt := 53) hx hb dX5_timeBehind_4 (by decide) (by rw [z1]; decide) (by decide) ?_
    refine lv_aload_n hx hb dX5_timeBehind_53 rfl (lv_at hl 0 rfl) ?_
    refine va_get (D := D) (ci := 5) (v := .int t_year) (C := RX5) (T := TX5) (N := 8) hx hb hts nX5_timeBehind_X5 hown hK hP 0 rfl rfl 2 (by decide) (hts _ mX5_timeBehind_2) (fun _ h9 => h9) rfl dX5_timeBehind_54 ?_
    refine lv_aload_n hx hb dX5_timeBehind_57 rfl (lv_at hl 0 rfl) ?_
    refine va_get (D := D) (ci := 5) (v := .int t_date) (C := RX5) (T := TX5) (N := 8) hx hb hts nX5_timeBehind_X5 hown hK hP 0 rfl rfl 0 (by decide) (hts _ mX5_timeBehind_3) (fun _ h9 => h9) rfl dX5_timeBehind_58 ?_
    refine lv_aload_n hx hb dX5_timeBehind_61 rfl (lv_at hl 0 rfl) ?_
    refine va_get (D := D) (ci := 5) (v := .int t_hour) (C := RX5) (T := TX5) (N := 8) hx hb hts nX5_timeBehind_X5 hown hK hP 0 rfl rfl 1 (by decide) (hts _ mX5_timeBehind_4) (fun _ h9 => h9) rfl dX5_timeBehind_62 ?_
    refine xs_i (va_runS (As := [.int t_year, .int t_date, .int t_hour]) (rest := []) ⟨hx, hb, hml, hown, hts⟩ (kX5_timeOf l D cI cZ cJ cO t_year t_date t_hour _ hf) (va_cwS 3 hts gX5_timeBehind_X5_timeOf rfl rfl rfl (by decide +kernel) ⟨Nat.le_of_ble_eq_true rfl, Nat.le_of_ble_eq_true rfl⟩) (B0_pre (hP.sub (ws' := []) [] rfl) hK hN) rfl rfl hl.1 rfl (lv_room (Nat.le_of_ble_eq_true rfl)) dX5_timeBehind_65 ⟨Nat.zero_le _, Nat.zero_le _⟩) (fun r2 hf => ?_)
    refine lv_aload_n hx hb dX5_timeBehind_68 rfl (lv_at hl 1 rfl) ?_
    refine va_get (D := D) (ci := 0) (v := .int a1_number) (C := RX0) (T := TX0) (N := 3) hx hb hts nX5_timeBehind_X0 hown hK hP 1 rfl rfl 2 (by decide) (hts _ mX5_timeBehind_5) (fun _ h9 => h9) rfl dX5_timeBehind_69 ?_
    refine lv_bipush (v := 24) hx hb dX5_timeBehind_72 (by decide) ?_
    refine lv_imul hx hb dX5_timeBehind_74 ?_
    refine lv_iadd hx hb dX5_timeBehind_75 ?_
    exact hret 76 ls (r2 + (a1_number * 24)) dX5_timeBehind_76 hf
  · have hf := hf.2
    by_cases z3 : a1_sign = 104
    · have hf := hf.1 z3
      refine lv_lookup (off := 28) (tgt := 32) hx hb dX5_timeBehind_4 (by decide) (by rw [z3]; decide) (by decide) ?_
      refine lv_aload_n hx hb dX5_timeBehind_32 rfl (lv_at hl 0 rfl) ?_
      refine va_get (D := D) (ci := 5) (v := .int t_year) (C := RX5) (T := TX5) (N := 8) hx hb hts nX5_timeBehind_X5 hown hK hP 0 rfl rfl 2 (by decide) (hts _ mX5_timeBehind_2) (fun _ h9 => h9) rfl dX5_timeBehind_33 ?_
      refine lv_aload_n hx hb dX5_timeBehind_36 rfl (lv_at hl 0 rfl) ?_
      refine va_get (D := D) (ci := 5) (v := .int t_date) (C := RX5) (T := TX5) (N := 8) hx hb hts nX5_timeBehind_X5 hown hK hP 0 rfl rfl 0 (by decide) (hts _ mX5_timeBehind_3) (fun _ h9 => h9) rfl dX5_timeBehind_37 ?_
      refine lv_aload_n hx hb dX5_timeBehind_40 rfl (lv_at hl 0 rfl) ?_
      refine va_get (D := D) (ci := 5) (v := .int t_hour) (C := RX5) (T := TX5) (N := 8) hx hb hts nX5_timeBehind_X5 hown hK hP 0 rfl rfl 1 (by decide) (hts _ mX5_timeBehind_4) (fun _ h9 => h9) rfl dX5_timeBehind_41 ?_
      refine xs_i (va_runS (As := [.int t_year, .int t_date, .int t_hour]) (rest := []) ⟨hx, hb, hml, hown, hts⟩ (kX5_timeOf l D cI cZ cJ cO t_year t_date t_hour _ hf) (va_cwS 3 hts gX5_timeBehind_X5_timeOf rfl rfl rfl (by decide +kernel) ⟨Nat.le_of_ble_eq_true rfl, Nat.le_of_ble_eq_true rfl⟩) (B0_pre (hP.sub (ws' := []) [] rfl) hK hN) rfl rfl hl.1 rfl (lv_room (Nat.le_of_ble_eq_true rfl)) dX5_timeBehind_44 ⟨Nat.zero_le _, Nat.zero_le _⟩) (fun r4 hf => ?_)
      refine lv_aload_n hx hb dX5_timeBehind_47 rfl (lv_at hl 1 rfl) ?_
      refine va_get (D := D) (ci := 0) (v := .int a1_number) (C := RX0) (T := TX0) (N := 3) hx hb hts nX5_timeBehind_X0 hown hK hP 1 rfl rfl 2 (by decide) (hts _ mX5_timeBehind_5) (fun _ h9 => h9) rfl dX5_timeBehind_48 ?_
      refine lv_iadd hx hb dX5_timeBehind_51 ?_
      exact hret 52 ls (r4 + a1_number) dX5_timeBehind_52 hf
    · have hf := hf.2
      have hf := hf z1 z3
      refine lv_lookup (off := 73) (tgt := 77) hx hb dX5_timeBehind_4 (by decide) ((lv_osw z1 (by decide)).trans ((lv_osw z3 (by decide)).trans (rfl))) (by decide) ?_
      refine lv_aload_n hx hb dX5_timeBehind_77 rfl (lv_at hl 0 rfl) ?_
      refine va_get (D := D) (ci := 5) (v := .int t_date) (C := RX5) (T := TX5) (N := 8) hx hb hts nX5_timeBehind_X5 hown hK hP 0 rfl rfl 0 (by decide) (hts _ mX5_timeBehind_3) (fun _ h9 => h9) rfl dX5_timeBehind_78 ?_
      refine lv_aload_n hx hb dX5_timeBehind_81 rfl (lv_at hl 0 rfl) ?_
      refine va_get (D := D) (ci := 5) (v := .int t_kneelDate) (C := RX5) (T := TX5) (N := 8) hx hb hts nX5_timeBehind_X5 hown hK hP 0 rfl rfl 4 (by decide) (hts _ mX5_timeBehind_6) (fun _ h9 => h9) rfl dX5_timeBehind_82 ?_
      refine lv_icmp_ge (tgt := 95) hx hb dX5_timeBehind_85 (by decide) (fun c5 => ?_) (fun c5 => ?_)
      · have hf := hf.1 c5
        refine lv_aload_n hx hb dX5_timeBehind_95 rfl (lv_at hl 0 rfl) ?_
        refine va_get (D := D) (ci := 5) (v := .int t_year) (C := RX5) (T := TX5) (N := 8) hx hb hts nX5_timeBehind_X5 hown hK hP 0 rfl rfl 2 (by decide) (hts _ mX5_timeBehind_2) (fun _ h9 => h9) rfl dX5_timeBehind_96 ?_
        refine lv_iconst (v := 1) hx hb dX5_timeBehind_99 (by decide) ?_
        refine lv_iadd hx hb dX5_timeBehind_100 ?_
        exact wX5_timeBehind_b101 C0 hN hK q_t q_a1 q_t_places q_t_coins q_t_lying t_shift a1_person t_date t_hour t_year t_kneelDate a1_sign a1_number post hret hP   (t_year + 1) hf ls (lv_sub hl [0] rfl)
      · have hf := hf.2 c5
        refine lv_aload_n hx hb dX5_timeBehind_88 rfl (lv_at hl 0 rfl) ?_
        refine va_get (D := D) (ci := 5) (v := .int t_year) (C := RX5) (T := TX5) (N := 8) hx hb hts nX5_timeBehind_X5 hown hK hP 0 rfl rfl 2 (by decide) (hts _ mX5_timeBehind_2) (fun _ h9 => h9) rfl dX5_timeBehind_89 ?_
        refine lv_goto (tgt := 101) hx hb dX5_timeBehind_92 (by decide) ?_
        exact wX5_timeBehind_b101 C0 hN hK q_t q_a1 q_t_places q_t_coins q_t_lying t_shift a1_person t_date t_hour t_year t_kneelDate a1_sign a1_number post hret hP   t_year hf ls (lv_sub hl [0] rfl)

/-! X6_isPerson -/

def pX6_isPerson  (a1 : Int32) (post : Int32 → Prop) : Prop :=
  pX6_isIn a1 0 5 (fun r1 => zb r1 ∧ post r1)

set_option maxHeartbeats 4000000 in
set_option maxRecDepth 100000 in
theorem kX6_isPerson (l : Launch) (D : va_G) (cI cZ cJ cO : ClassId)    (a1 : Int32) (post : Int32 → Prop) (hf : pX6_isPerson a1 post) :
    Met l yX6_isPerson wsX6_isPerson ({ frames := 1, cells := 0, slots := 0, locals := 22 } : Room) (va_Pc [.int a1] (B0 D (tyL cI cZ cJ cO) [])) (vp_Si post) 0 0 (fun _ => False) := by
  unfold pX6_isPerson at hf
  refine xm_0z (own := RX6) (by decide) rfl rfl (Nat.le_of_ble_eq_true rfl) (fun p e s m args below meth c Q C0 hN hK hret hP ls hl => ?_)
  obtain ⟨hx, hb, hml, hown, hts⟩ := id C0
  have hl : lv_has ls 1 [(0, .int a1)] := hl
  refine lv_iload_n hx hb dX6_isPerson_0 rfl (lv_at hl 0 rfl) ?_
  refine lv_iconst (v := 0) hx hb dX6_isPerson_1 (by decide) ?_
  refine lv_iconst (v := 5) hx hb dX6_isPerson_2 (by decide) ?_
  refine xs_i (va_runS (As := [.int a1, .int 0, .int 5]) (rest := []) ⟨hx, hb, hml, hown, hts⟩ (kX6_isIn l D cI cZ cJ cO a1 0 5 _ hf) (va_cwS 3 hts gX6_isPerson_X6_isIn rfl rfl rfl (by decide +kernel) ⟨Nat.le_of_ble_eq_true rfl, Nat.le_of_ble_eq_true rfl⟩) (B0_pre (hP.sub (ws' := []) [] rfl) hK hN) rfl rfl hl.1 rfl (lv_room (Nat.le_of_ble_eq_true rfl)) dX6_isPerson_3 ⟨Nat.zero_le _, Nat.zero_le _⟩) (fun r1 hf => ?_)
  exact hret 6 ls r1 dX6_isPerson_6 hf.1 hf.2

/-! X5_kneelNow -/
theorem mX5_kneelNow_1 : Cond.fieldLink RX5 9 "OxenKneel$World" "date" "I" ∈ wsX5_kneelNow := List.mem_of_getElem? (i := 1) rfl
theorem mX5_kneelNow_2 : Cond.fieldLink RX5 24 "OxenKneel$World" "kneelDate" "I" ∈ wsX5_kneelNow := List.mem_of_getElem? (i := 2) rfl
theorem mX5_kneelNow_3 : Cond.fieldLink RX5 15 "OxenKneel$World" "hour" "I" ∈ wsX5_kneelNow := List.mem_of_getElem? (i := 3) rfl
theorem nX5_kneelNow_X5 : ∀ w ∈ wsX50, w ∈ wsX5_kneelNow := fun _ h => List.mem_cons_of_mem _ (List.mem_append_right _ h)
def pX5_kneelNow (t_date : Int32) (t_hour : Int32) (t_kneelDate : Int32)  (post : Int32 → Prop) : Prop :=
  (¬ t_date = t_kneelDate → (post 0)) ∧ (t_date = t_kneelDate → ((¬ t_hour = 0 → (post 0)) ∧ (t_hour = 0 → (post 1))))

set_option maxHeartbeats 4000000 in
set_option maxRecDepth 100000 in
theorem kX5_kneelNow (l : Launch) (D : va_G) (cI cZ cJ cO : ClassId) (q_t q_t_places q_t_coins q_t_lying : Nat) (t_year : Int32) (t_shift : Int32) (t_date : Int32) (t_hour : Int32) (t_kneelDate : Int32)  (post : Int32 → Prop) (hf : pX5_kneelNow t_date t_hour t_kneelDate post) :
    Met l yX5_kneelNow wsX5_kneelNow ({ frames := 0, cells := 0, slots := 0, locals := 0 } : Room) (va_Pc [.ref q_t] (B0 D (tyL cI cZ cJ cO) [(q_t, .inr (5, [.int t_date, .int t_hour, .int t_year, .int t_shift, .int t_kneelDate, .ref q_t_places, .ref q_t_coins, .ref q_t_lying]))])) (vp_Si post) 0 0 (fun _ => False) := by
  unfold pX5_kneelNow at hf
  refine xm_0z (own := RX5) (by decide) rfl rfl (Nat.le_of_ble_eq_true rfl) (fun p e s m args below meth c Q C0 hN hK hret hP ls hl => ?_)
  obtain ⟨hx, hb, hml, hown, hts⟩ := id C0
  have hl : lv_has ls 1 [(0, .ref q_t)] := hl
  refine lv_aload_n hx hb dX5_kneelNow_0 rfl (lv_at hl 0 rfl) ?_
  refine va_get (D := D) (ci := 5) (v := .int t_date) (C := RX5) (T := TX5) (N := 8) hx hb hts nX5_kneelNow_X5 hown hK hP 0 rfl rfl 0 (by decide) (hts _ mX5_kneelNow_1) (fun _ h9 => h9) rfl dX5_kneelNow_1 ?_
  refine lv_aload_n hx hb dX5_kneelNow_4 rfl (lv_at hl 0 rfl) ?_
  refine va_get (D := D) (ci := 5) (v := .int t_kneelDate) (C := RX5) (T := TX5) (N := 8) hx hb hts nX5_kneelNow_X5 hown hK hP 0 rfl rfl 4 (by decide) (hts _ mX5_kneelNow_2) (fun _ h9 => h9) rfl dX5_kneelNow_5 ?_
  refine lv_icmp_ne (tgt := 22) hx hb dX5_kneelNow_8 (by decide) (fun c1 => ?_) (fun c1 => ?_)
  · have hf := hf.1 c1
    refine lv_iconst (v := 0) hx hb dX5_kneelNow_22 (by decide) ?_
    exact hret 23 ls 0 dX5_kneelNow_23 rfl hf
  · have hf := hf.2 c1
    refine lv_aload_n hx hb dX5_kneelNow_11 rfl (lv_at hl 0 rfl) ?_
    refine va_get (D := D) (ci := 5) (v := .int t_hour) (C := RX5) (T := TX5) (N := 8) hx hb hts nX5_kneelNow_X5 hown hK hP 0 rfl rfl 1 (by decide) (hts _ mX5_kneelNow_3) (fun _ h9 => h9) rfl dX5_kneelNow_12 ?_
    refine lv_if_ne (tgt := 22) hx hb dX5_kneelNow_15 (by decide) (fun c2 => ?_) (fun c2 => ?_)
    · have hf := hf.1 c2
      refine lv_iconst (v := 0) hx hb dX5_kneelNow_22 (by decide) ?_
      exact hret 23 ls 0 dX5_kneelNow_23 rfl hf
    · have hf := hf.2 c2
      refine lv_iconst (v := 1) hx hb dX5_kneelNow_18 (by decide) ?_
      refine lv_goto (tgt := 23) hx hb dX5_kneelNow_19 (by decide) ?_
      exact hret 23 ls 1 dX5_kneelNow_23 rfl hf

/-! X5_reasonAgainstSteppingOver -/
theorem mX5_reasonAgainstSteppingOver_4 : Cond.initialized RX6 ∈ wsX5_reasonAgainstSteppingOver := List.mem_of_getElem? (i := 4) rfl
theorem mX5_reasonAgainstSteppingOver_3 : Cond.static yX6_isPerson ∈ wsX5_reasonAgainstSteppingOver := List.mem_of_getElem? (i := 3) rfl
theorem mX5_reasonAgainstSteppingOver_1 : Cond.fieldLink RX5 27 "OxenKneel$World" "places" "[I" ∈ wsX5_reasonAgainstSteppingOver := List.mem_of_getElem? (i := 1) rfl
theorem mX5_reasonAgainstSteppingOver_2 : Cond.fieldLink RX5 21 "OxenKneel$World" "shift" "I" ∈ wsX5_reasonAgainstSteppingOver := List.mem_of_getElem? (i := 2) rfl
theorem nX5_reasonAgainstSteppingOver_X5 : ∀ w ∈ wsX50, w ∈ wsX5_reasonAgainstSteppingOver := fun _ h => List.mem_cons_of_mem _ (List.mem_append_right _ h)
def pX5_reasonAgainstSteppingOver (t_date : Int32) (t_hour : Int32) (t_shift : Int32) (t_kneelDate : Int32) (t_places : (Nat → Int32)) (a1 : Int32) (post : Int32 → Prop) : Prop :=
  pX6_isPerson a1 (fun r1 => (r1 = 0 → (post 1)) ∧ (¬ r1 = 0 → (vp_in a1 6 ∧ (((t_places a1.toNatClampNeg) = (-6) → (pX5_kneelNow t_date t_hour t_kneelDate (fun r5 => (¬ r5 = 0 → ((t_shift ≤ 0 → (post 3)) ∧ (¬ t_shift ≤ 0 → (post 0)))) ∧ (r5 = 0 → (post 2))))) ∧ (¬ (t_places a1.toNatClampNeg) = (-6) → (post 1))))))

set_option maxHeartbeats 4000000 in
set_option maxRecDepth 100000 in
theorem kX5_reasonAgainstSteppingOver (l : Launch) (D : va_G) (cI cZ cJ cO : ClassId) (q_t q_t_places q_t_coins q_t_lying : Nat) (t_year : Int32) (t_date : Int32) (t_hour : Int32) (t_shift : Int32) (t_kneelDate : Int32) (t_places : (Nat → Int32)) (a1 : Int32) (post : Int32 → Prop) (hf : pX5_reasonAgainstSteppingOver t_date t_hour t_shift t_kneelDate t_places a1 post) :
    Met l yX5_reasonAgainstSteppingOver wsX5_reasonAgainstSteppingOver ({ frames := 2, cells := 0, slots := 0, locals := 42 } : Room) (va_Pc [.ref q_t, .int a1] (B0 D (tyL cI cZ cJ cO) [(q_t, .inr (5, [.int t_date, .int t_hour, .int t_year, .int t_shift, .int t_kneelDate, .ref q_t_places, .ref q_t_coins, .ref q_t_lying])), (q_t_places, .inl (cI, 6, .inl t_places))])) (vp_Si post) 0 0 (fun _ => False) := by
  unfold pX5_reasonAgainstSteppingOver at hf
  refine xm_0i (own := RX5) (by decide) rfl rfl (Nat.le_of_ble_eq_true rfl) (fun p e s m args below meth c Q C0 hN hK hret hP ls hl => ?_)
  obtain ⟨hx, hb, hml, hown, hts⟩ := id C0
  have hl : lv_has ls 2 [(0, .ref q_t), (1, .int a1)] := hl
  refine lv_iload_n hx hb dX5_reasonAgainstSteppingOver_0 rfl (lv_at hl 1 rfl) ?_
  refine xs_i (va_runSN (As := [.int a1]) (rest := []) ⟨hx, hb, hml, hown, hts⟩ (kX6_isPerson l D cI cZ cJ cO a1 _ hf) ⟨va_cnB 1 hts gX5_reasonAgainstSteppingOver_X6_isPerson_n63 rfl rfl rfl (nw_at hN 7 rfl) (hts _ mX5_reasonAgainstSteppingOver_4) (by decide +kernel) ⟨Nat.le_of_ble_eq_true rfl, Nat.le_of_ble_eq_true rfl⟩, hts _ mX5_reasonAgainstSteppingOver_3, trivial⟩ (B0_pre (hP.sub (ws' := []) [] rfl) hK hN) rfl rfl hl.1 rfl (lv_room (Nat.le_of_ble_eq_true rfl)) dX5_reasonAgainstSteppingOver_1 ⟨Nat.zero_le _, Nat.zero_le _⟩) (fun r1 hf => ?_)
  refine lv_if_eq (tgt := 18) hx hb dX5_reasonAgainstSteppingOver_4 (by decide) (fun c2 => ?_) (fun c2 => ?_)
  · have hf := hf.1 c2
    refine lv_iconst (v := 1) hx hb dX5_reasonAgainstSteppingOver_18 (by decide) ?_
    exact hret 19 ls 1 dX5_reasonAgainstSteppingOver_19 hf
  · have hf := hf.2 c2
    refine lv_aload_n hx hb dX5_reasonAgainstSteppingOver_7 rfl (lv_at hl 0 rfl) ?_
    refine va_get (D := D) (ci := 5) (v := .ref q_t_places) (C := RX5) (T := TX5) (N := 8) hx hb hts nX5_reasonAgainstSteppingOver_X5 hown hK hP 0 rfl rfl 5 (by decide) (hts _ mX5_reasonAgainstSteppingOver_1) (fun _ h9 => h9) rfl dX5_reasonAgainstSteppingOver_8 ?_
    refine lv_iload_n hx hb dX5_reasonAgainstSteppingOver_11 rfl (lv_at hl 1 rfl) ?_
    have g3 := hf.1
    have hf := hf.2
    refine xa_iald hx hb hK hP 1 0 rfl rfl (j := a1.toNatClampNeg) rfl g3 dX5_reasonAgainstSteppingOver_12 ?_
    refine lv_bipush (v := (-6)) hx hb dX5_reasonAgainstSteppingOver_13 (by decide) ?_
    refine lv_icmp_eq (tgt := 20) hx hb dX5_reasonAgainstSteppingOver_15 (by decide) (fun c4 => ?_) (fun c4 => ?_)
    · have hf := hf.1 c4
      refine lv_aload_n hx hb dX5_reasonAgainstSteppingOver_20 rfl (lv_at hl 0 rfl) ?_
      refine xs_i (va_runV (As := []) (rest := []) ⟨hx, hb, hml, hown, hts⟩ (kX5_kneelNow l D cI cZ cJ cO q_t q_t_places q_t_coins q_t_lying t_year t_shift t_date t_hour t_kneelDate _ hf) (cwV 0 hts gX5_reasonAgainstSteppingOver_X5_kneelNow rfl rfl rfl (by decide +kernel) ⟨Nat.le_of_ble_eq_true rfl, Nat.le_of_ble_eq_true rfl⟩) (B0_preV (ci := 5) (q0 := 0) hP rfl rfl (hP.sub (ws' := [(q_t, .inr (5, [.int t_date, .int t_hour, .int t_year, .int t_shift, .int t_kneelDate, .ref q_t_places, .ref q_t_coins, .ref q_t_lying]))]) [0] rfl) hK hN) rfl rfl hl.1 rfl (lv_room (Nat.le_of_ble_eq_true rfl)) dX5_reasonAgainstSteppingOver_21 ⟨Nat.zero_le _, Nat.zero_le _⟩) (fun r5 hf => ?_)
      refine lv_if_ne (tgt := 29) hx hb dX5_reasonAgainstSteppingOver_24 (by decide) (fun c6 => ?_) (fun c6 => ?_)
      · have hf := hf.1 c6
        refine lv_aload_n hx hb dX5_reasonAgainstSteppingOver_29 rfl (lv_at hl 0 rfl) ?_
        refine va_get (D := D) (ci := 5) (v := .int t_shift) (C := RX5) (T := TX5) (N := 8) hx hb hts nX5_reasonAgainstSteppingOver_X5 hown hK hP 0 rfl rfl 3 (by decide) (hts _ mX5_reasonAgainstSteppingOver_2) (fun _ h9 => h9) rfl dX5_reasonAgainstSteppingOver_30 ?_
        refine lv_if_le (tgt := 40) hx hb dX5_reasonAgainstSteppingOver_33 (by decide) (fun c7 => ?_) (fun c7 => ?_)
        · have hf := hf.1 c7
          refine lv_iconst (v := 3) hx hb dX5_reasonAgainstSteppingOver_40 (by decide) ?_
          exact hret 41 ls 3 dX5_reasonAgainstSteppingOver_41 hf
        · have hf := hf.2 c7
          refine lv_iconst (v := 0) hx hb dX5_reasonAgainstSteppingOver_36 (by decide) ?_
          refine lv_goto (tgt := 41) hx hb dX5_reasonAgainstSteppingOver_37 (by decide) ?_
          exact hret 41 ls 0 dX5_reasonAgainstSteppingOver_41 hf
      · have hf := hf.2 c6
        refine lv_iconst (v := 2) hx hb dX5_reasonAgainstSteppingOver_27 (by decide) ?_
        exact hret 28 ls 2 dX5_reasonAgainstSteppingOver_28 hf
    · have hf := hf.2 c4
      refine lv_iconst (v := 1) hx hb dX5_reasonAgainstSteppingOver_18 (by decide) ?_
      exact hret 19 ls 1 dX5_reasonAgainstSteppingOver_19 hf

/-! X5_reasonAgainstActWithin -/
theorem mX5_reasonAgainstActWithin_1 : Cond.fieldLink RX5 53 "OxenKneel$Act" "person" "I" ∈ wsX5_reasonAgainstActWithin := List.mem_of_getElem? (i := 1) rfl
theorem mX5_reasonAgainstActWithin_9 : Cond.initialized RX6 ∈ wsX5_reasonAgainstActWithin := List.mem_of_getElem? (i := 9) rfl
theorem mX5_reasonAgainstActWithin_8 : Cond.static yX6_isPerson ∈ wsX5_reasonAgainstActWithin := List.mem_of_getElem? (i := 8) rfl
theorem mX5_reasonAgainstActWithin_2 : Cond.fieldLink RX5 27 "OxenKneel$World" "places" "[I" ∈ wsX5_reasonAgainstActWithin := List.mem_of_getElem? (i := 2) rfl
theorem mX5_reasonAgainstActWithin_12 : Cond.static yX6_isIn ∈ wsX5_reasonAgainstActWithin := List.mem_of_getElem? (i := 12) rfl
theorem mX5_reasonAgainstActWithin_3 : Cond.fieldLink RX5 43 "OxenKneel$Act" "sign" "I" ∈ wsX5_reasonAgainstActWithin := List.mem_of_getElem? (i := 3) rfl
theorem mX5_reasonAgainstActWithin_5 : Cond.fieldLink RX5 31 "OxenKneel$World" "coins" "[I" ∈ wsX5_reasonAgainstActWithin := List.mem_of_getElem? (i := 5) rfl
theorem mX5_reasonAgainstActWithin_6 : Cond.fieldLink RX5 75 "OxenKneel$Act" "number" "I" ∈ wsX5_reasonAgainstActWithin := List.mem_of_getElem? (i := 6) rfl
theorem mX5_reasonAgainstActWithin_4 : Cond.fieldLink RX5 21 "OxenKneel$World" "shift" "I" ∈ wsX5_reasonAgainstActWithin := List.mem_of_getElem? (i := 4) rfl
theorem mX5_reasonAgainstActWithin_7 : Cond.fieldLink RX5 34 "OxenKneel$World" "lying" "[I" ∈ wsX5_reasonAgainstActWithin := List.mem_of_getElem? (i := 7) rfl
theorem nX5_reasonAgainstActWithin_X0 : ∀ w ∈ wsX00, w ∈ wsX5_reasonAgainstActWithin := fun _ h => List.mem_cons_of_mem _ (List.mem_append_left _ (List.mem_append_right _ h))
theorem nX5_reasonAgainstActWithin_X5 : ∀ w ∈ wsX50, w ∈ wsX5_reasonAgainstActWithin := fun _ h => List.mem_cons_of_mem _ (List.mem_append_right _ h)
def pX5_reasonAgainstActWithin (t_date : Int32) (t_hour : Int32) (t_shift : Int32) (t_kneelDate : Int32) (t_places : (Nat → Int32)) (t_coins : (Nat → Int32)) (t_lying : (Nat → Int32)) (a1_sign : Int32) (a1_person : Int32) (a1_number : Int32)  (post : Int32 → Prop) : Prop :=
  pX6_isPerson a1_person (fun r1 => (r1 = 0 → (post 1)) ∧ (¬ r1 = 0 → (vp_in a1_person 6 ∧ (pX6_isIn (t_places a1_person.toNatClampNeg) 0 29 (fun r4 => (¬ r4 = 0 → (vp_in a1_person 6 ∧ (∀ v7 : Int32, v7 = (t_places a1_person.toNatClampNeg) → ((a1_sign = 36 → (vp_in a1_person 6 ∧ (((t_coins a1_person.toNatClampNeg) < a1_number → (post 5)) ∧ (¬ (t_coins a1_person.toNatClampNeg) < a1_number → (post 0))))) ∧ ((a1_sign = 41 → (pX5_kneelNow t_date t_hour t_kneelDate (fun r12 => (r12 = 0 → (post 2)) ∧ (¬ r12 = 0 → (post 0))))) ∧ ((a1_sign = 60 → ((v7 ≤ 0 → (post 4)) ∧ (¬ v7 ≤ 0 → (post 0)))) ∧ ((a1_sign = 62 → ((t_shift ≤ (v7 + 1) → (post 4)) ∧ (¬ t_shift ≤ (v7 + 1) → (post 0)))) ∧ ((¬ a1_sign = 36 → ¬ a1_sign = 41 → ¬ a1_sign = 60 → ¬ a1_sign = 62 → (vp_in v7 30 ∧ (((t_lying v7.toNatClampNeg) ≤ 0 → (post 6)) ∧ (¬ (t_lying v7.toNatClampNeg) ≤ 0 → (post 0))))))))))))) ∧ (r4 = 0 → (post 1)))))))

set_option maxHeartbeats 4000000 in
set_option maxRecDepth 100000 in
theorem kX5_reasonAgainstActWithin (l : Launch) (D : va_G) (cI cZ cJ cO : ClassId) (q_t q_t_places q_t_coins q_t_lying q_a1 : Nat) (t_year : Int32) (t_date : Int32) (t_hour : Int32) (t_shift : Int32) (t_kneelDate : Int32) (t_places : (Nat → Int32)) (t_coins : (Nat → Int32)) (t_lying : (Nat → Int32)) (a1_sign : Int32) (a1_person : Int32) (a1_number : Int32)  (post : Int32 → Prop) (hf : pX5_reasonAgainstActWithin t_date t_hour t_shift t_kneelDate t_places t_coins t_lying a1_sign a1_person a1_number post) :
    Met l yX5_reasonAgainstActWithin wsX5_reasonAgainstActWithin ({ frames := 2, cells := 0, slots := 0, locals := 42 } : Room) (va_Pc [.ref q_t, .ref q_a1] (B0 D (tyL cI cZ cJ cO) [(q_t, .inr (5, [.int t_date, .int t_hour, .int t_year, .int t_shift, .int t_kneelDate, .ref q_t_places, .ref q_t_coins, .ref q_t_lying])), (q_t_places, .inl (cI, 6, .inl t_places)), (q_t_coins, .inl (cI, 6, .inl t_coins)), (q_t_lying, .inl (cI, 30, .inl t_lying)), (q_a1, .inr (0, [.int a1_sign, .int a1_person, .int a1_number]))])) (vp_Si post) 0 0 (fun _ => False) := by
  unfold pX5_reasonAgainstActWithin at hf
  refine xm_0i (own := RX5) (by decide) rfl rfl (Nat.le_of_ble_eq_true rfl) (fun p e s m args below meth c Q C0 hN hK hret hP ls hl => ?_)
  obtain ⟨hx, hb, hml, hown, hts⟩ := id C0
  have hl : lv_has ls 3 [(0, .ref q_t), (1, .ref q_a1)] := hl
  refine lv_aload_n hx hb dX5_reasonAgainstActWithin_0 rfl (lv_at hl 1 rfl) ?_
  refine va_get (D := D) (ci := 0) (v := .int a1_person) (C := RX0) (T := TX0) (N := 3) hx hb hts nX5_reasonAgainstActWithin_X0 hown hK hP 4 rfl rfl 1 (by decide) (hts _ mX5_reasonAgainstActWithin_1) (fun _ h9 => h9) rfl dX5_reasonAgainstActWithin_1 ?_
  refine xs_i (va_runSN (As := [.int a1_person]) (rest := []) ⟨hx, hb, hml, hown, hts⟩ (kX6_isPerson l D cI cZ cJ cO a1_person _ hf) ⟨va_cnB 1 hts gX5_reasonAgainstActWithin_X6_isPerson_n63 rfl rfl rfl (nw_at hN 7 rfl) (hts _ mX5_reasonAgainstActWithin_9) (by decide +kernel) ⟨Nat.le_of_ble_eq_true rfl, Nat.le_of_ble_eq_true rfl⟩, hts _ mX5_reasonAgainstActWithin_8, trivial⟩ (B0_pre (hP.sub (ws' := []) [] rfl) hK hN) rfl rfl hl.1 rfl (lv_room (Nat.le_of_ble_eq_true rfl)) dX5_reasonAgainstActWithin_4 ⟨Nat.zero_le _, Nat.zero_le _⟩) (fun r1 hf => ?_)
  refine lv_if_eq (tgt := 28) hx hb dX5_reasonAgainstActWithin_7 (by decide) (fun c2 => ?_) (fun c2 => ?_)
  · have hf := hf.1 c2
    refine lv_iconst (v := 1) hx hb dX5_reasonAgainstActWithin_28 (by decide) ?_
    exact hret 29 ls 1 dX5_reasonAgainstActWithin_29 hf
  · have hf := hf.2 c2
    refine lv_aload_n hx hb dX5_reasonAgainstActWithin_10 rfl (lv_at hl 0 rfl) ?_
    refine va_get (D := D) (ci := 5) (v := .ref q_t_places) (C := RX5) (T := TX5) (N := 8) hx hb hts nX5_reasonAgainstActWithin_X5 hown hK hP 0 rfl rfl 5 (by decide) (hts _ mX5_reasonAgainstActWithin_2) (fun _ h9 => h9) rfl dX5_reasonAgainstActWithin_11 ?_
    refine lv_aload_n hx hb dX5_reasonAgainstActWithin_14 rfl (lv_at hl 1 rfl) ?_
    refine va_get (D := D) (ci := 0) (v := .int a1_person) (C := RX0) (T := TX0) (N := 3) hx hb hts nX5_reasonAgainstActWithin_X0 hown hK hP 4 rfl rfl 1 (by decide) (hts _ mX5_reasonAgainstActWithin_1) (fun _ h9 => h9) rfl dX5_reasonAgainstActWithin_15 ?_
    have g3 := hf.1
    have hf := hf.2
    refine xa_iald hx hb hK hP 1 0 rfl rfl (j := a1_person.toNatClampNeg) rfl g3 dX5_reasonAgainstActWithin_18 ?_
    refine lv_iconst (v := 0) hx hb dX5_reasonAgainstActWithin_19 (by decide) ?_
    refine lv_bipush (v := 29) hx hb dX5_reasonAgainstActWithin_20 (by decide) ?_
    refine xs_i (va_runSN (As := [.int (t_places a1_person.toNatClampNeg), .int 0, .int 29]) (rest := []) ⟨hx, hb, hml, hown, hts⟩ (kX6_isIn l D cI cZ cJ cO (t_places a1_person.toNatClampNeg) 0 29 _ hf) ⟨va_cnB 3 hts gX5_reasonAgainstActWithin_X6_isIn_n71 rfl rfl rfl (nw_at hN 8 rfl) (hts _ mX5_reasonAgainstActWithin_9) (by decide +kernel) ⟨Nat.le_of_ble_eq_true rfl, Nat.le_of_ble_eq_true rfl⟩, hts _ mX5_reasonAgainstActWithin_12, trivial⟩ (B0_pre (hP.sub (ws' := []) [] rfl) hK hN) rfl rfl hl.1 rfl (lv_room (Nat.le_of_ble_eq_true rfl)) dX5_reasonAgainstActWithin_22 ⟨Nat.zero_le _, Nat.zero_le _⟩) (fun r4 hf => ?_)
    refine lv_if_ne (tgt := 30) hx hb dX5_reasonAgainstActWithin_25 (by decide) (fun c5 => ?_) (fun c5 => ?_)
    · have hf := hf.1 c5
      refine lv_aload_n hx hb dX5_reasonAgainstActWithin_30 rfl (lv_at hl 0 rfl) ?_
      refine va_get (D := D) (ci := 5) (v := .ref q_t_places) (C := RX5) (T := TX5) (N := 8) hx hb hts nX5_reasonAgainstActWithin_X5 hown hK hP 0 rfl rfl 5 (by decide) (hts _ mX5_reasonAgainstActWithin_2) (fun _ h9 => h9) rfl dX5_reasonAgainstActWithin_31 ?_
      refine lv_aload_n hx hb dX5_reasonAgainstActWithin_34 rfl (lv_at hl 1 rfl) ?_
      refine va_get (D := D) (ci := 0) (v := .int a1_person) (C := RX0) (T := TX0) (N := 3) hx hb hts nX5_reasonAgainstActWithin_X0 hown hK hP 4 rfl rfl 1 (by decide) (hts _ mX5_reasonAgainstActWithin_1) (fun _ h9 => h9) rfl dX5_reasonAgainstActWithin_35 ?_
      have g6 := hf.1
      have hf := hf.2
      refine xa_iald hx hb hK hP 1 0 rfl rfl (j := a1_person.toNatClampNeg) rfl g6 dX5_reasonAgainstActWithin_38 ?_
      refine lv_topi (fun v7 ev7 => ?_)
      have hf := hf v7 ev7
      refine lv_istore_n (lv' := [(2, .int v7), (0, .ref q_t), (1, .ref q_a1)]) hx hb dX5_reasonAgainstActWithin_39 rfl hl (by decide) rfl (fun ls hl => ?_)
      refine lv_aload_n hx hb dX5_reasonAgainstActWithin_40 rfl (lv_at hl 2 rfl) ?_
      refine va_get (D := D) (ci := 0) (v := .int a1_sign) (C := RX0) (T := TX0) (N := 3) hx hb hts nX5_reasonAgainstActWithin_X0 hown hK hP 4 rfl rfl 0 (by decide) (hts _ mX5_reasonAgainstActWithin_3) (fun _ h9 => h9) rfl dX5_reasonAgainstActWithin_41 ?_
      by_cases z8 : a1_sign = 36
      · have hf := hf.1 z8
        refine lv_lookup (off := 83) (tgt := 127) hx hb dX5_reasonAgainstActWithin_44 (by decide) (by rw [z8]; decide) (by decide) ?_
        refine lv_aload_n hx hb dX5_reasonAgainstActWithin_127 rfl (lv_at hl 1 rfl) ?_
        refine va_get (D := D) (ci := 5) (v := .ref q_t_coins) (C := RX5) (T := TX5) (N := 8) hx hb hts nX5_reasonAgainstActWithin_X5 hown hK hP 0 rfl rfl 6 (by decide) (hts _ mX5_reasonAgainstActWithin_5) (fun _ h9 => h9) rfl dX5_reasonAgainstActWithin_128 ?_
        refine lv_aload_n hx hb dX5_reasonAgainstActWithin_131 rfl (lv_at hl 2 rfl) ?_
        refine va_get (D := D) (ci := 0) (v := .int a1_person) (C := RX0) (T := TX0) (N := 3) hx hb hts nX5_reasonAgainstActWithin_X0 hown hK hP 4 rfl rfl 1 (by decide) (hts _ mX5_reasonAgainstActWithin_1) (fun _ h9 => h9) rfl dX5_reasonAgainstActWithin_132 ?_
        have g9 := hf.1
        have hf := hf.2
        refine xa_iald hx hb hK hP 2 0 rfl rfl (j := a1_person.toNatClampNeg) rfl g9 dX5_reasonAgainstActWithin_135 ?_
        refine lv_aload_n hx hb dX5_reasonAgainstActWithin_136 rfl (lv_at hl 2 rfl) ?_
        refine va_get (D := D) (ci := 0) (v := .int a1_number) (C := RX0) (T := TX0) (N := 3) hx hb hts nX5_reasonAgainstActWithin_X0 hown hK hP 4 rfl rfl 2 (by decide) (hts _ mX5_reasonAgainstActWithin_6) (fun _ h9 => h9) rfl dX5_reasonAgainstActWithin_137 ?_
        refine lv_icmp_lt (tgt := 147) hx hb dX5_reasonAgainstActWithin_140 (by decide) (fun c10 => ?_) (fun c10 => ?_)
        · have hf := hf.1 c10
          refine lv_iconst (v := 5) hx hb dX5_reasonAgainstActWithin_147 (by decide) ?_
          exact hret 148 ls 5 dX5_reasonAgainstActWithin_148 hf
        · have hf := hf.2 c10
          refine lv_iconst (v := 0) hx hb dX5_reasonAgainstActWithin_143 (by decide) ?_
          refine lv_goto (tgt := 148) hx hb dX5_reasonAgainstActWithin_144 (by decide) ?_
          exact hret 148 ls 0 dX5_reasonAgainstActWithin_148 hf
      · have hf := hf.2
        by_cases z11 : a1_sign = 41
        · have hf := hf.1 z11
          refine lv_lookup (off := 44) (tgt := 88) hx hb dX5_reasonAgainstActWithin_44 (by decide) (by rw [z11]; decide) (by decide) ?_
          refine lv_aload_n hx hb dX5_reasonAgainstActWithin_88 rfl (lv_at hl 1 rfl) ?_
          refine xs_i (va_runV (As := []) (rest := []) ⟨hx, hb, hml, hown, hts⟩ (kX5_kneelNow l D cI cZ cJ cO q_t q_t_places q_t_coins q_t_lying t_year t_shift t_date t_hour t_kneelDate _ hf) (cwV 0 hts gX5_reasonAgainstActWithin_X5_kneelNow rfl rfl rfl (by decide +kernel) ⟨Nat.le_of_ble_eq_true rfl, Nat.le_of_ble_eq_true rfl⟩) (B0_preV (ci := 5) (q0 := 0) hP rfl rfl (hP.sub (ws' := [(q_t, .inr (5, [.int t_date, .int t_hour, .int t_year, .int t_shift, .int t_kneelDate, .ref q_t_places, .ref q_t_coins, .ref q_t_lying]))]) [0] rfl) hK hN) rfl rfl hl.1 rfl (lv_room (Nat.le_of_ble_eq_true rfl)) dX5_reasonAgainstActWithin_89 ⟨Nat.zero_le _, Nat.zero_le _⟩) (fun r12 hf => ?_)
          refine lv_if_eq (tgt := 99) hx hb dX5_reasonAgainstActWithin_92 (by decide) (fun c13 => ?_) (fun c13 => ?_)
          · have hf := hf.1 c13
            refine lv_iconst (v := 2) hx hb dX5_reasonAgainstActWithin_99 (by decide) ?_
            exact hret 100 ls 2 dX5_reasonAgainstActWithin_100 hf
          · have hf := hf.2 c13
            refine lv_iconst (v := 0) hx hb dX5_reasonAgainstActWithin_95 (by decide) ?_
            refine lv_goto (tgt := 100) hx hb dX5_reasonAgainstActWithin_96 (by decide) ?_
            exact hret 100 ls 0 dX5_reasonAgainstActWithin_100 hf
        · have hf := hf.2
          by_cases z14 : a1_sign = 60
          · have hf := hf.1 z14
            refine lv_lookup (off := 73) (tgt := 117) hx hb dX5_reasonAgainstActWithin_44 (by decide) (by rw [z14]; decide) (by decide) ?_
            refine lv_iload_n hx hb dX5_reasonAgainstActWithin_117 rfl (lv_at hl 0 rfl) ?_
            refine lv_if_le (tgt := 125) hx hb dX5_reasonAgainstActWithin_118 (by decide) (fun c15 => ?_) (fun c15 => ?_)
            · have hf := hf.1 c15
              refine lv_iconst (v := 4) hx hb dX5_reasonAgainstActWithin_125 (by decide) ?_
              exact hret 126 ls 4 dX5_reasonAgainstActWithin_126 hf
            · have hf := hf.2 c15
              refine lv_iconst (v := 0) hx hb dX5_reasonAgainstActWithin_121 (by decide) ?_
              refine lv_goto (tgt := 126) hx hb dX5_reasonAgainstActWithin_122 (by decide) ?_
              exact hret 126 ls 0 dX5_reasonAgainstActWithin_126 hf
          · have hf := hf.2
            by_cases z16 : a1_sign = 62
            · have hf := hf.1 z16
              refine lv_lookup (off := 57) (tgt := 101) hx hb dX5_reasonAgainstActWithin_44 (by decide) (by rw [z16]; decide) (by decide) ?_
              refine lv_iload_n hx hb dX5_reasonAgainstActWithin_101 rfl (lv_at hl 0 rfl) ?_
              refine lv_iconst (v := 1) hx hb dX5_reasonAgainstActWithin_102 (by decide) ?_
              refine lv_iadd hx hb dX5_reasonAgainstActWithin_103 ?_
              refine lv_aload_n hx hb dX5_reasonAgainstActWithin_104 rfl (lv_at hl 1 rfl) ?_
              refine va_get (D := D) (ci := 5) (v := .int t_shift) (C := RX5) (T := TX5) (N := 8) hx hb hts nX5_reasonAgainstActWithin_X5 hown hK hP 0 rfl rfl 3 (by decide) (hts _ mX5_reasonAgainstActWithin_4) (fun _ h9 => h9) rfl dX5_reasonAgainstActWithin_105 ?_
              refine lv_icmp_ge (tgt := 115) hx hb dX5_reasonAgainstActWithin_108 (by decide) (fun c17 => ?_) (fun c17 => ?_)
              · have hf := hf.1 c17
                refine lv_iconst (v := 4) hx hb dX5_reasonAgainstActWithin_115 (by decide) ?_
                exact hret 116 ls 4 dX5_reasonAgainstActWithin_116 hf
              · have hf := hf.2 c17
                refine lv_iconst (v := 0) hx hb dX5_reasonAgainstActWithin_111 (by decide) ?_
                refine lv_goto (tgt := 116) hx hb dX5_reasonAgainstActWithin_112 (by decide) ?_
                exact hret 116 ls 0 dX5_reasonAgainstActWithin_116 hf
            · have hf := hf.2
              have hf := hf z8 z11 z14 z16
              refine lv_lookup (off := 105) (tgt := 149) hx hb dX5_reasonAgainstActWithin_44 (by decide) ((lv_osw z8 (by decide)).trans ((lv_osw z11 (by decide)).trans ((lv_osw z14 (by decide)).trans ((lv_osw z16 (by decide)).trans (rfl))))) (by decide) ?_
              refine lv_aload_n hx hb dX5_reasonAgainstActWithin_149 rfl (lv_at hl 1 rfl) ?_
              refine va_get (D := D) (ci := 5) (v := .ref q_t_lying) (C := RX5) (T := TX5) (N := 8) hx hb hts nX5_reasonAgainstActWithin_X5 hown hK hP 0 rfl rfl 7 (by decide) (hts _ mX5_reasonAgainstActWithin_7) (fun _ h9 => h9) rfl dX5_reasonAgainstActWithin_150 ?_
              refine lv_iload_n hx hb dX5_reasonAgainstActWithin_153 rfl (lv_at hl 0 rfl) ?_
              have g18 := hf.1
              have hf := hf.2
              refine xa_iald hx hb hK hP 3 0 rfl rfl (j := v7.toNatClampNeg) rfl g18 dX5_reasonAgainstActWithin_154 ?_
              refine lv_if_le (tgt := 162) hx hb dX5_reasonAgainstActWithin_155 (by decide) (fun c19 => ?_) (fun c19 => ?_)
              · have hf := hf.1 c19
                refine lv_bipush (v := 6) hx hb dX5_reasonAgainstActWithin_162 (by decide) ?_
                exact hret 164 ls 6 dX5_reasonAgainstActWithin_164 hf
              · have hf := hf.2 c19
                refine lv_iconst (v := 0) hx hb dX5_reasonAgainstActWithin_158 (by decide) ?_
                refine lv_goto (tgt := 164) hx hb dX5_reasonAgainstActWithin_159 (by decide) ?_
                exact hret 164 ls 0 dX5_reasonAgainstActWithin_164 hf
    · have hf := hf.2 c5
      refine lv_iconst (v := 1) hx hb dX5_reasonAgainstActWithin_28 (by decide) ?_
      exact hret 29 ls 1 dX5_reasonAgainstActWithin_29 hf

/-! X5_reasonAgainst -/
theorem mX5_reasonAgainst_1 : Cond.fieldLink RX5 43 "OxenKneel$Act" "sign" "I" ∈ wsX5_reasonAgainst := List.mem_of_getElem? (i := 1) rfl
theorem mX5_reasonAgainst_3 : Cond.fieldLink RX5 53 "OxenKneel$Act" "person" "I" ∈ wsX5_reasonAgainst := List.mem_of_getElem? (i := 3) rfl
theorem mX5_reasonAgainst_2 : Cond.constant RX5 52 (876000) ∈ wsX5_reasonAgainst := List.mem_of_getElem? (i := 2) rfl
theorem nX5_reasonAgainst_X0 : ∀ w ∈ wsX00, w ∈ wsX5_reasonAgainst := fun _ h => List.mem_cons_of_mem _ (List.mem_append_left _ (List.mem_append_right _ h))
def pX5_reasonAgainst_b48 (t_date : Int32) (t_hour : Int32) (t_year : Int32) (t_shift : Int32) (t_kneelDate : Int32) (t_places : (Nat → Int32)) (t_coins : (Nat → Int32)) (t_lying : (Nat → Int32)) (a1_sign : Int32) (a1_person : Int32) (a1_number : Int32) (post : Int32 → Prop)  : Prop :=
  pX5_timeBehind t_date t_hour t_year t_kneelDate a1_sign a1_number (fun r1 => (876000 ≤ r1 → (post 7)) ∧ (¬ 876000 ≤ r1 → (post 0)))

set_option maxHeartbeats 4000000 in
set_option maxRecDepth 100000 in
theorem wX5_reasonAgainst_b48 {p : Program} {l : Launch} {e : Env} {s : State} {m : MethodId} {args : Array Value} {below : List Frame} {meth : Method} {c : Code} {Q : State → Prop} {D : va_G} {cI cZ cJ cO : ClassId} (C0 : CallFix p m c cX5_reasonAgainst 2 s args wsX5_reasonAgainst RX5) (hN : nw s) (hK : va_K D vwCl (tyL cI cZ cJ cO) s) (q_t q_t_places q_t_coins q_t_lying q_a1 : Nat)  (t_date : Int32) (t_hour : Int32) (t_year : Int32) (t_shift : Int32) (t_kneelDate : Int32) (t_places : (Nat → Int32)) (t_coins : (Nat → Int32)) (t_lying : (Nat → Int32)) (a1_sign : Int32) (a1_person : Int32) (a1_number : Int32) (post : Int32 → Prop) (hret : h0I p l e ({ frames := 3, cells := 0, slots := 0, locals := 64 } : Room) s m args below meth c cX5_reasonAgainst Q post) (hP : va_P D vwCl [(q_t, .inr (5, [.int t_date, .int t_hour, .int t_year, .int t_shift, .int t_kneelDate, .ref q_t_places, .ref q_t_coins, .ref q_t_lying])), (q_t_places, .inl (cI, 6, .inl t_places)), (q_t_coins, .inl (cI, 6, .inl t_coins)), (q_t_lying, .inl (cI, 30, .inl t_lying)), (q_a1, .inr (0, [.int a1_sign, .int a1_person, .int a1_number]))] s.heap) :
    pX5_reasonAgainst_b48 t_date t_hour t_year t_shift t_kneelDate t_places t_coins t_lying a1_sign a1_person a1_number post  → ∀ ls : Array Slot, lv_has ls 2 [(0, .ref q_t), (1, .ref q_a1)] → W p l e ({ frames := 3, cells := 0, slots := 0, locals := 64 } : Room) s m args below meth c s.heap [] 0 0 Q (F0 m 48 ls []) := by
  obtain ⟨hx, hb, hml, hown, hts⟩ := id C0
  intro hf ls hl
  unfold pX5_reasonAgainst_b48 at hf
  refine lv_aload_n hx hb dX5_reasonAgainst_48 rfl (lv_at hl 0 rfl) ?_
  refine lv_aload_n hx hb dX5_reasonAgainst_49 rfl (lv_at hl 1 rfl) ?_
  refine xs_i (va_runV (As := [.ref q_a1]) (rest := []) ⟨hx, hb, hml, hown, hts⟩ (kX5_timeBehind l D cI cZ cJ cO q_t q_a1 q_t_places q_t_coins q_t_lying t_shift a1_person t_date t_hour t_year t_kneelDate a1_sign a1_number _ hf) (cwV 1 hts gX5_reasonAgainst_X5_timeBehind rfl rfl rfl (by decide +kernel) ⟨Nat.le_of_ble_eq_true rfl, Nat.le_of_ble_eq_true rfl⟩) (B0_preV (ci := 5) (q0 := 0) hP rfl rfl (hP.sub (ws' := [(q_t, .inr (5, [.int t_date, .int t_hour, .int t_year, .int t_shift, .int t_kneelDate, .ref q_t_places, .ref q_t_coins, .ref q_t_lying])), (q_a1, .inr (0, [.int a1_sign, .int a1_person, .int a1_number]))]) [0, 4] rfl) hK hN) rfl rfl hl.1 rfl (lv_room (Nat.le_of_ble_eq_true rfl)) dX5_reasonAgainst_50 ⟨Nat.zero_le _, Nat.zero_le _⟩) (fun r1 hf => ?_)
  refine lv_ldc (v := 876000) hx hb hown (hts _ mX5_reasonAgainst_2) dX5_reasonAgainst_53 ?_
  refine lv_icmp_ge (tgt := 62) hx hb dX5_reasonAgainst_55 (by decide) (fun c2 => ?_) (fun c2 => ?_)
  · have hf := hf.1 c2
    refine lv_bipush (v := 7) hx hb dX5_reasonAgainst_62 (by decide) ?_
    exact hret 64 ls 7 dX5_reasonAgainst_64 hf
  · have hf := hf.2 c2
    refine lv_iconst (v := 0) hx hb dX5_reasonAgainst_58 (by decide) ?_
    refine lv_goto (tgt := 64) hx hb dX5_reasonAgainst_59 (by decide) ?_
    exact hret 64 ls 0 dX5_reasonAgainst_64 hf

def pX5_reasonAgainst (t_date : Int32) (t_hour : Int32) (t_year : Int32) (t_shift : Int32) (t_kneelDate : Int32) (t_places : (Nat → Int32)) (t_coins : (Nat → Int32)) (t_lying : (Nat → Int32)) (a1_sign : Int32) (a1_person : Int32) (a1_number : Int32)  (post : Int32 → Prop) : Prop :=
  (a1_sign = 40 → (pX5_reasonAgainstSteppingOver t_date t_hour t_shift t_kneelDate t_places a1_person (fun r2 => post r2))) ∧ ((a1_sign = 100 → (pX5_reasonAgainst_b48 t_date t_hour t_year t_shift t_kneelDate t_places t_coins t_lying a1_sign a1_person a1_number post  )) ∧ ((a1_sign = 104 → (pX5_reasonAgainst_b48 t_date t_hour t_year t_shift t_kneelDate t_places t_coins t_lying a1_sign a1_person a1_number post  )) ∧ ((a1_sign = 107 → (pX5_reasonAgainst_b48 t_date t_hour t_year t_shift t_kneelDate t_places t_coins t_lying a1_sign a1_person a1_number post  )) ∧ ((¬ a1_sign = 40 → ¬ a1_sign = 100 → ¬ a1_sign = 104 → ¬ a1_sign = 107 → (pX5_reasonAgainstActWithin t_date t_hour t_shift t_kneelDate t_places t_coins t_lying a1_sign a1_person a1_number (fun r6 => post r6)))))))

set_option maxHeartbeats 4000000 in
set_option maxRecDepth 100000 in
theorem kX5_reasonAgainst (l : Launch) (D : va_G) (cI cZ cJ cO : ClassId) (q_t q_t_places q_t_coins q_t_lying q_a1 : Nat)  (t_date : Int32) (t_hour : Int32) (t_year : Int32) (t_shift : Int32) (t_kneelDate : Int32) (t_places : (Nat → Int32)) (t_coins : (Nat → Int32)) (t_lying : (Nat → Int32)) (a1_sign : Int32) (a1_person : Int32) (a1_number : Int32)  (post : Int32 → Prop) (hf : pX5_reasonAgainst t_date t_hour t_year t_shift t_kneelDate t_places t_coins t_lying a1_sign a1_person a1_number post) :
    Met l yX5_reasonAgainst wsX5_reasonAgainst ({ frames := 3, cells := 0, slots := 0, locals := 64 } : Room) (va_Pc [.ref q_t, .ref q_a1] (B0 D (tyL cI cZ cJ cO) [(q_t, .inr (5, [.int t_date, .int t_hour, .int t_year, .int t_shift, .int t_kneelDate, .ref q_t_places, .ref q_t_coins, .ref q_t_lying])), (q_t_places, .inl (cI, 6, .inl t_places)), (q_t_coins, .inl (cI, 6, .inl t_coins)), (q_t_lying, .inl (cI, 30, .inl t_lying)), (q_a1, .inr (0, [.int a1_sign, .int a1_person, .int a1_number]))])) (vp_Si post) 0 0 (fun _ => False) := by
  unfold pX5_reasonAgainst at hf
  refine xm_0i (own := RX5) (by decide) rfl rfl (Nat.le_of_ble_eq_true rfl) (fun p e s m args below meth c Q C0 hN hK hret hP ls hl => ?_)
  obtain ⟨hx, hb, hml, hown, hts⟩ := id C0
  have hl : lv_has ls 2 [(0, .ref q_t), (1, .ref q_a1)] := hl
  refine lv_aload_n hx hb dX5_reasonAgainst_0 rfl (lv_at hl 1 rfl) ?_
  refine va_get (D := D) (ci := 0) (v := .int a1_sign) (C := RX0) (T := TX0) (N := 3) hx hb hts nX5_reasonAgainst_X0 hown hK hP 4 rfl rfl 0 (by decide) (hts _ mX5_reasonAgainst_1) (fun _ h9 => h9) rfl dX5_reasonAgainst_1 ?_
  by_cases z1 : a1_sign = 40
  · have hf := hf.1 z1
    refine lv_lookup (off := 61) (tgt := 65) hx hb dX5_reasonAgainst_4 (by decide) (by rw [z1]; decide) (by decide) ?_
    refine lv_aload_n hx hb dX5_reasonAgainst_65 rfl (lv_at hl 0 rfl) ?_
    refine lv_aload_n hx hb dX5_reasonAgainst_66 rfl (lv_at hl 1 rfl) ?_
    refine va_get (D := D) (ci := 0) (v := .int a1_person) (C := RX0) (T := TX0) (N := 3) hx hb hts nX5_reasonAgainst_X0 hown hK hP 4 rfl rfl 1 (by decide) (hts _ mX5_reasonAgainst_3) (fun _ h9 => h9) rfl dX5_reasonAgainst_67 ?_
    refine xs_i (va_runV (As := [.int a1_person]) (rest := []) ⟨hx, hb, hml, hown, hts⟩ (kX5_reasonAgainstSteppingOver l D cI cZ cJ cO q_t q_t_places q_t_coins q_t_lying t_year t_date t_hour t_shift t_kneelDate t_places a1_person _ hf) (cwV 1 hts gX5_reasonAgainst_X5_reasonAgainstSteppingOver rfl rfl rfl (by decide +kernel) ⟨Nat.le_of_ble_eq_true rfl, Nat.le_of_ble_eq_true rfl⟩) (B0_preV (ci := 5) (q0 := 0) hP rfl rfl (hP.sub (ws' := [(q_t, .inr (5, [.int t_date, .int t_hour, .int t_year, .int t_shift, .int t_kneelDate, .ref q_t_places, .ref q_t_coins, .ref q_t_lying])), (q_t_places, .inl (cI, 6, .inl t_places))]) [0, 1] rfl) hK hN) rfl rfl hl.1 rfl (lv_room (Nat.le_of_ble_eq_true rfl)) dX5_reasonAgainst_70 ⟨Nat.zero_le _, Nat.zero_le _⟩) (fun r2 hf => ?_)
    exact hret 73 ls r2 dX5_reasonAgainst_73 hf
  · have hf := hf.2
    by_cases z3 : a1_sign = 100
    · have hf := hf.1 z3
      refine lv_lookup (off := 44) (tgt := 48) hx hb dX5_reasonAgainst_4 (by decide) (by rw [z3]; decide) (by decide) ?_
      exact wX5_reasonAgainst_b48 C0 hN hK q_t q_t_places q_t_coins q_t_lying q_a1 t_date t_hour t_year t_shift t_kneelDate t_places t_coins t_lying a1_sign a1_person a1_number post hret hP    hf ls (lv_sub hl [0, 1] rfl)
    · have hf := hf.2
      by_cases z4 : a1_sign = 104
      · have hf := hf.1 z4
        refine lv_lookup (off := 44) (tgt := 48) hx hb dX5_reasonAgainst_4 (by decide) (by rw [z4]; decide) (by decide) ?_
        exact wX5_reasonAgainst_b48 C0 hN hK q_t q_t_places q_t_coins q_t_lying q_a1 t_date t_hour t_year t_shift t_kneelDate t_places t_coins t_lying a1_sign a1_person a1_number post hret hP    hf ls (lv_sub hl [0, 1] rfl)
      · have hf := hf.2
        by_cases z5 : a1_sign = 107
        · have hf := hf.1 z5
          refine lv_lookup (off := 44) (tgt := 48) hx hb dX5_reasonAgainst_4 (by decide) (by rw [z5]; decide) (by decide) ?_
          exact wX5_reasonAgainst_b48 C0 hN hK q_t q_t_places q_t_coins q_t_lying q_a1 t_date t_hour t_year t_shift t_kneelDate t_places t_coins t_lying a1_sign a1_person a1_number post hret hP    hf ls (lv_sub hl [0, 1] rfl)
        · have hf := hf.2
          have hf := hf z1 z3 z4 z5
          refine lv_lookup (off := 70) (tgt := 74) hx hb dX5_reasonAgainst_4 (by decide) ((lv_osw z1 (by decide)).trans ((lv_osw z3 (by decide)).trans ((lv_osw z4 (by decide)).trans ((lv_osw z5 (by decide)).trans (rfl))))) (by decide) ?_
          refine lv_aload_n hx hb dX5_reasonAgainst_74 rfl (lv_at hl 0 rfl) ?_
          refine lv_aload_n hx hb dX5_reasonAgainst_75 rfl (lv_at hl 1 rfl) ?_
          refine xs_i (va_runV (As := [.ref q_a1]) (rest := []) ⟨hx, hb, hml, hown, hts⟩ (kX5_reasonAgainstActWithin l D cI cZ cJ cO q_t q_t_places q_t_coins q_t_lying q_a1 t_year t_date t_hour t_shift t_kneelDate t_places t_coins t_lying a1_sign a1_person a1_number _ hf) (cwV 1 hts gX5_reasonAgainst_X5_reasonAgainstActWithin rfl rfl rfl (by decide +kernel) ⟨Nat.le_of_ble_eq_true rfl, Nat.le_of_ble_eq_true rfl⟩) (B0_preV (ci := 5) (q0 := 0) hP rfl rfl (hP.sub (ws' := [(q_t, .inr (5, [.int t_date, .int t_hour, .int t_year, .int t_shift, .int t_kneelDate, .ref q_t_places, .ref q_t_coins, .ref q_t_lying])), (q_t_places, .inl (cI, 6, .inl t_places)), (q_t_coins, .inl (cI, 6, .inl t_coins)), (q_t_lying, .inl (cI, 30, .inl t_lying)), (q_a1, .inr (0, [.int a1_sign, .int a1_person, .int a1_number]))]) [0, 1, 2, 3, 4] rfl) hK hN) rfl rfl hl.1 rfl (lv_room (Nat.le_of_ble_eq_true rfl)) dX5_reasonAgainst_76 ⟨Nat.zero_le _, Nat.zero_le _⟩) (fun r6 hf => ?_)
          exact hret 79 ls r6 dX5_reasonAgainst_79 hf

/-! X5_setTime -/
theorem mX5_setTime_1 : Cond.fieldLink RX5 15 "OxenKneel$World" "hour" "I" ∈ wsX5_setTime := List.mem_of_getElem? (i := 1) rfl
theorem mX5_setTime_2 : Cond.fieldLink RX5 9 "OxenKneel$World" "date" "I" ∈ wsX5_setTime := List.mem_of_getElem? (i := 2) rfl
theorem mX5_setTime_3 : Cond.fieldLink RX5 18 "OxenKneel$World" "year" "I" ∈ wsX5_setTime := List.mem_of_getElem? (i := 3) rfl
theorem nX5_setTime_X5 : ∀ w ∈ wsX50, w ∈ wsX5_setTime := fun _ h => List.mem_cons_of_mem _ (List.mem_append_right _ h)
def pX5_setTime (t_date : Int32) (t_hour : Int32) (t_year : Int32) (a1 : Int32) (post : (Int32 × Int32 × Int32) → Prop) : Prop :=
  ∀ v1 : Int32, v1 = (a1 - a1 / 24 * 24) → (∀ v2 : Int32, v2 = ((a1 / 24) - (a1 / 24) / 365 * 365) → (∀ v3 : Int32, v3 = ((a1 / 24) / 365) → (post (v2, v1, v3))))

set_option maxHeartbeats 4000000 in
set_option maxRecDepth 100000 in
theorem kX5_setTime (l : Launch) (D : va_G) (cI cZ cJ cO : ClassId) (q_t q_t_places q_t_coins q_t_lying : Nat) (sz : Nat) (t_shift : Int32) (t_kneelDate : Int32) (t_date : Int32) (t_hour : Int32) (t_year : Int32) (a1 : Int32) (post : (Int32 × Int32 × Int32) → Prop) (hf : pX5_setTime t_date t_hour t_year a1 post) :
    Met l yX5_setTime wsX5_setTime ({ frames := 0, cells := 0, slots := 0, locals := 0 } : Room) (va_Pc [.ref q_t, .int a1] (B1 D (tyL cI cZ cJ cO) [(q_t, .inr (5, [.int t_date, .int t_hour, .int t_year, .int t_shift, .int t_kneelDate, .ref q_t_places, .ref q_t_coins, .ref q_t_lying]))] sz)) (va_Qv post (fun u t => E1 D (va_A [(q_t, .inr (5, [.int t_date, .int t_hour, .int t_year, .int t_shift, .int t_kneelDate, .ref q_t_places, .ref q_t_coins, .ref q_t_lying]))] sz) ((fun u : Int32 × Int32 × Int32 => [(q_t, .inr (5, [.int u.1, .int u.2.1, .int u.2.2, .int t_shift, .int t_kneelDate, .ref q_t_places, .ref q_t_coins, .ref q_t_lying]))]) u) t) (va_A [(q_t, .inr (5, [.int t_date, .int t_hour, .int t_year, .int t_shift, .int t_kneelDate, .ref q_t_places, .ref q_t_coins, .ref q_t_lying]))] sz)) 0 0 (va_A [(q_t, .inr (5, [.int t_date, .int t_hour, .int t_year, .int t_shift, .int t_kneelDate, .ref q_t_places, .ref q_t_coins, .ref q_t_lying]))] sz) := by
  unfold pX5_setTime at hf
  refine xm_1v (own := RX5) (by decide) rfl rfl (Nat.le_of_ble_eq_true rfl) (fun p e s m args below meth c Q A C0 hN hK hA hret hP hD ls hl => ?_)
  obtain ⟨hx, hb, hml, hown, hts⟩ := id C0
  have hl : lv_has ls 2 [(0, .ref q_t), (1, .int a1)] := hl
  have hS : va_S A s.heap s.heap [] := va_S.rf
  obtain ⟨H, hHe⟩ : ∃ H, H = s.heap := ⟨_, rfl⟩
  obtain ⟨locs, hLe⟩ : ∃ L : List Loc, L = [] := ⟨_, rfl⟩
  rw [← hLe]
  rw [← hLe] at hS
  have hP : va_P D vwCl [(q_t, .inr (5, [.int t_date, .int t_hour, .int t_year, .int t_shift, .int t_kneelDate, .ref q_t_places, .ref q_t_coins, .ref q_t_lying]))] H := by rw [hHe]; exact hP
  have hS : va_S A s.heap H locs := by rw [hHe]; exact hS
  suffices hgo : W p l e ({ frames := 0, cells := 0, slots := 0, locals := 0 } : Room) s m args below meth c H locs 0 0 Q (F0 m 0 ls []) by rw [← hHe]; exact hgo
  clear hHe hLe
  refine lv_aload_n hx hb dX5_setTime_0 rfl (lv_at hl 0 rfl) ?_
  refine lv_iload_n hx hb dX5_setTime_1 rfl (lv_at hl 1 rfl) ?_
  refine lv_bipush (v := 24) hx hb dX5_setTime_2 (by decide) ?_
  refine lv_irem hx hb dX5_setTime_4 (by decide) ?_
  refine lv_topi (fun v1 ev1 => ?_)
  have hf := hf v1 ev1
  refine va_put (D := D) (ci := 5) (v := .int v1) (ty := .int) (C := RX5) (T := TX5) (N := 8) hx hb hts nX5_setTime_X5 tyX5 tyX5_ok nmX5 hown hK hP hD hS 0 rfl rfl 1 (by decide) (hts _ mX5_setTime_1) (fun _ h9 => h9) rfl (by decide +kernel) rfl rfl (Nat.le_of_ble_eq_true rfl) dX5_setTime_5 (fun H locs hP hD hS => ?_)
  have hP : va_P D vwCl [(q_t, .inr (5, [.int t_date, .int v1, .int t_year, .int t_shift, .int t_kneelDate, .ref q_t_places, .ref q_t_coins, .ref q_t_lying]))] H := hP
  have hD : va_D A [(q_t, .inr (5, [.int t_date, .int v1, .int t_year, .int t_shift, .int t_kneelDate, .ref q_t_places, .ref q_t_coins, .ref q_t_lying]))] := hD
  refine lv_aload_n hx hb dX5_setTime_8 rfl (lv_at hl 0 rfl) ?_
  refine lv_iload_n hx hb dX5_setTime_9 rfl (lv_at hl 1 rfl) ?_
  refine lv_bipush (v := 24) hx hb dX5_setTime_10 (by decide) ?_
  refine lv_idiv hx hb dX5_setTime_12 (by decide) ?_
  refine lv_sipush (v := 365) hx hb dX5_setTime_13 (by decide) ?_
  refine lv_irem hx hb dX5_setTime_16 (by decide) ?_
  refine lv_topi (fun v2 ev2 => ?_)
  have hf := hf v2 ev2
  refine va_put (D := D) (ci := 5) (v := .int v2) (ty := .int) (C := RX5) (T := TX5) (N := 8) hx hb hts nX5_setTime_X5 tyX5 tyX5_ok nmX5 hown hK hP hD hS 0 rfl rfl 0 (by decide) (hts _ mX5_setTime_2) (fun _ h9 => h9) rfl (by decide +kernel) rfl rfl (Nat.le_of_ble_eq_true rfl) dX5_setTime_17 (fun H locs hP hD hS => ?_)
  have hP : va_P D vwCl [(q_t, .inr (5, [.int v2, .int v1, .int t_year, .int t_shift, .int t_kneelDate, .ref q_t_places, .ref q_t_coins, .ref q_t_lying]))] H := hP
  have hD : va_D A [(q_t, .inr (5, [.int v2, .int v1, .int t_year, .int t_shift, .int t_kneelDate, .ref q_t_places, .ref q_t_coins, .ref q_t_lying]))] := hD
  refine lv_aload_n hx hb dX5_setTime_20 rfl (lv_at hl 0 rfl) ?_
  refine lv_iload_n hx hb dX5_setTime_21 rfl (lv_at hl 1 rfl) ?_
  refine lv_bipush (v := 24) hx hb dX5_setTime_22 (by decide) ?_
  refine lv_idiv hx hb dX5_setTime_24 (by decide) ?_
  refine lv_sipush (v := 365) hx hb dX5_setTime_25 (by decide) ?_
  refine lv_idiv hx hb dX5_setTime_28 (by decide) ?_
  refine lv_topi (fun v3 ev3 => ?_)
  have hf := hf v3 ev3
  refine va_put (D := D) (ci := 5) (v := .int v3) (ty := .int) (C := RX5) (T := TX5) (N := 8) hx hb hts nX5_setTime_X5 tyX5 tyX5_ok nmX5 hown hK hP hD hS 0 rfl rfl 2 (by decide) (hts _ mX5_setTime_3) (fun _ h9 => h9) rfl (by decide +kernel) rfl rfl (Nat.le_of_ble_eq_true rfl) dX5_setTime_29 (fun H locs hP hD hS => ?_)
  have hP : va_P D vwCl [(q_t, .inr (5, [.int v2, .int v1, .int v3, .int t_shift, .int t_kneelDate, .ref q_t_places, .ref q_t_coins, .ref q_t_lying]))] H := hP
  have hD : va_D A [(q_t, .inr (5, [.int v2, .int v1, .int v3, .int t_shift, .int t_kneelDate, .ref q_t_places, .ref q_t_coins, .ref q_t_lying]))] := hD
  exact hret 32 ls H locs (v2, v1, v3) dX5_setTime_32 hf hP hD hS

/-! X5_moveCoin -/
theorem mX5_moveCoin_1 : Cond.fieldLink RX5 27 "OxenKneel$World" "places" "[I" ∈ wsX5_moveCoin := List.mem_of_getElem? (i := 1) rfl
theorem mX5_moveCoin_5 : Cond.initialized RX6 ∈ wsX5_moveCoin := List.mem_of_getElem? (i := 5) rfl
theorem mX5_moveCoin_4 : Cond.static yX6_isIn ∈ wsX5_moveCoin := List.mem_of_getElem? (i := 4) rfl
theorem mX5_moveCoin_2 : Cond.fieldLink RX5 31 "OxenKneel$World" "coins" "[I" ∈ wsX5_moveCoin := List.mem_of_getElem? (i := 2) rfl
theorem mX5_moveCoin_3 : Cond.fieldLink RX5 34 "OxenKneel$World" "lying" "[I" ∈ wsX5_moveCoin := List.mem_of_getElem? (i := 3) rfl
theorem nX5_moveCoin_X5 : ∀ w ∈ wsX50, w ∈ wsX5_moveCoin := fun _ h => List.mem_cons_of_mem _ (List.mem_append_right _ h)
def pX5_moveCoin (t_places : (Nat → Int32)) (t_coins : (Nat → Int32)) (t_lying : (Nat → Int32)) (a1 : Int32) (a2 : Int32) (post : ((Nat → Int32) × (Nat → Int32)) → Prop) : Prop :=
  vp_in a1 6 ∧ (∀ v2 : Int32, v2 = (t_places a1.toNatClampNeg) → (pX6_isIn v2 0 29 (fun r3 => (r3 = 0 → (post (t_coins, t_lying))) ∧ (¬ r3 = 0 → (vp_in a1 6 ∧ (∀ v6 : Int32, v6 = ((t_coins a1.toNatClampNeg) - a2) → (vp_in a1 6 ∧ (vp_in v2 30 ∧ (∀ v9 : Int32, v9 = ((t_lying v2.toNatClampNeg) + a2) → (vp_in v2 30 ∧ (post ((upd t_coins a1.toNatClampNeg v6), (upd t_lying v2.toNatClampNeg v9)))))))))))))

set_option maxHeartbeats 4000000 in
set_option maxRecDepth 100000 in
theorem kX5_moveCoin (l : Launch) (D : va_G) (cI cZ cJ cO : ClassId) (q_t q_t_places q_t_coins q_t_lying : Nat) (sz : Nat) (t_date : Int32) (t_hour : Int32) (t_year : Int32) (t_shift : Int32) (t_kneelDate : Int32) (t_places : (Nat → Int32)) (t_coins : (Nat → Int32)) (t_lying : (Nat → Int32)) (a1 : Int32) (a2 : Int32) (post : ((Nat → Int32) × (Nat → Int32)) → Prop) (hf : pX5_moveCoin t_places t_coins t_lying a1 a2 post) :
    Met l yX5_moveCoin wsX5_moveCoin ({ frames := 1, cells := 0, slots := 0, locals := 22 } : Room) (va_Pc [.ref q_t, .int a1, .int a2] (B1 D (tyL cI cZ cJ cO) [(q_t, .inr (5, [.int t_date, .int t_hour, .int t_year, .int t_shift, .int t_kneelDate, .ref q_t_places, .ref q_t_coins, .ref q_t_lying])), (q_t_places, .inl (cI, 6, .inl t_places)), (q_t_coins, .inl (cI, 6, .inl t_coins)), (q_t_lying, .inl (cI, 30, .inl t_lying))] sz)) (va_Qv post (fun u t => E1 D (va_A [(q_t, .inr (5, [.int t_date, .int t_hour, .int t_year, .int t_shift, .int t_kneelDate, .ref q_t_places, .ref q_t_coins, .ref q_t_lying])), (q_t_places, .inl (cI, 6, .inl t_places)), (q_t_coins, .inl (cI, 6, .inl t_coins)), (q_t_lying, .inl (cI, 30, .inl t_lying))] sz) ((fun u : (Nat → Int32) × (Nat → Int32) => [(q_t, .inr (5, [.int t_date, .int t_hour, .int t_year, .int t_shift, .int t_kneelDate, .ref q_t_places, .ref q_t_coins, .ref q_t_lying])), (q_t_places, .inl (cI, 6, .inl t_places)), (q_t_coins, .inl (cI, 6, .inl u.1)), (q_t_lying, .inl (cI, 30, .inl u.2))]) u) t) (va_A [(q_t, .inr (5, [.int t_date, .int t_hour, .int t_year, .int t_shift, .int t_kneelDate, .ref q_t_places, .ref q_t_coins, .ref q_t_lying])), (q_t_places, .inl (cI, 6, .inl t_places)), (q_t_coins, .inl (cI, 6, .inl t_coins)), (q_t_lying, .inl (cI, 30, .inl t_lying))] sz)) 0 0 (va_A [(q_t, .inr (5, [.int t_date, .int t_hour, .int t_year, .int t_shift, .int t_kneelDate, .ref q_t_places, .ref q_t_coins, .ref q_t_lying])), (q_t_places, .inl (cI, 6, .inl t_places)), (q_t_coins, .inl (cI, 6, .inl t_coins)), (q_t_lying, .inl (cI, 30, .inl t_lying))] sz) := by
  unfold pX5_moveCoin at hf
  refine xm_1v (own := RX5) (by decide) rfl rfl (Nat.le_of_ble_eq_true rfl) (fun p e s m args below meth c Q A C0 hN hK hA hret hP hD ls hl => ?_)
  obtain ⟨hx, hb, hml, hown, hts⟩ := id C0
  have hl : lv_has ls 4 [(0, .ref q_t), (1, .int a1), (2, .int a2)] := hl
  have hS : va_S A s.heap s.heap [] := va_S.rf
  obtain ⟨H, hHe⟩ : ∃ H, H = s.heap := ⟨_, rfl⟩
  obtain ⟨locs, hLe⟩ : ∃ L : List Loc, L = [] := ⟨_, rfl⟩
  rw [← hLe]
  rw [← hLe] at hS
  have hP : va_P D vwCl [(q_t, .inr (5, [.int t_date, .int t_hour, .int t_year, .int t_shift, .int t_kneelDate, .ref q_t_places, .ref q_t_coins, .ref q_t_lying])), (q_t_places, .inl (cI, 6, .inl t_places)), (q_t_coins, .inl (cI, 6, .inl t_coins)), (q_t_lying, .inl (cI, 30, .inl t_lying))] H := by rw [hHe]; exact hP
  have hS : va_S A s.heap H locs := by rw [hHe]; exact hS
  suffices hgo : W p l e ({ frames := 1, cells := 0, slots := 0, locals := 22 } : Room) s m args below meth c H locs 0 0 Q (F0 m 0 ls []) by rw [← hHe]; exact hgo
  clear hHe hLe
  refine lv_aload_n hx hb dX5_moveCoin_0 rfl (lv_at hl 0 rfl) ?_
  refine va_get (D := D) (ci := 5) (v := .ref q_t_places) (C := RX5) (T := TX5) (N := 8) hx hb hts nX5_moveCoin_X5 hown hK hP 0 rfl rfl 5 (by decide) (hts _ mX5_moveCoin_1) (fun _ h9 => h9) rfl dX5_moveCoin_1 ?_
  refine lv_iload_n hx hb dX5_moveCoin_4 rfl (lv_at hl 1 rfl) ?_
  have g1 := hf.1
  have hf := hf.2
  refine xa_iald hx hb hK hP 1 0 rfl rfl (j := a1.toNatClampNeg) rfl g1 dX5_moveCoin_5 ?_
  refine lv_topi (fun v2 ev2 => ?_)
  have hf := hf v2 ev2
  refine lv_istore_n (lv' := [(3, .int v2), (0, .ref q_t), (1, .int a1), (2, .int a2)]) hx hb dX5_moveCoin_6 rfl hl (by decide) rfl (fun ls hl => ?_)
  refine lv_iload_n hx hb dX5_moveCoin_7 rfl (lv_at hl 0 rfl) ?_
  refine lv_iconst (v := 0) hx hb dX5_moveCoin_8 (by decide) ?_
  refine lv_bipush (v := 29) hx hb dX5_moveCoin_9 (by decide) ?_
  refine xs_i (va_runSN (As := [.int v2, .int 0, .int 29]) (rest := []) ⟨hx, hb, hml, hown, hts⟩ (kX6_isIn l D cI cZ cJ cO v2 0 29 _ hf) ⟨va_cnB 3 hts gX5_moveCoin_X6_isIn_n71 rfl rfl rfl (nw_at hN 8 rfl) (hts _ mX5_moveCoin_5) (by decide +kernel) ⟨Nat.le_of_ble_eq_true rfl, Nat.le_of_ble_eq_true rfl⟩, hts _ mX5_moveCoin_4, trivial⟩ (B0_pre (hP.sub (ws' := []) [] rfl) hK hN) rfl rfl hl.1 rfl (lv_room (Nat.le_of_ble_eq_true rfl)) dX5_moveCoin_11 ⟨Nat.zero_le _, Nat.zero_le _⟩) (fun r3 hf => ?_)
  refine lv_if_eq (tgt := 37) hx hb dX5_moveCoin_14 (by decide) (fun c4 => ?_) (fun c4 => ?_)
  · have hf := hf.1 c4
    exact hret 37 ls H locs (t_coins, t_lying) dX5_moveCoin_37 hf hP hD hS
  · have hf := hf.2 c4
    refine lv_aload_n hx hb dX5_moveCoin_17 rfl (lv_at hl 1 rfl) ?_
    refine va_get (D := D) (ci := 5) (v := .ref q_t_coins) (C := RX5) (T := TX5) (N := 8) hx hb hts nX5_moveCoin_X5 hown hK hP 0 rfl rfl 6 (by decide) (hts _ mX5_moveCoin_2) (fun _ h9 => h9) rfl dX5_moveCoin_18 ?_
    refine lv_iload_n hx hb dX5_moveCoin_21 rfl (lv_at hl 2 rfl) ?_
    refine lv_dup2_11 hx hb dX5_moveCoin_22 rfl rfl ?_
    have g5 := hf.1
    have hf := hf.2
    refine xa_iald hx hb hK hP 2 0 rfl rfl (j := a1.toNatClampNeg) rfl g5 dX5_moveCoin_23 ?_
    refine lv_iload_n hx hb dX5_moveCoin_24 rfl (lv_at hl 3 rfl) ?_
    refine lv_isub hx hb dX5_moveCoin_25 ?_
    refine lv_topi (fun v6 ev6 => ?_)
    have hf := hf v6 ev6
    have g7 := hf.1
    have hf := hf.2
    refine xa_iast hx hb hK hP hD hS 2 0 rfl rfl (j := a1.toNatClampNeg) rfl g7 dX5_moveCoin_26 (fun H locs hP hD hS => ?_)
    have hP : va_P D vwCl [(q_t, .inr (5, [.int t_date, .int t_hour, .int t_year, .int t_shift, .int t_kneelDate, .ref q_t_places, .ref q_t_coins, .ref q_t_lying])), (q_t_places, .inl (cI, 6, .inl t_places)), (q_t_coins, .inl (cI, 6, .inl (upd t_coins a1.toNatClampNeg v6))), (q_t_lying, .inl (cI, 30, .inl t_lying))] H := hP
    have hD : va_D A [(q_t, .inr (5, [.int t_date, .int t_hour, .int t_year, .int t_shift, .int t_kneelDate, .ref q_t_places, .ref q_t_coins, .ref q_t_lying])), (q_t_places, .inl (cI, 6, .inl t_places)), (q_t_coins, .inl (cI, 6, .inl (upd t_coins a1.toNatClampNeg v6))), (q_t_lying, .inl (cI, 30, .inl t_lying))] := hD
    refine lv_aload_n hx hb dX5_moveCoin_27 rfl (lv_at hl 1 rfl) ?_
    refine va_get (D := D) (ci := 5) (v := .ref q_t_lying) (C := RX5) (T := TX5) (N := 8) hx hb hts nX5_moveCoin_X5 hown hK hP 0 rfl rfl 7 (by decide) (hts _ mX5_moveCoin_3) (fun _ h9 => h9) rfl dX5_moveCoin_28 ?_
    refine lv_iload_n hx hb dX5_moveCoin_31 rfl (lv_at hl 0 rfl) ?_
    refine lv_dup2_11 hx hb dX5_moveCoin_32 rfl rfl ?_
    have g8 := hf.1
    have hf := hf.2
    refine xa_iald hx hb hK hP 3 0 rfl rfl (j := v2.toNatClampNeg) rfl g8 dX5_moveCoin_33 ?_
    refine lv_iload_n hx hb dX5_moveCoin_34 rfl (lv_at hl 3 rfl) ?_
    refine lv_iadd hx hb dX5_moveCoin_35 ?_
    refine lv_topi (fun v9 ev9 => ?_)
    have hf := hf v9 ev9
    have g10 := hf.1
    have hf := hf.2
    refine xa_iast hx hb hK hP hD hS 3 0 rfl rfl (j := v2.toNatClampNeg) rfl g10 dX5_moveCoin_36 (fun H locs hP hD hS => ?_)
    have hP : va_P D vwCl [(q_t, .inr (5, [.int t_date, .int t_hour, .int t_year, .int t_shift, .int t_kneelDate, .ref q_t_places, .ref q_t_coins, .ref q_t_lying])), (q_t_places, .inl (cI, 6, .inl t_places)), (q_t_coins, .inl (cI, 6, .inl (upd t_coins a1.toNatClampNeg v6))), (q_t_lying, .inl (cI, 30, .inl (upd t_lying v2.toNatClampNeg v9)))] H := hP
    have hD : va_D A [(q_t, .inr (5, [.int t_date, .int t_hour, .int t_year, .int t_shift, .int t_kneelDate, .ref q_t_places, .ref q_t_coins, .ref q_t_lying])), (q_t_places, .inl (cI, 6, .inl t_places)), (q_t_coins, .inl (cI, 6, .inl (upd t_coins a1.toNatClampNeg v6))), (q_t_lying, .inl (cI, 30, .inl (upd t_lying v2.toNatClampNeg v9)))] := hD
    exact hret 37 ls H locs ((upd t_coins a1.toNatClampNeg v6), (upd t_lying v2.toNatClampNeg v9)) dX5_moveCoin_37 hf hP hD hS

/-! X5_liesBy -/
theorem mX5_liesBy_1 : Cond.fieldLink RX5 27 "OxenKneel$World" "places" "[I" ∈ wsX5_liesBy := List.mem_of_getElem? (i := 1) rfl
theorem mX5_liesBy_4 : Cond.initialized RX6 ∈ wsX5_liesBy := List.mem_of_getElem? (i := 4) rfl
theorem mX5_liesBy_3 : Cond.static yX6_isIn ∈ wsX5_liesBy := List.mem_of_getElem? (i := 3) rfl
theorem mX5_liesBy_2 : Cond.fieldLink RX5 34 "OxenKneel$World" "lying" "[I" ∈ wsX5_liesBy := List.mem_of_getElem? (i := 2) rfl
theorem nX5_liesBy_X5 : ∀ w ∈ wsX50, w ∈ wsX5_liesBy := fun _ h => List.mem_cons_of_mem _ (List.mem_append_right _ h)
def pX5_liesBy (t_places : (Nat → Int32)) (t_lying : (Nat → Int32)) (a1 : Int32) (post : Int32 → Prop) : Prop :=
  vp_in a1 6 ∧ (∀ v2 : Int32, v2 = (t_places a1.toNatClampNeg) → (pX6_isIn v2 0 29 (fun r3 => (r3 = 0 → (post 0)) ∧ (¬ r3 = 0 → (vp_in v2 30 ∧ (post (t_lying v2.toNatClampNeg)))))))

set_option maxHeartbeats 4000000 in
set_option maxRecDepth 100000 in
theorem kX5_liesBy (l : Launch) (D : va_G) (cI cZ cJ cO : ClassId) (q_t q_t_places q_t_lying q_t_coins : Nat) (t_date : Int32) (t_hour : Int32) (t_year : Int32) (t_shift : Int32) (t_kneelDate : Int32) (t_places : (Nat → Int32)) (t_lying : (Nat → Int32)) (a1 : Int32) (post : Int32 → Prop) (hf : pX5_liesBy t_places t_lying a1 post) :
    Met l yX5_liesBy wsX5_liesBy ({ frames := 1, cells := 0, slots := 0, locals := 22 } : Room) (va_Pc [.ref q_t, .int a1] (B0 D (tyL cI cZ cJ cO) [(q_t, .inr (5, [.int t_date, .int t_hour, .int t_year, .int t_shift, .int t_kneelDate, .ref q_t_places, .ref q_t_coins, .ref q_t_lying])), (q_t_places, .inl (cI, 6, .inl t_places)), (q_t_lying, .inl (cI, 30, .inl t_lying))])) (vp_Si post) 0 0 (fun _ => False) := by
  unfold pX5_liesBy at hf
  refine xm_0i (own := RX5) (by decide) rfl rfl (Nat.le_of_ble_eq_true rfl) (fun p e s m args below meth c Q C0 hN hK hret hP ls hl => ?_)
  obtain ⟨hx, hb, hml, hown, hts⟩ := id C0
  have hl : lv_has ls 3 [(0, .ref q_t), (1, .int a1)] := hl
  refine lv_aload_n hx hb dX5_liesBy_0 rfl (lv_at hl 0 rfl) ?_
  refine va_get (D := D) (ci := 5) (v := .ref q_t_places) (C := RX5) (T := TX5) (N := 8) hx hb hts nX5_liesBy_X5 hown hK hP 0 rfl rfl 5 (by decide) (hts _ mX5_liesBy_1) (fun _ h9 => h9) rfl dX5_liesBy_1 ?_
  refine lv_iload_n hx hb dX5_liesBy_4 rfl (lv_at hl 1 rfl) ?_
  have g1 := hf.1
  have hf := hf.2
  refine xa_iald hx hb hK hP 1 0 rfl rfl (j := a1.toNatClampNeg) rfl g1 dX5_liesBy_5 ?_
  refine lv_topi (fun v2 ev2 => ?_)
  have hf := hf v2 ev2
  refine lv_istore_n (lv' := [(2, .int v2), (0, .ref q_t), (1, .int a1)]) hx hb dX5_liesBy_6 rfl hl (by decide) rfl (fun ls hl => ?_)
  refine lv_iload_n hx hb dX5_liesBy_7 rfl (lv_at hl 0 rfl) ?_
  refine lv_iconst (v := 0) hx hb dX5_liesBy_8 (by decide) ?_
  refine lv_bipush (v := 29) hx hb dX5_liesBy_9 (by decide) ?_
  refine xs_i (va_runSN (As := [.int v2, .int 0, .int 29]) (rest := []) ⟨hx, hb, hml, hown, hts⟩ (kX6_isIn l D cI cZ cJ cO v2 0 29 _ hf) ⟨va_cnB 3 hts gX5_liesBy_X6_isIn_n71 rfl rfl rfl (nw_at hN 8 rfl) (hts _ mX5_liesBy_4) (by decide +kernel) ⟨Nat.le_of_ble_eq_true rfl, Nat.le_of_ble_eq_true rfl⟩, hts _ mX5_liesBy_3, trivial⟩ (B0_pre (hP.sub (ws' := []) [] rfl) hK hN) rfl rfl hl.1 rfl (lv_room (Nat.le_of_ble_eq_true rfl)) dX5_liesBy_11 ⟨Nat.zero_le _, Nat.zero_le _⟩) (fun r3 hf => ?_)
  refine lv_if_eq (tgt := 26) hx hb dX5_liesBy_14 (by decide) (fun c4 => ?_) (fun c4 => ?_)
  · have hf := hf.1 c4
    refine lv_iconst (v := 0) hx hb dX5_liesBy_26 (by decide) ?_
    exact hret 27 ls 0 dX5_liesBy_27 hf
  · have hf := hf.2 c4
    refine lv_aload_n hx hb dX5_liesBy_17 rfl (lv_at hl 1 rfl) ?_
    refine va_get (D := D) (ci := 5) (v := .ref q_t_lying) (C := RX5) (T := TX5) (N := 8) hx hb hts nX5_liesBy_X5 hown hK hP 0 rfl rfl 7 (by decide) (hts _ mX5_liesBy_2) (fun _ h9 => h9) rfl dX5_liesBy_18 ?_
    refine lv_iload_n hx hb dX5_liesBy_21 rfl (lv_at hl 0 rfl) ?_
    have g5 := hf.1
    have hf := hf.2
    refine xa_iald hx hb hK hP 2 0 rfl rfl (j := v2.toNatClampNeg) rfl g5 dX5_liesBy_22 ?_
    refine lv_goto (tgt := 27) hx hb dX5_liesBy_23 (by decide) ?_
    exact hret 27 ls (t_lying v2.toNatClampNeg) dX5_liesBy_27 hf

/-! X5_performByPerson -/
theorem mX5_performByPerson_1 : Cond.fieldLink RX5 53 "OxenKneel$Act" "person" "I" ∈ wsX5_performByPerson := List.mem_of_getElem? (i := 1) rfl
theorem mX5_performByPerson_6 : Cond.initialized RX6 ∈ wsX5_performByPerson := List.mem_of_getElem? (i := 6) rfl
theorem mX5_performByPerson_5 : Cond.static yX6_isPerson ∈ wsX5_performByPerson := List.mem_of_getElem? (i := 5) rfl
theorem mX5_performByPerson_2 : Cond.fieldLink RX5 43 "OxenKneel$Act" "sign" "I" ∈ wsX5_performByPerson := List.mem_of_getElem? (i := 2) rfl
theorem mX5_performByPerson_4 : Cond.fieldLink RX5 75 "OxenKneel$Act" "number" "I" ∈ wsX5_performByPerson := List.mem_of_getElem? (i := 4) rfl
theorem mX5_performByPerson_3 : Cond.fieldLink RX5 27 "OxenKneel$World" "places" "[I" ∈ wsX5_performByPerson := List.mem_of_getElem? (i := 3) rfl
theorem nX5_performByPerson_X0 : ∀ w ∈ wsX00, w ∈ wsX5_performByPerson := fun _ h => List.mem_cons_of_mem _ (List.mem_append_left _ (List.mem_append_right _ h))
theorem nX5_performByPerson_X5 : ∀ w ∈ wsX50, w ∈ wsX5_performByPerson := fun _ h => List.mem_cons_of_mem _ (List.mem_append_right _ h)
def pX5_performByPerson (t_places : (Nat → Int32)) (t_coins : (Nat → Int32)) (t_lying : (Nat → Int32)) (a1_sign : Int32) (a1_person : Int32) (a1_number : Int32)  (post : ((Nat → Int32) × (Nat → Int32) × (Nat → Int32)) → Prop) : Prop :=
  pX6_isPerson a1_person (fun r1 => (¬ r1 = 0 → ((a1_sign = 36 → (pX5_moveCoin t_places t_coins t_lying a1_person a1_number (fun (u5 : (Nat → Int32) × (Nat → Int32)) => post (t_places, u5.1, u5.2)))) ∧ ((a1_sign = 40 → (vp_in a1_person 6 ∧ (post ((upd t_places a1_person.toNatClampNeg 0), t_coins, t_lying)))) ∧ ((a1_sign = 41 → (vp_in a1_person 6 ∧ (post ((upd t_places a1_person.toNatClampNeg (-6)), t_coins, t_lying)))) ∧ ((a1_sign = 60 → (vp_in a1_person 6 ∧ (∀ v12 : Int32, v12 = ((t_places a1_person.toNatClampNeg) - 1) → (vp_in a1_person 6 ∧ (post ((upd t_places a1_person.toNatClampNeg v12), t_coins, t_lying)))))) ∧ ((a1_sign = 62 → (vp_in a1_person 6 ∧ (∀ v16 : Int32, v16 = ((t_places a1_person.toNatClampNeg) + 1) → (vp_in a1_person 6 ∧ (post ((upd t_places a1_person.toNatClampNeg v16), t_coins, t_lying)))))) ∧ ((¬ a1_sign = 36 → ¬ a1_sign = 40 → ¬ a1_sign = 41 → ¬ a1_sign = 60 → ¬ a1_sign = 62 → (pX5_liesBy t_places t_lying a1_person (fun r18 => pX5_moveCoin t_places t_coins t_lying a1_person (-r18) (fun (u20 : (Nat → Int32) × (Nat → Int32)) => post (t_places, u20.1, u20.2)))))))))))) ∧ (r1 = 0 → (post (t_places, t_coins, t_lying))))

set_option maxHeartbeats 4000000 in
set_option maxRecDepth 100000 in
theorem kX5_performByPerson (l : Launch) (D : va_G) (cI cZ cJ cO : ClassId) (q_t q_t_places q_t_coins q_t_lying q_a1 : Nat) (sz : Nat) (t_date : Int32) (t_hour : Int32) (t_year : Int32) (t_shift : Int32) (t_kneelDate : Int32) (t_places : (Nat → Int32)) (t_coins : (Nat → Int32)) (t_lying : (Nat → Int32)) (a1_sign : Int32) (a1_person : Int32) (a1_number : Int32)  (post : ((Nat → Int32) × (Nat → Int32) × (Nat → Int32)) → Prop) (hf : pX5_performByPerson t_places t_coins t_lying a1_sign a1_person a1_number post) :
    Met l yX5_performByPerson wsX5_performByPerson ({ frames := 2, cells := 0, slots := 0, locals := 45 } : Room) (va_Pc [.ref q_t, .ref q_a1] (B1 D (tyL cI cZ cJ cO) [(q_t, .inr (5, [.int t_date, .int t_hour, .int t_year, .int t_shift, .int t_kneelDate, .ref q_t_places, .ref q_t_coins, .ref q_t_lying])), (q_t_places, .inl (cI, 6, .inl t_places)), (q_t_coins, .inl (cI, 6, .inl t_coins)), (q_t_lying, .inl (cI, 30, .inl t_lying)), (q_a1, .inr (0, [.int a1_sign, .int a1_person, .int a1_number]))] sz)) (va_Qv post (fun u t => E1 D (va_A [(q_t, .inr (5, [.int t_date, .int t_hour, .int t_year, .int t_shift, .int t_kneelDate, .ref q_t_places, .ref q_t_coins, .ref q_t_lying])), (q_t_places, .inl (cI, 6, .inl t_places)), (q_t_coins, .inl (cI, 6, .inl t_coins)), (q_t_lying, .inl (cI, 30, .inl t_lying)), (q_a1, .inr (0, [.int a1_sign, .int a1_person, .int a1_number]))] sz) ((fun u : (Nat → Int32) × (Nat → Int32) × (Nat → Int32) => [(q_t, .inr (5, [.int t_date, .int t_hour, .int t_year, .int t_shift, .int t_kneelDate, .ref q_t_places, .ref q_t_coins, .ref q_t_lying])), (q_t_places, .inl (cI, 6, .inl u.1)), (q_t_coins, .inl (cI, 6, .inl u.2.1)), (q_t_lying, .inl (cI, 30, .inl u.2.2)), (q_a1, .inr (0, [.int a1_sign, .int a1_person, .int a1_number]))]) u) t) (va_A [(q_t, .inr (5, [.int t_date, .int t_hour, .int t_year, .int t_shift, .int t_kneelDate, .ref q_t_places, .ref q_t_coins, .ref q_t_lying])), (q_t_places, .inl (cI, 6, .inl t_places)), (q_t_coins, .inl (cI, 6, .inl t_coins)), (q_t_lying, .inl (cI, 30, .inl t_lying)), (q_a1, .inr (0, [.int a1_sign, .int a1_person, .int a1_number]))] sz)) 0 0 (va_A [(q_t, .inr (5, [.int t_date, .int t_hour, .int t_year, .int t_shift, .int t_kneelDate, .ref q_t_places, .ref q_t_coins, .ref q_t_lying])), (q_t_places, .inl (cI, 6, .inl t_places)), (q_t_coins, .inl (cI, 6, .inl t_coins)), (q_t_lying, .inl (cI, 30, .inl t_lying)), (q_a1, .inr (0, [.int a1_sign, .int a1_person, .int a1_number]))] sz) := by
  unfold pX5_performByPerson at hf
  refine xm_1v (own := RX5) (by decide) rfl rfl (Nat.le_of_ble_eq_true rfl) (fun p e s m args below meth c Q A C0 hN hK hA hret hP hD ls hl => ?_)
  obtain ⟨hx, hb, hml, hown, hts⟩ := id C0
  have hl : lv_has ls 3 [(0, .ref q_t), (1, .ref q_a1)] := hl
  have hS : va_S A s.heap s.heap [] := va_S.rf
  obtain ⟨H, hHe⟩ : ∃ H, H = s.heap := ⟨_, rfl⟩
  obtain ⟨locs, hLe⟩ : ∃ L : List Loc, L = [] := ⟨_, rfl⟩
  rw [← hLe]
  rw [← hLe] at hS
  have hP : va_P D vwCl [(q_t, .inr (5, [.int t_date, .int t_hour, .int t_year, .int t_shift, .int t_kneelDate, .ref q_t_places, .ref q_t_coins, .ref q_t_lying])), (q_t_places, .inl (cI, 6, .inl t_places)), (q_t_coins, .inl (cI, 6, .inl t_coins)), (q_t_lying, .inl (cI, 30, .inl t_lying)), (q_a1, .inr (0, [.int a1_sign, .int a1_person, .int a1_number]))] H := by rw [hHe]; exact hP
  have hS : va_S A s.heap H locs := by rw [hHe]; exact hS
  suffices hgo : W p l e ({ frames := 2, cells := 0, slots := 0, locals := 45 } : Room) s m args below meth c H locs 0 0 Q (F0 m 0 ls []) by rw [← hHe]; exact hgo
  clear hHe hLe
  refine lv_aload_n hx hb dX5_performByPerson_0 rfl (lv_at hl 1 rfl) ?_
  refine va_get (D := D) (ci := 0) (v := .int a1_person) (C := RX0) (T := TX0) (N := 3) hx hb hts nX5_performByPerson_X0 hown hK hP 4 rfl rfl 1 (by decide) (hts _ mX5_performByPerson_1) (fun _ h9 => h9) rfl dX5_performByPerson_1 ?_
  refine lv_istore_n (lv' := [(2, .int a1_person), (0, .ref q_t), (1, .ref q_a1)]) hx hb dX5_performByPerson_4 rfl hl (by decide) rfl (fun ls hl => ?_)
  refine lv_iload_n hx hb dX5_performByPerson_5 rfl (lv_at hl 0 rfl) ?_
  refine xs_i (va_runSN (As := [.int a1_person]) (rest := []) ⟨hx, hb, hml, hown, hts⟩ (kX6_isPerson l D cI cZ cJ cO a1_person _ hf) ⟨va_cnB 1 hts gX5_performByPerson_X6_isPerson_n63 rfl rfl rfl (nw_at hN 7 rfl) (hts _ mX5_performByPerson_6) (by decide +kernel) ⟨Nat.le_of_ble_eq_true rfl, Nat.le_of_ble_eq_true rfl⟩, hts _ mX5_performByPerson_5, trivial⟩ (B0_pre (hP.sub (ws' := []) [] rfl) hK hN) rfl rfl hl.1 rfl (lv_room (Nat.le_of_ble_eq_true rfl)) dX5_performByPerson_6 ⟨Nat.zero_le _, Nat.zero_le _⟩) (fun r1 hf => ?_)
  refine lv_if_ne (tgt := 13) hx hb dX5_performByPerson_9 (by decide) (fun c2 => ?_) (fun c2 => ?_)
  · have hf := hf.1 c2
    refine lv_aload_n hx hb dX5_performByPerson_13 rfl (lv_at hl 2 rfl) ?_
    refine va_get (D := D) (ci := 0) (v := .int a1_sign) (C := RX0) (T := TX0) (N := 3) hx hb hts nX5_performByPerson_X0 hown hK hP 4 rfl rfl 0 (by decide) (hts _ mX5_performByPerson_2) (fun _ h9 => h9) rfl dX5_performByPerson_14 ?_
    by_cases z3 : a1_sign = 36
    · have hf := hf.1 z3
      refine lv_lookup (off := 98) (tgt := 115) hx hb dX5_performByPerson_17 (by decide) (by rw [z3]; decide) (by decide) ?_
      refine lv_aload_n hx hb dX5_performByPerson_115 rfl (lv_at hl 1 rfl) ?_
      refine lv_iload_n hx hb dX5_performByPerson_116 rfl (lv_at hl 0 rfl) ?_
      refine lv_aload_n hx hb dX5_performByPerson_117 rfl (lv_at hl 2 rfl) ?_
      refine va_get (D := D) (ci := 0) (v := .int a1_number) (C := RX0) (T := TX0) (N := 3) hx hb hts nX5_performByPerson_X0 hown hK hP 4 rfl rfl 2 (by decide) (hts _ mX5_performByPerson_4) (fun _ h9 => h9) rfl dX5_performByPerson_118 ?_
      refine xc_v (wr := [(q_a1, .inr (0, [.int a1_sign, .int a1_person, .int a1_number]))]) (va_runV (As := [.int a1_person, .int a1_number]) (rest := []) ⟨hx, hb, hml, hown, hts⟩ (kX5_moveCoin l D cI cZ cJ cO q_t q_t_places q_t_coins q_t_lying H.size t_date t_hour t_year t_shift t_kneelDate t_places t_coins t_lying a1_person a1_number _ hf) (cwV 2 hts gX5_performByPerson_X5_moveCoin rfl rfl rfl (by decide +kernel) ⟨Nat.le_of_ble_eq_true rfl, Nat.le_of_ble_eq_true rfl⟩) (B1_preV (ci := 5) (q0 := 0) hP rfl rfl (hP.sub (ws' := [(q_t, .inr (5, [.int t_date, .int t_hour, .int t_year, .int t_shift, .int t_kneelDate, .ref q_t_places, .ref q_t_coins, .ref q_t_lying])), (q_t_places, .inl (cI, 6, .inl t_places)), (q_t_coins, .inl (cI, 6, .inl t_coins)), (q_t_lying, .inl (cI, 30, .inl t_lying))]) [0, 1, 2, 3] rfl) hK hN (hD.sub (ws' := [(q_t, .inr (5, [.int t_date, .int t_hour, .int t_year, .int t_shift, .int t_kneelDate, .ref q_t_places, .ref q_t_coins, .ref q_t_lying])), (q_t_places, .inl (cI, 6, .inl t_places)), (q_t_coins, .inl (cI, 6, .inl t_coins)), (q_t_lying, .inl (cI, 30, .inl t_lying))]) [0, 1, 2, 3] (by decide) rfl)) rfl rfl hl.1 rfl (lv_room (Nat.le_of_ble_eq_true rfl)) dX5_performByPerson_121 ⟨Nat.zero_le _, Nat.zero_le _⟩) hP hD hS hA [0, 1, 2, 3] [4] rfl rfl (by decide) (by decide) (fun u5 H locs hf hP hD hS => ?_)
      have hP : va_P D vwCl [(q_a1, .inr (0, [.int a1_sign, .int a1_person, .int a1_number])), (q_t, .inr (5, [.int t_date, .int t_hour, .int t_year, .int t_shift, .int t_kneelDate, .ref q_t_places, .ref q_t_coins, .ref q_t_lying])), (q_t_places, .inl (cI, 6, .inl t_places)), (q_t_coins, .inl (cI, 6, .inl u5.1)), (q_t_lying, .inl (cI, 30, .inl u5.2))] H := hP
      have hD : va_D A [(q_a1, .inr (0, [.int a1_sign, .int a1_person, .int a1_number])), (q_t, .inr (5, [.int t_date, .int t_hour, .int t_year, .int t_shift, .int t_kneelDate, .ref q_t_places, .ref q_t_coins, .ref q_t_lying])), (q_t_places, .inl (cI, 6, .inl t_places)), (q_t_coins, .inl (cI, 6, .inl u5.1)), (q_t_lying, .inl (cI, 30, .inl u5.2))] := hD
      refine lv_goto (tgt := 138) hx hb dX5_performByPerson_124 (by decide) ?_
      exact hret 138 ls H locs (t_places, u5.1, u5.2) dX5_performByPerson_138 hf (hP.sub [1, 2, 3, 4, 0] rfl) (hD.sub [1, 2, 3, 4, 0] (by decide) rfl) hS
    · have hf := hf.2
      by_cases z6 : a1_sign = 40
      · have hf := hf.1 z6
        refine lv_lookup (off := 51) (tgt := 68) hx hb dX5_performByPerson_17 (by decide) (by rw [z6]; decide) (by decide) ?_
        refine lv_aload_n hx hb dX5_performByPerson_68 rfl (lv_at hl 1 rfl) ?_
        refine va_get (D := D) (ci := 5) (v := .ref q_t_places) (C := RX5) (T := TX5) (N := 8) hx hb hts nX5_performByPerson_X5 hown hK hP 0 rfl rfl 5 (by decide) (hts _ mX5_performByPerson_3) (fun _ h9 => h9) rfl dX5_performByPerson_69 ?_
        refine lv_iload_n hx hb dX5_performByPerson_72 rfl (lv_at hl 0 rfl) ?_
        refine lv_iconst (v := 0) hx hb dX5_performByPerson_73 (by decide) ?_
        have g7 := hf.1
        have hf := hf.2
        refine xa_iast hx hb hK hP hD hS 1 0 rfl rfl (j := a1_person.toNatClampNeg) rfl g7 dX5_performByPerson_74 (fun H locs hP hD hS => ?_)
        have hP : va_P D vwCl [(q_t, .inr (5, [.int t_date, .int t_hour, .int t_year, .int t_shift, .int t_kneelDate, .ref q_t_places, .ref q_t_coins, .ref q_t_lying])), (q_t_places, .inl (cI, 6, .inl (upd t_places a1_person.toNatClampNeg 0))), (q_t_coins, .inl (cI, 6, .inl t_coins)), (q_t_lying, .inl (cI, 30, .inl t_lying)), (q_a1, .inr (0, [.int a1_sign, .int a1_person, .int a1_number]))] H := hP
        have hD : va_D A [(q_t, .inr (5, [.int t_date, .int t_hour, .int t_year, .int t_shift, .int t_kneelDate, .ref q_t_places, .ref q_t_coins, .ref q_t_lying])), (q_t_places, .inl (cI, 6, .inl (upd t_places a1_person.toNatClampNeg 0))), (q_t_coins, .inl (cI, 6, .inl t_coins)), (q_t_lying, .inl (cI, 30, .inl t_lying)), (q_a1, .inr (0, [.int a1_sign, .int a1_person, .int a1_number]))] := hD
        refine lv_goto (tgt := 138) hx hb dX5_performByPerson_75 (by decide) ?_
        exact hret 138 ls H locs ((upd t_places a1_person.toNatClampNeg 0), t_coins, t_lying) dX5_performByPerson_138 hf hP hD hS
      · have hf := hf.2
        by_cases z8 : a1_sign = 41
        · have hf := hf.1 z8
          refine lv_lookup (off := 61) (tgt := 78) hx hb dX5_performByPerson_17 (by decide) (by rw [z8]; decide) (by decide) ?_
          refine lv_aload_n hx hb dX5_performByPerson_78 rfl (lv_at hl 1 rfl) ?_
          refine va_get (D := D) (ci := 5) (v := .ref q_t_places) (C := RX5) (T := TX5) (N := 8) hx hb hts nX5_performByPerson_X5 hown hK hP 0 rfl rfl 5 (by decide) (hts _ mX5_performByPerson_3) (fun _ h9 => h9) rfl dX5_performByPerson_79 ?_
          refine lv_iload_n hx hb dX5_performByPerson_82 rfl (lv_at hl 0 rfl) ?_
          refine lv_bipush (v := (-6)) hx hb dX5_performByPerson_83 (by decide) ?_
          have g9 := hf.1
          have hf := hf.2
          refine xa_iast hx hb hK hP hD hS 1 0 rfl rfl (j := a1_person.toNatClampNeg) rfl g9 dX5_performByPerson_85 (fun H locs hP hD hS => ?_)
          have hP : va_P D vwCl [(q_t, .inr (5, [.int t_date, .int t_hour, .int t_year, .int t_shift, .int t_kneelDate, .ref q_t_places, .ref q_t_coins, .ref q_t_lying])), (q_t_places, .inl (cI, 6, .inl (upd t_places a1_person.toNatClampNeg (-6)))), (q_t_coins, .inl (cI, 6, .inl t_coins)), (q_t_lying, .inl (cI, 30, .inl t_lying)), (q_a1, .inr (0, [.int a1_sign, .int a1_person, .int a1_number]))] H := hP
          have hD : va_D A [(q_t, .inr (5, [.int t_date, .int t_hour, .int t_year, .int t_shift, .int t_kneelDate, .ref q_t_places, .ref q_t_coins, .ref q_t_lying])), (q_t_places, .inl (cI, 6, .inl (upd t_places a1_person.toNatClampNeg (-6)))), (q_t_coins, .inl (cI, 6, .inl t_coins)), (q_t_lying, .inl (cI, 30, .inl t_lying)), (q_a1, .inr (0, [.int a1_sign, .int a1_person, .int a1_number]))] := hD
          refine lv_goto (tgt := 138) hx hb dX5_performByPerson_86 (by decide) ?_
          exact hret 138 ls H locs ((upd t_places a1_person.toNatClampNeg (-6)), t_coins, t_lying) dX5_performByPerson_138 hf hP hD hS
        · have hf := hf.2
          by_cases z10 : a1_sign = 60
          · have hf := hf.1 z10
            refine lv_lookup (off := 85) (tgt := 102) hx hb dX5_performByPerson_17 (by decide) (by rw [z10]; decide) (by decide) ?_
            refine lv_aload_n hx hb dX5_performByPerson_102 rfl (lv_at hl 1 rfl) ?_
            refine va_get (D := D) (ci := 5) (v := .ref q_t_places) (C := RX5) (T := TX5) (N := 8) hx hb hts nX5_performByPerson_X5 hown hK hP 0 rfl rfl 5 (by decide) (hts _ mX5_performByPerson_3) (fun _ h9 => h9) rfl dX5_performByPerson_103 ?_
            refine lv_iload_n hx hb dX5_performByPerson_106 rfl (lv_at hl 0 rfl) ?_
            refine lv_dup2_11 hx hb dX5_performByPerson_107 rfl rfl ?_
            have g11 := hf.1
            have hf := hf.2
            refine xa_iald hx hb hK hP 1 0 rfl rfl (j := a1_person.toNatClampNeg) rfl g11 dX5_performByPerson_108 ?_
            refine lv_iconst (v := 1) hx hb dX5_performByPerson_109 (by decide) ?_
            refine lv_isub hx hb dX5_performByPerson_110 ?_
            refine lv_topi (fun v12 ev12 => ?_)
            have hf := hf v12 ev12
            have g13 := hf.1
            have hf := hf.2
            refine xa_iast hx hb hK hP hD hS 1 0 rfl rfl (j := a1_person.toNatClampNeg) rfl g13 dX5_performByPerson_111 (fun H locs hP hD hS => ?_)
            have hP : va_P D vwCl [(q_t, .inr (5, [.int t_date, .int t_hour, .int t_year, .int t_shift, .int t_kneelDate, .ref q_t_places, .ref q_t_coins, .ref q_t_lying])), (q_t_places, .inl (cI, 6, .inl (upd t_places a1_person.toNatClampNeg v12))), (q_t_coins, .inl (cI, 6, .inl t_coins)), (q_t_lying, .inl (cI, 30, .inl t_lying)), (q_a1, .inr (0, [.int a1_sign, .int a1_person, .int a1_number]))] H := hP
            have hD : va_D A [(q_t, .inr (5, [.int t_date, .int t_hour, .int t_year, .int t_shift, .int t_kneelDate, .ref q_t_places, .ref q_t_coins, .ref q_t_lying])), (q_t_places, .inl (cI, 6, .inl (upd t_places a1_person.toNatClampNeg v12))), (q_t_coins, .inl (cI, 6, .inl t_coins)), (q_t_lying, .inl (cI, 30, .inl t_lying)), (q_a1, .inr (0, [.int a1_sign, .int a1_person, .int a1_number]))] := hD
            refine lv_goto (tgt := 138) hx hb dX5_performByPerson_112 (by decide) ?_
            exact hret 138 ls H locs ((upd t_places a1_person.toNatClampNeg v12), t_coins, t_lying) dX5_performByPerson_138 hf hP hD hS
          · have hf := hf.2
            by_cases z14 : a1_sign = 62
            · have hf := hf.1 z14
              refine lv_lookup (off := 72) (tgt := 89) hx hb dX5_performByPerson_17 (by decide) (by rw [z14]; decide) (by decide) ?_
              refine lv_aload_n hx hb dX5_performByPerson_89 rfl (lv_at hl 1 rfl) ?_
              refine va_get (D := D) (ci := 5) (v := .ref q_t_places) (C := RX5) (T := TX5) (N := 8) hx hb hts nX5_performByPerson_X5 hown hK hP 0 rfl rfl 5 (by decide) (hts _ mX5_performByPerson_3) (fun _ h9 => h9) rfl dX5_performByPerson_90 ?_
              refine lv_iload_n hx hb dX5_performByPerson_93 rfl (lv_at hl 0 rfl) ?_
              refine lv_dup2_11 hx hb dX5_performByPerson_94 rfl rfl ?_
              have g15 := hf.1
              have hf := hf.2
              refine xa_iald hx hb hK hP 1 0 rfl rfl (j := a1_person.toNatClampNeg) rfl g15 dX5_performByPerson_95 ?_
              refine lv_iconst (v := 1) hx hb dX5_performByPerson_96 (by decide) ?_
              refine lv_iadd hx hb dX5_performByPerson_97 ?_
              refine lv_topi (fun v16 ev16 => ?_)
              have hf := hf v16 ev16
              have g17 := hf.1
              have hf := hf.2
              refine xa_iast hx hb hK hP hD hS 1 0 rfl rfl (j := a1_person.toNatClampNeg) rfl g17 dX5_performByPerson_98 (fun H locs hP hD hS => ?_)
              have hP : va_P D vwCl [(q_t, .inr (5, [.int t_date, .int t_hour, .int t_year, .int t_shift, .int t_kneelDate, .ref q_t_places, .ref q_t_coins, .ref q_t_lying])), (q_t_places, .inl (cI, 6, .inl (upd t_places a1_person.toNatClampNeg v16))), (q_t_coins, .inl (cI, 6, .inl t_coins)), (q_t_lying, .inl (cI, 30, .inl t_lying)), (q_a1, .inr (0, [.int a1_sign, .int a1_person, .int a1_number]))] H := hP
              have hD : va_D A [(q_t, .inr (5, [.int t_date, .int t_hour, .int t_year, .int t_shift, .int t_kneelDate, .ref q_t_places, .ref q_t_coins, .ref q_t_lying])), (q_t_places, .inl (cI, 6, .inl (upd t_places a1_person.toNatClampNeg v16))), (q_t_coins, .inl (cI, 6, .inl t_coins)), (q_t_lying, .inl (cI, 30, .inl t_lying)), (q_a1, .inr (0, [.int a1_sign, .int a1_person, .int a1_number]))] := hD
              refine lv_goto (tgt := 138) hx hb dX5_performByPerson_99 (by decide) ?_
              exact hret 138 ls H locs ((upd t_places a1_person.toNatClampNeg v16), t_coins, t_lying) dX5_performByPerson_138 hf hP hD hS
            · have hf := hf.2
              have hf := hf z3 z6 z8 z10 z14
              refine lv_lookup (off := 110) (tgt := 127) hx hb dX5_performByPerson_17 (by decide) ((lv_osw z3 (by decide)).trans ((lv_osw z6 (by decide)).trans ((lv_osw z8 (by decide)).trans ((lv_osw z10 (by decide)).trans ((lv_osw z14 (by decide)).trans (rfl)))))) (by decide) ?_
              refine lv_aload_n hx hb dX5_performByPerson_127 rfl (lv_at hl 1 rfl) ?_
              refine lv_iload_n hx hb dX5_performByPerson_128 rfl (lv_at hl 0 rfl) ?_
              refine lv_aload_n hx hb dX5_performByPerson_129 rfl (lv_at hl 1 rfl) ?_
              refine lv_iload_n hx hb dX5_performByPerson_130 rfl (lv_at hl 0 rfl) ?_
              refine xs_i (va_runV (As := [.int a1_person]) (rest := [.int a1_person, .ref q_t]) ⟨hx, hb, hml, hown, hts⟩ (kX5_liesBy l D cI cZ cJ cO q_t q_t_places q_t_lying q_t_coins t_date t_hour t_year t_shift t_kneelDate t_places t_lying a1_person _ hf) (cwV 1 hts gX5_performByPerson_X5_liesBy rfl rfl rfl (by decide +kernel) ⟨Nat.le_of_ble_eq_true rfl, Nat.le_of_ble_eq_true rfl⟩) (B0_preV (ci := 5) (q0 := 0) hP rfl rfl (hP.sub (ws' := [(q_t, .inr (5, [.int t_date, .int t_hour, .int t_year, .int t_shift, .int t_kneelDate, .ref q_t_places, .ref q_t_coins, .ref q_t_lying])), (q_t_places, .inl (cI, 6, .inl t_places)), (q_t_lying, .inl (cI, 30, .inl t_lying))]) [0, 1, 3] rfl) hK hN) rfl rfl hl.1 rfl (lv_room (Nat.le_of_ble_eq_true rfl)) dX5_performByPerson_131 ⟨Nat.zero_le _, Nat.zero_le _⟩) (fun r18 hf => ?_)
              refine lv_ineg hx hb dX5_performByPerson_134 ?_
              refine xc_v (wr := [(q_a1, .inr (0, [.int a1_sign, .int a1_person, .int a1_number]))]) (va_runV (As := [.int a1_person, .int (-r18)]) (rest := []) ⟨hx, hb, hml, hown, hts⟩ (kX5_moveCoin l D cI cZ cJ cO q_t q_t_places q_t_coins q_t_lying H.size t_date t_hour t_year t_shift t_kneelDate t_places t_coins t_lying a1_person (-r18) _ hf) (cwV 2 hts gX5_performByPerson_X5_moveCoin rfl rfl rfl (by decide +kernel) ⟨Nat.le_of_ble_eq_true rfl, Nat.le_of_ble_eq_true rfl⟩) (B1_preV (ci := 5) (q0 := 0) hP rfl rfl (hP.sub (ws' := [(q_t, .inr (5, [.int t_date, .int t_hour, .int t_year, .int t_shift, .int t_kneelDate, .ref q_t_places, .ref q_t_coins, .ref q_t_lying])), (q_t_places, .inl (cI, 6, .inl t_places)), (q_t_coins, .inl (cI, 6, .inl t_coins)), (q_t_lying, .inl (cI, 30, .inl t_lying))]) [0, 1, 2, 3] rfl) hK hN (hD.sub (ws' := [(q_t, .inr (5, [.int t_date, .int t_hour, .int t_year, .int t_shift, .int t_kneelDate, .ref q_t_places, .ref q_t_coins, .ref q_t_lying])), (q_t_places, .inl (cI, 6, .inl t_places)), (q_t_coins, .inl (cI, 6, .inl t_coins)), (q_t_lying, .inl (cI, 30, .inl t_lying))]) [0, 1, 2, 3] (by decide) rfl)) rfl rfl hl.1 rfl (lv_room (Nat.le_of_ble_eq_true rfl)) dX5_performByPerson_135 ⟨Nat.zero_le _, Nat.zero_le _⟩) hP hD hS hA [0, 1, 2, 3] [4] rfl rfl (by decide) (by decide) (fun u20 H locs hf hP hD hS => ?_)
              have hP : va_P D vwCl [(q_a1, .inr (0, [.int a1_sign, .int a1_person, .int a1_number])), (q_t, .inr (5, [.int t_date, .int t_hour, .int t_year, .int t_shift, .int t_kneelDate, .ref q_t_places, .ref q_t_coins, .ref q_t_lying])), (q_t_places, .inl (cI, 6, .inl t_places)), (q_t_coins, .inl (cI, 6, .inl u20.1)), (q_t_lying, .inl (cI, 30, .inl u20.2))] H := hP
              have hD : va_D A [(q_a1, .inr (0, [.int a1_sign, .int a1_person, .int a1_number])), (q_t, .inr (5, [.int t_date, .int t_hour, .int t_year, .int t_shift, .int t_kneelDate, .ref q_t_places, .ref q_t_coins, .ref q_t_lying])), (q_t_places, .inl (cI, 6, .inl t_places)), (q_t_coins, .inl (cI, 6, .inl u20.1)), (q_t_lying, .inl (cI, 30, .inl u20.2))] := hD
              exact hret 138 ls H locs (t_places, u20.1, u20.2) dX5_performByPerson_138 hf (hP.sub [1, 2, 3, 4, 0] rfl) (hD.sub [1, 2, 3, 4, 0] (by decide) rfl) hS
  · have hf := hf.2 c2
    exact hret 12 ls H locs (t_places, t_coins, t_lying) dX5_performByPerson_12 hf hP hD hS

/-! X5_perform -/
theorem mX5_perform_1 : Cond.fieldLink RX5 43 "OxenKneel$Act" "sign" "I" ∈ wsX5_perform := List.mem_of_getElem? (i := 1) rfl
theorem nX5_perform_X0 : ∀ w ∈ wsX00, w ∈ wsX5_perform := fun _ h => List.mem_cons_of_mem _ (List.mem_append_left _ (List.mem_append_right _ h))
def pX5_perform_b40 (t_kneelDate : Int32) (a1_sign : Int32) (a1_person : Int32) (a1_number : Int32) (post : (Int32 × Int32 × Int32 × (Nat → Int32) × (Nat → Int32) × (Nat → Int32)) → Prop) (t_date : Int32) (t_hour : Int32) (t_year : Int32) (t_places : (Nat → Int32)) (t_coins : (Nat → Int32)) (t_lying : (Nat → Int32)) : Prop :=
  pX5_timeBehind t_date t_hour t_year t_kneelDate a1_sign a1_number (fun r1 => pX5_setTime t_date t_hour t_year r1 (fun (u3 : Int32 × Int32 × Int32) => post (u3.1, u3.2.1, u3.2.2, t_places, t_coins, t_lying)))

set_option maxHeartbeats 4000000 in
set_option maxRecDepth 100000 in
theorem wX5_perform_b40 {p : Program} {l : Launch} {e : Env} {s : State} {m : MethodId} {args : Array Value} {below : List Frame} {meth : Method} {c : Code} {Q : State → Prop} {D : va_G} {cI cZ cJ cO : ClassId} {A : Nat → Prop} (C0 : CallFix p m c cX5_perform 2 s args wsX5_perform RX5) (hN : nw s) (hK : va_K D vwCl (tyL cI cZ cJ cO) s) (hA : ∀ q, s.heap.size ≤ q → A q) (q_t q_t_places q_t_coins q_t_lying q_a1 : Nat) (t_shift : Int32) (t_kneelDate : Int32) (a1_sign : Int32) (a1_person : Int32) (a1_number : Int32) (post : (Int32 × Int32 × Int32 × (Nat → Int32) × (Nat → Int32) × (Nat → Int32)) → Prop) (hret : hrV p l e ({ frames := 3, cells := 0, slots := 0, locals := 67 } : Room) s m args below meth c cX5_perform D A Q post (fun u : Int32 × Int32 × Int32 × (Nat → Int32) × (Nat → Int32) × (Nat → Int32) => [(q_t, .inr (5, [.int u.1, .int u.2.1, .int u.2.2.1, .int t_shift, .int t_kneelDate, .ref q_t_places, .ref q_t_coins, .ref q_t_lying])), (q_t_places, .inl (cI, 6, .inl u.2.2.2.1)), (q_t_coins, .inl (cI, 6, .inl u.2.2.2.2.1)), (q_t_lying, .inl (cI, 30, .inl u.2.2.2.2.2)), (q_a1, .inr (0, [.int a1_sign, .int a1_person, .int a1_number]))])) :
    ∀ (t_date : Int32) (t_hour : Int32) (t_year : Int32) (t_places : (Nat → Int32)) (t_coins : (Nat → Int32)) (t_lying : (Nat → Int32)), pX5_perform_b40 t_kneelDate a1_sign a1_person a1_number post t_date t_hour t_year t_places t_coins t_lying → ∀ (H : Heap) (locs : List Loc), va_P D vwCl [(q_t, .inr (5, [.int t_date, .int t_hour, .int t_year, .int t_shift, .int t_kneelDate, .ref q_t_places, .ref q_t_coins, .ref q_t_lying])), (q_t_places, .inl (cI, 6, .inl t_places)), (q_t_coins, .inl (cI, 6, .inl t_coins)), (q_t_lying, .inl (cI, 30, .inl t_lying)), (q_a1, .inr (0, [.int a1_sign, .int a1_person, .int a1_number]))] H → va_D A [(q_t, .inr (5, [.int t_date, .int t_hour, .int t_year, .int t_shift, .int t_kneelDate, .ref q_t_places, .ref q_t_coins, .ref q_t_lying])), (q_t_places, .inl (cI, 6, .inl t_places)), (q_t_coins, .inl (cI, 6, .inl t_coins)), (q_t_lying, .inl (cI, 30, .inl t_lying)), (q_a1, .inr (0, [.int a1_sign, .int a1_person, .int a1_number]))] → va_S A s.heap H locs → ∀ ls : Array Slot, lv_has ls 2 [(0, .ref q_t), (1, .ref q_a1)] → W p l e ({ frames := 3, cells := 0, slots := 0, locals := 67 } : Room) s m args below meth c H locs 0 0 Q (F0 m 40 ls []) := by
  obtain ⟨hx, hb, hml, hown, hts⟩ := id C0
  intro t_date t_hour t_year t_places t_coins t_lying hf H locs hP hD hS ls hl
  unfold pX5_perform_b40 at hf
  refine lv_aload_n hx hb dX5_perform_40 rfl (lv_at hl 0 rfl) ?_
  refine lv_aload_n hx hb dX5_perform_41 rfl (lv_at hl 0 rfl) ?_
  refine lv_aload_n hx hb dX5_perform_42 rfl (lv_at hl 1 rfl) ?_
  refine xs_i (va_runV (As := [.ref q_a1]) (rest := [.ref q_t]) ⟨hx, hb, hml, hown, hts⟩ (kX5_timeBehind l D cI cZ cJ cO q_t q_a1 q_t_places q_t_coins q_t_lying t_shift a1_person t_date t_hour t_year t_kneelDate a1_sign a1_number _ hf) (cwV 1 hts gX5_perform_X5_timeBehind rfl rfl rfl (by decide +kernel) ⟨Nat.le_of_ble_eq_true rfl, Nat.le_of_ble_eq_true rfl⟩) (B0_preV (ci := 5) (q0 := 0) hP rfl rfl (hP.sub (ws' := [(q_t, .inr (5, [.int t_date, .int t_hour, .int t_year, .int t_shift, .int t_kneelDate, .ref q_t_places, .ref q_t_coins, .ref q_t_lying])), (q_a1, .inr (0, [.int a1_sign, .int a1_person, .int a1_number]))]) [0, 4] rfl) hK hN) rfl rfl hl.1 rfl (lv_room (Nat.le_of_ble_eq_true rfl)) dX5_perform_43 ⟨Nat.zero_le _, Nat.zero_le _⟩) (fun r1 hf => ?_)
  refine xc_v (wr := [(q_t_places, .inl (cI, 6, .inl t_places)), (q_t_coins, .inl (cI, 6, .inl t_coins)), (q_t_lying, .inl (cI, 30, .inl t_lying)), (q_a1, .inr (0, [.int a1_sign, .int a1_person, .int a1_number]))]) (va_runV (As := [.int r1]) (rest := []) ⟨hx, hb, hml, hown, hts⟩ (kX5_setTime l D cI cZ cJ cO q_t q_t_places q_t_coins q_t_lying H.size t_shift t_kneelDate t_date t_hour t_year r1 _ hf) (cwV 1 hts gX5_perform_X5_setTime rfl rfl rfl (by decide +kernel) ⟨Nat.le_of_ble_eq_true rfl, Nat.le_of_ble_eq_true rfl⟩) (B1_preV (ci := 5) (q0 := 0) hP rfl rfl (hP.sub (ws' := [(q_t, .inr (5, [.int t_date, .int t_hour, .int t_year, .int t_shift, .int t_kneelDate, .ref q_t_places, .ref q_t_coins, .ref q_t_lying]))]) [0] rfl) hK hN (hD.sub (ws' := [(q_t, .inr (5, [.int t_date, .int t_hour, .int t_year, .int t_shift, .int t_kneelDate, .ref q_t_places, .ref q_t_coins, .ref q_t_lying]))]) [0] (by decide) rfl)) rfl rfl hl.1 rfl (lv_room (Nat.le_of_ble_eq_true rfl)) dX5_perform_46 ⟨Nat.zero_le _, Nat.zero_le _⟩) hP hD hS hA [0] [1, 2, 3, 4] rfl rfl (by decide) (by decide) (fun u3 H locs hf hP hD hS => ?_)
  have hP : va_P D vwCl [(q_t_places, .inl (cI, 6, .inl t_places)), (q_t_coins, .inl (cI, 6, .inl t_coins)), (q_t_lying, .inl (cI, 30, .inl t_lying)), (q_a1, .inr (0, [.int a1_sign, .int a1_person, .int a1_number])), (q_t, .inr (5, [.int u3.1, .int u3.2.1, .int u3.2.2, .int t_shift, .int t_kneelDate, .ref q_t_places, .ref q_t_coins, .ref q_t_lying]))] H := hP
  have hD : va_D A [(q_t_places, .inl (cI, 6, .inl t_places)), (q_t_coins, .inl (cI, 6, .inl t_coins)), (q_t_lying, .inl (cI, 30, .inl t_lying)), (q_a1, .inr (0, [.int a1_sign, .int a1_person, .int a1_number])), (q_t, .inr (5, [.int u3.1, .int u3.2.1, .int u3.2.2, .int t_shift, .int t_kneelDate, .ref q_t_places, .ref q_t_coins, .ref q_t_lying]))] := hD
  refine lv_goto (tgt := 57) hx hb dX5_perform_49 (by decide) ?_
  exact hret 57 ls H locs (u3.1, u3.2.1, u3.2.2, t_places, t_coins, t_lying) dX5_perform_57 hf (hP.sub [4, 0, 1, 2, 3] rfl) (hD.sub [4, 0, 1, 2, 3] (by decide) rfl) hS

def pX5_perform (t_date : Int32) (t_hour : Int32) (t_year : Int32) (t_kneelDate : Int32) (t_places : (Nat → Int32)) (t_coins : (Nat → Int32)) (t_lying : (Nat → Int32)) (a1_sign : Int32) (a1_person : Int32) (a1_number : Int32)  (post : (Int32 × Int32 × Int32 × (Nat → Int32) × (Nat → Int32) × (Nat → Int32)) → Prop) : Prop :=
  (a1_sign = 100 → (pX5_perform_b40 t_kneelDate a1_sign a1_person a1_number post  t_date t_hour t_year t_places t_coins t_lying)) ∧ ((a1_sign = 104 → (pX5_perform_b40 t_kneelDate a1_sign a1_person a1_number post  t_date t_hour t_year t_places t_coins t_lying)) ∧ ((a1_sign = 107 → (pX5_perform_b40 t_kneelDate a1_sign a1_person a1_number post  t_date t_hour t_year t_places t_coins t_lying)) ∧ ((¬ a1_sign = 100 → ¬ a1_sign = 104 → ¬ a1_sign = 107 → (pX5_performByPerson t_places t_coins t_lying a1_sign a1_person a1_number (fun (u5 : (Nat → Int32) × (Nat → Int32) × (Nat → Int32)) => post (t_date, t_hour, t_year, u5.1, u5.2.1, u5.2.2)))))))

set_option maxHeartbeats 4000000 in
set_option maxRecDepth 100000 in
theorem kX5_perform (l : Launch) (D : va_G) (cI cZ cJ cO : ClassId) (q_t q_t_places q_t_coins q_t_lying q_a1 : Nat) (sz : Nat) (t_shift : Int32) (t_date : Int32) (t_hour : Int32) (t_year : Int32) (t_kneelDate : Int32) (t_places : (Nat → Int32)) (t_coins : (Nat → Int32)) (t_lying : (Nat → Int32)) (a1_sign : Int32) (a1_person : Int32) (a1_number : Int32)  (post : (Int32 × Int32 × Int32 × (Nat → Int32) × (Nat → Int32) × (Nat → Int32)) → Prop) (hf : pX5_perform t_date t_hour t_year t_kneelDate t_places t_coins t_lying a1_sign a1_person a1_number post) :
    Met l yX5_perform wsX5_perform ({ frames := 3, cells := 0, slots := 0, locals := 67 } : Room) (va_Pc [.ref q_t, .ref q_a1] (B1 D (tyL cI cZ cJ cO) [(q_t, .inr (5, [.int t_date, .int t_hour, .int t_year, .int t_shift, .int t_kneelDate, .ref q_t_places, .ref q_t_coins, .ref q_t_lying])), (q_t_places, .inl (cI, 6, .inl t_places)), (q_t_coins, .inl (cI, 6, .inl t_coins)), (q_t_lying, .inl (cI, 30, .inl t_lying)), (q_a1, .inr (0, [.int a1_sign, .int a1_person, .int a1_number]))] sz)) (va_Qv post (fun u t => E1 D (va_A [(q_t, .inr (5, [.int t_date, .int t_hour, .int t_year, .int t_shift, .int t_kneelDate, .ref q_t_places, .ref q_t_coins, .ref q_t_lying])), (q_t_places, .inl (cI, 6, .inl t_places)), (q_t_coins, .inl (cI, 6, .inl t_coins)), (q_t_lying, .inl (cI, 30, .inl t_lying)), (q_a1, .inr (0, [.int a1_sign, .int a1_person, .int a1_number]))] sz) ((fun u : Int32 × Int32 × Int32 × (Nat → Int32) × (Nat → Int32) × (Nat → Int32) => [(q_t, .inr (5, [.int u.1, .int u.2.1, .int u.2.2.1, .int t_shift, .int t_kneelDate, .ref q_t_places, .ref q_t_coins, .ref q_t_lying])), (q_t_places, .inl (cI, 6, .inl u.2.2.2.1)), (q_t_coins, .inl (cI, 6, .inl u.2.2.2.2.1)), (q_t_lying, .inl (cI, 30, .inl u.2.2.2.2.2)), (q_a1, .inr (0, [.int a1_sign, .int a1_person, .int a1_number]))]) u) t) (va_A [(q_t, .inr (5, [.int t_date, .int t_hour, .int t_year, .int t_shift, .int t_kneelDate, .ref q_t_places, .ref q_t_coins, .ref q_t_lying])), (q_t_places, .inl (cI, 6, .inl t_places)), (q_t_coins, .inl (cI, 6, .inl t_coins)), (q_t_lying, .inl (cI, 30, .inl t_lying)), (q_a1, .inr (0, [.int a1_sign, .int a1_person, .int a1_number]))] sz)) 0 0 (va_A [(q_t, .inr (5, [.int t_date, .int t_hour, .int t_year, .int t_shift, .int t_kneelDate, .ref q_t_places, .ref q_t_coins, .ref q_t_lying])), (q_t_places, .inl (cI, 6, .inl t_places)), (q_t_coins, .inl (cI, 6, .inl t_coins)), (q_t_lying, .inl (cI, 30, .inl t_lying)), (q_a1, .inr (0, [.int a1_sign, .int a1_person, .int a1_number]))] sz) := by
  unfold pX5_perform at hf
  refine xm_1v (own := RX5) (by decide) rfl rfl (Nat.le_of_ble_eq_true rfl) (fun p e s m args below meth c Q A C0 hN hK hA hret hP hD ls hl => ?_)
  obtain ⟨hx, hb, hml, hown, hts⟩ := id C0
  have hl : lv_has ls 2 [(0, .ref q_t), (1, .ref q_a1)] := hl
  have hS : va_S A s.heap s.heap [] := va_S.rf
  obtain ⟨H, hHe⟩ : ∃ H, H = s.heap := ⟨_, rfl⟩
  obtain ⟨locs, hLe⟩ : ∃ L : List Loc, L = [] := ⟨_, rfl⟩
  rw [← hLe]
  rw [← hLe] at hS
  have hP : va_P D vwCl [(q_t, .inr (5, [.int t_date, .int t_hour, .int t_year, .int t_shift, .int t_kneelDate, .ref q_t_places, .ref q_t_coins, .ref q_t_lying])), (q_t_places, .inl (cI, 6, .inl t_places)), (q_t_coins, .inl (cI, 6, .inl t_coins)), (q_t_lying, .inl (cI, 30, .inl t_lying)), (q_a1, .inr (0, [.int a1_sign, .int a1_person, .int a1_number]))] H := by rw [hHe]; exact hP
  have hS : va_S A s.heap H locs := by rw [hHe]; exact hS
  suffices hgo : W p l e ({ frames := 3, cells := 0, slots := 0, locals := 67 } : Room) s m args below meth c H locs 0 0 Q (F0 m 0 ls []) by rw [← hHe]; exact hgo
  clear hHe hLe
  refine lv_aload_n hx hb dX5_perform_0 rfl (lv_at hl 1 rfl) ?_
  refine va_get (D := D) (ci := 0) (v := .int a1_sign) (C := RX0) (T := TX0) (N := 3) hx hb hts nX5_perform_X0 hown hK hP 4 rfl rfl 0 (by decide) (hts _ mX5_perform_1) (fun _ h9 => h9) rfl dX5_perform_1 ?_
  by_cases z1 : a1_sign = 100
  · have hf := hf.1 z1
    refine lv_lookup (off := 36) (tgt := 40) hx hb dX5_perform_4 (by decide) (by rw [z1]; decide) (by decide) ?_
    exact wX5_perform_b40 C0 hN hK hA q_t q_t_places q_t_coins q_t_lying q_a1 t_shift t_kneelDate a1_sign a1_person a1_number post hret   t_date t_hour t_year t_places t_coins t_lying hf H locs hP hD hS ls (lv_sub hl [0, 1] rfl)
  · have hf := hf.2
    by_cases z2 : a1_sign = 104
    · have hf := hf.1 z2
      refine lv_lookup (off := 36) (tgt := 40) hx hb dX5_perform_4 (by decide) (by rw [z2]; decide) (by decide) ?_
      exact wX5_perform_b40 C0 hN hK hA q_t q_t_places q_t_coins q_t_lying q_a1 t_shift t_kneelDate a1_sign a1_person a1_number post hret   t_date t_hour t_year t_places t_coins t_lying hf H locs hP hD hS ls (lv_sub hl [0, 1] rfl)
    · have hf := hf.2
      by_cases z3 : a1_sign = 107
      · have hf := hf.1 z3
        refine lv_lookup (off := 36) (tgt := 40) hx hb dX5_perform_4 (by decide) (by rw [z3]; decide) (by decide) ?_
        exact wX5_perform_b40 C0 hN hK hA q_t q_t_places q_t_coins q_t_lying q_a1 t_shift t_kneelDate a1_sign a1_person a1_number post hret   t_date t_hour t_year t_places t_coins t_lying hf H locs hP hD hS ls (lv_sub hl [0, 1] rfl)
      · have hf := hf.2
        have hf := hf z1 z2 z3
        refine lv_lookup (off := 48) (tgt := 52) hx hb dX5_perform_4 (by decide) ((lv_osw z1 (by decide)).trans ((lv_osw z2 (by decide)).trans ((lv_osw z3 (by decide)).trans (rfl)))) (by decide) ?_
        refine lv_aload_n hx hb dX5_perform_52 rfl (lv_at hl 0 rfl) ?_
        refine lv_aload_n hx hb dX5_perform_53 rfl (lv_at hl 1 rfl) ?_
        refine xc_v (wr := []) (va_runV (As := [.ref q_a1]) (rest := []) ⟨hx, hb, hml, hown, hts⟩ (kX5_performByPerson l D cI cZ cJ cO q_t q_t_places q_t_coins q_t_lying q_a1 H.size t_date t_hour t_year t_shift t_kneelDate t_places t_coins t_lying a1_sign a1_person a1_number _ hf) (cwV 1 hts gX5_perform_X5_performByPerson rfl rfl rfl (by decide +kernel) ⟨Nat.le_of_ble_eq_true rfl, Nat.le_of_ble_eq_true rfl⟩) (B1_preV (ci := 5) (q0 := 0) hP rfl rfl (hP.sub (ws' := [(q_t, .inr (5, [.int t_date, .int t_hour, .int t_year, .int t_shift, .int t_kneelDate, .ref q_t_places, .ref q_t_coins, .ref q_t_lying])), (q_t_places, .inl (cI, 6, .inl t_places)), (q_t_coins, .inl (cI, 6, .inl t_coins)), (q_t_lying, .inl (cI, 30, .inl t_lying)), (q_a1, .inr (0, [.int a1_sign, .int a1_person, .int a1_number]))]) [0, 1, 2, 3, 4] rfl) hK hN (hD.sub (ws' := [(q_t, .inr (5, [.int t_date, .int t_hour, .int t_year, .int t_shift, .int t_kneelDate, .ref q_t_places, .ref q_t_coins, .ref q_t_lying])), (q_t_places, .inl (cI, 6, .inl t_places)), (q_t_coins, .inl (cI, 6, .inl t_coins)), (q_t_lying, .inl (cI, 30, .inl t_lying)), (q_a1, .inr (0, [.int a1_sign, .int a1_person, .int a1_number]))]) [0, 1, 2, 3, 4] (by decide) rfl)) rfl rfl hl.1 rfl (lv_room (Nat.le_of_ble_eq_true rfl)) dX5_perform_54 ⟨Nat.zero_le _, Nat.zero_le _⟩) hP hD hS hA [0, 1, 2, 3, 4] [] rfl rfl (by decide) (by decide) (fun u5 H locs hf hP hD hS => ?_)
        have hP : va_P D vwCl [(q_t, .inr (5, [.int t_date, .int t_hour, .int t_year, .int t_shift, .int t_kneelDate, .ref q_t_places, .ref q_t_coins, .ref q_t_lying])), (q_t_places, .inl (cI, 6, .inl u5.1)), (q_t_coins, .inl (cI, 6, .inl u5.2.1)), (q_t_lying, .inl (cI, 30, .inl u5.2.2)), (q_a1, .inr (0, [.int a1_sign, .int a1_person, .int a1_number]))] H := hP
        have hD : va_D A [(q_t, .inr (5, [.int t_date, .int t_hour, .int t_year, .int t_shift, .int t_kneelDate, .ref q_t_places, .ref q_t_coins, .ref q_t_lying])), (q_t_places, .inl (cI, 6, .inl u5.1)), (q_t_coins, .inl (cI, 6, .inl u5.2.1)), (q_t_lying, .inl (cI, 30, .inl u5.2.2)), (q_a1, .inr (0, [.int a1_sign, .int a1_person, .int a1_number]))] := hD
        exact hret 57 ls H locs (t_date, t_hour, t_year, u5.1, u5.2.1, u5.2.2) dX5_perform_57 hf hP hD hS

/-! X5_leastTwoWith -/
theorem mX5_leastTwoWith_10 : Cond.initialized RX6 ∈ wsX5_leastTwoWith := List.mem_of_getElem? (i := 10) rfl
theorem mX5_leastTwoWith_9 : Cond.static yX6_isPerson ∈ wsX5_leastTwoWith := List.mem_of_getElem? (i := 9) rfl
theorem mX5_leastTwoWith_1 : Cond.fieldLink RX5 27 "OxenKneel$World" "places" "[I" ∈ wsX5_leastTwoWith := List.mem_of_getElem? (i := 1) rfl
theorem mX5_leastTwoWith_2 : Cond.methodLink RX5 97 Lib.Math.min.name ∈ wsX5_leastTwoWith := List.mem_of_getElem? (i := 2) rfl
theorem mX5_leastTwoWith_3 : Cond.static Lib.Math.min.name ∈ wsX5_leastTwoWith := List.mem_of_getElem? (i := 3) rfl
theorem mX5_leastTwoWith_4 : Cond.initialized "java/lang/Math" ∈ wsX5_leastTwoWith := List.mem_of_getElem? (i := 4) rfl
theorem mX5_leastTwoWith_5 : Cond.code Lib.Math.min.name Lib.Math.min.code 2 (some .int) ∈ wsX5_leastTwoWith := List.mem_of_getElem? (i := 5) rfl
theorem mX5_leastTwoWith_6 : Cond.methodLink RX5 103 Lib.Math.max.name ∈ wsX5_leastTwoWith := List.mem_of_getElem? (i := 6) rfl
theorem mX5_leastTwoWith_7 : Cond.static Lib.Math.max.name ∈ wsX5_leastTwoWith := List.mem_of_getElem? (i := 7) rfl
theorem mX5_leastTwoWith_8 : Cond.code Lib.Math.max.name Lib.Math.max.code 2 (some .int) ∈ wsX5_leastTwoWith := List.mem_of_getElem? (i := 8) rfl
theorem nX5_leastTwoWith_X5 : ∀ w ∈ wsX50, w ∈ wsX5_leastTwoWith := fun _ h => List.mem_cons_of_mem _ (List.mem_append_right _ h)
def pX5_leastTwoWith_b23 (t_places : (Nat → Int32)) (a1 : Int32) (post : Int32 → Prop) : Nat → Int32 → Prop
  | 0 => fun _ => False
  | n + 1 => fun x2 => (6 ≤ x2 → (post (-6))) ∧ (¬ 6 ≤ x2 → ((x2 = a1 → (∀ v3 : Int32, v3 = x2 + 1 → (pX5_leastTwoWith_b23 t_places a1 post  n v3))) ∧ (¬ x2 = a1 → (vp_in x2 6 ∧ (vp_in a1 6 ∧ ((¬ (t_places x2.toNatClampNeg) = (t_places a1.toNatClampNeg) → (∀ v7 : Int32, v7 = x2 + 1 → (pX5_leastTwoWith_b23 t_places a1 post  n v7))) ∧ ((t_places x2.toNatClampNeg) = (t_places a1.toNatClampNeg) → (∀ v8 : Int32, v8 = (if a1 < x2 then a1 else x2) → (∀ v9 : Int32, v9 = (if x2 < a1 then a1 else x2) → (post ((10 * v8) + v9)))))))))))

set_option maxHeartbeats 4000000 in
set_option maxRecDepth 100000 in
theorem wX5_leastTwoWith_b23 {p : Program} {l : Launch} {e : Env} {s : State} {m : MethodId} {args : Array Value} {below : List Frame} {meth : Method} {c : Code} {Q : State → Prop} {D : va_G} {cI cZ cJ cO : ClassId} (C0 : CallFix p m c cX5_leastTwoWith 3 s args wsX5_leastTwoWith RX5) (hN : nw s) (hK : va_K D vwCl (tyL cI cZ cJ cO) s) (q_t q_t_places q_t_coins q_t_lying : Nat) (t_date : Int32) (t_hour : Int32) (t_year : Int32) (t_shift : Int32) (t_kneelDate : Int32) (t_places : (Nat → Int32)) (a1 : Int32) (post : Int32 → Prop) (hret : h0I p l e ({ frames := 2, cells := 0, slots := 0, locals := 42 } : Room) s m args below meth c cX5_leastTwoWith Q post) (hP : va_P D vwCl [(q_t, .inr (5, [.int t_date, .int t_hour, .int t_year, .int t_shift, .int t_kneelDate, .ref q_t_places, .ref q_t_coins, .ref q_t_lying])), (q_t_places, .inl (cI, 6, .inl t_places))] s.heap) :
    ∀ (n : Nat) (x2 : Int32), pX5_leastTwoWith_b23 t_places a1 post n x2 → ∀ ls : Array Slot, lv_has ls 3 [(0, .ref q_t), (1, .int a1), (2, .int x2)] → W p l e ({ frames := 2, cells := 0, slots := 0, locals := 42 } : Room) s m args below meth c s.heap [] 0 0 Q (F0 m 23 ls []) := by
  obtain ⟨hx, hb, hml, hown, hts⟩ := id C0
  intro n
  induction n with
  | zero =>
    intro x2 hf
    exact False.elim hf
  | succ n ih =>
    intro x2 hf ls hl
    rw [pX5_leastTwoWith_b23] at hf
    refine lv_iload_n hx hb dX5_leastTwoWith_23 rfl (lv_at hl 2 rfl) ?_
    refine lv_bipush (v := 6) hx hb dX5_leastTwoWith_24 (by decide) ?_
    refine lv_icmp_ge (tgt := 70) hx hb dX5_leastTwoWith_26 (by decide) (fun c1 => ?_) (fun c1 => ?_)
    · have hf := hf.1 c1
      refine lv_bipush (v := (-6)) hx hb dX5_leastTwoWith_70 (by decide) ?_
      exact hret 72 ls (-6) dX5_leastTwoWith_72 hf
    · have hf := hf.2 c1
      refine lv_iload_n hx hb dX5_leastTwoWith_29 rfl (lv_at hl 2 rfl) ?_
      refine lv_iload_n hx hb dX5_leastTwoWith_30 rfl (lv_at hl 1 rfl) ?_
      refine lv_icmp_eq (tgt := 64) hx hb dX5_leastTwoWith_31 (by decide) (fun c2 => ?_) (fun c2 => ?_)
      · have hf := hf.1 c2
        obtain ⟨v3, ev3⟩ : ∃ y : Int32, y = x2 + 1 := ⟨_, rfl⟩
        have hf := hf v3 ev3
        refine lv_iinc (v := v3) (lv' := [(2, .int v3), (0, .ref q_t), (1, .int a1)]) hx hb dX5_leastTwoWith_64 hl (k := 2) rfl (by rw [ev3]; rfl) (by decide) rfl (fun ls hl => ?_)
        refine lv_goto (tgt := 23) hx hb dX5_leastTwoWith_67 (by decide) ?_
        exact ih v3 hf ls (lv_sub hl [1, 2, 0] rfl)
      · have hf := hf.2 c2
        refine lv_aload_n hx hb dX5_leastTwoWith_34 rfl (lv_at hl 0 rfl) ?_
        refine va_get (D := D) (ci := 5) (v := .ref q_t_places) (C := RX5) (T := TX5) (N := 8) hx hb hts nX5_leastTwoWith_X5 hown hK hP 0 rfl rfl 5 (by decide) (hts _ mX5_leastTwoWith_1) (fun _ h9 => h9) rfl dX5_leastTwoWith_35 ?_
        refine lv_iload_n hx hb dX5_leastTwoWith_38 rfl (lv_at hl 2 rfl) ?_
        have g4 := hf.1
        have hf := hf.2
        refine xa_iald hx hb hK hP 1 0 rfl rfl (j := x2.toNatClampNeg) rfl g4 dX5_leastTwoWith_39 ?_
        refine lv_aload_n hx hb dX5_leastTwoWith_40 rfl (lv_at hl 0 rfl) ?_
        refine va_get (D := D) (ci := 5) (v := .ref q_t_places) (C := RX5) (T := TX5) (N := 8) hx hb hts nX5_leastTwoWith_X5 hown hK hP 0 rfl rfl 5 (by decide) (hts _ mX5_leastTwoWith_1) (fun _ h9 => h9) rfl dX5_leastTwoWith_41 ?_
        refine lv_iload_n hx hb dX5_leastTwoWith_44 rfl (lv_at hl 1 rfl) ?_
        have g5 := hf.1
        have hf := hf.2
        refine xa_iald hx hb hK hP 1 0 rfl rfl (j := a1.toNatClampNeg) rfl g5 dX5_leastTwoWith_45 ?_
        refine lv_icmp_ne (tgt := 64) hx hb dX5_leastTwoWith_46 (by decide) (fun c6 => ?_) (fun c6 => ?_)
        · have hf := hf.1 c6
          obtain ⟨v7, ev7⟩ : ∃ y : Int32, y = x2 + 1 := ⟨_, rfl⟩
          have hf := hf v7 ev7
          refine lv_iinc (v := v7) (lv' := [(2, .int v7), (0, .ref q_t), (1, .int a1)]) hx hb dX5_leastTwoWith_64 hl (k := 2) rfl (by rw [ev7]; rfl) (by decide) rfl (fun ls hl => ?_)
          refine lv_goto (tgt := 23) hx hb dX5_leastTwoWith_67 (by decide) ?_
          exact ih v7 hf ls (lv_sub hl [1, 2, 0] rfl)
        · have hf := hf.2 c6
          refine lv_bipush (v := 10) hx hb dX5_leastTwoWith_49 (by decide) ?_
          refine lv_iload_n hx hb dX5_leastTwoWith_51 rfl (lv_at hl 2 rfl) ?_
          refine lv_iload_n hx hb dX5_leastTwoWith_52 rfl (lv_at hl 1 rfl) ?_
          refine va_mmin hx hb (hml.trans hl.1.symm) hown (hts _ mX5_leastTwoWith_2) (hts _ mX5_leastTwoWith_3) (hts _ mX5_leastTwoWith_4) (hts _ mX5_leastTwoWith_5) (Nat.le_of_ble_eq_true rfl) (Nat.le_of_ble_eq_true rfl) (Nat.zero_le _) (Nat.zero_le _) dX5_leastTwoWith_53 ?_
          refine lv_topi (fun v8 ev8 => ?_)
          have hf := hf v8 ev8
          refine lv_imul hx hb dX5_leastTwoWith_56 ?_
          refine lv_iload_n hx hb dX5_leastTwoWith_57 rfl (lv_at hl 2 rfl) ?_
          refine lv_iload_n hx hb dX5_leastTwoWith_58 rfl (lv_at hl 1 rfl) ?_
          refine va_mmax hx hb (hml.trans hl.1.symm) hown (hts _ mX5_leastTwoWith_6) (hts _ mX5_leastTwoWith_7) (hts _ mX5_leastTwoWith_4) (hts _ mX5_leastTwoWith_8) (Nat.le_of_ble_eq_true rfl) (Nat.le_of_ble_eq_true rfl) (Nat.zero_le _) (Nat.zero_le _) dX5_leastTwoWith_59 ?_
          refine lv_topi (fun v9 ev9 => ?_)
          have hf := hf v9 ev9
          refine lv_iadd hx hb dX5_leastTwoWith_62 ?_
          exact hret 63 ls ((10 * v8) + v9) dX5_leastTwoWith_63 hf

def pX5_leastTwoWith (t_places : (Nat → Int32)) (a1 : Int32) (post : Int32 → Prop) : Prop :=
  pX6_isPerson a1 (fun r1 => (r1 = 0 → (post (-6))) ∧ (¬ r1 = 0 → (vp_in a1 6 ∧ ((¬ (t_places a1.toNatClampNeg) = (-6) → (∃ n1, pX5_leastTwoWith_b23 t_places a1 post  n1 0)) ∧ ((t_places a1.toNatClampNeg) = (-6) → (post (-6)))))))

set_option maxHeartbeats 4000000 in
set_option maxRecDepth 100000 in
theorem kX5_leastTwoWith (l : Launch) (D : va_G) (cI cZ cJ cO : ClassId) (q_t q_t_places q_t_coins q_t_lying : Nat) (t_date : Int32) (t_hour : Int32) (t_year : Int32) (t_shift : Int32) (t_kneelDate : Int32) (t_places : (Nat → Int32)) (a1 : Int32) (post : Int32 → Prop) (hf : pX5_leastTwoWith t_places a1 post) :
    Met l yX5_leastTwoWith wsX5_leastTwoWith ({ frames := 2, cells := 0, slots := 0, locals := 42 } : Room) (va_Pc [.ref q_t, .int a1] (B0 D (tyL cI cZ cJ cO) [(q_t, .inr (5, [.int t_date, .int t_hour, .int t_year, .int t_shift, .int t_kneelDate, .ref q_t_places, .ref q_t_coins, .ref q_t_lying])), (q_t_places, .inl (cI, 6, .inl t_places))])) (vp_Si post) 0 0 (fun _ => False) := by
  unfold pX5_leastTwoWith at hf
  refine xm_0i (own := RX5) (by decide) rfl rfl (Nat.le_of_ble_eq_true rfl) (fun p e s m args below meth c Q C0 hN hK hret hP ls hl => ?_)
  obtain ⟨hx, hb, hml, hown, hts⟩ := id C0
  have hl : lv_has ls 3 [(0, .ref q_t), (1, .int a1)] := hl
  refine lv_iload_n hx hb dX5_leastTwoWith_0 rfl (lv_at hl 1 rfl) ?_
  refine xs_i (va_runSN (As := [.int a1]) (rest := []) ⟨hx, hb, hml, hown, hts⟩ (kX6_isPerson l D cI cZ cJ cO a1 _ hf) ⟨va_cnB 1 hts gX5_leastTwoWith_X6_isPerson_n63 rfl rfl rfl (nw_at hN 7 rfl) (hts _ mX5_leastTwoWith_10) (by decide +kernel) ⟨Nat.le_of_ble_eq_true rfl, Nat.le_of_ble_eq_true rfl⟩, hts _ mX5_leastTwoWith_9, trivial⟩ (B0_pre (hP.sub (ws' := []) [] rfl) hK hN) rfl rfl hl.1 rfl (lv_room (Nat.le_of_ble_eq_true rfl)) dX5_leastTwoWith_1 ⟨Nat.zero_le _, Nat.zero_le _⟩) (fun r1 hf => ?_)
  refine lv_if_eq (tgt := 18) hx hb dX5_leastTwoWith_4 (by decide) (fun c2 => ?_) (fun c2 => ?_)
  · have hf := hf.1 c2
    refine lv_bipush (v := (-6)) hx hb dX5_leastTwoWith_18 (by decide) ?_
    exact hret 20 ls (-6) dX5_leastTwoWith_20 hf
  · have hf := hf.2 c2
    refine lv_aload_n hx hb dX5_leastTwoWith_7 rfl (lv_at hl 0 rfl) ?_
    refine va_get (D := D) (ci := 5) (v := .ref q_t_places) (C := RX5) (T := TX5) (N := 8) hx hb hts nX5_leastTwoWith_X5 hown hK hP 0 rfl rfl 5 (by decide) (hts _ mX5_leastTwoWith_1) (fun _ h9 => h9) rfl dX5_leastTwoWith_8 ?_
    refine lv_iload_n hx hb dX5_leastTwoWith_11 rfl (lv_at hl 1 rfl) ?_
    have g3 := hf.1
    have hf := hf.2
    refine xa_iald hx hb hK hP 1 0 rfl rfl (j := a1.toNatClampNeg) rfl g3 dX5_leastTwoWith_12 ?_
    refine lv_bipush (v := (-6)) hx hb dX5_leastTwoWith_13 (by decide) ?_
    refine lv_icmp_ne (tgt := 21) hx hb dX5_leastTwoWith_15 (by decide) (fun c4 => ?_) (fun c4 => ?_)
    · have hf := hf.1 c4
      refine lv_iconst (v := 0) hx hb dX5_leastTwoWith_21 (by decide) ?_
      refine lv_istore_n (lv' := [(2, .int 0), (0, .ref q_t), (1, .int a1)]) hx hb dX5_leastTwoWith_22 rfl hl (by decide) rfl (fun ls hl => ?_)
      obtain ⟨n1, hf⟩ := hf
      exact wX5_leastTwoWith_b23 C0 hN hK q_t q_t_places q_t_coins q_t_lying t_date t_hour t_year t_shift t_kneelDate t_places a1 post hret hP   n1 0 hf ls (lv_sub hl [1, 2, 0] rfl)
    · have hf := hf.2 c4
      refine lv_bipush (v := (-6)) hx hb dX5_leastTwoWith_18 (by decide) ?_
      exact hret 20 ls (-6) dX5_leastTwoWith_20 hf

/-! X4_noteFirstMeeting -/
theorem mX4_noteFirstMeeting_1 : Cond.fieldLink RX4 37 "OxenKneel$Tale" "act" "LOxenKneel$Act;" ∈ wsX4_noteFirstMeeting := List.mem_of_getElem? (i := 1) rfl
theorem mX4_noteFirstMeeting_2 : Cond.fieldLink RX4 65 "OxenKneel$Act" "sign" "I" ∈ wsX4_noteFirstMeeting := List.mem_of_getElem? (i := 2) rfl
theorem mX4_noteFirstMeeting_3 : Cond.fieldLink RX4 28 "OxenKneel$Tale" "metAct" "I" ∈ wsX4_noteFirstMeeting := List.mem_of_getElem? (i := 3) rfl
theorem mX4_noteFirstMeeting_4 : Cond.fieldLink RX4 12 "OxenKneel$Tale" "world" "LOxenKneel$World;" ∈ wsX4_noteFirstMeeting := List.mem_of_getElem? (i := 4) rfl
theorem mX4_noteFirstMeeting_5 : Cond.fieldLink RX4 68 "OxenKneel$Act" "person" "I" ∈ wsX4_noteFirstMeeting := List.mem_of_getElem? (i := 5) rfl
theorem mX4_noteFirstMeeting_6 : Cond.fieldLink RX4 31 "OxenKneel$Tale" "metTwo" "I" ∈ wsX4_noteFirstMeeting := List.mem_of_getElem? (i := 6) rfl
theorem mX4_noteFirstMeeting_7 : Cond.fieldLink RX4 18 "OxenKneel$Tale" "acts" "I" ∈ wsX4_noteFirstMeeting := List.mem_of_getElem? (i := 7) rfl
theorem nX4_noteFirstMeeting_X4 : ∀ w ∈ wsX40, w ∈ wsX4_noteFirstMeeting := fun _ h => List.mem_cons_of_mem _ (List.mem_append_left _ (List.mem_append_left _ (List.mem_append_right _ h)))
theorem nX4_noteFirstMeeting_X0 : ∀ w ∈ wsX00, w ∈ wsX4_noteFirstMeeting := fun _ h => List.mem_cons_of_mem _ (List.mem_append_left _ (List.mem_append_right _ h))
def pX4_noteFirstMeeting_b41 (t_acts : Int32) (t_world_places : (Nat → Int32)) (t_act_sign : Int32) (t_act_person : Int32) (post : (Int32 × Int32) → Prop) (s0 : Int32) (t_metAct : Int32) (t_metTwo : Int32) : Prop :=
  (¬ t_metAct = (-6) → (post (t_metAct, t_metTwo))) ∧ (t_metAct = (-6) → ((¬ s0 = 0 → (pX5_leastTwoWith t_world_places t_act_person (fun r3 => (r3 = (-6) → (post (t_metAct, r3))) ∧ (¬ r3 = (-6) → (post (t_acts, r3)))))) ∧ (s0 = 0 → (post (t_metAct, t_metTwo)))))

set_option maxHeartbeats 4000000 in
set_option maxRecDepth 100000 in
theorem wX4_noteFirstMeeting_b41 {p : Program} {l : Launch} {e : Env} {s : State} {m : MethodId} {args : Array Value} {below : List Frame} {meth : Method} {c : Code} {Q : State → Prop} {D : va_G} {cI cZ cJ cO : ClassId} {A : Nat → Prop} (C0 : CallFix p m c cX4_noteFirstMeeting 2 s args wsX4_noteFirstMeeting RX4) (hN : nw s) (hK : va_K D vwCl (tyL cI cZ cJ cO) s) (hA : ∀ q, s.heap.size ≤ q → A q) (q_t q_t_world q_t_world_places q_t_act q_t_world_coins q_t_world_lying : Nat) (t_failedAct : Int32) (t_failedWhy : Int32) (t_world_date : Int32) (t_world_hour : Int32) (t_world_year : Int32) (t_world_shift : Int32) (t_world_kneelDate : Int32) (t_act_number : Int32) (t_acts : Int32) (t_world_places : (Nat → Int32)) (t_act_sign : Int32) (t_act_person : Int32) (post : (Int32 × Int32) → Prop) (hret : hrV p l e ({ frames := 3, cells := 0, slots := 0, locals := 64 } : Room) s m args below meth c cX4_noteFirstMeeting D A Q post (fun u : Int32 × Int32 => [(q_t, .inr (4, [.ref q_t_world, .int t_acts, .int t_failedAct, .int t_failedWhy, .int u.1, .int u.2, .ref q_t_act])), (q_t_world, .inr (5, [.int t_world_date, .int t_world_hour, .int t_world_year, .int t_world_shift, .int t_world_kneelDate, .ref q_t_world_places, .ref q_t_world_coins, .ref q_t_world_lying])), (q_t_world_places, .inl (cI, 6, .inl t_world_places)), (q_t_act, .inr (0, [.int t_act_sign, .int t_act_person, .int t_act_number]))])) :
    ∀ (s0 : Int32) (t_metAct : Int32) (t_metTwo : Int32), pX4_noteFirstMeeting_b41 t_acts t_world_places t_act_sign t_act_person post s0 t_metAct t_metTwo → ∀ (H : Heap) (locs : List Loc), va_P D vwCl [(q_t, .inr (4, [.ref q_t_world, .int t_acts, .int t_failedAct, .int t_failedWhy, .int t_metAct, .int t_metTwo, .ref q_t_act])), (q_t_world, .inr (5, [.int t_world_date, .int t_world_hour, .int t_world_year, .int t_world_shift, .int t_world_kneelDate, .ref q_t_world_places, .ref q_t_world_coins, .ref q_t_world_lying])), (q_t_world_places, .inl (cI, 6, .inl t_world_places)), (q_t_act, .inr (0, [.int t_act_sign, .int t_act_person, .int t_act_number]))] H → va_D A [(q_t, .inr (4, [.ref q_t_world, .int t_acts, .int t_failedAct, .int t_failedWhy, .int t_metAct, .int t_metTwo, .ref q_t_act])), (q_t_world, .inr (5, [.int t_world_date, .int t_world_hour, .int t_world_year, .int t_world_shift, .int t_world_kneelDate, .ref q_t_world_places, .ref q_t_world_coins, .ref q_t_world_lying])), (q_t_world_places, .inl (cI, 6, .inl t_world_places)), (q_t_act, .inr (0, [.int t_act_sign, .int t_act_person, .int t_act_number]))] → va_S A s.heap H locs → ∀ ls : Array Slot, lv_has ls 2 [(0, .ref q_t)] → W p l e ({ frames := 3, cells := 0, slots := 0, locals := 64 } : Room) s m args below meth c H locs 0 0 Q (F0 m 41 ls [.int s0]) := by
  obtain ⟨hx, hb, hml, hown, hts⟩ := id C0
  intro s0 t_metAct t_metTwo hf H locs hP hD hS ls hl
  unfold pX4_noteFirstMeeting_b41 at hf
  refine lv_istore_n (lv' := [(1, .int s0), (0, .ref q_t)]) hx hb dX4_noteFirstMeeting_41 rfl hl (by decide) rfl (fun ls hl => ?_)
  refine lv_aload_n hx hb dX4_noteFirstMeeting_42 rfl (lv_at hl 1 rfl) ?_
  refine va_get (D := D) (ci := 4) (v := .int t_metAct) (C := RX4) (T := TX4) (N := 7) hx hb hts nX4_noteFirstMeeting_X4 hown hK hP 0 rfl rfl 4 (by decide) (hts _ mX4_noteFirstMeeting_3) (fun _ h9 => h9) rfl dX4_noteFirstMeeting_43 ?_
  refine lv_bipush (v := (-6)) hx hb dX4_noteFirstMeeting_46 (by decide) ?_
  refine lv_icmp_ne (tgt := 55) hx hb dX4_noteFirstMeeting_48 (by decide) (fun c1 => ?_) (fun c1 => ?_)
  · have hf := hf.1 c1
    exact hret 55 ls H locs (t_metAct, t_metTwo) dX4_noteFirstMeeting_55 hf hP hD hS
  · have hf := hf.2 c1
    refine lv_iload_n hx hb dX4_noteFirstMeeting_51 rfl (lv_at hl 0 rfl) ?_
    refine lv_if_ne (tgt := 56) hx hb dX4_noteFirstMeeting_52 (by decide) (fun c2 => ?_) (fun c2 => ?_)
    · have hf := hf.1 c2
      refine lv_aload_n hx hb dX4_noteFirstMeeting_56 rfl (lv_at hl 1 rfl) ?_
      refine lv_aload_n hx hb dX4_noteFirstMeeting_57 rfl (lv_at hl 1 rfl) ?_
      refine va_get (D := D) (ci := 4) (v := .ref q_t_world) (C := RX4) (T := TX4) (N := 7) hx hb hts nX4_noteFirstMeeting_X4 hown hK hP 0 rfl rfl 0 (by decide) (hts _ mX4_noteFirstMeeting_4) (fun _ h9 => h9) rfl dX4_noteFirstMeeting_58 ?_
      refine lv_aload_n hx hb dX4_noteFirstMeeting_61 rfl (lv_at hl 1 rfl) ?_
      refine va_get (D := D) (ci := 4) (v := .ref q_t_act) (C := RX4) (T := TX4) (N := 7) hx hb hts nX4_noteFirstMeeting_X4 hown hK hP 0 rfl rfl 6 (by decide) (hts _ mX4_noteFirstMeeting_1) (fun _ h9 => h9) rfl dX4_noteFirstMeeting_62 ?_
      refine va_get (D := D) (ci := 0) (v := .int t_act_person) (C := RX0) (T := TX0) (N := 3) hx hb hts nX4_noteFirstMeeting_X0 hown hK hP 3 rfl rfl 1 (by decide) (hts _ mX4_noteFirstMeeting_5) (fun _ h9 => h9) rfl dX4_noteFirstMeeting_65 ?_
      refine xs_i (va_runV (As := [.int t_act_person]) (rest := [.ref q_t]) ⟨hx, hb, hml, hown, hts⟩ (kX5_leastTwoWith l D cI cZ cJ cO q_t_world q_t_world_places q_t_world_coins q_t_world_lying t_world_date t_world_hour t_world_year t_world_shift t_world_kneelDate t_world_places t_act_person _ hf) (cwV 1 hts gX4_noteFirstMeeting_X5_leastTwoWith rfl rfl rfl (by decide +kernel) ⟨Nat.le_of_ble_eq_true rfl, Nat.le_of_ble_eq_true rfl⟩) (B0_preV (ci := 5) (q0 := 1) hP rfl rfl (hP.sub (ws' := [(q_t_world, .inr (5, [.int t_world_date, .int t_world_hour, .int t_world_year, .int t_world_shift, .int t_world_kneelDate, .ref q_t_world_places, .ref q_t_world_coins, .ref q_t_world_lying])), (q_t_world_places, .inl (cI, 6, .inl t_world_places))]) [1, 2] rfl) hK hN) rfl rfl hl.1 rfl (lv_room (Nat.le_of_ble_eq_true rfl)) dX4_noteFirstMeeting_68 ⟨Nat.zero_le _, Nat.zero_le _⟩) (fun r3 hf => ?_)
      refine va_put (D := D) (ci := 4) (v := .int r3) (ty := .int) (C := RX4) (T := TX4) (N := 7) hx hb hts nX4_noteFirstMeeting_X4 tyX4 tyX4_ok nmX4 hown hK hP hD hS 0 rfl rfl 5 (by decide) (hts _ mX4_noteFirstMeeting_6) (fun _ h9 => h9) rfl (by decide +kernel) rfl rfl (Nat.le_of_ble_eq_true rfl) dX4_noteFirstMeeting_71 (fun H locs hP hD hS => ?_)
      have hP : va_P D vwCl [(q_t, .inr (4, [.ref q_t_world, .int t_acts, .int t_failedAct, .int t_failedWhy, .int t_metAct, .int r3, .ref q_t_act])), (q_t_world, .inr (5, [.int t_world_date, .int t_world_hour, .int t_world_year, .int t_world_shift, .int t_world_kneelDate, .ref q_t_world_places, .ref q_t_world_coins, .ref q_t_world_lying])), (q_t_world_places, .inl (cI, 6, .inl t_world_places)), (q_t_act, .inr (0, [.int t_act_sign, .int t_act_person, .int t_act_number]))] H := hP
      have hD : va_D A [(q_t, .inr (4, [.ref q_t_world, .int t_acts, .int t_failedAct, .int t_failedWhy, .int t_metAct, .int r3, .ref q_t_act])), (q_t_world, .inr (5, [.int t_world_date, .int t_world_hour, .int t_world_year, .int t_world_shift, .int t_world_kneelDate, .ref q_t_world_places, .ref q_t_world_coins, .ref q_t_world_lying])), (q_t_world_places, .inl (cI, 6, .inl t_world_places)), (q_t_act, .inr (0, [.int t_act_sign, .int t_act_person, .int t_act_number]))] := hD
      refine lv_aload_n hx hb dX4_noteFirstMeeting_74 rfl (lv_at hl 1 rfl) ?_
      refine va_get (D := D) (ci := 4) (v := .int r3) (C := RX4) (T := TX4) (N := 7) hx hb hts nX4_noteFirstMeeting_X4 hown hK hP 0 rfl rfl 5 (by decide) (hts _ mX4_noteFirstMeeting_6) (fun _ h9 => h9) rfl dX4_noteFirstMeeting_75 ?_
      refine lv_bipush (v := (-6)) hx hb dX4_noteFirstMeeting_78 (by decide) ?_
      refine lv_icmp_eq (tgt := 91) hx hb dX4_noteFirstMeeting_80 (by decide) (fun c4 => ?_) (fun c4 => ?_)
      · have hf := hf.1 c4
        exact hret 91 ls H locs (t_metAct, r3) dX4_noteFirstMeeting_91 hf hP hD hS
      · have hf := hf.2 c4
        refine lv_aload_n hx hb dX4_noteFirstMeeting_83 rfl (lv_at hl 1 rfl) ?_
        refine lv_aload_n hx hb dX4_noteFirstMeeting_84 rfl (lv_at hl 1 rfl) ?_
        refine va_get (D := D) (ci := 4) (v := .int t_acts) (C := RX4) (T := TX4) (N := 7) hx hb hts nX4_noteFirstMeeting_X4 hown hK hP 0 rfl rfl 1 (by decide) (hts _ mX4_noteFirstMeeting_7) (fun _ h9 => h9) rfl dX4_noteFirstMeeting_85 ?_
        refine va_put (D := D) (ci := 4) (v := .int t_acts) (ty := .int) (C := RX4) (T := TX4) (N := 7) hx hb hts nX4_noteFirstMeeting_X4 tyX4 tyX4_ok nmX4 hown hK hP hD hS 0 rfl rfl 4 (by decide) (hts _ mX4_noteFirstMeeting_3) (fun _ h9 => h9) rfl (by decide +kernel) rfl rfl (Nat.le_of_ble_eq_true rfl) dX4_noteFirstMeeting_88 (fun H locs hP hD hS => ?_)
        have hP : va_P D vwCl [(q_t, .inr (4, [.ref q_t_world, .int t_acts, .int t_failedAct, .int t_failedWhy, .int t_acts, .int r3, .ref q_t_act])), (q_t_world, .inr (5, [.int t_world_date, .int t_world_hour, .int t_world_year, .int t_world_shift, .int t_world_kneelDate, .ref q_t_world_places, .ref q_t_world_coins, .ref q_t_world_lying])), (q_t_world_places, .inl (cI, 6, .inl t_world_places)), (q_t_act, .inr (0, [.int t_act_sign, .int t_act_person, .int t_act_number]))] H := hP
        have hD : va_D A [(q_t, .inr (4, [.ref q_t_world, .int t_acts, .int t_failedAct, .int t_failedWhy, .int t_acts, .int r3, .ref q_t_act])), (q_t_world, .inr (5, [.int t_world_date, .int t_world_hour, .int t_world_year, .int t_world_shift, .int t_world_kneelDate, .ref q_t_world_places, .ref q_t_world_coins, .ref q_t_world_lying])), (q_t_world_places, .inl (cI, 6, .inl t_world_places)), (q_t_act, .inr (0, [.int t_act_sign, .int t_act_person, .int t_act_number]))] := hD
        exact hret 91 ls H locs (t_acts, r3) dX4_noteFirstMeeting_91 hf hP hD hS
    · have hf := hf.2 c2
      exact hret 55 ls H locs (t_metAct, t_metTwo) dX4_noteFirstMeeting_55 hf hP hD hS

def pX4_noteFirstMeeting_b36 (t_acts : Int32) (t_world_places : (Nat → Int32)) (t_act_sign : Int32) (t_act_person : Int32) (post : (Int32 × Int32) → Prop) (t_metAct : Int32) (t_metTwo : Int32) : Prop :=
  pX4_noteFirstMeeting_b41 t_acts t_world_places t_act_sign t_act_person post  1 t_metAct t_metTwo

set_option maxHeartbeats 4000000 in
set_option maxRecDepth 100000 in
theorem wX4_noteFirstMeeting_b36 {p : Program} {l : Launch} {e : Env} {s : State} {m : MethodId} {args : Array Value} {below : List Frame} {meth : Method} {c : Code} {Q : State → Prop} {D : va_G} {cI cZ cJ cO : ClassId} {A : Nat → Prop} (C0 : CallFix p m c cX4_noteFirstMeeting 2 s args wsX4_noteFirstMeeting RX4) (hN : nw s) (hK : va_K D vwCl (tyL cI cZ cJ cO) s) (hA : ∀ q, s.heap.size ≤ q → A q) (q_t q_t_world q_t_world_places q_t_act q_t_world_coins q_t_world_lying : Nat) (t_failedAct : Int32) (t_failedWhy : Int32) (t_world_date : Int32) (t_world_hour : Int32) (t_world_year : Int32) (t_world_shift : Int32) (t_world_kneelDate : Int32) (t_act_number : Int32) (t_acts : Int32) (t_world_places : (Nat → Int32)) (t_act_sign : Int32) (t_act_person : Int32) (post : (Int32 × Int32) → Prop) (hret : hrV p l e ({ frames := 3, cells := 0, slots := 0, locals := 64 } : Room) s m args below meth c cX4_noteFirstMeeting D A Q post (fun u : Int32 × Int32 => [(q_t, .inr (4, [.ref q_t_world, .int t_acts, .int t_failedAct, .int t_failedWhy, .int u.1, .int u.2, .ref q_t_act])), (q_t_world, .inr (5, [.int t_world_date, .int t_world_hour, .int t_world_year, .int t_world_shift, .int t_world_kneelDate, .ref q_t_world_places, .ref q_t_world_coins, .ref q_t_world_lying])), (q_t_world_places, .inl (cI, 6, .inl t_world_places)), (q_t_act, .inr (0, [.int t_act_sign, .int t_act_person, .int t_act_number]))])) :
    ∀ (t_metAct : Int32) (t_metTwo : Int32), pX4_noteFirstMeeting_b36 t_acts t_world_places t_act_sign t_act_person post t_metAct t_metTwo → ∀ (H : Heap) (locs : List Loc), va_P D vwCl [(q_t, .inr (4, [.ref q_t_world, .int t_acts, .int t_failedAct, .int t_failedWhy, .int t_metAct, .int t_metTwo, .ref q_t_act])), (q_t_world, .inr (5, [.int t_world_date, .int t_world_hour, .int t_world_year, .int t_world_shift, .int t_world_kneelDate, .ref q_t_world_places, .ref q_t_world_coins, .ref q_t_world_lying])), (q_t_world_places, .inl (cI, 6, .inl t_world_places)), (q_t_act, .inr (0, [.int t_act_sign, .int t_act_person, .int t_act_number]))] H → va_D A [(q_t, .inr (4, [.ref q_t_world, .int t_acts, .int t_failedAct, .int t_failedWhy, .int t_metAct, .int t_metTwo, .ref q_t_act])), (q_t_world, .inr (5, [.int t_world_date, .int t_world_hour, .int t_world_year, .int t_world_shift, .int t_world_kneelDate, .ref q_t_world_places, .ref q_t_world_coins, .ref q_t_world_lying])), (q_t_world_places, .inl (cI, 6, .inl t_world_places)), (q_t_act, .inr (0, [.int t_act_sign, .int t_act_person, .int t_act_number]))] → va_S A s.heap H locs → ∀ ls : Array Slot, lv_has ls 2 [(0, .ref q_t)] → W p l e ({ frames := 3, cells := 0, slots := 0, locals := 64 } : Room) s m args below meth c H locs 0 0 Q (F0 m 36 ls []) := by
  obtain ⟨hx, hb, hml, hown, hts⟩ := id C0
  intro t_metAct t_metTwo hf H locs hP hD hS ls hl
  unfold pX4_noteFirstMeeting_b36 at hf
  refine lv_iconst (v := 1) hx hb dX4_noteFirstMeeting_36 (by decide) ?_
  refine lv_goto (tgt := 41) hx hb dX4_noteFirstMeeting_37 (by decide) ?_
  exact wX4_noteFirstMeeting_b41 C0 hN hK hA q_t q_t_world q_t_world_places q_t_act q_t_world_coins q_t_world_lying t_failedAct t_failedWhy t_world_date t_world_hour t_world_year t_world_shift t_world_kneelDate t_act_number t_acts t_world_places t_act_sign t_act_person post hret   1 t_metAct t_metTwo hf H locs hP hD hS ls (lv_sub hl [0] rfl)

def pX4_noteFirstMeeting (t_acts : Int32) (t_metAct : Int32) (t_metTwo : Int32) (t_world_places : (Nat → Int32)) (t_act_sign : Int32) (t_act_person : Int32)  (post : (Int32 × Int32) → Prop) : Prop :=
  (t_act_sign = 40 → (pX4_noteFirstMeeting_b36 t_acts t_world_places t_act_sign t_act_person post  t_metAct t_metTwo)) ∧ (¬ t_act_sign = 40 → ((t_act_sign = 62 → (pX4_noteFirstMeeting_b36 t_acts t_world_places t_act_sign t_act_person post  t_metAct t_metTwo)) ∧ (¬ t_act_sign = 62 → ((¬ t_act_sign = 60 → (pX4_noteFirstMeeting_b41 t_acts t_world_places t_act_sign t_act_person post  0 t_metAct t_metTwo)) ∧ (t_act_sign = 60 → (pX4_noteFirstMeeting_b36 t_acts t_world_places t_act_sign t_act_person post  t_metAct t_metTwo))))))

set_option maxHeartbeats 4000000 in
set_option maxRecDepth 100000 in
theorem kX4_noteFirstMeeting (l : Launch) (D : va_G) (cI cZ cJ cO : ClassId) (q_t q_t_world q_t_world_places q_t_act q_t_world_coins q_t_world_lying : Nat) (sz : Nat) (t_failedAct : Int32) (t_failedWhy : Int32) (t_world_date : Int32) (t_world_hour : Int32) (t_world_year : Int32) (t_world_shift : Int32) (t_world_kneelDate : Int32) (t_act_number : Int32) (t_acts : Int32) (t_metAct : Int32) (t_metTwo : Int32) (t_world_places : (Nat → Int32)) (t_act_sign : Int32) (t_act_person : Int32)  (post : (Int32 × Int32) → Prop) (hf : pX4_noteFirstMeeting t_acts t_metAct t_metTwo t_world_places t_act_sign t_act_person post) :
    Met l yX4_noteFirstMeeting wsX4_noteFirstMeeting ({ frames := 3, cells := 0, slots := 0, locals := 64 } : Room) (va_Pc [.ref q_t] (B1 D (tyL cI cZ cJ cO) [(q_t, .inr (4, [.ref q_t_world, .int t_acts, .int t_failedAct, .int t_failedWhy, .int t_metAct, .int t_metTwo, .ref q_t_act])), (q_t_world, .inr (5, [.int t_world_date, .int t_world_hour, .int t_world_year, .int t_world_shift, .int t_world_kneelDate, .ref q_t_world_places, .ref q_t_world_coins, .ref q_t_world_lying])), (q_t_world_places, .inl (cI, 6, .inl t_world_places)), (q_t_act, .inr (0, [.int t_act_sign, .int t_act_person, .int t_act_number]))] sz)) (va_Qv post (fun u t => E1 D (va_A [(q_t, .inr (4, [.ref q_t_world, .int t_acts, .int t_failedAct, .int t_failedWhy, .int t_metAct, .int t_metTwo, .ref q_t_act])), (q_t_world, .inr (5, [.int t_world_date, .int t_world_hour, .int t_world_year, .int t_world_shift, .int t_world_kneelDate, .ref q_t_world_places, .ref q_t_world_coins, .ref q_t_world_lying])), (q_t_world_places, .inl (cI, 6, .inl t_world_places)), (q_t_act, .inr (0, [.int t_act_sign, .int t_act_person, .int t_act_number]))] sz) ((fun u : Int32 × Int32 => [(q_t, .inr (4, [.ref q_t_world, .int t_acts, .int t_failedAct, .int t_failedWhy, .int u.1, .int u.2, .ref q_t_act])), (q_t_world, .inr (5, [.int t_world_date, .int t_world_hour, .int t_world_year, .int t_world_shift, .int t_world_kneelDate, .ref q_t_world_places, .ref q_t_world_coins, .ref q_t_world_lying])), (q_t_world_places, .inl (cI, 6, .inl t_world_places)), (q_t_act, .inr (0, [.int t_act_sign, .int t_act_person, .int t_act_number]))]) u) t) (va_A [(q_t, .inr (4, [.ref q_t_world, .int t_acts, .int t_failedAct, .int t_failedWhy, .int t_metAct, .int t_metTwo, .ref q_t_act])), (q_t_world, .inr (5, [.int t_world_date, .int t_world_hour, .int t_world_year, .int t_world_shift, .int t_world_kneelDate, .ref q_t_world_places, .ref q_t_world_coins, .ref q_t_world_lying])), (q_t_world_places, .inl (cI, 6, .inl t_world_places)), (q_t_act, .inr (0, [.int t_act_sign, .int t_act_person, .int t_act_number]))] sz)) 0 0 (va_A [(q_t, .inr (4, [.ref q_t_world, .int t_acts, .int t_failedAct, .int t_failedWhy, .int t_metAct, .int t_metTwo, .ref q_t_act])), (q_t_world, .inr (5, [.int t_world_date, .int t_world_hour, .int t_world_year, .int t_world_shift, .int t_world_kneelDate, .ref q_t_world_places, .ref q_t_world_coins, .ref q_t_world_lying])), (q_t_world_places, .inl (cI, 6, .inl t_world_places)), (q_t_act, .inr (0, [.int t_act_sign, .int t_act_person, .int t_act_number]))] sz) := by
  unfold pX4_noteFirstMeeting at hf
  refine xm_1v (own := RX4) (by decide) rfl rfl (Nat.le_of_ble_eq_true rfl) (fun p e s m args below meth c Q A C0 hN hK hA hret hP hD ls hl => ?_)
  obtain ⟨hx, hb, hml, hown, hts⟩ := id C0
  have hl : lv_has ls 2 [(0, .ref q_t)] := hl
  have hS : va_S A s.heap s.heap [] := va_S.rf
  obtain ⟨H, hHe⟩ : ∃ H, H = s.heap := ⟨_, rfl⟩
  obtain ⟨locs, hLe⟩ : ∃ L : List Loc, L = [] := ⟨_, rfl⟩
  rw [← hLe]
  rw [← hLe] at hS
  have hP : va_P D vwCl [(q_t, .inr (4, [.ref q_t_world, .int t_acts, .int t_failedAct, .int t_failedWhy, .int t_metAct, .int t_metTwo, .ref q_t_act])), (q_t_world, .inr (5, [.int t_world_date, .int t_world_hour, .int t_world_year, .int t_world_shift, .int t_world_kneelDate, .ref q_t_world_places, .ref q_t_world_coins, .ref q_t_world_lying])), (q_t_world_places, .inl (cI, 6, .inl t_world_places)), (q_t_act, .inr (0, [.int t_act_sign, .int t_act_person, .int t_act_number]))] H := by rw [hHe]; exact hP
  have hS : va_S A s.heap H locs := by rw [hHe]; exact hS
  suffices hgo : W p l e ({ frames := 3, cells := 0, slots := 0, locals := 64 } : Room) s m args below meth c H locs 0 0 Q (F0 m 0 ls []) by rw [← hHe]; exact hgo
  clear hHe hLe
  refine lv_aload_n hx hb dX4_noteFirstMeeting_0 rfl (lv_at hl 0 rfl) ?_
  refine va_get (D := D) (ci := 4) (v := .ref q_t_act) (C := RX4) (T := TX4) (N := 7) hx hb hts nX4_noteFirstMeeting_X4 hown hK hP 0 rfl rfl 6 (by decide) (hts _ mX4_noteFirstMeeting_1) (fun _ h9 => h9) rfl dX4_noteFirstMeeting_1 ?_
  refine va_get (D := D) (ci := 0) (v := .int t_act_sign) (C := RX0) (T := TX0) (N := 3) hx hb hts nX4_noteFirstMeeting_X0 hown hK hP 3 rfl rfl 0 (by decide) (hts _ mX4_noteFirstMeeting_2) (fun _ h9 => h9) rfl dX4_noteFirstMeeting_4 ?_
  refine lv_bipush (v := 40) hx hb dX4_noteFirstMeeting_7 (by decide) ?_
  refine lv_icmp_eq (tgt := 36) hx hb dX4_noteFirstMeeting_9 (by decide) (fun c1 => ?_) (fun c1 => ?_)
  · have hf := hf.1 c1
    exact wX4_noteFirstMeeting_b36 C0 hN hK hA q_t q_t_world q_t_world_places q_t_act q_t_world_coins q_t_world_lying t_failedAct t_failedWhy t_world_date t_world_hour t_world_year t_world_shift t_world_kneelDate t_act_number t_acts t_world_places t_act_sign t_act_person post hret   t_metAct t_metTwo hf H locs hP hD hS ls (lv_sub hl [0] rfl)
  · have hf := hf.2 c1
    refine lv_aload_n hx hb dX4_noteFirstMeeting_12 rfl (lv_at hl 0 rfl) ?_
    refine va_get (D := D) (ci := 4) (v := .ref q_t_act) (C := RX4) (T := TX4) (N := 7) hx hb hts nX4_noteFirstMeeting_X4 hown hK hP 0 rfl rfl 6 (by decide) (hts _ mX4_noteFirstMeeting_1) (fun _ h9 => h9) rfl dX4_noteFirstMeeting_13 ?_
    refine va_get (D := D) (ci := 0) (v := .int t_act_sign) (C := RX0) (T := TX0) (N := 3) hx hb hts nX4_noteFirstMeeting_X0 hown hK hP 3 rfl rfl 0 (by decide) (hts _ mX4_noteFirstMeeting_2) (fun _ h9 => h9) rfl dX4_noteFirstMeeting_16 ?_
    refine lv_bipush (v := 62) hx hb dX4_noteFirstMeeting_19 (by decide) ?_
    refine lv_icmp_eq (tgt := 36) hx hb dX4_noteFirstMeeting_21 (by decide) (fun c2 => ?_) (fun c2 => ?_)
    · have hf := hf.1 c2
      exact wX4_noteFirstMeeting_b36 C0 hN hK hA q_t q_t_world q_t_world_places q_t_act q_t_world_coins q_t_world_lying t_failedAct t_failedWhy t_world_date t_world_hour t_world_year t_world_shift t_world_kneelDate t_act_number t_acts t_world_places t_act_sign t_act_person post hret   t_metAct t_metTwo hf H locs hP hD hS ls (lv_sub hl [0] rfl)
    · have hf := hf.2 c2
      refine lv_aload_n hx hb dX4_noteFirstMeeting_24 rfl (lv_at hl 0 rfl) ?_
      refine va_get (D := D) (ci := 4) (v := .ref q_t_act) (C := RX4) (T := TX4) (N := 7) hx hb hts nX4_noteFirstMeeting_X4 hown hK hP 0 rfl rfl 6 (by decide) (hts _ mX4_noteFirstMeeting_1) (fun _ h9 => h9) rfl dX4_noteFirstMeeting_25 ?_
      refine va_get (D := D) (ci := 0) (v := .int t_act_sign) (C := RX0) (T := TX0) (N := 3) hx hb hts nX4_noteFirstMeeting_X0 hown hK hP 3 rfl rfl 0 (by decide) (hts _ mX4_noteFirstMeeting_2) (fun _ h9 => h9) rfl dX4_noteFirstMeeting_28 ?_
      refine lv_bipush (v := 60) hx hb dX4_noteFirstMeeting_31 (by decide) ?_
      refine lv_icmp_ne (tgt := 40) hx hb dX4_noteFirstMeeting_33 (by decide) (fun c3 => ?_) (fun c3 => ?_)
      · have hf := hf.1 c3
        refine lv_iconst (v := 0) hx hb dX4_noteFirstMeeting_40 (by decide) ?_
        exact wX4_noteFirstMeeting_b41 C0 hN hK hA q_t q_t_world q_t_world_places q_t_act q_t_world_coins q_t_world_lying t_failedAct t_failedWhy t_world_date t_world_hour t_world_year t_world_shift t_world_kneelDate t_act_number t_acts t_world_places t_act_sign t_act_person post hret   0 t_metAct t_metTwo hf H locs hP hD hS ls (lv_sub hl [0] rfl)
      · have hf := hf.2 c3
        exact wX4_noteFirstMeeting_b36 C0 hN hK hA q_t q_t_world q_t_world_places q_t_act q_t_world_coins q_t_world_lying t_failedAct t_failedWhy t_world_date t_world_hour t_world_year t_world_shift t_world_kneelDate t_act_number t_acts t_world_places t_act_sign t_act_person post hret   t_metAct t_metTwo hf H locs hP hD hS ls (lv_sub hl [0] rfl)
