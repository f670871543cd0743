/-! X7_newlyMet -/
theorem mX7_newlyMet_1 : Cond.fieldLink RX7 13 "OxenKneelModel" "now" "[I" ∈ wsX7_newlyMet := List.mem_of_getElem? (i := 1) rfl
theorem mX7_newlyMet_2 : Cond.fieldLink RX7 29 "OxenKneelModel" "had" "[I" ∈ wsX7_newlyMet := List.mem_of_getElem? (i := 2) rfl
theorem nX7_newlyMet_X7 : ∀ w ∈ wsX70, w ∈ wsX7_newlyMet := fun _ h => List.mem_cons_of_mem _ (List.mem_append_right _ h)
def pX7_newlyMet_b77 (t_now : (Nat → Int32)) (t_had : (Nat → Int32)) (post : Int32 → Prop) (k2 : Int32 → Prop) (k12 : Int32 → Int32 → Prop) (x1 : Int32) (x2 : Int32) (x3 : Int32) (s0 : Int32) : Prop :=
  (x3 = 0 → (∀ v2 : Int32, v2 = x2 + 1 → (k12 x1 v2))) ∧ (¬ x3 = 0 → ((¬ s0 = 0 → (∀ v4 : Int32, v4 = x2 + 1 → (k12 x1 v4))) ∧ (s0 = 0 → (post ((10 * x1) + x2)))))

set_option maxHeartbeats 4000000 in
set_option maxRecDepth 100000 in
theorem wX7_newlyMet_b77 {p : Program} {l : Launch} {e : Env} {s : State} {m : MethodId} {args : Array Value} {below : List Frame} {meth : Method} {c : Code} {Q : State → Prop} {D : va_G} {cI cZ cJ cO : ClassId} (C0 : CallFix p m c cX7_newlyMet 5 s args wsX7_newlyMet RX7) (hN : nw s) (hK : va_K D vwCl (tyL cI cZ cJ cO) s) (q_t q_t_now q_t_had q_t_book q_t_sight q_t_pad q_t_takes q_t_worths q_t_fitting q_t_wins q_t_ways q_t_image q_t_isKept : Nat) (t_shift : Int32) (t_kneels : Int32) (t_sights : Int32) (t_signs : Int32) (t_metAt : Int32) (t_metWho : Int32) (t_reason : Int32) (t_acts : Int32) (t_now : (Nat → Int32)) (t_had : (Nat → Int32)) (post : Int32 → Prop) (hret : h0I p l e ({ frames := 0, cells := 0, slots := 0, locals := 0 } : Room) s m args below meth c cX7_newlyMet Q post) (hP : va_P D vwCl [(q_t, .inr (7, [.ref q_t_book, .ref q_t_now, .int t_shift, .int t_kneels, .int t_sights, .ref q_t_sight, .int t_signs, .ref q_t_pad, .int t_metAt, .int t_metWho, .int t_reason, .int t_acts, .ref q_t_had, .ref q_t_takes, .ref q_t_worths, .ref q_t_fitting, .ref q_t_wins, .ref q_t_ways, .ref q_t_image, .ref q_t_isKept])), (q_t_now, .inl (cI, 45, .inl t_now)), (q_t_had, .inl (cI, 6, .inl t_had))] s.heap) (k2 : Int32 → Prop) (k12 : Int32 → Int32 → Prop) (hk2 : ∀ (x1 : Int32), k2 x1 → ∀ ls : Array Slot, lv_has ls 5 [(0, .ref q_t), (1, .int x1)] → W p l e ({ frames := 0, cells := 0, slots := 0, locals := 0 } : Room) s m args below meth c s.heap [] 0 0 Q (F0 m 2 ls [])) (hk12 : ∀ (x1 : Int32) (x2 : Int32), k12 x1 x2 → ∀ ls : Array Slot, lv_has ls 5 [(0, .ref q_t), (1, .int x1), (2, .int x2)] → W p l e ({ frames := 0, cells := 0, slots := 0, locals := 0 } : Room) s m args below meth c s.heap [] 0 0 Q (F0 m 12 ls [])) :
    ∀ (x1 : Int32) (x2 : Int32) (x3 : Int32) (s0 : Int32), pX7_newlyMet_b77 t_now t_had post k2 k12 x1 x2 x3 s0 → ∀ ls : Array Slot, lv_has ls 5 [(0, .ref q_t), (1, .int x1), (2, .int x2), (3, .int x3)] → W p l e ({ frames := 0, cells := 0, slots := 0, locals := 0 } : Room) s m args below meth c s.heap [] 0 0 Q (F0 m 77 ls [.int s0]) := by
  obtain ⟨hx, hb, hml, hown, hts⟩ := id C0
  intro x1 x2 x3 s0 hf ls hl
  unfold pX7_newlyMet_b77 at hf
  refine lv_istore (lv' := [(4, .int s0), (0, .ref q_t), (1, .int x1), (2, .int x2), (3, .int x3)]) hx hb dX7_newlyMet_77 hl (by decide) rfl (fun ls hl => ?_)
  refine lv_iload_n hx hb dX7_newlyMet_79 rfl (lv_at hl 4 rfl) ?_
  refine lv_if_eq (tgt := 95) hx hb dX7_newlyMet_80 (by decide) (fun c1 => ?_) (fun c1 => ?_)
  · have hf := hf.1 c1
    obtain ⟨v2, ev2⟩ : ∃ y : Int32, y = x2 + 1 := ⟨_, rfl⟩
    have hf := hf v2 ev2
    refine lv_iinc (v := v2) (lv' := [(2, .int v2), (4, .int s0), (0, .ref q_t), (1, .int x1), (3, .int x3)]) hx hb dX7_newlyMet_95 hl (k := 3) rfl (by rw [ev2]; rfl) (by decide) rfl (fun ls hl => ?_)
    refine lv_goto (tgt := 12) hx hb dX7_newlyMet_98 (by decide) ?_
    exact hk12 x1 v2 hf ls (lv_sub hl [2, 3, 0] rfl)
  · have hf := hf.2 c1
    refine lv_iload hx hb dX7_newlyMet_83 (lv_at hl 0 rfl) ?_
    refine lv_if_ne (tgt := 95) hx hb dX7_newlyMet_85 (by decide) (fun c3 => ?_) (fun c3 => ?_)
    · have hf := hf.1 c3
      obtain ⟨v4, ev4⟩ : ∃ y : Int32, y = x2 + 1 := ⟨_, rfl⟩
      have hf := hf v4 ev4
      refine lv_iinc (v := v4) (lv' := [(2, .int v4), (4, .int s0), (0, .ref q_t), (1, .int x1), (3, .int x3)]) hx hb dX7_newlyMet_95 hl (k := 3) rfl (by rw [ev4]; rfl) (by decide) rfl (fun ls hl => ?_)
      refine lv_goto (tgt := 12) hx hb dX7_newlyMet_98 (by decide) ?_
      exact hk12 x1 v4 hf ls (lv_sub hl [2, 3, 0] rfl)
    · have hf := hf.2 c3
      refine lv_bipush (v := 10) hx hb dX7_newlyMet_88 (by decide) ?_
      refine lv_iload_n hx hb dX7_newlyMet_90 rfl (lv_at hl 2 rfl) ?_
      refine lv_imul hx hb dX7_newlyMet_91 ?_
      refine lv_iload_n hx hb dX7_newlyMet_92 rfl (lv_at hl 3 rfl) ?_
      refine lv_iadd hx hb dX7_newlyMet_93 ?_
      exact hret 94 ls ((10 * x1) + x2) dX7_newlyMet_94 hf

def pX7_newlyMet_b76 (t_now : (Nat → Int32)) (t_had : (Nat → Int32)) (post : Int32 → Prop) (k2 : Int32 → Prop) (k12 : Int32 → Int32 → Prop) (x1 : Int32) (x2 : Int32) (x3 : Int32) : Prop :=
  pX7_newlyMet_b77 t_now t_had post k2 k12 x1 x2 x3 0

set_option maxHeartbeats 4000000 in
set_option maxRecDepth 100000 in
theorem wX7_newlyMet_b76 {p : Program} {l : Launch} {e : Env} {s : State} {m : MethodId} {args : Array Value} {below : List Frame} {meth : Method} {c : Code} {Q : State → Prop} {D : va_G} {cI cZ cJ cO : ClassId} (C0 : CallFix p m c cX7_newlyMet 5 s args wsX7_newlyMet RX7) (hN : nw s) (hK : va_K D vwCl (tyL cI cZ cJ cO) s) (q_t q_t_now q_t_had q_t_book q_t_sight q_t_pad q_t_takes q_t_worths q_t_fitting q_t_wins q_t_ways q_t_image q_t_isKept : Nat) (t_shift : Int32) (t_kneels : Int32) (t_sights : Int32) (t_signs : Int32) (t_metAt : Int32) (t_metWho : Int32) (t_reason : Int32) (t_acts : Int32) (t_now : (Nat → Int32)) (t_had : (Nat → Int32)) (post : Int32 → Prop) (hret : h0I p l e ({ frames := 0, cells := 0, slots := 0, locals := 0 } : Room) s m args below meth c cX7_newlyMet Q post) (hP : va_P D vwCl [(q_t, .inr (7, [.ref q_t_book, .ref q_t_now, .int t_shift, .int t_kneels, .int t_sights, .ref q_t_sight, .int t_signs, .ref q_t_pad, .int t_metAt, .int t_metWho, .int t_reason, .int t_acts, .ref q_t_had, .ref q_t_takes, .ref q_t_worths, .ref q_t_fitting, .ref q_t_wins, .ref q_t_ways, .ref q_t_image, .ref q_t_isKept])), (q_t_now, .inl (cI, 45, .inl t_now)), (q_t_had, .inl (cI, 6, .inl t_had))] s.heap) (k2 : Int32 → Prop) (k12 : Int32 → Int32 → Prop) (hk2 : ∀ (x1 : Int32), k2 x1 → ∀ ls : Array Slot, lv_has ls 5 [(0, .ref q_t), (1, .int x1)] → W p l e ({ frames := 0, cells := 0, slots := 0, locals := 0 } : Room) s m args below meth c s.heap [] 0 0 Q (F0 m 2 ls [])) (hk12 : ∀ (x1 : Int32) (x2 : Int32), k12 x1 x2 → ∀ ls : Array Slot, lv_has ls 5 [(0, .ref q_t), (1, .int x1), (2, .int x2)] → W p l e ({ frames := 0, cells := 0, slots := 0, locals := 0 } : Room) s m args below meth c s.heap [] 0 0 Q (F0 m 12 ls [])) :
    ∀ (x1 : Int32) (x2 : Int32) (x3 : Int32), pX7_newlyMet_b76 t_now t_had post k2 k12 x1 x2 x3 → ∀ ls : Array Slot, lv_has ls 5 [(0, .ref q_t), (1, .int x1), (2, .int x2), (3, .int x3)] → W p l e ({ frames := 0, cells := 0, slots := 0, locals := 0 } : Room) s m args below meth c s.heap [] 0 0 Q (F0 m 76 ls []) := by
  obtain ⟨hx, hb, hml, hown, hts⟩ := id C0
  intro x1 x2 x3 hf ls hl
  unfold pX7_newlyMet_b76 at hf
  refine lv_iconst (v := 0) hx hb dX7_newlyMet_76 (by decide) ?_
  exact wX7_newlyMet_b77 C0 hN hK q_t q_t_now q_t_had q_t_book q_t_sight q_t_pad q_t_takes q_t_worths q_t_fitting q_t_wins q_t_ways q_t_image q_t_isKept t_shift t_kneels t_sights t_signs t_metAt t_metWho t_reason t_acts t_now t_had post hret hP _ _ hk2 hk12 x1 x2 x3 0 hf ls (lv_sub hl [0, 1, 2, 3] rfl)

def pX7_newlyMet_b47 (t_now : (Nat → Int32)) (t_had : (Nat → Int32)) (post : Int32 → Prop) (k2 : Int32 → Prop) (k12 : Int32 → Int32 → Prop) (x1 : Int32) (x2 : Int32) (s0 : Int32) : Prop :=
  vp_in x1 6 ∧ (((t_had x1.toNatClampNeg) < 0 → (pX7_newlyMet_b76 t_now t_had post k2 k12 x1 x2 s0)) ∧ (¬ (t_had x1.toNatClampNeg) < 0 → (vp_in x1 6 ∧ (vp_in x2 6 ∧ ((¬ (t_had x1.toNatClampNeg) = (t_had x2.toNatClampNeg) → (pX7_newlyMet_b76 t_now t_had post k2 k12 x1 x2 s0)) ∧ ((t_had x1.toNatClampNeg) = (t_had x2.toNatClampNeg) → (pX7_newlyMet_b77 t_now t_had post k2 k12 x1 x2 s0 1)))))))

set_option maxHeartbeats 4000000 in
set_option maxRecDepth 100000 in
theorem wX7_newlyMet_b47 {p : Program} {l : Launch} {e : Env} {s : State} {m : MethodId} {args : Array Value} {below : List Frame} {meth : Method} {c : Code} {Q : State → Prop} {D : va_G} {cI cZ cJ cO : ClassId} (C0 : CallFix p m c cX7_newlyMet 5 s args wsX7_newlyMet RX7) (hN : nw s) (hK : va_K D vwCl (tyL cI cZ cJ cO) s) (q_t q_t_now q_t_had q_t_book q_t_sight q_t_pad q_t_takes q_t_worths q_t_fitting q_t_wins q_t_ways q_t_image q_t_isKept : Nat) (t_shift : Int32) (t_kneels : Int32) (t_sights : Int32) (t_signs : Int32) (t_metAt : Int32) (t_metWho : Int32) (t_reason : Int32) (t_acts : Int32) (t_now : (Nat → Int32)) (t_had : (Nat → Int32)) (post : Int32 → Prop) (hret : h0I p l e ({ frames := 0, cells := 0, slots := 0, locals := 0 } : Room) s m args below meth c cX7_newlyMet Q post) (hP : va_P D vwCl [(q_t, .inr (7, [.ref q_t_book, .ref q_t_now, .int t_shift, .int t_kneels, .int t_sights, .ref q_t_sight, .int t_signs, .ref q_t_pad, .int t_metAt, .int t_metWho, .int t_reason, .int t_acts, .ref q_t_had, .ref q_t_takes, .ref q_t_worths, .ref q_t_fitting, .ref q_t_wins, .ref q_t_ways, .ref q_t_image, .ref q_t_isKept])), (q_t_now, .inl (cI, 45, .inl t_now)), (q_t_had, .inl (cI, 6, .inl t_had))] s.heap) (k2 : Int32 → Prop) (k12 : Int32 → Int32 → Prop) (hk2 : ∀ (x1 : Int32), k2 x1 → ∀ ls : Array Slot, lv_has ls 5 [(0, .ref q_t), (1, .int x1)] → W p l e ({ frames := 0, cells := 0, slots := 0, locals := 0 } : Room) s m args below meth c s.heap [] 0 0 Q (F0 m 2 ls [])) (hk12 : ∀ (x1 : Int32) (x2 : Int32), k12 x1 x2 → ∀ ls : Array Slot, lv_has ls 5 [(0, .ref q_t), (1, .int x1), (2, .int x2)] → W p l e ({ frames := 0, cells := 0, slots := 0, locals := 0 } : Room) s m args below meth c s.heap [] 0 0 Q (F0 m 12 ls [])) :
    ∀ (x1 : Int32) (x2 : Int32) (s0 : Int32), pX7_newlyMet_b47 t_now t_had post k2 k12 x1 x2 s0 → ∀ ls : Array Slot, lv_has ls 5 [(0, .ref q_t), (1, .int x1), (2, .int x2)] → W p l e ({ frames := 0, cells := 0, slots := 0, locals := 0 } : Room) s m args below meth c s.heap [] 0 0 Q (F0 m 47 ls [.int s0]) := by
  obtain ⟨hx, hb, hml, hown, hts⟩ := id C0
  intro x1 x2 s0 hf ls hl
  unfold pX7_newlyMet_b47 at hf
  refine lv_istore_n (lv' := [(3, .int s0), (0, .ref q_t), (1, .int x1), (2, .int x2)]) hx hb dX7_newlyMet_47 rfl hl (by decide) rfl (fun ls hl => ?_)
  refine lv_aload_n hx hb dX7_newlyMet_48 rfl (lv_at hl 1 rfl) ?_
  refine va_get (D := D) (ci := 7) (v := .ref q_t_had) (C := RX7) (T := TX7) (N := 20) hx hb hts nX7_newlyMet_X7 hown hK hP 0 rfl rfl 12 (by decide) (hts _ mX7_newlyMet_2) (fun _ h9 => h9) rfl dX7_newlyMet_49 ?_
  refine lv_iload_n hx hb dX7_newlyMet_52 rfl (lv_at hl 2 rfl) ?_
  have g1 := hf.1
  have hf := hf.2
  refine xa_iald hx hb hK hP 2 0 rfl rfl (j := x1.toNatClampNeg) rfl g1 dX7_newlyMet_53 ?_
  refine lv_if_lt (tgt := 76) hx hb dX7_newlyMet_54 (by decide) (fun c2 => ?_) (fun c2 => ?_)
  · have hf := hf.1 c2
    exact wX7_newlyMet_b76 C0 hN hK q_t q_t_now q_t_had q_t_book q_t_sight q_t_pad q_t_takes q_t_worths q_t_fitting q_t_wins q_t_ways q_t_image q_t_isKept t_shift t_kneels t_sights t_signs t_metAt t_metWho t_reason t_acts t_now t_had post hret hP _ _ hk2 hk12 x1 x2 s0 hf ls (lv_sub hl [1, 2, 3, 0] rfl)
  · have hf := hf.2 c2
    refine lv_aload_n hx hb dX7_newlyMet_57 rfl (lv_at hl 1 rfl) ?_
    refine va_get (D := D) (ci := 7) (v := .ref q_t_had) (C := RX7) (T := TX7) (N := 20) hx hb hts nX7_newlyMet_X7 hown hK hP 0 rfl rfl 12 (by decide) (hts _ mX7_newlyMet_2) (fun _ h9 => h9) rfl dX7_newlyMet_58 ?_
    refine lv_iload_n hx hb dX7_newlyMet_61 rfl (lv_at hl 2 rfl) ?_
    have g3 := hf.1
    have hf := hf.2
    refine xa_iald hx hb hK hP 2 0 rfl rfl (j := x1.toNatClampNeg) rfl g3 dX7_newlyMet_62 ?_
    refine lv_aload_n hx hb dX7_newlyMet_63 rfl (lv_at hl 1 rfl) ?_
    refine va_get (D := D) (ci := 7) (v := .ref q_t_had) (C := RX7) (T := TX7) (N := 20) hx hb hts nX7_newlyMet_X7 hown hK hP 0 rfl rfl 12 (by decide) (hts _ mX7_newlyMet_2) (fun _ h9 => h9) rfl dX7_newlyMet_64 ?_
    refine lv_iload_n hx hb dX7_newlyMet_67 rfl (lv_at hl 3 rfl) ?_
    have g4 := hf.1
    have hf := hf.2
    refine xa_iald hx hb hK hP 2 0 rfl rfl (j := x2.toNatClampNeg) rfl g4 dX7_newlyMet_68 ?_
    refine lv_icmp_ne (tgt := 76) hx hb dX7_newlyMet_69 (by decide) (fun c5 => ?_) (fun c5 => ?_)
    · have hf := hf.1 c5
      exact wX7_newlyMet_b76 C0 hN hK q_t q_t_now q_t_had q_t_book q_t_sight q_t_pad q_t_takes q_t_worths q_t_fitting q_t_wins q_t_ways q_t_image q_t_isKept t_shift t_kneels t_sights t_signs t_metAt t_metWho t_reason t_acts t_now t_had post hret hP _ _ hk2 hk12 x1 x2 s0 hf ls (lv_sub hl [1, 2, 3, 0] rfl)
    · have hf := hf.2 c5
      refine lv_iconst (v := 1) hx hb dX7_newlyMet_72 (by decide) ?_
      refine lv_goto (tgt := 77) hx hb dX7_newlyMet_73 (by decide) ?_
      exact wX7_newlyMet_b77 C0 hN hK q_t q_t_now q_t_had q_t_book q_t_sight q_t_pad q_t_takes q_t_worths q_t_fitting q_t_wins q_t_ways q_t_image q_t_isKept t_shift t_kneels t_sights t_signs t_metAt t_metWho t_reason t_acts t_now t_had post hret hP _ _ hk2 hk12 x1 x2 s0 1 hf ls (lv_sub hl [1, 2, 3, 0] rfl)

def pX7_newlyMet_b46 (t_now : (Nat → Int32)) (t_had : (Nat → Int32)) (post : Int32 → Prop) (k2 : Int32 → Prop) (k12 : Int32 → Int32 → Prop) (x1 : Int32) (x2 : Int32) : Prop :=
  pX7_newlyMet_b47 t_now t_had post k2 k12 x1 x2 0

set_option maxHeartbeats 4000000 in
set_option maxRecDepth 100000 in
theorem wX7_newlyMet_b46 {p : Program} {l : Launch} {e : Env} {s : State} {m : MethodId} {args : Array Value} {below : List Frame} {meth : Method} {c : Code} {Q : State → Prop} {D : va_G} {cI cZ cJ cO : ClassId} (C0 : CallFix p m c cX7_newlyMet 5 s args wsX7_newlyMet RX7) (hN : nw s) (hK : va_K D vwCl (tyL cI cZ cJ cO) s) (q_t q_t_now q_t_had q_t_book q_t_sight q_t_pad q_t_takes q_t_worths q_t_fitting q_t_wins q_t_ways q_t_image q_t_isKept : Nat) (t_shift : Int32) (t_kneels : Int32) (t_sights : Int32) (t_signs : Int32) (t_metAt : Int32) (t_metWho : Int32) (t_reason : Int32) (t_acts : Int32) (t_now : (Nat → Int32)) (t_had : (Nat → Int32)) (post : Int32 → Prop) (hret : h0I p l e ({ frames := 0, cells := 0, slots := 0, locals := 0 } : Room) s m args below meth c cX7_newlyMet Q post) (hP : va_P D vwCl [(q_t, .inr (7, [.ref q_t_book, .ref q_t_now, .int t_shift, .int t_kneels, .int t_sights, .ref q_t_sight, .int t_signs, .ref q_t_pad, .int t_metAt, .int t_metWho, .int t_reason, .int t_acts, .ref q_t_had, .ref q_t_takes, .ref q_t_worths, .ref q_t_fitting, .ref q_t_wins, .ref q_t_ways, .ref q_t_image, .ref q_t_isKept])), (q_t_now, .inl (cI, 45, .inl t_now)), (q_t_had, .inl (cI, 6, .inl t_had))] s.heap) (k2 : Int32 → Prop) (k12 : Int32 → Int32 → Prop) (hk2 : ∀ (x1 : Int32), k2 x1 → ∀ ls : Array Slot, lv_has ls 5 [(0, .ref q_t), (1, .int x1)] → W p l e ({ frames := 0, cells := 0, slots := 0, locals := 0 } : Room) s m args below meth c s.heap [] 0 0 Q (F0 m 2 ls [])) (hk12 : ∀ (x1 : Int32) (x2 : Int32), k12 x1 x2 → ∀ ls : Array Slot, lv_has ls 5 [(0, .ref q_t), (1, .int x1), (2, .int x2)] → W p l e ({ frames := 0, cells := 0, slots := 0, locals := 0 } : Room) s m args below meth c s.heap [] 0 0 Q (F0 m 12 ls [])) :
    ∀ (x1 : Int32) (x2 : Int32), pX7_newlyMet_b46 t_now t_had post k2 k12 x1 x2 → ∀ ls : Array Slot, lv_has ls 5 [(0, .ref q_t), (1, .int x1), (2, .int x2)] → W p l e ({ frames := 0, cells := 0, slots := 0, locals := 0 } : Room) s m args below meth c s.heap [] 0 0 Q (F0 m 46 ls []) := by
  obtain ⟨hx, hb, hml, hown, hts⟩ := id C0
  intro x1 x2 hf ls hl
  unfold pX7_newlyMet_b46 at hf
  refine lv_iconst (v := 0) hx hb dX7_newlyMet_46 (by decide) ?_
  exact wX7_newlyMet_b47 C0 hN hK q_t q_t_now q_t_had q_t_book q_t_sight q_t_pad q_t_takes q_t_worths q_t_fitting q_t_wins q_t_ways q_t_image q_t_isKept t_shift t_kneels t_sights t_signs t_metAt t_metWho t_reason t_acts t_now t_had post hret hP _ _ hk2 hk12 x1 x2 0 hf ls (lv_sub hl [0, 1, 2] rfl)

def pX7_newlyMet_b12 (t_now : (Nat → Int32)) (t_had : (Nat → Int32)) (post : Int32 → Prop) (k2 : Int32 → Prop) : Nat → Int32 → Int32 → Prop
  | 0 => fun _ _ => False
  | n + 1 => fun x1 x2 => (6 ≤ x2 → (∀ v2 : Int32, v2 = x1 + 1 → (k2 v2))) ∧ (¬ 6 ≤ x2 → (vp_in x1 45 ∧ (((t_now x1.toNatClampNeg) < 0 → (pX7_newlyMet_b46 t_now t_had post k2 (fun x1 x2 => pX7_newlyMet_b12 t_now t_had post k2 n x1 x2) x1 x2)) ∧ (¬ (t_now x1.toNatClampNeg) < 0 → (vp_in x1 45 ∧ (vp_in x2 45 ∧ ((¬ (t_now x1.toNatClampNeg) = (t_now x2.toNatClampNeg) → (pX7_newlyMet_b46 t_now t_had post k2 (fun x1 x2 => pX7_newlyMet_b12 t_now t_had post k2 n x1 x2) x1 x2)) ∧ ((t_now x1.toNatClampNeg) = (t_now x2.toNatClampNeg) → (pX7_newlyMet_b47 t_now t_had post k2 (fun x1 x2 => pX7_newlyMet_b12 t_now t_had post k2 n x1 x2) x1 x2 1)))))))))

set_option maxHeartbeats 4000000 in
set_option maxRecDepth 100000 in
theorem wX7_newlyMet_b12 {p : Program} {l : Launch} {e : Env} {s : State} {m : MethodId} {args : Array Value} {below : List Frame} {meth : Method} {c : Code} {Q : State → Prop} {D : va_G} {cI cZ cJ cO : ClassId} (C0 : CallFix p m c cX7_newlyMet 5 s args wsX7_newlyMet RX7) (hN : nw s) (hK : va_K D vwCl (tyL cI cZ cJ cO) s) (q_t q_t_now q_t_had q_t_book q_t_sight q_t_pad q_t_takes q_t_worths q_t_fitting q_t_wins q_t_ways q_t_image q_t_isKept : Nat) (t_shift : Int32) (t_kneels : Int32) (t_sights : Int32) (t_signs : Int32) (t_metAt : Int32) (t_metWho : Int32) (t_reason : Int32) (t_acts : Int32) (t_now : (Nat → Int32)) (t_had : (Nat → Int32)) (post : Int32 → Prop) (hret : h0I p l e ({ frames := 0, cells := 0, slots := 0, locals := 0 } : Room) s m args below meth c cX7_newlyMet Q post) (hP : va_P D vwCl [(q_t, .inr (7, [.ref q_t_book, .ref q_t_now, .int t_shift, .int t_kneels, .int t_sights, .ref q_t_sight, .int t_signs, .ref q_t_pad, .int t_metAt, .int t_metWho, .int t_reason, .int t_acts, .ref q_t_had, .ref q_t_takes, .ref q_t_worths, .ref q_t_fitting, .ref q_t_wins, .ref q_t_ways, .ref q_t_image, .ref q_t_isKept])), (q_t_now, .inl (cI, 45, .inl t_now)), (q_t_had, .inl (cI, 6, .inl t_had))] s.heap) (k2 : Int32 → Prop) (hk2 : ∀ (x1 : Int32), k2 x1 → ∀ ls : Array Slot, lv_has ls 5 [(0, .ref q_t), (1, .int x1)] → W p l e ({ frames := 0, cells := 0, slots := 0, locals := 0 } : Room) s m args below meth c s.heap [] 0 0 Q (F0 m 2 ls [])) :
    ∀ (n : Nat) (x1 : Int32) (x2 : Int32), pX7_newlyMet_b12 t_now t_had post k2 n x1 x2 → ∀ ls : Array Slot, lv_has ls 5 [(0, .ref q_t), (1, .int x1), (2, .int x2)] → W p l e ({ frames := 0, cells := 0, slots := 0, locals := 0 } : Room) s m args below meth c s.heap [] 0 0 Q (F0 m 12 ls []) := by
  obtain ⟨hx, hb, hml, hown, hts⟩ := id C0
  intro n
  induction n with
  | zero =>
    intro x1 x2 hf
    exact False.elim hf
  | succ n ih =>
    intro x1 x2 hf ls hl
    rw [pX7_newlyMet_b12] at hf
    refine lv_iload_n hx hb dX7_newlyMet_12 rfl (lv_at hl 2 rfl) ?_
    refine lv_bipush (v := 6) hx hb dX7_newlyMet_13 (by decide) ?_
    refine lv_icmp_ge (tgt := 101) hx hb dX7_newlyMet_15 (by decide) (fun c1 => ?_) (fun c1 => ?_)
    · have hf := hf.1 c1
      obtain ⟨v2, ev2⟩ : ∃ y : Int32, y = x1 + 1 := ⟨_, rfl⟩
      have hf := hf v2 ev2
      refine lv_iinc (v := v2) (lv' := [(1, .int v2), (0, .ref q_t), (2, .int x2)]) hx hb dX7_newlyMet_101 hl (k := 1) rfl (by rw [ev2]; rfl) (by decide) rfl (fun ls hl => ?_)
      refine lv_goto (tgt := 2) hx hb dX7_newlyMet_104 (by decide) ?_
      exact hk2 v2 hf ls (lv_sub hl [1, 0] rfl)
    · have hf := hf.2 c1
      refine lv_aload_n hx hb dX7_newlyMet_18 rfl (lv_at hl 0 rfl) ?_
      refine va_get (D := D) (ci := 7) (v := .ref q_t_now) (C := RX7) (T := TX7) (N := 20) hx hb hts nX7_newlyMet_X7 hown hK hP 0 rfl rfl 1 (by decide) (hts _ mX7_newlyMet_1) (fun _ h9 => h9) rfl dX7_newlyMet_19 ?_
      refine lv_iload_n hx hb dX7_newlyMet_22 rfl (lv_at hl 1 rfl) ?_
      have g3 := hf.1
      have hf := hf.2
      refine xa_iald hx hb hK hP 1 0 rfl rfl (j := x1.toNatClampNeg) rfl g3 dX7_newlyMet_23 ?_
      refine lv_if_lt (tgt := 46) hx hb dX7_newlyMet_24 (by decide) (fun c4 => ?_) (fun c4 => ?_)
      · have hf := hf.1 c4
        exact wX7_newlyMet_b46 C0 hN hK q_t q_t_now q_t_had q_t_book q_t_sight q_t_pad q_t_takes q_t_worths q_t_fitting q_t_wins q_t_ways q_t_image q_t_isKept t_shift t_kneels t_sights t_signs t_metAt t_metWho t_reason t_acts t_now t_had post hret hP _ _ hk2 ih x1 x2 hf ls (lv_sub hl [0, 1, 2] rfl)
      · have hf := hf.2 c4
        refine lv_aload_n hx hb dX7_newlyMet_27 rfl (lv_at hl 0 rfl) ?_
        refine va_get (D := D) (ci := 7) (v := .ref q_t_now) (C := RX7) (T := TX7) (N := 20) hx hb hts nX7_newlyMet_X7 hown hK hP 0 rfl rfl 1 (by decide) (hts _ mX7_newlyMet_1) (fun _ h9 => h9) rfl dX7_newlyMet_28 ?_
        refine lv_iload_n hx hb dX7_newlyMet_31 rfl (lv_at hl 1 rfl) ?_
        have g5 := hf.1
        have hf := hf.2
        refine xa_iald hx hb hK hP 1 0 rfl rfl (j := x1.toNatClampNeg) rfl g5 dX7_newlyMet_32 ?_
        refine lv_aload_n hx hb dX7_newlyMet_33 rfl (lv_at hl 0 rfl) ?_
        refine va_get (D := D) (ci := 7) (v := .ref q_t_now) (C := RX7) (T := TX7) (N := 20) hx hb hts nX7_newlyMet_X7 hown hK hP 0 rfl rfl 1 (by decide) (hts _ mX7_newlyMet_1) (fun _ h9 => h9) rfl dX7_newlyMet_34 ?_
        refine lv_iload_n hx hb dX7_newlyMet_37 rfl (lv_at hl 2 rfl) ?_
        have g6 := hf.1
        have hf := hf.2
        refine xa_iald hx hb hK hP 1 0 rfl rfl (j := x2.toNatClampNeg) rfl g6 dX7_newlyMet_38 ?_
        refine lv_icmp_ne (tgt := 46) hx hb dX7_newlyMet_39 (by decide) (fun c7 => ?_) (fun c7 => ?_)
        · have hf := hf.1 c7
          exact wX7_newlyMet_b46 C0 hN hK q_t q_t_now q_t_had q_t_book q_t_sight q_t_pad q_t_takes q_t_worths q_t_fitting q_t_wins q_t_ways q_t_image q_t_isKept t_shift t_kneels t_sights t_signs t_metAt t_metWho t_reason t_acts t_now t_had post hret hP _ _ hk2 ih x1 x2 hf ls (lv_sub hl [0, 1, 2] rfl)
        · have hf := hf.2 c7
          refine lv_iconst (v := 1) hx hb dX7_newlyMet_42 (by decide) ?_
          refine lv_goto (tgt := 47) hx hb dX7_newlyMet_43 (by decide) ?_
          exact wX7_newlyMet_b47 C0 hN hK q_t q_t_now q_t_had q_t_book q_t_sight q_t_pad q_t_takes q_t_worths q_t_fitting q_t_wins q_t_ways q_t_image q_t_isKept t_shift t_kneels t_sights t_signs t_metAt t_metWho t_reason t_acts t_now t_had post hret hP _ _ hk2 ih x1 x2 1 hf ls (lv_sub hl [0, 1, 2] rfl)

def pX7_newlyMet_b2 (t_now : (Nat → Int32)) (t_had : (Nat → Int32)) (post : Int32 → Prop) : Nat → Int32 → Prop
  | 0 => fun _ => False
  | n + 1 => fun x1 => (6 ≤ x1 → (post (-6))) ∧ (¬ 6 ≤ x1 → (∀ v2 : Int32, v2 = (x1 + 1) → (∃ n1, pX7_newlyMet_b12 t_now t_had post (fun x1 => pX7_newlyMet_b2 t_now t_had post  n x1) n1 x1 v2)))

set_option maxHeartbeats 4000000 in
set_option maxRecDepth 100000 in
theorem wX7_newlyMet_b2 {p : Program} {l : Launch} {e : Env} {s : State} {m : MethodId} {args : Array Value} {below : List Frame} {meth : Method} {c : Code} {Q : State → Prop} {D : va_G} {cI cZ cJ cO : ClassId} (C0 : CallFix p m c cX7_newlyMet 5 s args wsX7_newlyMet RX7) (hN : nw s) (hK : va_K D vwCl (tyL cI cZ cJ cO) s) (q_t q_t_now q_t_had q_t_book q_t_sight q_t_pad q_t_takes q_t_worths q_t_fitting q_t_wins q_t_ways q_t_image q_t_isKept : Nat) (t_shift : Int32) (t_kneels : Int32) (t_sights : Int32) (t_signs : Int32) (t_metAt : Int32) (t_metWho : Int32) (t_reason : Int32) (t_acts : Int32) (t_now : (Nat → Int32)) (t_had : (Nat → Int32)) (post : Int32 → Prop) (hret : h0I p l e ({ frames := 0, cells := 0, slots := 0, locals := 0 } : Room) s m args below meth c cX7_newlyMet Q post) (hP : va_P D vwCl [(q_t, .inr (7, [.ref q_t_book, .ref q_t_now, .int t_shift, .int t_kneels, .int t_sights, .ref q_t_sight, .int t_signs, .ref q_t_pad, .int t_metAt, .int t_metWho, .int t_reason, .int t_acts, .ref q_t_had, .ref q_t_takes, .ref q_t_worths, .ref q_t_fitting, .ref q_t_wins, .ref q_t_ways, .ref q_t_image, .ref q_t_isKept])), (q_t_now, .inl (cI, 45, .inl t_now)), (q_t_had, .inl (cI, 6, .inl t_had))] s.heap) :
    ∀ (n : Nat) (x1 : Int32), pX7_newlyMet_b2 t_now t_had post n x1 → ∀ ls : Array Slot, lv_has ls 5 [(0, .ref q_t), (1, .int x1)] → W p l e ({ frames := 0, cells := 0, slots := 0, locals := 0 } : Room) s m args below meth c s.heap [] 0 0 Q (F0 m 2 ls []) := by
  obtain ⟨hx, hb, hml, hown, hts⟩ := id C0
  intro n
  induction n with
  | zero =>
    intro x1 hf
    exact False.elim hf
  | succ n ih =>
    intro x1 hf ls hl
    rw [pX7_newlyMet_b2] at hf
    refine lv_iload_n hx hb dX7_newlyMet_2 rfl (lv_at hl 1 rfl) ?_
    refine lv_bipush (v := 6) hx hb dX7_newlyMet_3 (by decide) ?_
    refine lv_icmp_ge (tgt := 107) hx hb dX7_newlyMet_5 (by decide) (fun c1 => ?_) (fun c1 => ?_)
    · have hf := hf.1 c1
      refine lv_bipush (v := (-6)) hx hb dX7_newlyMet_107 (by decide) ?_
      exact hret 109 ls (-6) dX7_newlyMet_109 hf
    · have hf := hf.2 c1
      refine lv_iload_n hx hb dX7_newlyMet_8 rfl (lv_at hl 1 rfl) ?_
      refine lv_iconst (v := 1) hx hb dX7_newlyMet_9 (by decide) ?_
      refine lv_iadd hx hb dX7_newlyMet_10 ?_
      refine lv_topi (fun v2 ev2 => ?_)
      have hf := hf v2 ev2
      refine lv_istore_n (lv' := [(2, .int v2), (0, .ref q_t), (1, .int x1)]) hx hb dX7_newlyMet_11 rfl hl (by decide) rfl (fun ls hl => ?_)
      obtain ⟨n1, hf⟩ := hf
      exact wX7_newlyMet_b12 C0 hN hK q_t q_t_now q_t_had q_t_book q_t_sight q_t_pad q_t_takes q_t_worths q_t_fitting q_t_wins q_t_ways q_t_image q_t_isKept t_shift t_kneels t_sights t_signs t_metAt t_metWho t_reason t_acts t_now t_had post hret hP _ ih n1 x1 v2 hf ls (lv_sub hl [1, 2, 0] rfl)

def pX7_newlyMet (t_now : (Nat → Int32)) (t_had : (Nat → Int32))  (post : Int32 → Prop) : Prop :=
  ∃ n1, pX7_newlyMet_b2 t_now t_had post  n1 0

set_option maxHeartbeats 4000000 in
set_option maxRecDepth 100000 in
theorem kX7_newlyMet (l : Launch) (D : va_G) (cI cZ cJ cO : ClassId) (q_t q_t_now q_t_had q_t_book q_t_sight q_t_pad q_t_takes q_t_worths q_t_fitting q_t_wins q_t_ways q_t_image q_t_isKept : Nat) (t_shift : Int32) (t_kneels : Int32) (t_sights : Int32) (t_signs : Int32) (t_metAt : Int32) (t_metWho : Int32) (t_reason : Int32) (t_acts : Int32) (t_now : (Nat → Int32)) (t_had : (Nat → Int32))  (post : Int32 → Prop) (hf : pX7_newlyMet t_now t_had post) :
    Met l yX7_newlyMet wsX7_newlyMet ({ frames := 0, cells := 0, slots := 0, locals := 0 } : Room) (va_Pc [.ref q_t] (B0 D (tyL cI cZ cJ cO) [(q_t, .inr (7, [.ref q_t_book, .ref q_t_now, .int t_shift, .int t_kneels, .int t_sights, .ref q_t_sight, .int t_signs, .ref q_t_pad, .int t_metAt, .int t_metWho, .int t_reason, .int t_acts, .ref q_t_had, .ref q_t_takes, .ref q_t_worths, .ref q_t_fitting, .ref q_t_wins, .ref q_t_ways, .ref q_t_image, .ref q_t_isKept])), (q_t_now, .inl (cI, 45, .inl t_now)), (q_t_had, .inl (cI, 6, .inl t_had))])) (vp_Si post) 0 0 (fun _ => False) := by
  unfold pX7_newlyMet at hf
  refine xm_0i (own := RX7) (by decide) rfl rfl (Nat.le_of_ble_eq_true rfl) (fun p e s m args below meth c Q C0 hN hK hret hP ls hl => ?_)
  obtain ⟨hx, hb, hml, hown, hts⟩ := id C0
  have hl : lv_has ls 5 [(0, .ref q_t)] := hl
  refine lv_iconst (v := 0) hx hb dX7_newlyMet_0 (by decide) ?_
  refine lv_istore_n (lv' := [(1, .int 0), (0, .ref q_t)]) hx hb dX7_newlyMet_1 rfl hl (by decide) rfl (fun ls hl => ?_)
  obtain ⟨n1, hf⟩ := hf
  exact wX7_newlyMet_b2 C0 hN hK q_t q_t_now q_t_had q_t_book q_t_sight q_t_pad q_t_takes q_t_worths q_t_fitting q_t_wins q_t_ways q_t_image q_t_isKept t_shift t_kneels t_sights t_signs t_metAt t_metWho t_reason t_acts t_now t_had post hret hP   n1 0 hf ls (lv_sub hl [1, 0] rfl)

/-! X7_goYears -/
theorem mX7_goYears_1 : Cond.fieldLink RX7 105 "OxenKneelModel" "acts" "I" ∈ wsX7_goYears := List.mem_of_getElem? (i := 1) rfl
theorem mX7_goYears_2 : Cond.fieldLink RX7 69 "OxenKneelModel" "signs" "I" ∈ wsX7_goYears := List.mem_of_getElem? (i := 2) rfl
theorem mX7_goYears_3 : Cond.fieldLink RX7 26 "OxenKneelModel" "pad" "[I" ∈ wsX7_goYears := List.mem_of_getElem? (i := 3) rfl
theorem mX7_goYears_6 : Cond.fieldLink RX7 111 "OxenKneelModel" "reason" "I" ∈ wsX7_goYears := List.mem_of_getElem? (i := 6) rfl
theorem mX7_goYears_7 : Cond.fieldLink RX7 79 "OxenKneelModel" "metAt" "I" ∈ wsX7_goYears := List.mem_of_getElem? (i := 7) rfl
theorem mX7_goYears_8 : Cond.fieldLink RX7 82 "OxenKneelModel" "metWho" "I" ∈ wsX7_goYears := List.mem_of_getElem? (i := 8) rfl
theorem mX7_goYears_4 : Cond.fieldLink RX7 29 "OxenKneelModel" "had" "[I" ∈ wsX7_goYears := List.mem_of_getElem? (i := 4) rfl
theorem mX7_goYears_5 : Cond.fieldLink RX7 13 "OxenKneelModel" "now" "[I" ∈ wsX7_goYears := List.mem_of_getElem? (i := 5) rfl
theorem nX7_goYears_X7 : ∀ w ∈ wsX70, w ∈ wsX7_goYears := fun _ h => List.mem_cons_of_mem _ (List.mem_append_right _ h)
def pX7_goYears_b193 (t_shift : Int32) (t_kneels : Int32) (t_signs : Int32) (t_book : (Nat → Int32)) (t_pad : (Nat → Int32)) (post : Int32 → (Int32 × Int32 × Int32 × Int32 × (Nat → Int32) × (Nat → Int32)) → Prop) (k11 : Int32 → Int32 → Int32 → Int32 → Int32 → (Nat → Int32) → (Nat → Int32) → Prop) (x1 : Int32) (t_metAt : Int32) (t_metWho : Int32) (t_reason : Int32) (t_acts : Int32) (t_now : (Nat → Int32)) (t_had : (Nat → Int32)) : Prop :=
  ∀ v1 : Int32, v1 = (t_acts + 1) → (k11 x1 t_metAt t_metWho t_reason v1 t_now t_had)

set_option maxHeartbeats 4000000 in
set_option maxRecDepth 100000 in
theorem wX7_goYears_b193 {p : Program} {l : Launch} {e : Env} {s : State} {m : MethodId} {args : Array Value} {below : List Frame} {meth : Method} {c : Code} {Q : State → Prop} {D : va_G} {cI cZ cJ cO : ClassId} {A : Nat → Prop} (C0 : CallFix p m c cX7_goYears 4 s args wsX7_goYears RX7) (hN : nw s) (hK : va_K D vwCl (tyL cI cZ cJ cO) s) (hA : ∀ q, s.heap.size ≤ q → A q) (q_t q_t_book q_t_now q_t_pad q_t_had q_t_sight q_t_takes q_t_worths q_t_fitting q_t_wins q_t_ways q_t_image q_t_isKept : Nat) (t_sights : Int32) (t_shift : Int32) (t_kneels : Int32) (t_signs : Int32) (t_book : (Nat → Int32)) (t_pad : (Nat → Int32)) (post : Int32 → (Int32 × Int32 × Int32 × Int32 × (Nat → Int32) × (Nat → Int32)) → Prop) (hret : hrI p l e ({ frames := 3, cells := 0, slots := 0, locals := 66 } : Room) s m args below meth c cX7_goYears D A Q post (fun u : Int32 × Int32 × Int32 × Int32 × (Nat → Int32) × (Nat → Int32) => [(q_t, .inr (7, [.ref q_t_book, .ref q_t_now, .int t_shift, .int t_kneels, .int t_sights, .ref q_t_sight, .int t_signs, .ref q_t_pad, .int u.1, .int u.2.1, .int u.2.2.1, .int u.2.2.2.1, .ref q_t_had, .ref q_t_takes, .ref q_t_worths, .ref q_t_fitting, .ref q_t_wins, .ref q_t_ways, .ref q_t_image, .ref q_t_isKept])), (q_t_book, .inl (cI, 45, .inl t_book)), (q_t_now, .inl (cI, 45, .inl u.2.2.2.2.1)), (q_t_pad, .inl (cI, 60, .inl t_pad)), (q_t_had, .inl (cI, 6, .inl u.2.2.2.2.2))])) (k11 : Int32 → Int32 → Int32 → Int32 → Int32 → (Nat → Int32) → (Nat → Int32) → Prop) (hk11 : ∀ (x1 : Int32) (t_metAt : Int32) (t_metWho : Int32) (t_reason : Int32) (t_acts : Int32) (t_now : (Nat → Int32)) (t_had : (Nat → Int32)), k11 x1 t_metAt t_metWho t_reason t_acts t_now t_had → ∀ (H : Heap) (locs : List Loc), va_P D vwCl [(q_t, .inr (7, [.ref q_t_book, .ref q_t_now, .int t_shift, .int t_kneels, .int t_sights, .ref q_t_sight, .int t_signs, .ref q_t_pad, .int t_metAt, .int t_metWho, .int t_reason, .int t_acts, .ref q_t_had, .ref q_t_takes, .ref q_t_worths, .ref q_t_fitting, .ref q_t_wins, .ref q_t_ways, .ref q_t_image, .ref q_t_isKept])), (q_t_book, .inl (cI, 45, .inl t_book)), (q_t_now, .inl (cI, 45, .inl t_now)), (q_t_pad, .inl (cI, 60, .inl t_pad)), (q_t_had, .inl (cI, 6, .inl t_had))] H → va_D A [(q_t, .inr (7, [.ref q_t_book, .ref q_t_now, .int t_shift, .int t_kneels, .int t_sights, .ref q_t_sight, .int t_signs, .ref q_t_pad, .int t_metAt, .int t_metWho, .int t_reason, .int t_acts, .ref q_t_had, .ref q_t_takes, .ref q_t_worths, .ref q_t_fitting, .ref q_t_wins, .ref q_t_ways, .ref q_t_image, .ref q_t_isKept])), (q_t_book, .inl (cI, 45, .inl t_book)), (q_t_now, .inl (cI, 45, .inl t_now)), (q_t_pad, .inl (cI, 60, .inl t_pad)), (q_t_had, .inl (cI, 6, .inl t_had))] → va_S A s.heap H locs → ∀ ls : Array Slot, lv_has ls 4 [(0, .ref q_t), (1, .int x1)] → W p l e ({ frames := 3, cells := 0, slots := 0, locals := 66 } : Room) s m args below meth c H locs 0 0 Q (F0 m 11 ls [])) :
    ∀ (x1 : Int32) (t_metAt : Int32) (t_metWho : Int32) (t_reason : Int32) (t_acts : Int32) (t_now : (Nat → Int32)) (t_had : (Nat → Int32)), pX7_goYears_b193 t_shift t_kneels t_signs t_book t_pad post k11 x1 t_metAt t_metWho t_reason t_acts t_now t_had → ∀ (H : Heap) (locs : List Loc), va_P D vwCl [(q_t, .inr (7, [.ref q_t_book, .ref q_t_now, .int t_shift, .int t_kneels, .int t_sights, .ref q_t_sight, .int t_signs, .ref q_t_pad, .int t_metAt, .int t_metWho, .int t_reason, .int t_acts, .ref q_t_had, .ref q_t_takes, .ref q_t_worths, .ref q_t_fitting, .ref q_t_wins, .ref q_t_ways, .ref q_t_image, .ref q_t_isKept])), (q_t_book, .inl (cI, 45, .inl t_book)), (q_t_now, .inl (cI, 45, .inl t_now)), (q_t_pad, .inl (cI, 60, .inl t_pad)), (q_t_had, .inl (cI, 6, .inl t_had))] H → va_D A [(q_t, .inr (7, [.ref q_t_book, .ref q_t_now, .int t_shift, .int t_kneels, .int t_sights, .ref q_t_sight, .int t_signs, .ref q_t_pad, .int t_metAt, .int t_metWho, .int t_reason, .int t_acts, .ref q_t_had, .ref q_t_takes, .ref q_t_worths, .ref q_t_fitting, .ref q_t_wins, .ref q_t_ways, .ref q_t_image, .ref q_t_isKept])), (q_t_book, .inl (cI, 45, .inl t_book)), (q_t_now, .inl (cI, 45, .inl t_now)), (q_t_pad, .inl (cI, 60, .inl t_pad)), (q_t_had, .inl (cI, 6, .inl t_had))] → va_S A s.heap H locs → ∀ ls : Array Slot, lv_has ls 4 [(0, .ref q_t), (1, .int x1)] → W p l e ({ frames := 3, cells := 0, slots := 0, locals := 66 } : Room) s m args below meth c H locs 0 0 Q (F0 m 193 ls []) := by
  obtain ⟨hx, hb, hml, hown, hts⟩ := id C0
  intro x1 t_metAt t_metWho t_reason t_acts t_now t_had hf H locs hP hD hS ls hl
  unfold pX7_goYears_b193 at hf
  refine lv_aload_n hx hb dX7_goYears_193 rfl (lv_at hl 0 rfl) ?_
  refine lv_dup hx hb dX7_goYears_194 rfl ?_
  refine va_get (D := D) (ci := 7) (v := .int t_acts) (C := RX7) (T := TX7) (N := 20) hx hb hts nX7_goYears_X7 hown hK hP 0 rfl rfl 11 (by decide) (hts _ mX7_goYears_1) (fun _ h9 => h9) rfl dX7_goYears_195 ?_
  refine lv_iconst (v := 1) hx hb dX7_goYears_198 (by decide) ?_
  refine lv_iadd hx hb dX7_goYears_199 ?_
  refine lv_topi (fun v1 ev1 => ?_)
  have hf := hf v1 ev1
  refine va_put (D := D) (ci := 7) (v := .int v1) (ty := .int) (C := RX7) (T := TX7) (N := 20) hx hb hts nX7_goYears_X7 tyX7 tyX7_ok nmX7 hown hK hP hD hS 0 rfl rfl 11 (by decide) (hts _ mX7_goYears_1) (fun _ h9 => h9) rfl (by decide +kernel) rfl rfl (Nat.le_of_ble_eq_true rfl) dX7_goYears_200 (fun H locs hP hD hS => ?_)
  have hP : va_P D vwCl [(q_t, .inr (7, [.ref q_t_book, .ref q_t_now, .int t_shift, .int t_kneels, .int t_sights, .ref q_t_sight, .int t_signs, .ref q_t_pad, .int t_metAt, .int t_metWho, .int t_reason, .int v1, .ref q_t_had, .ref q_t_takes, .ref q_t_worths, .ref q_t_fitting, .ref q_t_wins, .ref q_t_ways, .ref q_t_image, .ref q_t_isKept])), (q_t_book, .inl (cI, 45, .inl t_book)), (q_t_now, .inl (cI, 45, .inl t_now)), (q_t_pad, .inl (cI, 60, .inl t_pad)), (q_t_had, .inl (cI, 6, .inl t_had))] H := hP
  have hD : va_D A [(q_t, .inr (7, [.ref q_t_book, .ref q_t_now, .int t_shift, .int t_kneels, .int t_sights, .ref q_t_sight, .int t_signs, .ref q_t_pad, .int t_metAt, .int t_metWho, .int t_reason, .int v1, .ref q_t_had, .ref q_t_takes, .ref q_t_worths, .ref q_t_fitting, .ref q_t_wins, .ref q_t_ways, .ref q_t_image, .ref q_t_isKept])), (q_t_book, .inl (cI, 45, .inl t_book)), (q_t_now, .inl (cI, 45, .inl t_now)), (q_t_pad, .inl (cI, 60, .inl t_pad)), (q_t_had, .inl (cI, 6, .inl t_had))] := hD
  refine lv_goto (tgt := 11) hx hb dX7_goYears_203 (by decide) ?_
  exact hk11 x1 t_metAt t_metWho t_reason v1 t_now t_had hf H locs hP hD hS ls (lv_sub hl [0, 1] rfl)

def pX7_goYears_b152 (t_shift : Int32) (t_kneels : Int32) (t_signs : Int32) (t_book : (Nat → Int32)) (t_pad : (Nat → Int32)) (post : Int32 → (Int32 × Int32 × Int32 × Int32 × (Nat → Int32) × (Nat → Int32)) → Prop) (k11 : Int32 → Int32 → Int32 → Int32 → Int32 → (Nat → Int32) → (Nat → Int32) → Prop) (x1 : Int32) (t_metAt : Int32) (t_metWho : Int32) (t_reason : Int32) (t_acts : Int32) (t_now : (Nat → Int32)) (t_had : (Nat → Int32)) : Prop :=
  (t_reason ≤ 0 → (pX7_newlyMet t_now t_had (fun r2 => (r2 < 0 → (pX7_goYears_b193 t_shift t_kneels t_signs t_book t_pad post k11 x1 t_metAt t_metWho t_reason t_acts t_now t_had)) ∧ (¬ r2 < 0 → ((0 ≤ t_metAt → (pX7_goYears_b193 t_shift t_kneels t_signs t_book t_pad post k11 x1 t_metAt t_metWho t_reason t_acts t_now t_had)) ∧ (¬ 0 ≤ t_metAt → (pX7_goYears_b193 t_shift t_kneels t_signs t_book t_pad post k11 x1 t_acts r2 t_reason t_acts t_now t_had))))))) ∧ (¬ t_reason ≤ 0 → (post t_acts (t_metAt, t_metWho, t_reason, t_acts, t_now, t_had)))

set_option maxHeartbeats 4000000 in
set_option maxRecDepth 100000 in
theorem wX7_goYears_b152 {p : Program} {l : Launch} {e : Env} {s : State} {m : MethodId} {args : Array Value} {below : List Frame} {meth : Method} {c : Code} {Q : State → Prop} {D : va_G} {cI cZ cJ cO : ClassId} {A : Nat → Prop} (C0 : CallFix p m c cX7_goYears 4 s args wsX7_goYears RX7) (hN : nw s) (hK : va_K D vwCl (tyL cI cZ cJ cO) s) (hA : ∀ q, s.heap.size ≤ q → A q) (q_t q_t_book q_t_now q_t_pad q_t_had q_t_sight q_t_takes q_t_worths q_t_fitting q_t_wins q_t_ways q_t_image q_t_isKept : Nat) (t_sights : Int32) (t_shift : Int32) (t_kneels : Int32) (t_signs : Int32) (t_book : (Nat → Int32)) (t_pad : (Nat → Int32)) (post : Int32 → (Int32 × Int32 × Int32 × Int32 × (Nat → Int32) × (Nat → Int32)) → Prop) (hret : hrI p l e ({ frames := 3, cells := 0, slots := 0, locals := 66 } : Room) s m args below meth c cX7_goYears D A Q post (fun u : Int32 × Int32 × Int32 × Int32 × (Nat → Int32) × (Nat → Int32) => [(q_t, .inr (7, [.ref q_t_book, .ref q_t_now, .int t_shift, .int t_kneels, .int t_sights, .ref q_t_sight, .int t_signs, .ref q_t_pad, .int u.1, .int u.2.1, .int u.2.2.1, .int u.2.2.2.1, .ref q_t_had, .ref q_t_takes, .ref q_t_worths, .ref q_t_fitting, .ref q_t_wins, .ref q_t_ways, .ref q_t_image, .ref q_t_isKept])), (q_t_book, .inl (cI, 45, .inl t_book)), (q_t_now, .inl (cI, 45, .inl u.2.2.2.2.1)), (q_t_pad, .inl (cI, 60, .inl t_pad)), (q_t_had, .inl (cI, 6, .inl u.2.2.2.2.2))])) (k11 : Int32 → Int32 → Int32 → Int32 → Int32 → (Nat → Int32) → (Nat → Int32) → Prop) (hk11 : ∀ (x1 : Int32) (t_metAt : Int32) (t_metWho : Int32) (t_reason : Int32) (t_acts : Int32) (t_now : (Nat → Int32)) (t_had : (Nat → Int32)), k11 x1 t_metAt t_metWho t_reason t_acts t_now t_had → ∀ (H : Heap) (locs : List Loc), va_P D vwCl [(q_t, .inr (7, [.ref q_t_book, .ref q_t_now, .int t_shift, .int t_kneels, .int t_sights, .ref q_t_sight, .int t_signs, .ref q_t_pad, .int t_metAt, .int t_metWho, .int t_reason, .int t_acts, .ref q_t_had, .ref q_t_takes, .ref q_t_worths, .ref q_t_fitting, .ref q_t_wins, .ref q_t_ways, .ref q_t_image, .ref q_t_isKept])), (q_t_book, .inl (cI, 45, .inl t_book)), (q_t_now, .inl (cI, 45, .inl t_now)), (q_t_pad, .inl (cI, 60, .inl t_pad)), (q_t_had, .inl (cI, 6, .inl t_had))] H → va_D A [(q_t, .inr (7, [.ref q_t_book, .ref q_t_now, .int t_shift, .int t_kneels, .int t_sights, .ref q_t_sight, .int t_signs, .ref q_t_pad, .int t_metAt, .int t_metWho, .int t_reason, .int t_acts, .ref q_t_had, .ref q_t_takes, .ref q_t_worths, .ref q_t_fitting, .ref q_t_wins, .ref q_t_ways, .ref q_t_image, .ref q_t_isKept])), (q_t_book, .inl (cI, 45, .inl t_book)), (q_t_now, .inl (cI, 45, .inl t_now)), (q_t_pad, .inl (cI, 60, .inl t_pad)), (q_t_had, .inl (cI, 6, .inl t_had))] → va_S A s.heap H locs → ∀ ls : Array Slot, lv_has ls 4 [(0, .ref q_t), (1, .int x1)] → W p l e ({ frames := 3, cells := 0, slots := 0, locals := 66 } : Room) s m args below meth c H locs 0 0 Q (F0 m 11 ls [])) :
    ∀ (x1 : Int32) (t_metAt : Int32) (t_metWho : Int32) (t_reason : Int32) (t_acts : Int32) (t_now : (Nat → Int32)) (t_had : (Nat → Int32)), pX7_goYears_b152 t_shift t_kneels t_signs t_book t_pad post k11 x1 t_metAt t_metWho t_reason t_acts t_now t_had → ∀ (H : Heap) (locs : List Loc), va_P D vwCl [(q_t, .inr (7, [.ref q_t_book, .ref q_t_now, .int t_shift, .int t_kneels, .int t_sights, .ref q_t_sight, .int t_signs, .ref q_t_pad, .int t_metAt, .int t_metWho, .int t_reason, .int t_acts, .ref q_t_had, .ref q_t_takes, .ref q_t_worths, .ref q_t_fitting, .ref q_t_wins, .ref q_t_ways, .ref q_t_image, .ref q_t_isKept])), (q_t_book, .inl (cI, 45, .inl t_book)), (q_t_now, .inl (cI, 45, .inl t_now)), (q_t_pad, .inl (cI, 60, .inl t_pad)), (q_t_had, .inl (cI, 6, .inl t_had))] H → va_D A [(q_t, .inr (7, [.ref q_t_book, .ref q_t_now, .int t_shift, .int t_kneels, .int t_sights, .ref q_t_sight, .int t_signs, .ref q_t_pad, .int t_metAt, .int t_metWho, .int t_reason, .int t_acts, .ref q_t_had, .ref q_t_takes, .ref q_t_worths, .ref q_t_fitting, .ref q_t_wins, .ref q_t_ways, .ref q_t_image, .ref q_t_isKept])), (q_t_book, .inl (cI, 45, .inl t_book)), (q_t_now, .inl (cI, 45, .inl t_now)), (q_t_pad, .inl (cI, 60, .inl t_pad)), (q_t_had, .inl (cI, 6, .inl t_had))] → va_S A s.heap H locs → ∀ ls : Array Slot, lv_has ls 4 [(0, .ref q_t), (1, .int x1)] → W p l e ({ frames := 3, cells := 0, slots := 0, locals := 66 } : Room) s m args below meth c H locs 0 0 Q (F0 m 152 ls []) := by
  obtain ⟨hx, hb, hml, hown, hts⟩ := id C0
  intro x1 t_metAt t_metWho t_reason t_acts t_now t_had hf H locs hP hD hS ls hl
  unfold pX7_goYears_b152 at hf
  refine lv_aload_n hx hb dX7_goYears_152 rfl (lv_at hl 0 rfl) ?_
  refine va_get (D := D) (ci := 7) (v := .int t_reason) (C := RX7) (T := TX7) (N := 20) hx hb hts nX7_goYears_X7 hown hK hP 0 rfl rfl 10 (by decide) (hts _ mX7_goYears_6) (fun _ h9 => h9) rfl dX7_goYears_153 ?_
  refine lv_if_le (tgt := 164) hx hb dX7_goYears_156 (by decide) (fun c1 => ?_) (fun c1 => ?_)
  · have hf := hf.1 c1
    refine lv_aload_n hx hb dX7_goYears_164 rfl (lv_at hl 0 rfl) ?_
    refine xs_i (va_runV (As := []) (rest := []) ⟨hx, hb, hml, hown, hts⟩ (kX7_newlyMet l D cI cZ cJ cO q_t q_t_now q_t_had q_t_book q_t_sight q_t_pad q_t_takes q_t_worths q_t_fitting q_t_wins q_t_ways q_t_image q_t_isKept t_shift t_kneels t_sights t_signs t_metAt t_metWho t_reason t_acts t_now t_had _ hf) (cwV 0 hts gX7_goYears_X7_newlyMet rfl rfl rfl (by decide +kernel) ⟨Nat.le_of_ble_eq_true rfl, Nat.le_of_ble_eq_true rfl⟩) (B0_preV (ci := 7) (q0 := 0) hP rfl rfl (hP.sub (ws' := [(q_t, .inr (7, [.ref q_t_book, .ref q_t_now, .int t_shift, .int t_kneels, .int t_sights, .ref q_t_sight, .int t_signs, .ref q_t_pad, .int t_metAt, .int t_metWho, .int t_reason, .int t_acts, .ref q_t_had, .ref q_t_takes, .ref q_t_worths, .ref q_t_fitting, .ref q_t_wins, .ref q_t_ways, .ref q_t_image, .ref q_t_isKept])), (q_t_now, .inl (cI, 45, .inl t_now)), (q_t_had, .inl (cI, 6, .inl t_had))]) [0, 2, 4] rfl) hK hN) rfl rfl hl.1 rfl (lv_room (Nat.le_of_ble_eq_true rfl)) dX7_goYears_165 ⟨Nat.zero_le _, Nat.zero_le _⟩) (fun r2 hf => ?_)
    refine lv_istore_n (lv' := [(3, .int r2), (0, .ref q_t), (1, .int x1)]) hx hb dX7_goYears_168 rfl hl (by decide) rfl (fun ls hl => ?_)
    refine lv_iload_n hx hb dX7_goYears_169 rfl (lv_at hl 0 rfl) ?_
    refine lv_if_lt (tgt := 193) hx hb dX7_goYears_170 (by decide) (fun c3 => ?_) (fun c3 => ?_)
    · have hf := hf.1 c3
      exact wX7_goYears_b193 C0 hN hK hA q_t q_t_book q_t_now q_t_pad q_t_had q_t_sight q_t_takes q_t_worths q_t_fitting q_t_wins q_t_ways q_t_image q_t_isKept t_sights t_shift t_kneels t_signs t_book t_pad post hret _ hk11 x1 t_metAt t_metWho t_reason t_acts t_now t_had hf H locs hP hD hS ls (lv_sub hl [1, 2] rfl)
    · have hf := hf.2 c3
      refine lv_aload_n hx hb dX7_goYears_173 rfl (lv_at hl 1 rfl) ?_
      refine va_get (D := D) (ci := 7) (v := .int t_metAt) (C := RX7) (T := TX7) (N := 20) hx hb hts nX7_goYears_X7 hown hK hP 0 rfl rfl 8 (by decide) (hts _ mX7_goYears_7) (fun _ h9 => h9) rfl dX7_goYears_174 ?_
      refine lv_if_ge (tgt := 193) hx hb dX7_goYears_177 (by decide) (fun c4 => ?_) (fun c4 => ?_)
      · have hf := hf.1 c4
        exact wX7_goYears_b193 C0 hN hK hA q_t q_t_book q_t_now q_t_pad q_t_had q_t_sight q_t_takes q_t_worths q_t_fitting q_t_wins q_t_ways q_t_image q_t_isKept t_sights t_shift t_kneels t_signs t_book t_pad post hret _ hk11 x1 t_metAt t_metWho t_reason t_acts t_now t_had hf H locs hP hD hS ls (lv_sub hl [1, 2] rfl)
      · have hf := hf.2 c4
        refine lv_aload_n hx hb dX7_goYears_180 rfl (lv_at hl 1 rfl) ?_
        refine lv_aload_n hx hb dX7_goYears_181 rfl (lv_at hl 1 rfl) ?_
        refine va_get (D := D) (ci := 7) (v := .int t_acts) (C := RX7) (T := TX7) (N := 20) hx hb hts nX7_goYears_X7 hown hK hP 0 rfl rfl 11 (by decide) (hts _ mX7_goYears_1) (fun _ h9 => h9) rfl dX7_goYears_182 ?_
        refine va_put (D := D) (ci := 7) (v := .int t_acts) (ty := .int) (C := RX7) (T := TX7) (N := 20) hx hb hts nX7_goYears_X7 tyX7 tyX7_ok nmX7 hown hK hP hD hS 0 rfl rfl 8 (by decide) (hts _ mX7_goYears_7) (fun _ h9 => h9) rfl (by decide +kernel) rfl rfl (Nat.le_of_ble_eq_true rfl) dX7_goYears_185 (fun H locs hP hD hS => ?_)
        have hP : va_P D vwCl [(q_t, .inr (7, [.ref q_t_book, .ref q_t_now, .int t_shift, .int t_kneels, .int t_sights, .ref q_t_sight, .int t_signs, .ref q_t_pad, .int t_acts, .int t_metWho, .int t_reason, .int t_acts, .ref q_t_had, .ref q_t_takes, .ref q_t_worths, .ref q_t_fitting, .ref q_t_wins, .ref q_t_ways, .ref q_t_image, .ref q_t_isKept])), (q_t_book, .inl (cI, 45, .inl t_book)), (q_t_now, .inl (cI, 45, .inl t_now)), (q_t_pad, .inl (cI, 60, .inl t_pad)), (q_t_had, .inl (cI, 6, .inl t_had))] H := hP
        have hD : va_D A [(q_t, .inr (7, [.ref q_t_book, .ref q_t_now, .int t_shift, .int t_kneels, .int t_sights, .ref q_t_sight, .int t_signs, .ref q_t_pad, .int t_acts, .int t_metWho, .int t_reason, .int t_acts, .ref q_t_had, .ref q_t_takes, .ref q_t_worths, .ref q_t_fitting, .ref q_t_wins, .ref q_t_ways, .ref q_t_image, .ref q_t_isKept])), (q_t_book, .inl (cI, 45, .inl t_book)), (q_t_now, .inl (cI, 45, .inl t_now)), (q_t_pad, .inl (cI, 60, .inl t_pad)), (q_t_had, .inl (cI, 6, .inl t_had))] := hD
        refine lv_aload_n hx hb dX7_goYears_188 rfl (lv_at hl 1 rfl) ?_
        refine lv_iload_n hx hb dX7_goYears_189 rfl (lv_at hl 0 rfl) ?_
        refine va_put (D := D) (ci := 7) (v := .int r2) (ty := .int) (C := RX7) (T := TX7) (N := 20) hx hb hts nX7_goYears_X7 tyX7 tyX7_ok nmX7 hown hK hP hD hS 0 rfl rfl 9 (by decide) (hts _ mX7_goYears_8) (fun _ h9 => h9) rfl (by decide +kernel) rfl rfl (Nat.le_of_ble_eq_true rfl) dX7_goYears_190 (fun H locs hP hD hS => ?_)
        have hP : va_P D vwCl [(q_t, .inr (7, [.ref q_t_book, .ref q_t_now, .int t_shift, .int t_kneels, .int t_sights, .ref q_t_sight, .int t_signs, .ref q_t_pad, .int t_acts, .int r2, .int t_reason, .int t_acts, .ref q_t_had, .ref q_t_takes, .ref q_t_worths, .ref q_t_fitting, .ref q_t_wins, .ref q_t_ways, .ref q_t_image, .ref q_t_isKept])), (q_t_book, .inl (cI, 45, .inl t_book)), (q_t_now, .inl (cI, 45, .inl t_now)), (q_t_pad, .inl (cI, 60, .inl t_pad)), (q_t_had, .inl (cI, 6, .inl t_had))] H := hP
        have hD : va_D A [(q_t, .inr (7, [.ref q_t_book, .ref q_t_now, .int t_shift, .int t_kneels, .int t_sights, .ref q_t_sight, .int t_signs, .ref q_t_pad, .int t_acts, .int r2, .int t_reason, .int t_acts, .ref q_t_had, .ref q_t_takes, .ref q_t_worths, .ref q_t_fitting, .ref q_t_wins, .ref q_t_ways, .ref q_t_image, .ref q_t_isKept])), (q_t_book, .inl (cI, 45, .inl t_book)), (q_t_now, .inl (cI, 45, .inl t_now)), (q_t_pad, .inl (cI, 60, .inl t_pad)), (q_t_had, .inl (cI, 6, .inl t_had))] := hD
        exact wX7_goYears_b193 C0 hN hK hA q_t q_t_book q_t_now q_t_pad q_t_had q_t_sight q_t_takes q_t_worths q_t_fitting q_t_wins q_t_ways q_t_image q_t_isKept t_sights t_shift t_kneels t_signs t_book t_pad post hret _ hk11 x1 t_acts r2 t_reason t_acts t_now t_had hf H locs hP hD hS ls (lv_sub hl [1, 2] rfl)
  · have hf := hf.2 c1
    refine lv_aload_n hx hb dX7_goYears_159 rfl (lv_at hl 0 rfl) ?_
    refine va_get (D := D) (ci := 7) (v := .int t_acts) (C := RX7) (T := TX7) (N := 20) hx hb hts nX7_goYears_X7 hown hK hP 0 rfl rfl 11 (by decide) (hts _ mX7_goYears_1) (fun _ h9 => h9) rfl dX7_goYears_160 ?_
    exact hret 163 ls H locs t_acts (t_metAt, t_metWho, t_reason, t_acts, t_now, t_had) dX7_goYears_163 hf hP hD hS

def pX7_goYears_b109 (t_shift : Int32) (t_kneels : Int32) (t_signs : Int32) (t_book : (Nat → Int32)) (t_pad : (Nat → Int32)) (post : Int32 → (Int32 × Int32 × Int32 × Int32 × (Nat → Int32) × (Nat → Int32)) → Prop) (k11 : Int32 → Int32 → Int32 → Int32 → Int32 → (Nat → Int32) → (Nat → Int32) → Prop) (x1 : Int32) (s0 : Int32) (s1 : Int32) (t_metAt : Int32) (t_metWho : Int32) (t_reason : Int32) (t_acts : Int32) (t_now : (Nat → Int32)) (t_had : (Nat → Int32)) : Prop :=
  pX7_pass t_now (s1 * s0) (fun (r1 : Int32) (u2 : (Nat → Int32)) => ∀ v3 : Int32, v3 = x1 + 2 → (pX7_goYears_b152 t_shift t_kneels t_signs t_book t_pad post k11 v3 t_metAt t_metWho r1 t_acts u2 t_had))

set_option maxHeartbeats 4000000 in
set_option maxRecDepth 100000 in
theorem wX7_goYears_b109 {p : Program} {l : Launch} {e : Env} {s : State} {m : MethodId} {args : Array Value} {below : List Frame} {meth : Method} {c : Code} {Q : State → Prop} {D : va_G} {cI cZ cJ cO : ClassId} {A : Nat → Prop} (C0 : CallFix p m c cX7_goYears 4 s args wsX7_goYears RX7) (hN : nw s) (hK : va_K D vwCl (tyL cI cZ cJ cO) s) (hA : ∀ q, s.heap.size ≤ q → A q) (q_t q_t_book q_t_now q_t_pad q_t_had q_t_sight q_t_takes q_t_worths q_t_fitting q_t_wins q_t_ways q_t_image q_t_isKept : Nat) (t_sights : Int32) (t_shift : Int32) (t_kneels : Int32) (t_signs : Int32) (t_book : (Nat → Int32)) (t_pad : (Nat → Int32)) (post : Int32 → (Int32 × Int32 × Int32 × Int32 × (Nat → Int32) × (Nat → Int32)) → Prop) (hret : hrI p l e ({ frames := 3, cells := 0, slots := 0, locals := 66 } : Room) s m args below meth c cX7_goYears D A Q post (fun u : Int32 × Int32 × Int32 × Int32 × (Nat → Int32) × (Nat → Int32) => [(q_t, .inr (7, [.ref q_t_book, .ref q_t_now, .int t_shift, .int t_kneels, .int t_sights, .ref q_t_sight, .int t_signs, .ref q_t_pad, .int u.1, .int u.2.1, .int u.2.2.1, .int u.2.2.2.1, .ref q_t_had, .ref q_t_takes, .ref q_t_worths, .ref q_t_fitting, .ref q_t_wins, .ref q_t_ways, .ref q_t_image, .ref q_t_isKept])), (q_t_book, .inl (cI, 45, .inl t_book)), (q_t_now, .inl (cI, 45, .inl u.2.2.2.2.1)), (q_t_pad, .inl (cI, 60, .inl t_pad)), (q_t_had, .inl (cI, 6, .inl u.2.2.2.2.2))])) (k11 : Int32 → Int32 → Int32 → Int32 → Int32 → (Nat → Int32) → (Nat → Int32) → Prop) (hk11 : ∀ (x1 : Int32) (t_metAt : Int32) (t_metWho : Int32) (t_reason : Int32) (t_acts : Int32) (t_now : (Nat → Int32)) (t_had : (Nat → Int32)), k11 x1 t_metAt t_metWho t_reason t_acts t_now t_had → ∀ (H : Heap) (locs : List Loc), va_P D vwCl [(q_t, .inr (7, [.ref q_t_book, .ref q_t_now, .int t_shift, .int t_kneels, .int t_sights, .ref q_t_sight, .int t_signs, .ref q_t_pad, .int t_metAt, .int t_metWho, .int t_reason, .int t_acts, .ref q_t_had, .ref q_t_takes, .ref q_t_worths, .ref q_t_fitting, .ref q_t_wins, .ref q_t_ways, .ref q_t_image, .ref q_t_isKept])), (q_t_book, .inl (cI, 45, .inl t_book)), (q_t_now, .inl (cI, 45, .inl t_now)), (q_t_pad, .inl (cI, 60, .inl t_pad)), (q_t_had, .inl (cI, 6, .inl t_had))] H → va_D A [(q_t, .inr (7, [.ref q_t_book, .ref q_t_now, .int t_shift, .int t_kneels, .int t_sights, .ref q_t_sight, .int t_signs, .ref q_t_pad, .int t_metAt, .int t_metWho, .int t_reason, .int t_acts, .ref q_t_had, .ref q_t_takes, .ref q_t_worths, .ref q_t_fitting, .ref q_t_wins, .ref q_t_ways, .ref q_t_image, .ref q_t_isKept])), (q_t_book, .inl (cI, 45, .inl t_book)), (q_t_now, .inl (cI, 45, .inl t_now)), (q_t_pad, .inl (cI, 60, .inl t_pad)), (q_t_had, .inl (cI, 6, .inl t_had))] → va_S A s.heap H locs → ∀ ls : Array Slot, lv_has ls 4 [(0, .ref q_t), (1, .int x1)] → W p l e ({ frames := 3, cells := 0, slots := 0, locals := 66 } : Room) s m args below meth c H locs 0 0 Q (F0 m 11 ls [])) :
    ∀ (x1 : Int32) (s0 : Int32) (s1 : Int32) (t_metAt : Int32) (t_metWho : Int32) (t_reason : Int32) (t_acts : Int32) (t_now : (Nat → Int32)) (t_had : (Nat → Int32)), pX7_goYears_b109 t_shift t_kneels t_signs t_book t_pad post k11 x1 s0 s1 t_metAt t_metWho t_reason t_acts t_now t_had → ∀ (H : Heap) (locs : List Loc), va_P D vwCl [(q_t, .inr (7, [.ref q_t_book, .ref q_t_now, .int t_shift, .int t_kneels, .int t_sights, .ref q_t_sight, .int t_signs, .ref q_t_pad, .int t_metAt, .int t_metWho, .int t_reason, .int t_acts, .ref q_t_had, .ref q_t_takes, .ref q_t_worths, .ref q_t_fitting, .ref q_t_wins, .ref q_t_ways, .ref q_t_image, .ref q_t_isKept])), (q_t_book, .inl (cI, 45, .inl t_book)), (q_t_now, .inl (cI, 45, .inl t_now)), (q_t_pad, .inl (cI, 60, .inl t_pad)), (q_t_had, .inl (cI, 6, .inl t_had))] H → va_D A [(q_t, .inr (7, [.ref q_t_book, .ref q_t_now, .int t_shift, .int t_kneels, .int t_sights, .ref q_t_sight, .int t_signs, .ref q_t_pad, .int t_metAt, .int t_metWho, .int t_reason, .int t_acts, .ref q_t_had, .ref q_t_takes, .ref q_t_worths, .ref q_t_fitting, .ref q_t_wins, .ref q_t_ways, .ref q_t_image, .ref q_t_isKept])), (q_t_book, .inl (cI, 45, .inl t_book)), (q_t_now, .inl (cI, 45, .inl t_now)), (q_t_pad, .inl (cI, 60, .inl t_pad)), (q_t_had, .inl (cI, 6, .inl t_had))] → va_S A s.heap H locs → ∀ ls : Array Slot, lv_has ls 4 [(0, .ref q_t), (1, .int x1)] → W p l e ({ frames := 3, cells := 0, slots := 0, locals := 66 } : Room) s m args below meth c H locs 0 0 Q (F0 m 109 ls [.int s0, .int s1, .ref q_t, .ref q_t]) := by
  obtain ⟨hx, hb, hml, hown, hts⟩ := id C0
  intro x1 s0 s1 t_metAt t_metWho t_reason t_acts t_now t_had hf H locs hP hD hS ls hl
  unfold pX7_goYears_b109 at hf
  refine lv_imul hx hb dX7_goYears_109 ?_
  refine xc_i (wr := [(q_t_book, .inl (cI, 45, .inl t_book)), (q_t_pad, .inl (cI, 60, .inl t_pad)), (q_t_had, .inl (cI, 6, .inl t_had))]) (va_runV (As := [.int (s1 * s0)]) (rest := [.ref q_t]) ⟨hx, hb, hml, hown, hts⟩ (kX7_pass l D cI cZ cJ cO q_t q_t_now q_t_book q_t_sight q_t_pad q_t_had q_t_takes q_t_worths q_t_fitting q_t_wins q_t_ways q_t_image q_t_isKept H.size t_shift t_kneels t_sights t_signs t_metAt t_metWho t_reason t_acts t_now (s1 * s0) _ hf) (cwV 1 hts gX7_goYears_X7_pass rfl rfl rfl (by decide +kernel) ⟨Nat.le_of_ble_eq_true rfl, Nat.le_of_ble_eq_true rfl⟩) (B1_preV (ci := 7) (q0 := 0) hP rfl rfl (hP.sub (ws' := [(q_t, .inr (7, [.ref q_t_book, .ref q_t_now, .int t_shift, .int t_kneels, .int t_sights, .ref q_t_sight, .int t_signs, .ref q_t_pad, .int t_metAt, .int t_metWho, .int t_reason, .int t_acts, .ref q_t_had, .ref q_t_takes, .ref q_t_worths, .ref q_t_fitting, .ref q_t_wins, .ref q_t_ways, .ref q_t_image, .ref q_t_isKept])), (q_t_now, .inl (cI, 45, .inl t_now))]) [0, 2] rfl) hK hN (hD.sub (ws' := [(q_t, .inr (7, [.ref q_t_book, .ref q_t_now, .int t_shift, .int t_kneels, .int t_sights, .ref q_t_sight, .int t_signs, .ref q_t_pad, .int t_metAt, .int t_metWho, .int t_reason, .int t_acts, .ref q_t_had, .ref q_t_takes, .ref q_t_worths, .ref q_t_fitting, .ref q_t_wins, .ref q_t_ways, .ref q_t_image, .ref q_t_isKept])), (q_t_now, .inl (cI, 45, .inl t_now))]) [0, 2] (by decide) rfl)) rfl rfl hl.1 rfl (lv_room (Nat.le_of_ble_eq_true rfl)) dX7_goYears_110 ⟨Nat.zero_le _, Nat.zero_le _⟩) hP hD hS hA [0, 2] [1, 3, 4] rfl rfl (by decide) (by decide) (fun r1 u2 H locs hf hP hD hS => ?_)
  have hP : va_P D vwCl [(q_t_book, .inl (cI, 45, .inl t_book)), (q_t_pad, .inl (cI, 60, .inl t_pad)), (q_t_had, .inl (cI, 6, .inl t_had)), (q_t, .inr (7, [.ref q_t_book, .ref q_t_now, .int t_shift, .int t_kneels, .int t_sights, .ref q_t_sight, .int t_signs, .ref q_t_pad, .int t_metAt, .int t_metWho, .int t_reason, .int t_acts, .ref q_t_had, .ref q_t_takes, .ref q_t_worths, .ref q_t_fitting, .ref q_t_wins, .ref q_t_ways, .ref q_t_image, .ref q_t_isKept])), (q_t_now, .inl (cI, 45, .inl u2))] H := hP
  have hD : va_D A [(q_t_book, .inl (cI, 45, .inl t_book)), (q_t_pad, .inl (cI, 60, .inl t_pad)), (q_t_had, .inl (cI, 6, .inl t_had)), (q_t, .inr (7, [.ref q_t_book, .ref q_t_now, .int t_shift, .int t_kneels, .int t_sights, .ref q_t_sight, .int t_signs, .ref q_t_pad, .int t_metAt, .int t_metWho, .int t_reason, .int t_acts, .ref q_t_had, .ref q_t_takes, .ref q_t_worths, .ref q_t_fitting, .ref q_t_wins, .ref q_t_ways, .ref q_t_image, .ref q_t_isKept])), (q_t_now, .inl (cI, 45, .inl u2))] := hD
  refine va_put (D := D) (ci := 7) (v := .int r1) (ty := .int) (C := RX7) (T := TX7) (N := 20) hx hb hts nX7_goYears_X7 tyX7 tyX7_ok nmX7 hown hK hP hD hS 3 rfl rfl 10 (by decide) (hts _ mX7_goYears_6) (fun _ h9 => h9) rfl (by decide +kernel) rfl rfl (Nat.le_of_ble_eq_true rfl) dX7_goYears_113 (fun H locs hP hD hS => ?_)
  have hP : va_P D vwCl [(q_t_book, .inl (cI, 45, .inl t_book)), (q_t_pad, .inl (cI, 60, .inl t_pad)), (q_t_had, .inl (cI, 6, .inl t_had)), (q_t, .inr (7, [.ref q_t_book, .ref q_t_now, .int t_shift, .int t_kneels, .int t_sights, .ref q_t_sight, .int t_signs, .ref q_t_pad, .int t_metAt, .int t_metWho, .int r1, .int t_acts, .ref q_t_had, .ref q_t_takes, .ref q_t_worths, .ref q_t_fitting, .ref q_t_wins, .ref q_t_ways, .ref q_t_image, .ref q_t_isKept])), (q_t_now, .inl (cI, 45, .inl u2))] H := hP
  have hD : va_D A [(q_t_book, .inl (cI, 45, .inl t_book)), (q_t_pad, .inl (cI, 60, .inl t_pad)), (q_t_had, .inl (cI, 6, .inl t_had)), (q_t, .inr (7, [.ref q_t_book, .ref q_t_now, .int t_shift, .int t_kneels, .int t_sights, .ref q_t_sight, .int t_signs, .ref q_t_pad, .int t_metAt, .int t_metWho, .int r1, .int t_acts, .ref q_t_had, .ref q_t_takes, .ref q_t_worths, .ref q_t_fitting, .ref q_t_wins, .ref q_t_ways, .ref q_t_image, .ref q_t_isKept])), (q_t_now, .inl (cI, 45, .inl u2))] := hD
  obtain ⟨v3, ev3⟩ : ∃ y : Int32, y = x1 + 2 := ⟨_, rfl⟩
  have hf := hf v3 ev3
  refine lv_iinc (v := v3) (lv' := [(1, .int v3), (0, .ref q_t)]) hx hb dX7_goYears_116 hl (k := 1) rfl (by rw [ev3]; rfl) (by decide) rfl (fun ls hl => ?_)
  refine lv_goto (tgt := 152) hx hb dX7_goYears_119 (by decide) ?_
  exact wX7_goYears_b152 C0 hN hK hA q_t q_t_book q_t_now q_t_pad q_t_had q_t_sight q_t_takes q_t_worths q_t_fitting q_t_wins q_t_ways q_t_image q_t_isKept t_sights t_shift t_kneels t_signs t_book t_pad post hret _ hk11 v3 t_metAt t_metWho r1 t_acts u2 t_had hf H locs (hP.sub [3, 0, 4, 1, 2] rfl) (hD.sub [3, 0, 4, 1, 2] (by decide) rfl) hS ls (lv_sub hl [1, 0] rfl)

def pX7_goYears_b84 (t_shift : Int32) (t_kneels : Int32) (t_signs : Int32) (t_book : (Nat → Int32)) (t_pad : (Nat → Int32)) (post : Int32 → (Int32 × Int32 × Int32 × Int32 × (Nat → Int32) × (Nat → Int32)) → Prop) (k11 : Int32 → Int32 → Int32 → Int32 → Int32 → (Nat → Int32) → (Nat → Int32) → Prop) (x1 : Int32) (x2 : Int32) (t_metAt : Int32) (t_metWho : Int32) (t_reason : Int32) (t_acts : Int32) (t_now : (Nat → Int32)) (t_had : (Nat → Int32)) : Prop :=
  vp_in (x1 + 1) 60 ∧ ((¬ x2 = 104 → (pX7_goYears_b109 t_shift t_kneels t_signs t_book t_pad post k11 x1 24 ((t_pad (x1 + 1).toNatClampNeg) - 48) t_metAt t_metWho t_reason t_acts t_now t_had)) ∧ (x2 = 104 → (pX7_goYears_b109 t_shift t_kneels t_signs t_book t_pad post k11 x1 1 ((t_pad (x1 + 1).toNatClampNeg) - 48) t_metAt t_metWho t_reason t_acts t_now t_had)))

set_option maxHeartbeats 4000000 in
set_option maxRecDepth 100000 in
theorem wX7_goYears_b84 {p : Program} {l : Launch} {e : Env} {s : State} {m : MethodId} {args : Array Value} {below : List Frame} {meth : Method} {c : Code} {Q : State → Prop} {D : va_G} {cI cZ cJ cO : ClassId} {A : Nat → Prop} (C0 : CallFix p m c cX7_goYears 4 s args wsX7_goYears RX7) (hN : nw s) (hK : va_K D vwCl (tyL cI cZ cJ cO) s) (hA : ∀ q, s.heap.size ≤ q → A q) (q_t q_t_book q_t_now q_t_pad q_t_had q_t_sight q_t_takes q_t_worths q_t_fitting q_t_wins q_t_ways q_t_image q_t_isKept : Nat) (t_sights : Int32) (t_shift : Int32) (t_kneels : Int32) (t_signs : Int32) (t_book : (Nat → Int32)) (t_pad : (Nat → Int32)) (post : Int32 → (Int32 × Int32 × Int32 × Int32 × (Nat → Int32) × (Nat → Int32)) → Prop) (hret : hrI p l e ({ frames := 3, cells := 0, slots := 0, locals := 66 } : Room) s m args below meth c cX7_goYears D A Q post (fun u : Int32 × Int32 × Int32 × Int32 × (Nat → Int32) × (Nat → Int32) => [(q_t, .inr (7, [.ref q_t_book, .ref q_t_now, .int t_shift, .int t_kneels, .int t_sights, .ref q_t_sight, .int t_signs, .ref q_t_pad, .int u.1, .int u.2.1, .int u.2.2.1, .int u.2.2.2.1, .ref q_t_had, .ref q_t_takes, .ref q_t_worths, .ref q_t_fitting, .ref q_t_wins, .ref q_t_ways, .ref q_t_image, .ref q_t_isKept])), (q_t_book, .inl (cI, 45, .inl t_book)), (q_t_now, .inl (cI, 45, .inl u.2.2.2.2.1)), (q_t_pad, .inl (cI, 60, .inl t_pad)), (q_t_had, .inl (cI, 6, .inl u.2.2.2.2.2))])) (k11 : Int32 → Int32 → Int32 → Int32 → Int32 → (Nat → Int32) → (Nat → Int32) → Prop) (hk11 : ∀ (x1 : Int32) (t_metAt : Int32) (t_metWho : Int32) (t_reason : Int32) (t_acts : Int32) (t_now : (Nat → Int32)) (t_had : (Nat → Int32)), k11 x1 t_metAt t_metWho t_reason t_acts t_now t_had → ∀ (H : Heap) (locs : List Loc), va_P D vwCl [(q_t, .inr (7, [.ref q_t_book, .ref q_t_now, .int t_shift, .int t_kneels, .int t_sights, .ref q_t_sight, .int t_signs, .ref q_t_pad, .int t_metAt, .int t_metWho, .int t_reason, .int t_acts, .ref q_t_had, .ref q_t_takes, .ref q_t_worths, .ref q_t_fitting, .ref q_t_wins, .ref q_t_ways, .ref q_t_image, .ref q_t_isKept])), (q_t_book, .inl (cI, 45, .inl t_book)), (q_t_now, .inl (cI, 45, .inl t_now)), (q_t_pad, .inl (cI, 60, .inl t_pad)), (q_t_had, .inl (cI, 6, .inl t_had))] H → va_D A [(q_t, .inr (7, [.ref q_t_book, .ref q_t_now, .int t_shift, .int t_kneels, .int t_sights, .ref q_t_sight, .int t_signs, .ref q_t_pad, .int t_metAt, .int t_metWho, .int t_reason, .int t_acts, .ref q_t_had, .ref q_t_takes, .ref q_t_worths, .ref q_t_fitting, .ref q_t_wins, .ref q_t_ways, .ref q_t_image, .ref q_t_isKept])), (q_t_book, .inl (cI, 45, .inl t_book)), (q_t_now, .inl (cI, 45, .inl t_now)), (q_t_pad, .inl (cI, 60, .inl t_pad)), (q_t_had, .inl (cI, 6, .inl t_had))] → va_S A s.heap H locs → ∀ ls : Array Slot, lv_has ls 4 [(0, .ref q_t), (1, .int x1)] → W p l e ({ frames := 3, cells := 0, slots := 0, locals := 66 } : Room) s m args below meth c H locs 0 0 Q (F0 m 11 ls [])) :
    ∀ (x1 : Int32) (x2 : Int32) (t_metAt : Int32) (t_metWho : Int32) (t_reason : Int32) (t_acts : Int32) (t_now : (Nat → Int32)) (t_had : (Nat → Int32)), pX7_goYears_b84 t_shift t_kneels t_signs t_book t_pad post k11 x1 x2 t_metAt t_metWho t_reason t_acts t_now t_had → ∀ (H : Heap) (locs : List Loc), va_P D vwCl [(q_t, .inr (7, [.ref q_t_book, .ref q_t_now, .int t_shift, .int t_kneels, .int t_sights, .ref q_t_sight, .int t_signs, .ref q_t_pad, .int t_metAt, .int t_metWho, .int t_reason, .int t_acts, .ref q_t_had, .ref q_t_takes, .ref q_t_worths, .ref q_t_fitting, .ref q_t_wins, .ref q_t_ways, .ref q_t_image, .ref q_t_isKept])), (q_t_book, .inl (cI, 45, .inl t_book)), (q_t_now, .inl (cI, 45, .inl t_now)), (q_t_pad, .inl (cI, 60, .inl t_pad)), (q_t_had, .inl (cI, 6, .inl t_had))] H → va_D A [(q_t, .inr (7, [.ref q_t_book, .ref q_t_now, .int t_shift, .int t_kneels, .int t_sights, .ref q_t_sight, .int t_signs, .ref q_t_pad, .int t_metAt, .int t_metWho, .int t_reason, .int t_acts, .ref q_t_had, .ref q_t_takes, .ref q_t_worths, .ref q_t_fitting, .ref q_t_wins, .ref q_t_ways, .ref q_t_image, .ref q_t_isKept])), (q_t_book, .inl (cI, 45, .inl t_book)), (q_t_now, .inl (cI, 45, .inl t_now)), (q_t_pad, .inl (cI, 60, .inl t_pad)), (q_t_had, .inl (cI, 6, .inl t_had))] → va_S A s.heap H locs → ∀ ls : Array Slot, lv_has ls 4 [(0, .ref q_t), (1, .int x1), (2, .int x2)] → W p l e ({ frames := 3, cells := 0, slots := 0, locals := 66 } : Room) s m args below meth c H locs 0 0 Q (F0 m 84 ls []) := by
  obtain ⟨hx, hb, hml, hown, hts⟩ := id C0
  intro x1 x2 t_metAt t_metWho t_reason t_acts t_now t_had hf H locs hP hD hS ls hl
  unfold pX7_goYears_b84 at hf
  refine lv_aload_n hx hb dX7_goYears_84 rfl (lv_at hl 0 rfl) ?_
  refine lv_aload_n hx hb dX7_goYears_85 rfl (lv_at hl 0 rfl) ?_
  refine lv_aload_n hx hb dX7_goYears_86 rfl (lv_at hl 0 rfl) ?_
  refine va_get (D := D) (ci := 7) (v := .ref q_t_pad) (C := RX7) (T := TX7) (N := 20) hx hb hts nX7_goYears_X7 hown hK hP 0 rfl rfl 7 (by decide) (hts _ mX7_goYears_3) (fun _ h9 => h9) rfl dX7_goYears_87 ?_
  refine lv_iload_n hx hb dX7_goYears_90 rfl (lv_at hl 1 rfl) ?_
  refine lv_iconst (v := 1) hx hb dX7_goYears_91 (by decide) ?_
  refine lv_iadd hx hb dX7_goYears_92 ?_
  have g1 := hf.1
  have hf := hf.2
  refine xa_iald hx hb hK hP 3 0 rfl rfl (j := (x1 + 1).toNatClampNeg) rfl g1 dX7_goYears_93 ?_
  refine lv_bipush (v := 48) hx hb dX7_goYears_94 (by decide) ?_
  refine lv_isub hx hb dX7_goYears_96 ?_
  refine lv_iload_n hx hb dX7_goYears_97 rfl (lv_at hl 2 rfl) ?_
  refine lv_bipush (v := 104) hx hb dX7_goYears_98 (by decide) ?_
  refine lv_icmp_ne (tgt := 107) hx hb dX7_goYears_100 (by decide) (fun c2 => ?_) (fun c2 => ?_)
  · have hf := hf.1 c2
    refine lv_bipush (v := 24) hx hb dX7_goYears_107 (by decide) ?_
    exact wX7_goYears_b109 C0 hN hK hA q_t q_t_book q_t_now q_t_pad q_t_had q_t_sight q_t_takes q_t_worths q_t_fitting q_t_wins q_t_ways q_t_image q_t_isKept t_sights t_shift t_kneels t_signs t_book t_pad post hret _ hk11 x1 24 ((t_pad (x1 + 1).toNatClampNeg) - 48) t_metAt t_metWho t_reason t_acts t_now t_had hf H locs hP hD hS ls (lv_sub hl [0, 1] rfl)
  · have hf := hf.2 c2
    refine lv_iconst (v := 1) hx hb dX7_goYears_103 (by decide) ?_
    refine lv_goto (tgt := 109) hx hb dX7_goYears_104 (by decide) ?_
    exact wX7_goYears_b109 C0 hN hK hA q_t q_t_book q_t_now q_t_pad q_t_had q_t_sight q_t_takes q_t_worths q_t_fitting q_t_wins q_t_ways q_t_image q_t_isKept t_sights t_shift t_kneels t_signs t_book t_pad post hret _ hk11 x1 1 ((t_pad (x1 + 1).toNatClampNeg) - 48) t_metAt t_metWho t_reason t_acts t_now t_had hf H locs hP hD hS ls (lv_sub hl [0, 1] rfl)

def pX7_goYears_b150 (t_shift : Int32) (t_kneels : Int32) (t_signs : Int32) (t_book : (Nat → Int32)) (t_pad : (Nat → Int32)) (post : Int32 → (Int32 × Int32 × Int32 × Int32 × (Nat → Int32) × (Nat → Int32)) → Prop) (k11 : Int32 → Int32 → Int32 → Int32 → Int32 → (Nat → Int32) → (Nat → Int32) → Prop) (s0 : Int32) (s1 : Int32) (t_metAt : Int32) (t_metWho : Int32) (t_reason : Int32) (t_acts : Int32) (t_now : (Nat → Int32)) (t_had : (Nat → Int32)) : Prop :=
  ∀ v1 : Int32, v1 = (s1 + s0) → (pX7_goYears_b152 t_shift t_kneels t_signs t_book t_pad post k11 v1 t_metAt t_metWho t_reason t_acts t_now t_had)

set_option maxHeartbeats 4000000 in
set_option maxRecDepth 100000 in
theorem wX7_goYears_b150 {p : Program} {l : Launch} {e : Env} {s : State} {m : MethodId} {args : Array Value} {below : List Frame} {meth : Method} {c : Code} {Q : State → Prop} {D : va_G} {cI cZ cJ cO : ClassId} {A : Nat → Prop} (C0 : CallFix p m c cX7_goYears 4 s args wsX7_goYears RX7) (hN : nw s) (hK : va_K D vwCl (tyL cI cZ cJ cO) s) (hA : ∀ q, s.heap.size ≤ q → A q) (q_t q_t_book q_t_now q_t_pad q_t_had q_t_sight q_t_takes q_t_worths q_t_fitting q_t_wins q_t_ways q_t_image q_t_isKept : Nat) (t_sights : Int32) (t_shift : Int32) (t_kneels : Int32) (t_signs : Int32) (t_book : (Nat → Int32)) (t_pad : (Nat → Int32)) (post : Int32 → (Int32 × Int32 × Int32 × Int32 × (Nat → Int32) × (Nat → Int32)) → Prop) (hret : hrI p l e ({ frames := 3, cells := 0, slots := 0, locals := 66 } : Room) s m args below meth c cX7_goYears D A Q post (fun u : Int32 × Int32 × Int32 × Int32 × (Nat → Int32) × (Nat → Int32) => [(q_t, .inr (7, [.ref q_t_book, .ref q_t_now, .int t_shift, .int t_kneels, .int t_sights, .ref q_t_sight, .int t_signs, .ref q_t_pad, .int u.1, .int u.2.1, .int u.2.2.1, .int u.2.2.2.1, .ref q_t_had, .ref q_t_takes, .ref q_t_worths, .ref q_t_fitting, .ref q_t_wins, .ref q_t_ways, .ref q_t_image, .ref q_t_isKept])), (q_t_book, .inl (cI, 45, .inl t_book)), (q_t_now, .inl (cI, 45, .inl u.2.2.2.2.1)), (q_t_pad, .inl (cI, 60, .inl t_pad)), (q_t_had, .inl (cI, 6, .inl u.2.2.2.2.2))])) (k11 : Int32 → Int32 → Int32 → Int32 → Int32 → (Nat → Int32) → (Nat → Int32) → Prop) (hk11 : ∀ (x1 : Int32) (t_metAt : Int32) (t_metWho : Int32) (t_reason : Int32) (t_acts : Int32) (t_now : (Nat → Int32)) (t_had : (Nat → Int32)), k11 x1 t_metAt t_metWho t_reason t_acts t_now t_had → ∀ (H : Heap) (locs : List Loc), va_P D vwCl [(q_t, .inr (7, [.ref q_t_book, .ref q_t_now, .int t_shift, .int t_kneels, .int t_sights, .ref q_t_sight, .int t_signs, .ref q_t_pad, .int t_metAt, .int t_metWho, .int t_reason, .int t_acts, .ref q_t_had, .ref q_t_takes, .ref q_t_worths, .ref q_t_fitting, .ref q_t_wins, .ref q_t_ways, .ref q_t_image, .ref q_t_isKept])), (q_t_book, .inl (cI, 45, .inl t_book)), (q_t_now, .inl (cI, 45, .inl t_now)), (q_t_pad, .inl (cI, 60, .inl t_pad)), (q_t_had, .inl (cI, 6, .inl t_had))] H → va_D A [(q_t, .inr (7, [.ref q_t_book, .ref q_t_now, .int t_shift, .int t_kneels, .int t_sights, .ref q_t_sight, .int t_signs, .ref q_t_pad, .int t_metAt, .int t_metWho, .int t_reason, .int t_acts, .ref q_t_had, .ref q_t_takes, .ref q_t_worths, .ref q_t_fitting, .ref q_t_wins, .ref q_t_ways, .ref q_t_image, .ref q_t_isKept])), (q_t_book, .inl (cI, 45, .inl t_book)), (q_t_now, .inl (cI, 45, .inl t_now)), (q_t_pad, .inl (cI, 60, .inl t_pad)), (q_t_had, .inl (cI, 6, .inl t_had))] → va_S A s.heap H locs → ∀ ls : Array Slot, lv_has ls 4 [(0, .ref q_t), (1, .int x1)] → W p l e ({ frames := 3, cells := 0, slots := 0, locals := 66 } : Room) s m args below meth c H locs 0 0 Q (F0 m 11 ls [])) :
    ∀ (s0 : Int32) (s1 : Int32) (t_metAt : Int32) (t_metWho : Int32) (t_reason : Int32) (t_acts : Int32) (t_now : (Nat → Int32)) (t_had : (Nat → Int32)), pX7_goYears_b150 t_shift t_kneels t_signs t_book t_pad post k11 s0 s1 t_metAt t_metWho t_reason t_acts t_now t_had → ∀ (H : Heap) (locs : List Loc), va_P D vwCl [(q_t, .inr (7, [.ref q_t_book, .ref q_t_now, .int t_shift, .int t_kneels, .int t_sights, .ref q_t_sight, .int t_signs, .ref q_t_pad, .int t_metAt, .int t_metWho, .int t_reason, .int t_acts, .ref q_t_had, .ref q_t_takes, .ref q_t_worths, .ref q_t_fitting, .ref q_t_wins, .ref q_t_ways, .ref q_t_image, .ref q_t_isKept])), (q_t_book, .inl (cI, 45, .inl t_book)), (q_t_now, .inl (cI, 45, .inl t_now)), (q_t_pad, .inl (cI, 60, .inl t_pad)), (q_t_had, .inl (cI, 6, .inl t_had))] H → va_D A [(q_t, .inr (7, [.ref q_t_book, .ref q_t_now, .int t_shift, .int t_kneels, .int t_sights, .ref q_t_sight, .int t_signs, .ref q_t_pad, .int t_metAt, .int t_metWho, .int t_reason, .int t_acts, .ref q_t_had, .ref q_t_takes, .ref q_t_worths, .ref q_t_fitting, .ref q_t_wins, .ref q_t_ways, .ref q_t_image, .ref q_t_isKept])), (q_t_book, .inl (cI, 45, .inl t_book)), (q_t_now, .inl (cI, 45, .inl t_now)), (q_t_pad, .inl (cI, 60, .inl t_pad)), (q_t_had, .inl (cI, 6, .inl t_had))] → va_S A s.heap H locs → ∀ ls : Array Slot, lv_has ls 4 [(0, .ref q_t)] → W p l e ({ frames := 3, cells := 0, slots := 0, locals := 66 } : Room) s m args below meth c H locs 0 0 Q (F0 m 150 ls [.int s0, .int s1]) := by
  obtain ⟨hx, hb, hml, hown, hts⟩ := id C0
  intro s0 s1 t_metAt t_metWho t_reason t_acts t_now t_had hf H locs hP hD hS ls hl
  unfold pX7_goYears_b150 at hf
  refine lv_iadd hx hb dX7_goYears_150 ?_
  refine lv_topi (fun v1 ev1 => ?_)
  have hf := hf v1 ev1
  refine lv_istore_n (lv' := [(1, .int v1), (0, .ref q_t)]) hx hb dX7_goYears_151 rfl hl (by decide) rfl (fun ls hl => ?_)
  exact wX7_goYears_b152 C0 hN hK hA q_t q_t_book q_t_now q_t_pad q_t_had q_t_sight q_t_takes q_t_worths q_t_fitting q_t_wins q_t_ways q_t_image q_t_isKept t_sights t_shift t_kneels t_signs t_book t_pad post hret _ hk11 v1 t_metAt t_metWho t_reason t_acts t_now t_had hf H locs hP hD hS ls (lv_sub hl [1, 0] rfl)

def pX7_goYears_b28 (t_shift : Int32) (t_kneels : Int32) (t_signs : Int32) (t_book : (Nat → Int32)) (t_pad : (Nat → Int32)) (post : Int32 → (Int32 × Int32 × Int32 × Int32 × (Nat → Int32) × (Nat → Int32)) → Prop) (k11 : Int32 → Int32 → Int32 → Int32 → Int32 → (Nat → Int32) → (Nat → Int32) → Prop) : Nat → Int32 → Int32 → Int32 → Int32 → Int32 → Int32 → Int32 → (Nat → Int32) → (Nat → Int32) → Prop
  | 0 => fun _ _ _ _ _ _ _ _ _ => False
  | n + 1 => fun x1 x2 x3 t_metAt t_metWho t_reason t_acts t_now t_had => (6 ≤ x3 → ((¬ x2 = 107 → ((x2 = 104 → (pX7_goYears_b84 t_shift t_kneels t_signs t_book t_pad post k11 x1 x2 t_metAt t_metWho t_reason t_acts t_now t_had)) ∧ (¬ x2 = 104 → ((¬ x2 = 100 → (pX7_personAct t_shift t_kneels t_now t_pad x1 (fun (r5 : Int32) (u6 : (Nat → Int32)) => vp_in (x1 + 1) 60 ∧ ((¬ (t_pad (x1 + 1).toNatClampNeg) = 36 → (pX7_goYears_b150 t_shift t_kneels t_signs t_book t_pad post k11 2 x1 t_metAt t_metWho r5 t_acts u6 t_had)) ∧ ((t_pad (x1 + 1).toNatClampNeg) = 36 → (pX7_goYears_b150 t_shift t_kneels t_signs t_book t_pad post k11 3 x1 t_metAt t_metWho r5 t_acts u6 t_had)))))) ∧ (x2 = 100 → (pX7_goYears_b84 t_shift t_kneels t_signs t_book t_pad post k11 x1 x2 t_metAt t_metWho t_reason t_acts t_now t_had)))))) ∧ (x2 = 107 → (pX7_nextTime t_kneels t_now (fun (r9 : Int32) (u10 : (Nat → Int32)) => ∀ v11 : Int32, v11 = x1 + 1 → (pX7_goYears_b152 t_shift t_kneels t_signs t_book t_pad post k11 v11 t_metAt t_metWho r9 t_acts u10 t_had)))))) ∧ (¬ 6 ≤ x3 → (vp_in x3 45 ∧ (∀ v13 : Int32, v13 = (t_now x3.toNatClampNeg) → (vp_in x3 6 ∧ (∀ v15 : Int32, v15 = x3 + 1 → (pX7_goYears_b28 t_shift t_kneels t_signs t_book t_pad post k11 n x1 x2 v15 t_metAt t_metWho t_reason t_acts t_now (upd t_had x3.toNatClampNeg v13)))))))

set_option maxHeartbeats 4000000 in
set_option maxRecDepth 100000 in
theorem wX7_goYears_b28 {p : Program} {l : Launch} {e : Env} {s : State} {m : MethodId} {args : Array Value} {below : List Frame} {meth : Method} {c : Code} {Q : State → Prop} {D : va_G} {cI cZ cJ cO : ClassId} {A : Nat → Prop} (C0 : CallFix p m c cX7_goYears 4 s args wsX7_goYears RX7) (hN : nw s) (hK : va_K D vwCl (tyL cI cZ cJ cO) s) (hA : ∀ q, s.heap.size ≤ q → A q) (q_t q_t_book q_t_now q_t_pad q_t_had q_t_sight q_t_takes q_t_worths q_t_fitting q_t_wins q_t_ways q_t_image q_t_isKept : Nat) (t_sights : Int32) (t_shift : Int32) (t_kneels : Int32) (t_signs : Int32) (t_book : (Nat → Int32)) (t_pad : (Nat → Int32)) (post : Int32 → (Int32 × Int32 × Int32 × Int32 × (Nat → Int32) × (Nat → Int32)) → Prop) (hret : hrI p l e ({ frames := 3, cells := 0, slots := 0, locals := 66 } : Room) s m args below meth c cX7_goYears D A Q post (fun u : Int32 × Int32 × Int32 × Int32 × (Nat → Int32) × (Nat → Int32) => [(q_t, .inr (7, [.ref q_t_book, .ref q_t_now, .int t_shift, .int t_kneels, .int t_sights, .ref q_t_sight, .int t_signs, .ref q_t_pad, .int u.1, .int u.2.1, .int u.2.2.1, .int u.2.2.2.1, .ref q_t_had, .ref q_t_takes, .ref q_t_worths, .ref q_t_fitting, .ref q_t_wins, .ref q_t_ways, .ref q_t_image, .ref q_t_isKept])), (q_t_book, .inl (cI, 45, .inl t_book)), (q_t_now, .inl (cI, 45, .inl u.2.2.2.2.1)), (q_t_pad, .inl (cI, 60, .inl t_pad)), (q_t_had, .inl (cI, 6, .inl u.2.2.2.2.2))])) (k11 : Int32 → Int32 → Int32 → Int32 → Int32 → (Nat → Int32) → (Nat → Int32) → Prop) (hk11 : ∀ (x1 : Int32) (t_metAt : Int32) (t_metWho : Int32) (t_reason : Int32) (t_acts : Int32) (t_now : (Nat → Int32)) (t_had : (Nat → Int32)), k11 x1 t_metAt t_metWho t_reason t_acts t_now t_had → ∀ (H : Heap) (locs : List Loc), va_P D vwCl [(q_t, .inr (7, [.ref q_t_book, .ref q_t_now, .int t_shift, .int t_kneels, .int t_sights, .ref q_t_sight, .int t_signs, .ref q_t_pad, .int t_metAt, .int t_metWho, .int t_reason, .int t_acts, .ref q_t_had, .ref q_t_takes, .ref q_t_worths, .ref q_t_fitting, .ref q_t_wins, .ref q_t_ways, .ref q_t_image, .ref q_t_isKept])), (q_t_book, .inl (cI, 45, .inl t_book)), (q_t_now, .inl (cI, 45, .inl t_now)), (q_t_pad, .inl (cI, 60, .inl t_pad)), (q_t_had, .inl (cI, 6, .inl t_had))] H → va_D A [(q_t, .inr (7, [.ref q_t_book, .ref q_t_now, .int t_shift, .int t_kneels, .int t_sights, .ref q_t_sight, .int t_signs, .ref q_t_pad, .int t_metAt, .int t_metWho, .int t_reason, .int t_acts, .ref q_t_had, .ref q_t_takes, .ref q_t_worths, .ref q_t_fitting, .ref q_t_wins, .ref q_t_ways, .ref q_t_image, .ref q_t_isKept])), (q_t_book, .inl (cI, 45, .inl t_book)), (q_t_now, .inl (cI, 45, .inl t_now)), (q_t_pad, .inl (cI, 60, .inl t_pad)), (q_t_had, .inl (cI, 6, .inl t_had))] → va_S A s.heap H locs → ∀ ls : Array Slot, lv_has ls 4 [(0, .ref q_t), (1, .int x1)] → W p l e ({ frames := 3, cells := 0, slots := 0, locals := 66 } : Room) s m args below meth c H locs 0 0 Q (F0 m 11 ls [])) :
    ∀ (n : Nat) (x1 : Int32) (x2 : Int32) (x3 : Int32) (t_metAt : Int32) (t_metWho : Int32) (t_reason : Int32) (t_acts : Int32) (t_now : (Nat → Int32)) (t_had : (Nat → Int32)), pX7_goYears_b28 t_shift t_kneels t_signs t_book t_pad post k11 n x1 x2 x3 t_metAt t_metWho t_reason t_acts t_now t_had → ∀ (H : Heap) (locs : List Loc), va_P D vwCl [(q_t, .inr (7, [.ref q_t_book, .ref q_t_now, .int t_shift, .int t_kneels, .int t_sights, .ref q_t_sight, .int t_signs, .ref q_t_pad, .int t_metAt, .int t_metWho, .int t_reason, .int t_acts, .ref q_t_had, .ref q_t_takes, .ref q_t_worths, .ref q_t_fitting, .ref q_t_wins, .ref q_t_ways, .ref q_t_image, .ref q_t_isKept])), (q_t_book, .inl (cI, 45, .inl t_book)), (q_t_now, .inl (cI, 45, .inl t_now)), (q_t_pad, .inl (cI, 60, .inl t_pad)), (q_t_had, .inl (cI, 6, .inl t_had))] H → va_D A [(q_t, .inr (7, [.ref q_t_book, .ref q_t_now, .int t_shift, .int t_kneels, .int t_sights, .ref q_t_sight, .int t_signs, .ref q_t_pad, .int t_metAt, .int t_metWho, .int t_reason, .int t_acts, .ref q_t_had, .ref q_t_takes, .ref q_t_worths, .ref q_t_fitting, .ref q_t_wins, .ref q_t_ways, .ref q_t_image, .ref q_t_isKept])), (q_t_book, .inl (cI, 45, .inl t_book)), (q_t_now, .inl (cI, 45, .inl t_now)), (q_t_pad, .inl (cI, 60, .inl t_pad)), (q_t_had, .inl (cI, 6, .inl t_had))] → va_S A s.heap H locs → ∀ ls : Array Slot, lv_has ls 4 [(0, .ref q_t), (1, .int x1), (2, .int x2), (3, .int x3)] → W p l e ({ frames := 3, cells := 0, slots := 0, locals := 66 } : Room) s m args below meth c H locs 0 0 Q (F0 m 28 ls []) := by
  obtain ⟨hx, hb, hml, hown, hts⟩ := id C0
  intro n
  induction n with
  | zero =>
    intro x1 x2 x3 t_metAt t_metWho t_reason t_acts t_now t_had hf
    exact False.elim hf
  | succ n ih =>
    intro x1 x2 x3 t_metAt t_metWho t_reason t_acts t_now t_had hf H locs hP hD hS ls hl
    rw [pX7_goYears_b28] at hf
    refine lv_iload_n hx hb dX7_goYears_28 rfl (lv_at hl 3 rfl) ?_
    refine lv_bipush (v := 6) hx hb dX7_goYears_29 (by decide) ?_
    refine lv_icmp_ge (tgt := 52) hx hb dX7_goYears_31 (by decide) (fun c1 => ?_) (fun c1 => ?_)
    · have hf := hf.1 c1
      refine lv_iload_n hx hb dX7_goYears_52 rfl (lv_at hl 2 rfl) ?_
      refine lv_bipush (v := 107) hx hb dX7_goYears_53 (by decide) ?_
      refine lv_icmp_ne (tgt := 72) hx hb dX7_goYears_55 (by decide) (fun c2 => ?_) (fun c2 => ?_)
      · have hf := hf.1 c2
        refine lv_iload_n hx hb dX7_goYears_72 rfl (lv_at hl 2 rfl) ?_
        refine lv_bipush (v := 104) hx hb dX7_goYears_73 (by decide) ?_
        refine lv_icmp_eq (tgt := 84) hx hb dX7_goYears_75 (by decide) (fun c3 => ?_) (fun c3 => ?_)
        · have hf := hf.1 c3
          exact wX7_goYears_b84 C0 hN hK hA q_t q_t_book q_t_now q_t_pad q_t_had q_t_sight q_t_takes q_t_worths q_t_fitting q_t_wins q_t_ways q_t_image q_t_isKept t_sights t_shift t_kneels t_signs t_book t_pad post hret _ hk11 x1 x2 t_metAt t_metWho t_reason t_acts t_now t_had hf H locs hP hD hS ls (lv_sub hl [0, 1, 2] rfl)
        · have hf := hf.2 c3
          refine lv_iload_n hx hb dX7_goYears_78 rfl (lv_at hl 2 rfl) ?_
          refine lv_bipush (v := 100) hx hb dX7_goYears_79 (by decide) ?_
          refine lv_icmp_ne (tgt := 122) hx hb dX7_goYears_81 (by decide) (fun c4 => ?_) (fun c4 => ?_)
          · have hf := hf.1 c4
            refine lv_aload_n hx hb dX7_goYears_122 rfl (lv_at hl 0 rfl) ?_
            refine lv_aload_n hx hb dX7_goYears_123 rfl (lv_at hl 0 rfl) ?_
            refine lv_iload_n hx hb dX7_goYears_124 rfl (lv_at hl 1 rfl) ?_
            refine xc_i (wr := [(q_t_book, .inl (cI, 45, .inl t_book)), (q_t_had, .inl (cI, 6, .inl t_had))]) (va_runV (As := [.int x1]) (rest := [.ref q_t]) ⟨hx, hb, hml, hown, hts⟩ (kX7_personAct l D cI cZ cJ cO q_t q_t_now q_t_pad q_t_book q_t_sight q_t_had q_t_takes q_t_worths q_t_fitting q_t_wins q_t_ways q_t_image q_t_isKept H.size t_sights t_signs t_metAt t_metWho t_reason t_acts t_shift t_kneels t_now t_pad x1 _ hf) (cwV 1 hts gX7_goYears_X7_personAct rfl rfl rfl (by decide +kernel) ⟨Nat.le_of_ble_eq_true rfl, Nat.le_of_ble_eq_true rfl⟩) (B1_preV (ci := 7) (q0 := 0) hP rfl rfl (hP.sub (ws' := [(q_t, .inr (7, [.ref q_t_book, .ref q_t_now, .int t_shift, .int t_kneels, .int t_sights, .ref q_t_sight, .int t_signs, .ref q_t_pad, .int t_metAt, .int t_metWho, .int t_reason, .int t_acts, .ref q_t_had, .ref q_t_takes, .ref q_t_worths, .ref q_t_fitting, .ref q_t_wins, .ref q_t_ways, .ref q_t_image, .ref q_t_isKept])), (q_t_now, .inl (cI, 45, .inl t_now)), (q_t_pad, .inl (cI, 60, .inl t_pad))]) [0, 2, 3] rfl) hK hN (hD.sub (ws' := [(q_t, .inr (7, [.ref q_t_book, .ref q_t_now, .int t_shift, .int t_kneels, .int t_sights, .ref q_t_sight, .int t_signs, .ref q_t_pad, .int t_metAt, .int t_metWho, .int t_reason, .int t_acts, .ref q_t_had, .ref q_t_takes, .ref q_t_worths, .ref q_t_fitting, .ref q_t_wins, .ref q_t_ways, .ref q_t_image, .ref q_t_isKept])), (q_t_now, .inl (cI, 45, .inl t_now)), (q_t_pad, .inl (cI, 60, .inl t_pad))]) [0, 2, 3] (by decide) rfl)) rfl rfl hl.1 rfl (lv_room (Nat.le_of_ble_eq_true rfl)) dX7_goYears_125 ⟨Nat.zero_le _, Nat.zero_le _⟩) hP hD hS hA [0, 2, 3] [1, 4] rfl rfl (by decide) (by decide) (fun r5 u6 H locs hf hP hD hS => ?_)
            have hP : va_P D vwCl [(q_t_book, .inl (cI, 45, .inl t_book)), (q_t_had, .inl (cI, 6, .inl t_had)), (q_t, .inr (7, [.ref q_t_book, .ref q_t_now, .int t_shift, .int t_kneels, .int t_sights, .ref q_t_sight, .int t_signs, .ref q_t_pad, .int t_metAt, .int t_metWho, .int t_reason, .int t_acts, .ref q_t_had, .ref q_t_takes, .ref q_t_worths, .ref q_t_fitting, .ref q_t_wins, .ref q_t_ways, .ref q_t_image, .ref q_t_isKept])), (q_t_now, .inl (cI, 45, .inl u6)), (q_t_pad, .inl (cI, 60, .inl t_pad))] H := hP
            have hD : va_D A [(q_t_book, .inl (cI, 45, .inl t_book)), (q_t_had, .inl (cI, 6, .inl t_had)), (q_t, .inr (7, [.ref q_t_book, .ref q_t_now, .int t_shift, .int t_kneels, .int t_sights, .ref q_t_sight, .int t_signs, .ref q_t_pad, .int t_metAt, .int t_metWho, .int t_reason, .int t_acts, .ref q_t_had, .ref q_t_takes, .ref q_t_worths, .ref q_t_fitting, .ref q_t_wins, .ref q_t_ways, .ref q_t_image, .ref q_t_isKept])), (q_t_now, .inl (cI, 45, .inl u6)), (q_t_pad, .inl (cI, 60, .inl t_pad))] := hD
            refine va_put (D := D) (ci := 7) (v := .int r5) (ty := .int) (C := RX7) (T := TX7) (N := 20) hx hb hts nX7_goYears_X7 tyX7 tyX7_ok nmX7 hown hK hP hD hS 2 rfl rfl 10 (by decide) (hts _ mX7_goYears_6) (fun _ h9 => h9) rfl (by decide +kernel) rfl rfl (Nat.le_of_ble_eq_true rfl) dX7_goYears_128 (fun H locs hP hD hS => ?_)
            have hP : va_P D vwCl [(q_t_book, .inl (cI, 45, .inl t_book)), (q_t_had, .inl (cI, 6, .inl t_had)), (q_t, .inr (7, [.ref q_t_book, .ref q_t_now, .int t_shift, .int t_kneels, .int t_sights, .ref q_t_sight, .int t_signs, .ref q_t_pad, .int t_metAt, .int t_metWho, .int r5, .int t_acts, .ref q_t_had, .ref q_t_takes, .ref q_t_worths, .ref q_t_fitting, .ref q_t_wins, .ref q_t_ways, .ref q_t_image, .ref q_t_isKept])), (q_t_now, .inl (cI, 45, .inl u6)), (q_t_pad, .inl (cI, 60, .inl t_pad))] H := hP
            have hD : va_D A [(q_t_book, .inl (cI, 45, .inl t_book)), (q_t_had, .inl (cI, 6, .inl t_had)), (q_t, .inr (7, [.ref q_t_book, .ref q_t_now, .int t_shift, .int t_kneels, .int t_sights, .ref q_t_sight, .int t_signs, .ref q_t_pad, .int t_metAt, .int t_metWho, .int r5, .int t_acts, .ref q_t_had, .ref q_t_takes, .ref q_t_worths, .ref q_t_fitting, .ref q_t_wins, .ref q_t_ways, .ref q_t_image, .ref q_t_isKept])), (q_t_now, .inl (cI, 45, .inl u6)), (q_t_pad, .inl (cI, 60, .inl t_pad))] := hD
            refine lv_iload_n hx hb dX7_goYears_131 rfl (lv_at hl 1 rfl) ?_
            refine lv_aload_n hx hb dX7_goYears_132 rfl (lv_at hl 0 rfl) ?_
            refine va_get (D := D) (ci := 7) (v := .ref q_t_pad) (C := RX7) (T := TX7) (N := 20) hx hb hts nX7_goYears_X7 hown hK hP 2 rfl rfl 7 (by decide) (hts _ mX7_goYears_3) (fun _ h9 => h9) rfl dX7_goYears_133 ?_
            refine lv_iload_n hx hb dX7_goYears_136 rfl (lv_at hl 1 rfl) ?_
            refine lv_iconst (v := 1) hx hb dX7_goYears_137 (by decide) ?_
            refine lv_iadd hx hb dX7_goYears_138 ?_
            have g7 := hf.1
            have hf := hf.2
            refine xa_iald hx hb hK hP 4 0 rfl rfl (j := (x1 + 1).toNatClampNeg) rfl g7 dX7_goYears_139 ?_
            refine lv_bipush (v := 36) hx hb dX7_goYears_140 (by decide) ?_
            refine lv_icmp_ne (tgt := 149) hx hb dX7_goYears_142 (by decide) (fun c8 => ?_) (fun c8 => ?_)
            · have hf := hf.1 c8
              refine lv_iconst (v := 2) hx hb dX7_goYears_149 (by decide) ?_
              exact wX7_goYears_b150 C0 hN hK hA q_t q_t_book q_t_now q_t_pad q_t_had q_t_sight q_t_takes q_t_worths q_t_fitting q_t_wins q_t_ways q_t_image q_t_isKept t_sights t_shift t_kneels t_signs t_book t_pad post hret _ hk11 2 x1 t_metAt t_metWho r5 t_acts u6 t_had hf H locs (hP.sub [2, 0, 3, 4, 1] rfl) (hD.sub [2, 0, 3, 4, 1] (by decide) rfl) hS ls (lv_sub hl [0] rfl)
            · have hf := hf.2 c8
              refine lv_iconst (v := 3) hx hb dX7_goYears_145 (by decide) ?_
              refine lv_goto (tgt := 150) hx hb dX7_goYears_146 (by decide) ?_
              exact wX7_goYears_b150 C0 hN hK hA q_t q_t_book q_t_now q_t_pad q_t_had q_t_sight q_t_takes q_t_worths q_t_fitting q_t_wins q_t_ways q_t_image q_t_isKept t_sights t_shift t_kneels t_signs t_book t_pad post hret _ hk11 3 x1 t_metAt t_metWho r5 t_acts u6 t_had hf H locs (hP.sub [2, 0, 3, 4, 1] rfl) (hD.sub [2, 0, 3, 4, 1] (by decide) rfl) hS ls (lv_sub hl [0] rfl)
          · have hf := hf.2 c4
            exact wX7_goYears_b84 C0 hN hK hA q_t q_t_book q_t_now q_t_pad q_t_had q_t_sight q_t_takes q_t_worths q_t_fitting q_t_wins q_t_ways q_t_image q_t_isKept t_sights t_shift t_kneels t_signs t_book t_pad post hret _ hk11 x1 x2 t_metAt t_metWho t_reason t_acts t_now t_had hf H locs hP hD hS ls (lv_sub hl [0, 1, 2] rfl)
      · have hf := hf.2 c2
        refine lv_aload_n hx hb dX7_goYears_58 rfl (lv_at hl 0 rfl) ?_
        refine lv_aload_n hx hb dX7_goYears_59 rfl (lv_at hl 0 rfl) ?_
        refine xc_i (wr := [(q_t_book, .inl (cI, 45, .inl t_book)), (q_t_pad, .inl (cI, 60, .inl t_pad)), (q_t_had, .inl (cI, 6, .inl t_had))]) (va_runV (As := []) (rest := [.ref q_t]) ⟨hx, hb, hml, hown, hts⟩ (kX7_nextTime l D cI cZ cJ cO q_t q_t_now q_t_book q_t_sight q_t_pad q_t_had q_t_takes q_t_worths q_t_fitting q_t_wins q_t_ways q_t_image q_t_isKept H.size t_shift t_sights t_signs t_metAt t_metWho t_reason t_acts t_kneels t_now _ hf) (cwV 0 hts gX7_goYears_X7_nextTime rfl rfl rfl (by decide +kernel) ⟨Nat.le_of_ble_eq_true rfl, Nat.le_of_ble_eq_true rfl⟩) (B1_preV (ci := 7) (q0 := 0) hP rfl rfl (hP.sub (ws' := [(q_t, .inr (7, [.ref q_t_book, .ref q_t_now, .int t_shift, .int t_kneels, .int t_sights, .ref q_t_sight, .int t_signs, .ref q_t_pad, .int t_metAt, .int t_metWho, .int t_reason, .int t_acts, .ref q_t_had, .ref q_t_takes, .ref q_t_worths, .ref q_t_fitting, .ref q_t_wins, .ref q_t_ways, .ref q_t_image, .ref q_t_isKept])), (q_t_now, .inl (cI, 45, .inl t_now))]) [0, 2] rfl) hK hN (hD.sub (ws' := [(q_t, .inr (7, [.ref q_t_book, .ref q_t_now, .int t_shift, .int t_kneels, .int t_sights, .ref q_t_sight, .int t_signs, .ref q_t_pad, .int t_metAt, .int t_metWho, .int t_reason, .int t_acts, .ref q_t_had, .ref q_t_takes, .ref q_t_worths, .ref q_t_fitting, .ref q_t_wins, .ref q_t_ways, .ref q_t_image, .ref q_t_isKept])), (q_t_now, .inl (cI, 45, .inl t_now))]) [0, 2] (by decide) rfl)) rfl rfl hl.1 rfl (lv_room (Nat.le_of_ble_eq_true rfl)) dX7_goYears_60 ⟨Nat.zero_le _, Nat.zero_le _⟩) hP hD hS hA [0, 2] [1, 3, 4] rfl rfl (by decide) (by decide) (fun r9 u10 H locs hf hP hD hS => ?_)
        have hP : va_P D vwCl [(q_t_book, .inl (cI, 45, .inl t_book)), (q_t_pad, .inl (cI, 60, .inl t_pad)), (q_t_had, .inl (cI, 6, .inl t_had)), (q_t, .inr (7, [.ref q_t_book, .ref q_t_now, .int t_shift, .int t_kneels, .int t_sights, .ref q_t_sight, .int t_signs, .ref q_t_pad, .int t_metAt, .int t_metWho, .int t_reason, .int t_acts, .ref q_t_had, .ref q_t_takes, .ref q_t_worths, .ref q_t_fitting, .ref q_t_wins, .ref q_t_ways, .ref q_t_image, .ref q_t_isKept])), (q_t_now, .inl (cI, 45, .inl u10))] H := hP
        have hD : va_D A [(q_t_book, .inl (cI, 45, .inl t_book)), (q_t_pad, .inl (cI, 60, .inl t_pad)), (q_t_had, .inl (cI, 6, .inl t_had)), (q_t, .inr (7, [.ref q_t_book, .ref q_t_now, .int t_shift, .int t_kneels, .int t_sights, .ref q_t_sight, .int t_signs, .ref q_t_pad, .int t_metAt, .int t_metWho, .int t_reason, .int t_acts, .ref q_t_had, .ref q_t_takes, .ref q_t_worths, .ref q_t_fitting, .ref q_t_wins, .ref q_t_ways, .ref q_t_image, .ref q_t_isKept])), (q_t_now, .inl (cI, 45, .inl u10))] := hD
        refine va_put (D := D) (ci := 7) (v := .int r9) (ty := .int) (C := RX7) (T := TX7) (N := 20) hx hb hts nX7_goYears_X7 tyX7 tyX7_ok nmX7 hown hK hP hD hS 3 rfl rfl 10 (by decide) (hts _ mX7_goYears_6) (fun _ h9 => h9) rfl (by decide +kernel) rfl rfl (Nat.le_of_ble_eq_true rfl) dX7_goYears_63 (fun H locs hP hD hS => ?_)
        have hP : va_P D vwCl [(q_t_book, .inl (cI, 45, .inl t_book)), (q_t_pad, .inl (cI, 60, .inl t_pad)), (q_t_had, .inl (cI, 6, .inl t_had)), (q_t, .inr (7, [.ref q_t_book, .ref q_t_now, .int t_shift, .int t_kneels, .int t_sights, .ref q_t_sight, .int t_signs, .ref q_t_pad, .int t_metAt, .int t_metWho, .int r9, .int t_acts, .ref q_t_had, .ref q_t_takes, .ref q_t_worths, .ref q_t_fitting, .ref q_t_wins, .ref q_t_ways, .ref q_t_image, .ref q_t_isKept])), (q_t_now, .inl (cI, 45, .inl u10))] H := hP
        have hD : va_D A [(q_t_book, .inl (cI, 45, .inl t_book)), (q_t_pad, .inl (cI, 60, .inl t_pad)), (q_t_had, .inl (cI, 6, .inl t_had)), (q_t, .inr (7, [.ref q_t_book, .ref q_t_now, .int t_shift, .int t_kneels, .int t_sights, .ref q_t_sight, .int t_signs, .ref q_t_pad, .int t_metAt, .int t_metWho, .int r9, .int t_acts, .ref q_t_had, .ref q_t_takes, .ref q_t_worths, .ref q_t_fitting, .ref q_t_wins, .ref q_t_ways, .ref q_t_image, .ref q_t_isKept])), (q_t_now, .inl (cI, 45, .inl u10))] := hD
        obtain ⟨v11, ev11⟩ : ∃ y : Int32, y = x1 + 1 := ⟨_, rfl⟩
        have hf := hf v11 ev11
        refine lv_iinc (v := v11) (lv' := [(1, .int v11), (0, .ref q_t), (2, .int x2), (3, .int x3)]) hx hb dX7_goYears_66 hl (k := 1) rfl (by rw [ev11]; rfl) (by decide) rfl (fun ls hl => ?_)
        refine lv_goto (tgt := 152) hx hb dX7_goYears_69 (by decide) ?_
        exact wX7_goYears_b152 C0 hN hK hA q_t q_t_book q_t_now q_t_pad q_t_had q_t_sight q_t_takes q_t_worths q_t_fitting q_t_wins q_t_ways q_t_image q_t_isKept t_sights t_shift t_kneels t_signs t_book t_pad post hret _ hk11 v11 t_metAt t_metWho r9 t_acts u10 t_had hf H locs (hP.sub [3, 0, 4, 1, 2] rfl) (hD.sub [3, 0, 4, 1, 2] (by decide) rfl) hS ls (lv_sub hl [1, 0] rfl)
    · have hf := hf.2 c1
      refine lv_aload_n hx hb dX7_goYears_34 rfl (lv_at hl 0 rfl) ?_
      refine va_get (D := D) (ci := 7) (v := .ref q_t_had) (C := RX7) (T := TX7) (N := 20) hx hb hts nX7_goYears_X7 hown hK hP 0 rfl rfl 12 (by decide) (hts _ mX7_goYears_4) (fun _ h9 => h9) rfl dX7_goYears_35 ?_
      refine lv_iload_n hx hb dX7_goYears_38 rfl (lv_at hl 3 rfl) ?_
      refine lv_aload_n hx hb dX7_goYears_39 rfl (lv_at hl 0 rfl) ?_
      refine va_get (D := D) (ci := 7) (v := .ref q_t_now) (C := RX7) (T := TX7) (N := 20) hx hb hts nX7_goYears_X7 hown hK hP 0 rfl rfl 1 (by decide) (hts _ mX7_goYears_5) (fun _ h9 => h9) rfl dX7_goYears_40 ?_
      refine lv_iload_n hx hb dX7_goYears_43 rfl (lv_at hl 3 rfl) ?_
      have g12 := hf.1
      have hf := hf.2
      refine xa_iald hx hb hK hP 2 0 rfl rfl (j := x3.toNatClampNeg) rfl g12 dX7_goYears_44 ?_
      refine lv_topi (fun v13 ev13 => ?_)
      have hf := hf v13 ev13
      have g14 := hf.1
      have hf := hf.2
      refine xa_iast hx hb hK hP hD hS 4 0 rfl rfl (j := x3.toNatClampNeg) rfl g14 dX7_goYears_45 (fun H locs hP hD hS => ?_)
      have hP : va_P D vwCl [(q_t, .inr (7, [.ref q_t_book, .ref q_t_now, .int t_shift, .int t_kneels, .int t_sights, .ref q_t_sight, .int t_signs, .ref q_t_pad, .int t_metAt, .int t_metWho, .int t_reason, .int t_acts, .ref q_t_had, .ref q_t_takes, .ref q_t_worths, .ref q_t_fitting, .ref q_t_wins, .ref q_t_ways, .ref q_t_image, .ref q_t_isKept])), (q_t_book, .inl (cI, 45, .inl t_book)), (q_t_now, .inl (cI, 45, .inl t_now)), (q_t_pad, .inl (cI, 60, .inl t_pad)), (q_t_had, .inl (cI, 6, .inl (upd t_had x3.toNatClampNeg v13)))] H := hP
      have hD : va_D A [(q_t, .inr (7, [.ref q_t_book, .ref q_t_now, .int t_shift, .int t_kneels, .int t_sights, .ref q_t_sight, .int t_signs, .ref q_t_pad, .int t_metAt, .int t_metWho, .int t_reason, .int t_acts, .ref q_t_had, .ref q_t_takes, .ref q_t_worths, .ref q_t_fitting, .ref q_t_wins, .ref q_t_ways, .ref q_t_image, .ref q_t_isKept])), (q_t_book, .inl (cI, 45, .inl t_book)), (q_t_now, .inl (cI, 45, .inl t_now)), (q_t_pad, .inl (cI, 60, .inl t_pad)), (q_t_had, .inl (cI, 6, .inl (upd t_had x3.toNatClampNeg v13)))] := hD
      obtain ⟨v15, ev15⟩ : ∃ y : Int32, y = x3 + 1 := ⟨_, rfl⟩
      have hf := hf v15 ev15
      refine lv_iinc (v := v15) (lv' := [(3, .int v15), (0, .ref q_t), (1, .int x1), (2, .int x2)]) hx hb dX7_goYears_46 hl (k := 3) rfl (by rw [ev15]; rfl) (by decide) rfl (fun ls hl => ?_)
      refine lv_goto (tgt := 28) hx hb dX7_goYears_49 (by decide) ?_
      exact ih x1 x2 v15 t_metAt t_metWho t_reason t_acts t_now (upd t_had x3.toNatClampNeg v13) hf H locs hP hD hS ls (lv_sub hl [1, 2, 3, 0] rfl)

def pX7_goYears_b11 (t_shift : Int32) (t_kneels : Int32) (t_signs : Int32) (t_book : (Nat → Int32)) (t_pad : (Nat → Int32)) (post : Int32 → (Int32 × Int32 × Int32 × Int32 × (Nat → Int32) × (Nat → Int32)) → Prop) : Nat → Int32 → Int32 → Int32 → Int32 → Int32 → (Nat → Int32) → (Nat → Int32) → Prop
  | 0 => fun _ _ _ _ _ _ _ => False
  | n + 1 => fun x1 t_metAt t_metWho t_reason t_acts t_now t_had => (t_signs ≤ x1 → (post (-6) (t_metAt, t_metWho, t_reason, t_acts, t_now, t_had))) ∧ (¬ t_signs ≤ x1 → (vp_in x1 60 ∧ (∀ v3 : Int32, v3 = (t_pad x1.toNatClampNeg) → (∃ n1, pX7_goYears_b28 t_shift t_kneels t_signs t_book t_pad post (fun x1 t_metAt t_metWho t_reason t_acts t_now t_had => pX7_goYears_b11 t_shift t_kneels t_signs t_book t_pad post  n x1 t_metAt t_metWho t_reason t_acts t_now t_had) n1 x1 v3 0 t_metAt t_metWho t_reason t_acts t_now t_had))))

set_option maxHeartbeats 4000000 in
set_option maxRecDepth 100000 in
theorem wX7_goYears_b11 {p : Program} {l : Launch} {e : Env} {s : State} {m : MethodId} {args : Array Value} {below : List Frame} {meth : Method} {c : Code} {Q : State → Prop} {D : va_G} {cI cZ cJ cO : ClassId} {A : Nat → Prop} (C0 : CallFix p m c cX7_goYears 4 s args wsX7_goYears RX7) (hN : nw s) (hK : va_K D vwCl (tyL cI cZ cJ cO) s) (hA : ∀ q, s.heap.size ≤ q → A q) (q_t q_t_book q_t_now q_t_pad q_t_had q_t_sight q_t_takes q_t_worths q_t_fitting q_t_wins q_t_ways q_t_image q_t_isKept : Nat) (t_sights : Int32) (t_shift : Int32) (t_kneels : Int32) (t_signs : Int32) (t_book : (Nat → Int32)) (t_pad : (Nat → Int32)) (post : Int32 → (Int32 × Int32 × Int32 × Int32 × (Nat → Int32) × (Nat → Int32)) → Prop) (hret : hrI p l e ({ frames := 3, cells := 0, slots := 0, locals := 66 } : Room) s m args below meth c cX7_goYears D A Q post (fun u : Int32 × Int32 × Int32 × Int32 × (Nat → Int32) × (Nat → Int32) => [(q_t, .inr (7, [.ref q_t_book, .ref q_t_now, .int t_shift, .int t_kneels, .int t_sights, .ref q_t_sight, .int t_signs, .ref q_t_pad, .int u.1, .int u.2.1, .int u.2.2.1, .int u.2.2.2.1, .ref q_t_had, .ref q_t_takes, .ref q_t_worths, .ref q_t_fitting, .ref q_t_wins, .ref q_t_ways, .ref q_t_image, .ref q_t_isKept])), (q_t_book, .inl (cI, 45, .inl t_book)), (q_t_now, .inl (cI, 45, .inl u.2.2.2.2.1)), (q_t_pad, .inl (cI, 60, .inl t_pad)), (q_t_had, .inl (cI, 6, .inl u.2.2.2.2.2))])) :
    ∀ (n : Nat) (x1 : Int32) (t_metAt : Int32) (t_metWho : Int32) (t_reason : Int32) (t_acts : Int32) (t_now : (Nat → Int32)) (t_had : (Nat → Int32)), pX7_goYears_b11 t_shift t_kneels t_signs t_book t_pad post n x1 t_metAt t_metWho t_reason t_acts t_now t_had → ∀ (H : Heap) (locs : List Loc), va_P D vwCl [(q_t, .inr (7, [.ref q_t_book, .ref q_t_now, .int t_shift, .int t_kneels, .int t_sights, .ref q_t_sight, .int t_signs, .ref q_t_pad, .int t_metAt, .int t_metWho, .int t_reason, .int t_acts, .ref q_t_had, .ref q_t_takes, .ref q_t_worths, .ref q_t_fitting, .ref q_t_wins, .ref q_t_ways, .ref q_t_image, .ref q_t_isKept])), (q_t_book, .inl (cI, 45, .inl t_book)), (q_t_now, .inl (cI, 45, .inl t_now)), (q_t_pad, .inl (cI, 60, .inl t_pad)), (q_t_had, .inl (cI, 6, .inl t_had))] H → va_D A [(q_t, .inr (7, [.ref q_t_book, .ref q_t_now, .int t_shift, .int t_kneels, .int t_sights, .ref q_t_sight, .int t_signs, .ref q_t_pad, .int t_metAt, .int t_metWho, .int t_reason, .int t_acts, .ref q_t_had, .ref q_t_takes, .ref q_t_worths, .ref q_t_fitting, .ref q_t_wins, .ref q_t_ways, .ref q_t_image, .ref q_t_isKept])), (q_t_book, .inl (cI, 45, .inl t_book)), (q_t_now, .inl (cI, 45, .inl t_now)), (q_t_pad, .inl (cI, 60, .inl t_pad)), (q_t_had, .inl (cI, 6, .inl t_had))] → va_S A s.heap H locs → ∀ ls : Array Slot, lv_has ls 4 [(0, .ref q_t), (1, .int x1)] → W p l e ({ frames := 3, cells := 0, slots := 0, locals := 66 } : Room) s m args below meth c H locs 0 0 Q (F0 m 11 ls []) := by
  obtain ⟨hx, hb, hml, hown, hts⟩ := id C0
  intro n
  induction n with
  | zero =>
    intro x1 t_metAt t_metWho t_reason t_acts t_now t_had hf
    exact False.elim hf
  | succ n ih =>
    intro x1 t_metAt t_metWho t_reason t_acts t_now t_had hf H locs hP hD hS ls hl
    rw [pX7_goYears_b11] at hf
    refine lv_iload_n hx hb dX7_goYears_11 rfl (lv_at hl 1 rfl) ?_
    refine lv_aload_n hx hb dX7_goYears_12 rfl (lv_at hl 0 rfl) ?_
    refine va_get (D := D) (ci := 7) (v := .int t_signs) (C := RX7) (T := TX7) (N := 20) hx hb hts nX7_goYears_X7 hown hK hP 0 rfl rfl 6 (by decide) (hts _ mX7_goYears_2) (fun _ h9 => h9) rfl dX7_goYears_13 ?_
    refine lv_icmp_ge (tgt := 206) hx hb dX7_goYears_16 (by decide) (fun c1 => ?_) (fun c1 => ?_)
    · have hf := hf.1 c1
      refine lv_bipush (v := (-6)) hx hb dX7_goYears_206 (by decide) ?_
      exact hret 208 ls H locs (-6) (t_metAt, t_metWho, t_reason, t_acts, t_now, t_had) dX7_goYears_208 hf hP hD hS
    · have hf := hf.2 c1
      refine lv_aload_n hx hb dX7_goYears_19 rfl (lv_at hl 0 rfl) ?_
      refine va_get (D := D) (ci := 7) (v := .ref q_t_pad) (C := RX7) (T := TX7) (N := 20) hx hb hts nX7_goYears_X7 hown hK hP 0 rfl rfl 7 (by decide) (hts _ mX7_goYears_3) (fun _ h9 => h9) rfl dX7_goYears_20 ?_
      refine lv_iload_n hx hb dX7_goYears_23 rfl (lv_at hl 1 rfl) ?_
      have g2 := hf.1
      have hf := hf.2
      refine xa_iald hx hb hK hP 3 0 rfl rfl (j := x1.toNatClampNeg) rfl g2 dX7_goYears_24 ?_
      refine lv_topi (fun v3 ev3 => ?_)
      have hf := hf v3 ev3
      refine lv_istore_n (lv' := [(2, .int v3), (0, .ref q_t), (1, .int x1)]) hx hb dX7_goYears_25 rfl hl (by decide) rfl (fun ls hl => ?_)
      refine lv_iconst (v := 0) hx hb dX7_goYears_26 (by decide) ?_
      refine lv_istore_n (lv' := [(3, .int 0), (2, .int v3), (0, .ref q_t), (1, .int x1)]) hx hb dX7_goYears_27 rfl hl (by decide) rfl (fun ls hl => ?_)
      obtain ⟨n1, hf⟩ := hf
      exact wX7_goYears_b28 C0 hN hK hA q_t q_t_book q_t_now q_t_pad q_t_had q_t_sight q_t_takes q_t_worths q_t_fitting q_t_wins q_t_ways q_t_image q_t_isKept t_sights t_shift t_kneels t_signs t_book t_pad post hret _ ih n1 x1 v3 0 t_metAt t_metWho t_reason t_acts t_now t_had hf H locs hP hD hS ls (lv_sub hl [2, 3, 1, 0] rfl)

def pX7_goYears (t_shift : Int32) (t_kneels : Int32) (t_signs : Int32) (t_metAt : Int32) (t_metWho : Int32) (t_reason : Int32) (t_acts : Int32) (t_book : (Nat → Int32)) (t_now : (Nat → Int32)) (t_pad : (Nat → Int32)) (t_had : (Nat → Int32))  (post : Int32 → (Int32 × Int32 × Int32 × Int32 × (Nat → Int32) × (Nat → Int32)) → Prop) : Prop :=
  pX7_asNow t_metAt t_metWho t_book t_now (fun (u2 : Int32 × Int32 × (Nat → Int32)) => ∃ n1, pX7_goYears_b11 t_shift t_kneels t_signs t_book t_pad post  n1 0 u2.1 u2.2.1 t_reason 0 u2.2.2 t_had)

set_option maxHeartbeats 4000000 in
set_option maxRecDepth 100000 in
theorem kX7_goYears (l : Launch) (D : va_G) (cI cZ cJ cO : ClassId) (q_t q_t_book q_t_now q_t_pad q_t_had q_t_sight q_t_takes q_t_worths q_t_fitting q_t_wins q_t_ways q_t_image q_t_isKept : Nat) (sz : Nat) (t_sights : Int32) (t_shift : Int32) (t_kneels : Int32) (t_signs : Int32) (t_metAt : Int32) (t_metWho : Int32) (t_reason : Int32) (t_acts : Int32) (t_book : (Nat → Int32)) (t_now : (Nat → Int32)) (t_pad : (Nat → Int32)) (t_had : (Nat → Int32))  (post : Int32 → (Int32 × Int32 × Int32 × Int32 × (Nat → Int32) × (Nat → Int32)) → Prop) (hf : pX7_goYears t_shift t_kneels t_signs t_metAt t_metWho t_reason t_acts t_book t_now t_pad t_had post) :
    Met l yX7_goYears wsX7_goYears ({ frames := 3, cells := 0, slots := 0, locals := 66 } : Room) (va_Pc [.ref q_t] (B1 D (tyL cI cZ cJ cO) [(q_t, .inr (7, [.ref q_t_book, .ref q_t_now, .int t_shift, .int t_kneels, .int t_sights, .ref q_t_sight, .int t_signs, .ref q_t_pad, .int t_metAt, .int t_metWho, .int t_reason, .int t_acts, .ref q_t_had, .ref q_t_takes, .ref q_t_worths, .ref q_t_fitting, .ref q_t_wins, .ref q_t_ways, .ref q_t_image, .ref q_t_isKept])), (q_t_book, .inl (cI, 45, .inl t_book)), (q_t_now, .inl (cI, 45, .inl t_now)), (q_t_pad, .inl (cI, 60, .inl t_pad)), (q_t_had, .inl (cI, 6, .inl t_had))] sz)) (va_Qi post (fun u t => E1 D (va_A [(q_t, .inr (7, [.ref q_t_book, .ref q_t_now, .int t_shift, .int t_kneels, .int t_sights, .ref q_t_sight, .int t_signs, .ref q_t_pad, .int t_metAt, .int t_metWho, .int t_reason, .int t_acts, .ref q_t_had, .ref q_t_takes, .ref q_t_worths, .ref q_t_fitting, .ref q_t_wins, .ref q_t_ways, .ref q_t_image, .ref q_t_isKept])), (q_t_book, .inl (cI, 45, .inl t_book)), (q_t_now, .inl (cI, 45, .inl t_now)), (q_t_pad, .inl (cI, 60, .inl t_pad)), (q_t_had, .inl (cI, 6, .inl t_had))] sz) ((fun u : Int32 × Int32 × Int32 × Int32 × (Nat → Int32) × (Nat → Int32) => [(q_t, .inr (7, [.ref q_t_book, .ref q_t_now, .int t_shift, .int t_kneels, .int t_sights, .ref q_t_sight, .int t_signs, .ref q_t_pad, .int u.1, .int u.2.1, .int u.2.2.1, .int u.2.2.2.1, .ref q_t_had, .ref q_t_takes, .ref q_t_worths, .ref q_t_fitting, .ref q_t_wins, .ref q_t_ways, .ref q_t_image, .ref q_t_isKept])), (q_t_book, .inl (cI, 45, .inl t_book)), (q_t_now, .inl (cI, 45, .inl u.2.2.2.2.1)), (q_t_pad, .inl (cI, 60, .inl t_pad)), (q_t_had, .inl (cI, 6, .inl u.2.2.2.2.2))]) u) t) (va_A [(q_t, .inr (7, [.ref q_t_book, .ref q_t_now, .int t_shift, .int t_kneels, .int t_sights, .ref q_t_sight, .int t_signs, .ref q_t_pad, .int t_metAt, .int t_metWho, .int t_reason, .int t_acts, .ref q_t_had, .ref q_t_takes, .ref q_t_worths, .ref q_t_fitting, .ref q_t_wins, .ref q_t_ways, .ref q_t_image, .ref q_t_isKept])), (q_t_book, .inl (cI, 45, .inl t_book)), (q_t_now, .inl (cI, 45, .inl t_now)), (q_t_pad, .inl (cI, 60, .inl t_pad)), (q_t_had, .inl (cI, 6, .inl t_had))] sz)) 0 0 (va_A [(q_t, .inr (7, [.ref q_t_book, .ref q_t_now, .int t_shift, .int t_kneels, .int t_sights, .ref q_t_sight, .int t_signs, .ref q_t_pad, .int t_metAt, .int t_metWho, .int t_reason, .int t_acts, .ref q_t_had, .ref q_t_takes, .ref q_t_worths, .ref q_t_fitting, .ref q_t_wins, .ref q_t_ways, .ref q_t_image, .ref q_t_isKept])), (q_t_book, .inl (cI, 45, .inl t_book)), (q_t_now, .inl (cI, 45, .inl t_now)), (q_t_pad, .inl (cI, 60, .inl t_pad)), (q_t_had, .inl (cI, 6, .inl t_had))] sz) := by
  unfold pX7_goYears at hf
  refine xm_1i (own := RX7) (by decide) rfl rfl (Nat.le_of_ble_eq_true rfl) (fun p e s m args below meth c Q A C0 hN hK hA hret hP hD ls hl => ?_)
  obtain ⟨hx, hb, hml, hown, hts⟩ := id C0
  have hl : lv_has ls 4 [(0, .ref q_t)] := hl
  have hS : va_S A s.heap s.heap [] := va_S.rf
  obtain ⟨H, hHe⟩ : ∃ H, H = s.heap := ⟨_, rfl⟩
  obtain ⟨locs, hLe⟩ : ∃ L : List Loc, L = [] := ⟨_, rfl⟩
  rw [← hLe]
  rw [← hLe] at hS
  have hP : va_P D vwCl [(q_t, .inr (7, [.ref q_t_book, .ref q_t_now, .int t_shift, .int t_kneels, .int t_sights, .ref q_t_sight, .int t_signs, .ref q_t_pad, .int t_metAt, .int t_metWho, .int t_reason, .int t_acts, .ref q_t_had, .ref q_t_takes, .ref q_t_worths, .ref q_t_fitting, .ref q_t_wins, .ref q_t_ways, .ref q_t_image, .ref q_t_isKept])), (q_t_book, .inl (cI, 45, .inl t_book)), (q_t_now, .inl (cI, 45, .inl t_now)), (q_t_pad, .inl (cI, 60, .inl t_pad)), (q_t_had, .inl (cI, 6, .inl t_had))] H := by rw [hHe]; exact hP
  have hS : va_S A s.heap H locs := by rw [hHe]; exact hS
  suffices hgo : W p l e ({ frames := 3, cells := 0, slots := 0, locals := 66 } : Room) s m args below meth c H locs 0 0 Q (F0 m 0 ls []) by rw [← hHe]; exact hgo
  clear hHe hLe
  refine lv_aload_n hx hb dX7_goYears_0 rfl (lv_at hl 0 rfl) ?_
  refine xc_v (wr := [(q_t_pad, .inl (cI, 60, .inl t_pad)), (q_t_had, .inl (cI, 6, .inl t_had))]) (va_runV (As := []) (rest := []) ⟨hx, hb, hml, hown, hts⟩ (kX7_asNow l D cI cZ cJ cO q_t q_t_book q_t_now q_t_sight q_t_pad q_t_had q_t_takes q_t_worths q_t_fitting q_t_wins q_t_ways q_t_image q_t_isKept H.size t_shift t_kneels t_sights t_signs t_reason t_acts t_metAt t_metWho t_book t_now _ hf) (cwV 0 hts gX7_goYears_X7_asNow rfl rfl rfl (by decide +kernel) ⟨Nat.le_of_ble_eq_true rfl, Nat.le_of_ble_eq_true rfl⟩) (B1_preV (ci := 7) (q0 := 0) hP rfl rfl (hP.sub (ws' := [(q_t, .inr (7, [.ref q_t_book, .ref q_t_now, .int t_shift, .int t_kneels, .int t_sights, .ref q_t_sight, .int t_signs, .ref q_t_pad, .int t_metAt, .int t_metWho, .int t_reason, .int t_acts, .ref q_t_had, .ref q_t_takes, .ref q_t_worths, .ref q_t_fitting, .ref q_t_wins, .ref q_t_ways, .ref q_t_image, .ref q_t_isKept])), (q_t_book, .inl (cI, 45, .inl t_book)), (q_t_now, .inl (cI, 45, .inl t_now))]) [0, 1, 2] rfl) hK hN (hD.sub (ws' := [(q_t, .inr (7, [.ref q_t_book, .ref q_t_now, .int t_shift, .int t_kneels, .int t_sights, .ref q_t_sight, .int t_signs, .ref q_t_pad, .int t_metAt, .int t_metWho, .int t_reason, .int t_acts, .ref q_t_had, .ref q_t_takes, .ref q_t_worths, .ref q_t_fitting, .ref q_t_wins, .ref q_t_ways, .ref q_t_image, .ref q_t_isKept])), (q_t_book, .inl (cI, 45, .inl t_book)), (q_t_now, .inl (cI, 45, .inl t_now))]) [0, 1, 2] (by decide) rfl)) rfl rfl hl.1 rfl (lv_room (Nat.le_of_ble_eq_true rfl)) dX7_goYears_1 ⟨Nat.zero_le _, Nat.zero_le _⟩) hP hD hS hA [0, 1, 2] [3, 4] rfl rfl (by decide) (by decide) (fun u2 H locs hf hP hD hS => ?_)
  have hP : va_P D vwCl [(q_t_pad, .inl (cI, 60, .inl t_pad)), (q_t_had, .inl (cI, 6, .inl t_had)), (q_t, .inr (7, [.ref q_t_book, .ref q_t_now, .int t_shift, .int t_kneels, .int t_sights, .ref q_t_sight, .int t_signs, .ref q_t_pad, .int u2.1, .int u2.2.1, .int t_reason, .int t_acts, .ref q_t_had, .ref q_t_takes, .ref q_t_worths, .ref q_t_fitting, .ref q_t_wins, .ref q_t_ways, .ref q_t_image, .ref q_t_isKept])), (q_t_book, .inl (cI, 45, .inl t_book)), (q_t_now, .inl (cI, 45, .inl u2.2.2))] H := hP
  have hD : va_D A [(q_t_pad, .inl (cI, 60, .inl t_pad)), (q_t_had, .inl (cI, 6, .inl t_had)), (q_t, .inr (7, [.ref q_t_book, .ref q_t_now, .int t_shift, .int t_kneels, .int t_sights, .ref q_t_sight, .int t_signs, .ref q_t_pad, .int u2.1, .int u2.2.1, .int t_reason, .int t_acts, .ref q_t_had, .ref q_t_takes, .ref q_t_worths, .ref q_t_fitting, .ref q_t_wins, .ref q_t_ways, .ref q_t_image, .ref q_t_isKept])), (q_t_book, .inl (cI, 45, .inl t_book)), (q_t_now, .inl (cI, 45, .inl u2.2.2))] := hD
  refine lv_aload_n hx hb dX7_goYears_4 rfl (lv_at hl 0 rfl) ?_
  refine lv_iconst (v := 0) hx hb dX7_goYears_5 (by decide) ?_
  refine va_put (D := D) (ci := 7) (v := .int 0) (ty := .int) (C := RX7) (T := TX7) (N := 20) hx hb hts nX7_goYears_X7 tyX7 tyX7_ok nmX7 hown hK hP hD hS 2 rfl rfl 11 (by decide) (hts _ mX7_goYears_1) (fun _ h9 => h9) rfl (by decide +kernel) rfl rfl (Nat.le_of_ble_eq_true rfl) dX7_goYears_6 (fun H locs hP hD hS => ?_)
  have hP : va_P D vwCl [(q_t_pad, .inl (cI, 60, .inl t_pad)), (q_t_had, .inl (cI, 6, .inl t_had)), (q_t, .inr (7, [.ref q_t_book, .ref q_t_now, .int t_shift, .int t_kneels, .int t_sights, .ref q_t_sight, .int t_signs, .ref q_t_pad, .int u2.1, .int u2.2.1, .int t_reason, .int 0, .ref q_t_had, .ref q_t_takes, .ref q_t_worths, .ref q_t_fitting, .ref q_t_wins, .ref q_t_ways, .ref q_t_image, .ref q_t_isKept])), (q_t_book, .inl (cI, 45, .inl t_book)), (q_t_now, .inl (cI, 45, .inl u2.2.2))] H := hP
  have hD : va_D A [(q_t_pad, .inl (cI, 60, .inl t_pad)), (q_t_had, .inl (cI, 6, .inl t_had)), (q_t, .inr (7, [.ref q_t_book, .ref q_t_now, .int t_shift, .int t_kneels, .int t_sights, .ref q_t_sight, .int t_signs, .ref q_t_pad, .int u2.1, .int u2.2.1, .int t_reason, .int 0, .ref q_t_had, .ref q_t_takes, .ref q_t_worths, .ref q_t_fitting, .ref q_t_wins, .ref q_t_ways, .ref q_t_image, .ref q_t_isKept])), (q_t_book, .inl (cI, 45, .inl t_book)), (q_t_now, .inl (cI, 45, .inl u2.2.2))] := hD
  refine lv_iconst (v := 0) hx hb dX7_goYears_9 (by decide) ?_
  refine lv_istore_n (lv' := [(1, .int 0), (0, .ref q_t)]) hx hb dX7_goYears_10 rfl hl (by decide) rfl (fun ls hl => ?_)
  obtain ⟨n1, hf⟩ := hf
  exact wX7_goYears_b11 C0 hN hK hA q_t q_t_book q_t_now q_t_pad q_t_had q_t_sight q_t_takes q_t_worths q_t_fitting q_t_wins q_t_ways q_t_image q_t_isKept t_sights t_shift t_kneels t_signs t_book t_pad post hret   n1 0 u2.1 u2.2.1 t_reason 0 u2.2.2 t_had hf H locs (hP.sub [2, 3, 4, 0, 1] rfl) (hD.sub [2, 3, 4, 0, 1] (by decide) rfl) hS ls (lv_sub hl [1, 0] rfl)

/-! X7_judge -/
theorem mX7_judge_1 : Cond.fieldLink RX7 111 "OxenKneelModel" "reason" "I" ∈ wsX7_judge := List.mem_of_getElem? (i := 1) rfl
theorem nX7_judge_X7 : ∀ w ∈ wsX70, w ∈ wsX7_judge := fun _ h => List.mem_cons_of_mem _ (List.mem_append_right _ h)
def pX7_judge (t_shift : Int32) (t_kneels : Int32) (t_signs : Int32) (t_metAt : Int32) (t_metWho : Int32) (t_reason : Int32) (t_acts : Int32) (t_book : (Nat → Int32)) (t_now : (Nat → Int32)) (t_pad : (Nat → Int32)) (t_had : (Nat → Int32)) (a1 : Int32) (post : Int32 → (Int32 × Int32 × Int32 × Int32 × (Nat → Int32) × (Nat → Int32)) → Prop) : Prop :=
  pX7_in a1 0 1 (fun r1 => (¬ r1 = 0 → (pX7_faultOf t_signs t_pad (fun r3 => (r3 < 0 → (pX7_goYears t_shift t_kneels t_signs t_metAt t_metWho t_reason t_acts t_book t_now t_pad t_had (fun (r5 : Int32) (u6 : Int32 × Int32 × Int32 × Int32 × (Nat → Int32) × (Nat → Int32)) => (r5 < 0 → (post r5 (u6.1, u6.2.1, u6.2.2.1, u6.2.2.2.1, u6.2.2.2.2.1, u6.2.2.2.2.2))) ∧ (¬ r5 < 0 → ((¬ a1 = 0 → (post u6.2.2.1 (u6.1, u6.2.1, u6.2.2.1, u6.2.2.2.1, u6.2.2.2.2.1, u6.2.2.2.2.2))) ∧ (a1 = 0 → (post r5 (u6.1, u6.2.1, u6.2.2.1, u6.2.2.2.1, u6.2.2.2.2.1, u6.2.2.2.2.2)))))))) ∧ (¬ r3 < 0 → (post (-5) (t_metAt, t_metWho, t_reason, t_acts, t_now, t_had)))))) ∧ (r1 = 0 → (post (-2) (t_metAt, t_metWho, t_reason, t_acts, t_now, t_had))))

set_option maxHeartbeats 4000000 in
set_option maxRecDepth 100000 in
theorem kX7_judge (l : Launch) (D : va_G) (cI cZ cJ cO : ClassId) (q_t q_t_book q_t_now q_t_pad q_t_had q_t_sight q_t_takes q_t_worths q_t_fitting q_t_wins q_t_ways q_t_image q_t_isKept : Nat) (sz : Nat) (t_sights : Int32) (t_shift : Int32) (t_kneels : Int32) (t_signs : Int32) (t_metAt : Int32) (t_metWho : Int32) (t_reason : Int32) (t_acts : Int32) (t_book : (Nat → Int32)) (t_now : (Nat → Int32)) (t_pad : (Nat → Int32)) (t_had : (Nat → Int32)) (a1 : Int32) (post : Int32 → (Int32 × Int32 × Int32 × Int32 × (Nat → Int32) × (Nat → Int32)) → Prop) (hf : pX7_judge t_shift t_kneels t_signs t_metAt t_metWho t_reason t_acts t_book t_now t_pad t_had a1 post) :
    Met l yX7_judge wsX7_judge ({ frames := 4, cells := 0, slots := 0, locals := 89 } : Room) (va_Pc [.ref q_t, .int a1] (B1 D (tyL cI cZ cJ cO) [(q_t, .inr (7, [.ref q_t_book, .ref q_t_now, .int t_shift, .int t_kneels, .int t_sights, .ref q_t_sight, .int t_signs, .ref q_t_pad, .int t_metAt, .int t_metWho, .int t_reason, .int t_acts, .ref q_t_had, .ref q_t_takes, .ref q_t_worths, .ref q_t_fitting, .ref q_t_wins, .ref q_t_ways, .ref q_t_image, .ref q_t_isKept])), (q_t_book, .inl (cI, 45, .inl t_book)), (q_t_now, .inl (cI, 45, .inl t_now)), (q_t_pad, .inl (cI, 60, .inl t_pad)), (q_t_had, .inl (cI, 6, .inl t_had))] sz)) (va_Qi post (fun u t => E1 D (va_A [(q_t, .inr (7, [.ref q_t_book, .ref q_t_now, .int t_shift, .int t_kneels, .int t_sights, .ref q_t_sight, .int t_signs, .ref q_t_pad, .int t_metAt, .int t_metWho, .int t_reason, .int t_acts, .ref q_t_had, .ref q_t_takes, .ref q_t_worths, .ref q_t_fitting, .ref q_t_wins, .ref q_t_ways, .ref q_t_image, .ref q_t_isKept])), (q_t_book, .inl (cI, 45, .inl t_book)), (q_t_now, .inl (cI, 45, .inl t_now)), (q_t_pad, .inl (cI, 60, .inl t_pad)), (q_t_had, .inl (cI, 6, .inl t_had))] sz) ((fun u : Int32 × Int32 × Int32 × Int32 × (Nat → Int32) × (Nat → Int32) => [(q_t, .inr (7, [.ref q_t_book, .ref q_t_now, .int t_shift, .int t_kneels, .int t_sights, .ref q_t_sight, .int t_signs, .ref q_t_pad, .int u.1, .int u.2.1, .int u.2.2.1, .int u.2.2.2.1, .ref q_t_had, .ref q_t_takes, .ref q_t_worths, .ref q_t_fitting, .ref q_t_wins, .ref q_t_ways, .ref q_t_image, .ref q_t_isKept])), (q_t_book, .inl (cI, 45, .inl t_book)), (q_t_now, .inl (cI, 45, .inl u.2.2.2.2.1)), (q_t_pad, .inl (cI, 60, .inl t_pad)), (q_t_had, .inl (cI, 6, .inl u.2.2.2.2.2))]) u) t) (va_A [(q_t, .inr (7, [.ref q_t_book, .ref q_t_now, .int t_shift, .int t_kneels, .int t_sights, .ref q_t_sight, .int t_signs, .ref q_t_pad, .int t_metAt, .int t_metWho, .int t_reason, .int t_acts, .ref q_t_had, .ref q_t_takes, .ref q_t_worths, .ref q_t_fitting, .ref q_t_wins, .ref q_t_ways, .ref q_t_image, .ref q_t_isKept])), (q_t_book, .inl (cI, 45, .inl t_book)), (q_t_now, .inl (cI, 45, .inl t_now)), (q_t_pad, .inl (cI, 60, .inl t_pad)), (q_t_had, .inl (cI, 6, .inl t_had))] sz)) 0 0 (va_A [(q_t, .inr (7, [.ref q_t_book, .ref q_t_now, .int t_shift, .int t_kneels, .int t_sights, .ref q_t_sight, .int t_signs, .ref q_t_pad, .int t_metAt, .int t_metWho, .int t_reason, .int t_acts, .ref q_t_had, .ref q_t_takes, .ref q_t_worths, .ref q_t_fitting, .ref q_t_wins, .ref q_t_ways, .ref q_t_image, .ref q_t_isKept])), (q_t_book, .inl (cI, 45, .inl t_book)), (q_t_now, .inl (cI, 45, .inl t_now)), (q_t_pad, .inl (cI, 60, .inl t_pad)), (q_t_had, .inl (cI, 6, .inl t_had))] sz) := by
  unfold pX7_judge at hf
  refine xm_1i (own := RX7) (by decide) rfl rfl (Nat.le_of_ble_eq_true rfl) (fun p e s m args below meth c Q A C0 hN hK hA hret hP hD ls hl => ?_)
  obtain ⟨hx, hb, hml, hown, hts⟩ := id C0
  have hl : lv_has ls 3 [(0, .ref q_t), (1, .int a1)] := hl
  have hS : va_S A s.heap s.heap [] := va_S.rf
  obtain ⟨H, hHe⟩ : ∃ H, H = s.heap := ⟨_, rfl⟩
  obtain ⟨locs, hLe⟩ : ∃ L : List Loc, L = [] := ⟨_, rfl⟩
  rw [← hLe]
  rw [← hLe] at hS
  have hP : va_P D vwCl [(q_t, .inr (7, [.ref q_t_book, .ref q_t_now, .int t_shift, .int t_kneels, .int t_sights, .ref q_t_sight, .int t_signs, .ref q_t_pad, .int t_metAt, .int t_metWho, .int t_reason, .int t_acts, .ref q_t_had, .ref q_t_takes, .ref q_t_worths, .ref q_t_fitting, .ref q_t_wins, .ref q_t_ways, .ref q_t_image, .ref q_t_isKept])), (q_t_book, .inl (cI, 45, .inl t_book)), (q_t_now, .inl (cI, 45, .inl t_now)), (q_t_pad, .inl (cI, 60, .inl t_pad)), (q_t_had, .inl (cI, 6, .inl t_had))] H := by rw [hHe]; exact hP
  have hS : va_S A s.heap H locs := by rw [hHe]; exact hS
  suffices hgo : W p l e ({ frames := 4, cells := 0, slots := 0, locals := 89 } : Room) s m args below meth c H locs 0 0 Q (F0 m 0 ls []) by rw [← hHe]; exact hgo
  clear hHe hLe
  refine lv_iload_n hx hb dX7_judge_0 rfl (lv_at hl 1 rfl) ?_
  refine lv_iconst (v := 0) hx hb dX7_judge_1 (by decide) ?_
  refine lv_iconst (v := 1) hx hb dX7_judge_2 (by decide) ?_
  refine xs_i (va_runS (As := [.int a1, .int 0, .int 1]) (rest := []) ⟨hx, hb, hml, hown, hts⟩ (kX7_in l D cI cZ cJ cO a1 0 1 _ hf) (va_cwS 3 hts gX7_judge_X7_in rfl rfl rfl (by decide +kernel) ⟨Nat.le_of_ble_eq_true rfl, Nat.le_of_ble_eq_true rfl⟩) (B0_pre (hP.sub (ws' := []) [] rfl) hK hN) rfl rfl hl.1 rfl (lv_room (Nat.le_of_ble_eq_true rfl)) dX7_judge_3 ⟨Nat.zero_le _, Nat.zero_le _⟩) (fun r1 hf => ?_)
  refine lv_if_ne (tgt := 12) hx hb dX7_judge_6 (by decide) (fun c2 => ?_) (fun c2 => ?_)
  · have hf := hf.1 c2
    refine lv_aload_n hx hb dX7_judge_12 rfl (lv_at hl 0 rfl) ?_
    refine xs_i (va_runV (As := []) (rest := []) ⟨hx, hb, hml, hown, hts⟩ (kX7_faultOf l D cI cZ cJ cO q_t q_t_pad q_t_book q_t_now q_t_sight q_t_had q_t_takes q_t_worths q_t_fitting q_t_wins q_t_ways q_t_image q_t_isKept t_shift t_kneels t_sights t_metAt t_metWho t_reason t_acts t_signs t_pad _ hf) (cwV 0 hts gX7_judge_X7_faultOf rfl rfl rfl (by decide +kernel) ⟨Nat.le_of_ble_eq_true rfl, Nat.le_of_ble_eq_true rfl⟩) (B0_preV (ci := 7) (q0 := 0) hP rfl rfl (hP.sub (ws' := [(q_t, .inr (7, [.ref q_t_book, .ref q_t_now, .int t_shift, .int t_kneels, .int t_sights, .ref q_t_sight, .int t_signs, .ref q_t_pad, .int t_metAt, .int t_metWho, .int t_reason, .int t_acts, .ref q_t_had, .ref q_t_takes, .ref q_t_worths, .ref q_t_fitting, .ref q_t_wins, .ref q_t_ways, .ref q_t_image, .ref q_t_isKept])), (q_t_pad, .inl (cI, 60, .inl t_pad))]) [0, 3] rfl) hK hN) rfl rfl hl.1 rfl (lv_room (Nat.le_of_ble_eq_true rfl)) dX7_judge_13 ⟨Nat.zero_le _, Nat.zero_le _⟩) (fun r3 hf => ?_)
    refine lv_if_lt (tgt := 22) hx hb dX7_judge_16 (by decide) (fun c4 => ?_) (fun c4 => ?_)
    · have hf := hf.1 c4
      refine lv_aload_n hx hb dX7_judge_22 rfl (lv_at hl 0 rfl) ?_
      refine xc_i (wr := []) (va_runV (As := []) (rest := []) ⟨hx, hb, hml, hown, hts⟩ (kX7_goYears l D cI cZ cJ cO q_t q_t_book q_t_now q_t_pad q_t_had q_t_sight q_t_takes q_t_worths q_t_fitting q_t_wins q_t_ways q_t_image q_t_isKept H.size t_sights t_shift t_kneels t_signs t_metAt t_metWho t_reason t_acts t_book t_now t_pad t_had _ hf) (cwV 0 hts gX7_judge_X7_goYears rfl rfl rfl (by decide +kernel) ⟨Nat.le_of_ble_eq_true rfl, Nat.le_of_ble_eq_true rfl⟩) (B1_preV (ci := 7) (q0 := 0) hP rfl rfl (hP.sub (ws' := [(q_t, .inr (7, [.ref q_t_book, .ref q_t_now, .int t_shift, .int t_kneels, .int t_sights, .ref q_t_sight, .int t_signs, .ref q_t_pad, .int t_metAt, .int t_metWho, .int t_reason, .int t_acts, .ref q_t_had, .ref q_t_takes, .ref q_t_worths, .ref q_t_fitting, .ref q_t_wins, .ref q_t_ways, .ref q_t_image, .ref q_t_isKept])), (q_t_book, .inl (cI, 45, .inl t_book)), (q_t_now, .inl (cI, 45, .inl t_now)), (q_t_pad, .inl (cI, 60, .inl t_pad)), (q_t_had, .inl (cI, 6, .inl t_had))]) [0, 1, 2, 3, 4] rfl) hK hN (hD.sub (ws' := [(q_t, .inr (7, [.ref q_t_book, .ref q_t_now, .int t_shift, .int t_kneels, .int t_sights, .ref q_t_sight, .int t_signs, .ref q_t_pad, .int t_metAt, .int t_metWho, .int t_reason, .int t_acts, .ref q_t_had, .ref q_t_takes, .ref q_t_worths, .ref q_t_fitting, .ref q_t_wins, .ref q_t_ways, .ref q_t_image, .ref q_t_isKept])), (q_t_book, .inl (cI, 45, .inl t_book)), (q_t_now, .inl (cI, 45, .inl t_now)), (q_t_pad, .inl (cI, 60, .inl t_pad)), (q_t_had, .inl (cI, 6, .inl t_had))]) [0, 1, 2, 3, 4] (by decide) rfl)) rfl rfl hl.1 rfl (lv_room (Nat.le_of_ble_eq_true rfl)) dX7_judge_23 ⟨Nat.zero_le _, Nat.zero_le _⟩) hP hD hS hA [0, 1, 2, 3, 4] [] rfl rfl (by decide) (by decide) (fun r5 u6 H locs hf hP hD hS => ?_)
      have hP : va_P D vwCl [(q_t, .inr (7, [.ref q_t_book, .ref q_t_now, .int t_shift, .int t_kneels, .int t_sights, .ref q_t_sight, .int t_signs, .ref q_t_pad, .int u6.1, .int u6.2.1, .int u6.2.2.1, .int u6.2.2.2.1, .ref q_t_had, .ref q_t_takes, .ref q_t_worths, .ref q_t_fitting, .ref q_t_wins, .ref q_t_ways, .ref q_t_image, .ref q_t_isKept])), (q_t_book, .inl (cI, 45, .inl t_book)), (q_t_now, .inl (cI, 45, .inl u6.2.2.2.2.1)), (q_t_pad, .inl (cI, 60, .inl t_pad)), (q_t_had, .inl (cI, 6, .inl u6.2.2.2.2.2))] H := hP
      have hD : va_D A [(q_t, .inr (7, [.ref q_t_book, .ref q_t_now, .int t_shift, .int t_kneels, .int t_sights, .ref q_t_sight, .int t_signs, .ref q_t_pad, .int u6.1, .int u6.2.1, .int u6.2.2.1, .int u6.2.2.2.1, .ref q_t_had, .ref q_t_takes, .ref q_t_worths, .ref q_t_fitting, .ref q_t_wins, .ref q_t_ways, .ref q_t_image, .ref q_t_isKept])), (q_t_book, .inl (cI, 45, .inl t_book)), (q_t_now, .inl (cI, 45, .inl u6.2.2.2.2.1)), (q_t_pad, .inl (cI, 60, .inl t_pad)), (q_t_had, .inl (cI, 6, .inl u6.2.2.2.2.2))] := hD
      refine lv_istore_n (lv' := [(2, .int r5), (0, .ref q_t), (1, .int a1)]) hx hb dX7_judge_26 rfl hl (by decide) rfl (fun ls hl => ?_)
      refine lv_iload_n hx hb dX7_judge_27 rfl (lv_at hl 0 rfl) ?_
      refine lv_if_lt (tgt := 35) hx hb dX7_judge_28 (by decide) (fun c7 => ?_) (fun c7 => ?_)
      · have hf := hf.1 c7
        refine lv_iload_n hx hb dX7_judge_35 rfl (lv_at hl 0 rfl) ?_
        refine lv_goto (tgt := 43) hx hb dX7_judge_36 (by decide) ?_
        exact hret 43 ls H locs r5 (u6.1, u6.2.1, u6.2.2.1, u6.2.2.2.1, u6.2.2.2.2.1, u6.2.2.2.2.2) dX7_judge_43 hf hP hD hS
      · have hf := hf.2 c7
        refine lv_iload_n hx hb dX7_judge_31 rfl (lv_at hl 2 rfl) ?_
        refine lv_if_ne (tgt := 39) hx hb dX7_judge_32 (by decide) (fun c8 => ?_) (fun c8 => ?_)
        · have hf := hf.1 c8
          refine lv_aload_n hx hb dX7_judge_39 rfl (lv_at hl 1 rfl) ?_
          refine va_get (D := D) (ci := 7) (v := .int u6.2.2.1) (C := RX7) (T := TX7) (N := 20) hx hb hts nX7_judge_X7 hown hK hP 0 rfl rfl 10 (by decide) (hts _ mX7_judge_1) (fun _ h9 => h9) rfl dX7_judge_40 ?_
          exact hret 43 ls H locs u6.2.2.1 (u6.1, u6.2.1, u6.2.2.1, u6.2.2.2.1, u6.2.2.2.2.1, u6.2.2.2.2.2) dX7_judge_43 hf hP hD hS
        · have hf := hf.2 c8
          refine lv_iload_n hx hb dX7_judge_35 rfl (lv_at hl 0 rfl) ?_
          refine lv_goto (tgt := 43) hx hb dX7_judge_36 (by decide) ?_
          exact hret 43 ls H locs r5 (u6.1, u6.2.1, u6.2.2.1, u6.2.2.2.1, u6.2.2.2.2.1, u6.2.2.2.2.2) dX7_judge_43 hf hP hD hS
    · have hf := hf.2 c4
      refine lv_bipush (v := (-5)) hx hb dX7_judge_19 (by decide) ?_
      exact hret 21 ls H locs (-5) (t_metAt, t_metWho, t_reason, t_acts, t_now, t_had) dX7_judge_21 hf hP hD hS
  · have hf := hf.2 c2
    refine lv_bipush (v := (-2)) hx hb dX7_judge_9 (by decide) ?_
    exact hret 11 ls H locs (-2) (t_metAt, t_metWho, t_reason, t_acts, t_now, t_had) dX7_judge_11 hf hP hD hS

/-! X7_barOfYears -/

def pX7_barOfYears (t_shift : Int32) (t_kneels : Int32) (t_signs : Int32) (t_metAt : Int32) (t_metWho : Int32) (t_reason : Int32) (t_acts : Int32) (t_book : (Nat → Int32)) (t_now : (Nat → Int32)) (t_pad : (Nat → Int32)) (t_had : (Nat → Int32))  (post : Int32 → (Int32 × Int32 × Int32 × Int32 × (Nat → Int32) × (Nat → Int32)) → Prop) : Prop :=
  pX7_faultOf t_signs t_pad (fun r1 => (0 ≤ r1 → (post (-5) (t_metAt, t_metWho, t_reason, t_acts, t_now, t_had))) ∧ (¬ 0 ≤ r1 → (pX7_goYears t_shift t_kneels t_signs t_metAt t_metWho t_reason t_acts t_book t_now t_pad t_had (fun (r3 : Int32) (u4 : Int32 × Int32 × Int32 × Int32 × (Nat → Int32) × (Nat → Int32)) => (r3 < 0 → (post 0 (u4.1, u4.2.1, u4.2.2.1, u4.2.2.2.1, u4.2.2.2.2.1, u4.2.2.2.2.2))) ∧ (¬ r3 < 0 → (post (-5) (u4.1, u4.2.1, u4.2.2.1, u4.2.2.2.1, u4.2.2.2.2.1, u4.2.2.2.2.2)))))))

set_option maxHeartbeats 4000000 in
set_option maxRecDepth 100000 in
theorem kX7_barOfYears (l : Launch) (D : va_G) (cI cZ cJ cO : ClassId) (q_t q_t_book q_t_now q_t_pad q_t_had q_t_sight q_t_takes q_t_worths q_t_fitting q_t_wins q_t_ways q_t_image q_t_isKept : Nat) (sz : Nat) (t_sights : Int32) (t_shift : Int32) (t_kneels : Int32) (t_signs : Int32) (t_metAt : Int32) (t_metWho : Int32) (t_reason : Int32) (t_acts : Int32) (t_book : (Nat → Int32)) (t_now : (Nat → Int32)) (t_pad : (Nat → Int32)) (t_had : (Nat → Int32))  (post : Int32 → (Int32 × Int32 × Int32 × Int32 × (Nat → Int32) × (Nat → Int32)) → Prop) (hf : pX7_barOfYears t_shift t_kneels t_signs t_metAt t_metWho t_reason t_acts t_book t_now t_pad t_had post) :
    Met l yX7_barOfYears wsX7_barOfYears ({ frames := 4, cells := 0, slots := 0, locals := 89 } : Room) (va_Pc [.ref q_t] (B1 D (tyL cI cZ cJ cO) [(q_t, .inr (7, [.ref q_t_book, .ref q_t_now, .int t_shift, .int t_kneels, .int t_sights, .ref q_t_sight, .int t_signs, .ref q_t_pad, .int t_metAt, .int t_metWho, .int t_reason, .int t_acts, .ref q_t_had, .ref q_t_takes, .ref q_t_worths, .ref q_t_fitting, .ref q_t_wins, .ref q_t_ways, .ref q_t_image, .ref q_t_isKept])), (q_t_book, .inl (cI, 45, .inl t_book)), (q_t_now, .inl (cI, 45, .inl t_now)), (q_t_pad, .inl (cI, 60, .inl t_pad)), (q_t_had, .inl (cI, 6, .inl t_had))] sz)) (va_Qi post (fun u t => E1 D (va_A [(q_t, .inr (7, [.ref q_t_book, .ref q_t_now, .int t_shift, .int t_kneels, .int t_sights, .ref q_t_sight, .int t_signs, .ref q_t_pad, .int t_metAt, .int t_metWho, .int t_reason, .int t_acts, .ref q_t_had, .ref q_t_takes, .ref q_t_worths, .ref q_t_fitting, .ref q_t_wins, .ref q_t_ways, .ref q_t_image, .ref q_t_isKept])), (q_t_book, .inl (cI, 45, .inl t_book)), (q_t_now, .inl (cI, 45, .inl t_now)), (q_t_pad, .inl (cI, 60, .inl t_pad)), (q_t_had, .inl (cI, 6, .inl t_had))] sz) ((fun u : Int32 × Int32 × Int32 × Int32 × (Nat → Int32) × (Nat → Int32) => [(q_t, .inr (7, [.ref q_t_book, .ref q_t_now, .int t_shift, .int t_kneels, .int t_sights, .ref q_t_sight, .int t_signs, .ref q_t_pad, .int u.1, .int u.2.1, .int u.2.2.1, .int u.2.2.2.1, .ref q_t_had, .ref q_t_takes, .ref q_t_worths, .ref q_t_fitting, .ref q_t_wins, .ref q_t_ways, .ref q_t_image, .ref q_t_isKept])), (q_t_book, .inl (cI, 45, .inl t_book)), (q_t_now, .inl (cI, 45, .inl u.2.2.2.2.1)), (q_t_pad, .inl (cI, 60, .inl t_pad)), (q_t_had, .inl (cI, 6, .inl u.2.2.2.2.2))]) u) t) (va_A [(q_t, .inr (7, [.ref q_t_book, .ref q_t_now, .int t_shift, .int t_kneels, .int t_sights, .ref q_t_sight, .int t_signs, .ref q_t_pad, .int t_metAt, .int t_metWho, .int t_reason, .int t_acts, .ref q_t_had, .ref q_t_takes, .ref q_t_worths, .ref q_t_fitting, .ref q_t_wins, .ref q_t_ways, .ref q_t_image, .ref q_t_isKept])), (q_t_book, .inl (cI, 45, .inl t_book)), (q_t_now, .inl (cI, 45, .inl t_now)), (q_t_pad, .inl (cI, 60, .inl t_pad)), (q_t_had, .inl (cI, 6, .inl t_had))] sz)) 0 0 (va_A [(q_t, .inr (7, [.ref q_t_book, .ref q_t_now, .int t_shift, .int t_kneels, .int t_sights, .ref q_t_sight, .int t_signs, .ref q_t_pad, .int t_metAt, .int t_metWho, .int t_reason, .int t_acts, .ref q_t_had, .ref q_t_takes, .ref q_t_worths, .ref q_t_fitting, .ref q_t_wins, .ref q_t_ways, .ref q_t_image, .ref q_t_isKept])), (q_t_book, .inl (cI, 45, .inl t_book)), (q_t_now, .inl (cI, 45, .inl t_now)), (q_t_pad, .inl (cI, 60, .inl t_pad)), (q_t_had, .inl (cI, 6, .inl t_had))] sz) := by
  unfold pX7_barOfYears at hf
  refine xm_1i (own := RX7) (by decide) rfl rfl (Nat.le_of_ble_eq_true rfl) (fun p e s m args below meth c Q A C0 hN hK hA hret hP hD ls hl => ?_)
  obtain ⟨hx, hb, hml, hown, hts⟩ := id C0
  have hl : lv_has ls 1 [(0, .ref q_t)] := hl
  have hS : va_S A s.heap s.heap [] := va_S.rf
  obtain ⟨H, hHe⟩ : ∃ H, H = s.heap := ⟨_, rfl⟩
  obtain ⟨locs, hLe⟩ : ∃ L : List Loc, L = [] := ⟨_, rfl⟩
  rw [← hLe]
  rw [← hLe] at hS
  have hP : va_P D vwCl [(q_t, .inr (7, [.ref q_t_book, .ref q_t_now, .int t_shift, .int t_kneels, .int t_sights, .ref q_t_sight, .int t_signs, .ref q_t_pad, .int t_metAt, .int t_metWho, .int t_reason, .int t_acts, .ref q_t_had, .ref q_t_takes, .ref q_t_worths, .ref q_t_fitting, .ref q_t_wins, .ref q_t_ways, .ref q_t_image, .ref q_t_isKept])), (q_t_book, .inl (cI, 45, .inl t_book)), (q_t_now, .inl (cI, 45, .inl t_now)), (q_t_pad, .inl (cI, 60, .inl t_pad)), (q_t_had, .inl (cI, 6, .inl t_had))] H := by rw [hHe]; exact hP
  have hS : va_S A s.heap H locs := by rw [hHe]; exact hS
  suffices hgo : W p l e ({ frames := 4, cells := 0, slots := 0, locals := 89 } : Room) s m args below meth c H locs 0 0 Q (F0 m 0 ls []) by rw [← hHe]; exact hgo
  clear hHe hLe
  refine lv_aload_n hx hb dX7_barOfYears_0 rfl (lv_at hl 0 rfl) ?_
  refine xs_i (va_runV (As := []) (rest := []) ⟨hx, hb, hml, hown, hts⟩ (kX7_faultOf l D cI cZ cJ cO q_t q_t_pad q_t_book q_t_now q_t_sight q_t_had q_t_takes q_t_worths q_t_fitting q_t_wins q_t_ways q_t_image q_t_isKept t_shift t_kneels t_sights t_metAt t_metWho t_reason t_acts t_signs t_pad _ hf) (cwV 0 hts gX7_barOfYears_X7_faultOf rfl rfl rfl (by decide +kernel) ⟨Nat.le_of_ble_eq_true rfl, Nat.le_of_ble_eq_true rfl⟩) (B0_preV (ci := 7) (q0 := 0) hP rfl rfl (hP.sub (ws' := [(q_t, .inr (7, [.ref q_t_book, .ref q_t_now, .int t_shift, .int t_kneels, .int t_sights, .ref q_t_sight, .int t_signs, .ref q_t_pad, .int t_metAt, .int t_metWho, .int t_reason, .int t_acts, .ref q_t_had, .ref q_t_takes, .ref q_t_worths, .ref q_t_fitting, .ref q_t_wins, .ref q_t_ways, .ref q_t_image, .ref q_t_isKept])), (q_t_pad, .inl (cI, 60, .inl t_pad))]) [0, 3] rfl) hK hN) rfl rfl hl.1 rfl (lv_room (Nat.le_of_ble_eq_true rfl)) dX7_barOfYears_1 ⟨Nat.zero_le _, Nat.zero_le _⟩) (fun r1 hf => ?_)
  refine lv_if_ge (tgt := 14) hx hb dX7_barOfYears_4 (by decide) (fun c2 => ?_) (fun c2 => ?_)
  · have hf := hf.1 c2
    refine lv_bipush (v := (-5)) hx hb dX7_barOfYears_14 (by decide) ?_
    refine lv_goto (tgt := 20) hx hb dX7_barOfYears_16 (by decide) ?_
    exact hret 20 ls H locs (-5) (t_metAt, t_metWho, t_reason, t_acts, t_now, t_had) dX7_barOfYears_20 hf hP hD hS
  · have hf := hf.2 c2
    refine lv_aload_n hx hb dX7_barOfYears_7 rfl (lv_at hl 0 rfl) ?_
    refine xc_i (wr := []) (va_runV (As := []) (rest := []) ⟨hx, hb, hml, hown, hts⟩ (kX7_goYears l D cI cZ cJ cO q_t q_t_book q_t_now q_t_pad q_t_had q_t_sight q_t_takes q_t_worths q_t_fitting q_t_wins q_t_ways q_t_image q_t_isKept H.size t_sights t_shift t_kneels t_signs t_metAt t_metWho t_reason t_acts t_book t_now t_pad t_had _ hf) (cwV 0 hts gX7_barOfYears_X7_goYears rfl rfl rfl (by decide +kernel) ⟨Nat.le_of_ble_eq_true rfl, Nat.le_of_ble_eq_true rfl⟩) (B1_preV (ci := 7) (q0 := 0) hP rfl rfl (hP.sub (ws' := [(q_t, .inr (7, [.ref q_t_book, .ref q_t_now, .int t_shift, .int t_kneels, .int t_sights, .ref q_t_sight, .int t_signs, .ref q_t_pad, .int t_metAt, .int t_metWho, .int t_reason, .int t_acts, .ref q_t_had, .ref q_t_takes, .ref q_t_worths, .ref q_t_fitting, .ref q_t_wins, .ref q_t_ways, .ref q_t_image, .ref q_t_isKept])), (q_t_book, .inl (cI, 45, .inl t_book)), (q_t_now, .inl (cI, 45, .inl t_now)), (q_t_pad, .inl (cI, 60, .inl t_pad)), (q_t_had, .inl (cI, 6, .inl t_had))]) [0, 1, 2, 3, 4] rfl) hK hN (hD.sub (ws' := [(q_t, .inr (7, [.ref q_t_book, .ref q_t_now, .int t_shift, .int t_kneels, .int t_sights, .ref q_t_sight, .int t_signs, .ref q_t_pad, .int t_metAt, .int t_metWho, .int t_reason, .int t_acts, .ref q_t_had, .ref q_t_takes, .ref q_t_worths, .ref q_t_fitting, .ref q_t_wins, .ref q_t_ways, .ref q_t_image, .ref q_t_isKept])), (q_t_book, .inl (cI, 45, .inl t_book)), (q_t_now, .inl (cI, 45, .inl t_now)), (q_t_pad, .inl (cI, 60, .inl t_pad)), (q_t_had, .inl (cI, 6, .inl t_had))]) [0, 1, 2, 3, 4] (by decide) rfl)) rfl rfl hl.1 rfl (lv_room (Nat.le_of_ble_eq_true rfl)) dX7_barOfYears_8 ⟨Nat.zero_le _, Nat.zero_le _⟩) hP hD hS hA [0, 1, 2, 3, 4] [] rfl rfl (by decide) (by decide) (fun r3 u4 H locs hf hP hD hS => ?_)
    have hP : va_P D vwCl [(q_t, .inr (7, [.ref q_t_book, .ref q_t_now, .int t_shift, .int t_kneels, .int t_sights, .ref q_t_sight, .int t_signs, .ref q_t_pad, .int u4.1, .int u4.2.1, .int u4.2.2.1, .int u4.2.2.2.1, .ref q_t_had, .ref q_t_takes, .ref q_t_worths, .ref q_t_fitting, .ref q_t_wins, .ref q_t_ways, .ref q_t_image, .ref q_t_isKept])), (q_t_book, .inl (cI, 45, .inl t_book)), (q_t_now, .inl (cI, 45, .inl u4.2.2.2.2.1)), (q_t_pad, .inl (cI, 60, .inl t_pad)), (q_t_had, .inl (cI, 6, .inl u4.2.2.2.2.2))] H := hP
    have hD : va_D A [(q_t, .inr (7, [.ref q_t_book, .ref q_t_now, .int t_shift, .int t_kneels, .int t_sights, .ref q_t_sight, .int t_signs, .ref q_t_pad, .int u4.1, .int u4.2.1, .int u4.2.2.1, .int u4.2.2.2.1, .ref q_t_had, .ref q_t_takes, .ref q_t_worths, .ref q_t_fitting, .ref q_t_wins, .ref q_t_ways, .ref q_t_image, .ref q_t_isKept])), (q_t_book, .inl (cI, 45, .inl t_book)), (q_t_now, .inl (cI, 45, .inl u4.2.2.2.2.1)), (q_t_pad, .inl (cI, 60, .inl t_pad)), (q_t_had, .inl (cI, 6, .inl u4.2.2.2.2.2))] := hD
    refine lv_if_lt (tgt := 19) hx hb dX7_barOfYears_11 (by decide) (fun c5 => ?_) (fun c5 => ?_)
    · have hf := hf.1 c5
      refine lv_iconst (v := 0) hx hb dX7_barOfYears_19 (by decide) ?_
      exact hret 20 ls H locs 0 (u4.1, u4.2.1, u4.2.2.1, u4.2.2.2.1, u4.2.2.2.2.1, u4.2.2.2.2.2) dX7_barOfYears_20 hf hP hD hS
    · have hf := hf.2 c5
      refine lv_bipush (v := (-5)) hx hb dX7_barOfYears_14 (by decide) ?_
      refine lv_goto (tgt := 20) hx hb dX7_barOfYears_16 (by decide) ?_
      exact hret 20 ls H locs (-5) (u4.1, u4.2.1, u4.2.2.1, u4.2.2.2.1, u4.2.2.2.2.1, u4.2.2.2.2.2) dX7_barOfYears_20 hf hP hD hS

/-! X7_done -/
theorem mX7_done_3 : Cond.fieldLink RX7 69 "OxenKneelModel" "signs" "I" ∈ wsX7_done := List.mem_of_getElem? (i := 3) rfl
theorem mX7_done_4 : Cond.fieldLink RX7 105 "OxenKneelModel" "acts" "I" ∈ wsX7_done := List.mem_of_getElem? (i := 4) rfl
theorem mX7_done_1 : Cond.fieldLink RX7 7 "OxenKneelModel" "book" "[I" ∈ wsX7_done := List.mem_of_getElem? (i := 1) rfl
theorem mX7_done_2 : Cond.fieldLink RX7 13 "OxenKneelModel" "now" "[I" ∈ wsX7_done := List.mem_of_getElem? (i := 2) rfl
theorem nX7_done_X7 : ∀ w ∈ wsX70, w ∈ wsX7_done := fun _ h => List.mem_cons_of_mem _ (List.mem_append_right _ h)
def pX7_done_b12 (t_shift : Int32) (t_kneels : Int32) (t_pad : (Nat → Int32)) (post : Int32 → (Int32 × Int32 × Int32 × Int32 × Int32 × (Nat → Int32) × (Nat → Int32) × (Nat → Int32)) → Prop) : Nat → Int32 → Int32 → Int32 → Int32 → Int32 → Int32 → (Nat → Int32) → (Nat → Int32) → (Nat → Int32) → Prop
  | 0 => fun _ _ _ _ _ _ _ _ _ => False
  | n + 1 => fun x1 t_signs t_metAt t_metWho t_reason t_acts t_book t_now t_had => (45 ≤ x1 → (post t_acts (0, t_metAt, t_metWho, t_reason, t_acts, t_book, t_now, t_had))) ∧ (¬ 45 ≤ x1 → (vp_in x1 45 ∧ (∀ v3 : Int32, v3 = (t_now x1.toNatClampNeg) → (vp_in x1 45 ∧ (∀ v5 : Int32, v5 = x1 + 1 → (pX7_done_b12 t_shift t_kneels t_pad post  n v5 t_signs t_metAt t_metWho t_reason t_acts (upd t_book x1.toNatClampNeg v3) t_now t_had))))))

set_option maxHeartbeats 4000000 in
set_option maxRecDepth 100000 in
theorem wX7_done_b12 {p : Program} {l : Launch} {e : Env} {s : State} {m : MethodId} {args : Array Value} {below : List Frame} {meth : Method} {c : Code} {Q : State → Prop} {D : va_G} {cI cZ cJ cO : ClassId} {A : Nat → Prop} (C0 : CallFix p m c cX7_done 2 s args wsX7_done RX7) (hN : nw s) (hK : va_K D vwCl (tyL cI cZ cJ cO) s) (hA : ∀ q, s.heap.size ≤ q → A q) (q_t q_t_book q_t_now q_t_pad q_t_had q_t_sight q_t_takes q_t_worths q_t_fitting q_t_wins q_t_ways q_t_image q_t_isKept : Nat) (t_sights : Int32) (t_shift : Int32) (t_kneels : Int32) (t_pad : (Nat → Int32)) (post : Int32 → (Int32 × Int32 × Int32 × Int32 × Int32 × (Nat → Int32) × (Nat → Int32) × (Nat → Int32)) → Prop) (hret : hrI p l e ({ frames := 5, cells := 0, slots := 0, locals := 109 } : Room) s m args below meth c cX7_done D A Q post (fun u : Int32 × Int32 × Int32 × Int32 × Int32 × (Nat → Int32) × (Nat → Int32) × (Nat → Int32) => [(q_t, .inr (7, [.ref q_t_book, .ref q_t_now, .int t_shift, .int t_kneels, .int t_sights, .ref q_t_sight, .int u.1, .ref q_t_pad, .int u.2.1, .int u.2.2.1, .int u.2.2.2.1, .int u.2.2.2.2.1, .ref q_t_had, .ref q_t_takes, .ref q_t_worths, .ref q_t_fitting, .ref q_t_wins, .ref q_t_ways, .ref q_t_image, .ref q_t_isKept])), (q_t_book, .inl (cI, 45, .inl u.2.2.2.2.2.1)), (q_t_now, .inl (cI, 45, .inl u.2.2.2.2.2.2.1)), (q_t_pad, .inl (cI, 60, .inl t_pad)), (q_t_had, .inl (cI, 6, .inl u.2.2.2.2.2.2.2))])) :
    ∀ (n : Nat) (x1 : Int32) (t_signs : Int32) (t_metAt : Int32) (t_metWho : Int32) (t_reason : Int32) (t_acts : Int32) (t_book : (Nat → Int32)) (t_now : (Nat → Int32)) (t_had : (Nat → Int32)), pX7_done_b12 t_shift t_kneels t_pad post n x1 t_signs t_metAt t_metWho t_reason t_acts t_book t_now t_had → ∀ (H : Heap) (locs : List Loc), va_P D vwCl [(q_t, .inr (7, [.ref q_t_book, .ref q_t_now, .int t_shift, .int t_kneels, .int t_sights, .ref q_t_sight, .int t_signs, .ref q_t_pad, .int t_metAt, .int t_metWho, .int t_reason, .int t_acts, .ref q_t_had, .ref q_t_takes, .ref q_t_worths, .ref q_t_fitting, .ref q_t_wins, .ref q_t_ways, .ref q_t_image, .ref q_t_isKept])), (q_t_book, .inl (cI, 45, .inl t_book)), (q_t_now, .inl (cI, 45, .inl t_now)), (q_t_pad, .inl (cI, 60, .inl t_pad)), (q_t_had, .inl (cI, 6, .inl t_had))] H → va_D A [(q_t, .inr (7, [.ref q_t_book, .ref q_t_now, .int t_shift, .int t_kneels, .int t_sights, .ref q_t_sight, .int t_signs, .ref q_t_pad, .int t_metAt, .int t_metWho, .int t_reason, .int t_acts, .ref q_t_had, .ref q_t_takes, .ref q_t_worths, .ref q_t_fitting, .ref q_t_wins, .ref q_t_ways, .ref q_t_image, .ref q_t_isKept])), (q_t_book, .inl (cI, 45, .inl t_book)), (q_t_now, .inl (cI, 45, .inl t_now)), (q_t_pad, .inl (cI, 60, .inl t_pad)), (q_t_had, .inl (cI, 6, .inl t_had))] → va_S A s.heap H locs → ∀ ls : Array Slot, lv_has ls 2 [(0, .ref q_t), (1, .int x1)] → W p l e ({ frames := 5, cells := 0, slots := 0, locals := 109 } : Room) s m args below meth c H locs 0 0 Q (F0 m 12 ls []) := by
  obtain ⟨hx, hb, hml, hown, hts⟩ := id C0
  intro n
  induction n with
  | zero =>
    intro x1 t_signs t_metAt t_metWho t_reason t_acts t_book t_now t_had hf
    exact False.elim hf
  | succ n ih =>
    intro x1 t_signs t_metAt t_metWho t_reason t_acts t_book t_now t_had hf H locs hP hD hS ls hl
    rw [pX7_done_b12] at hf
    refine lv_iload_n hx hb dX7_done_12 rfl (lv_at hl 1 rfl) ?_
    refine lv_bipush (v := 45) hx hb dX7_done_13 (by decide) ?_
    refine lv_icmp_ge (tgt := 36) hx hb dX7_done_15 (by decide) (fun c1 => ?_) (fun c1 => ?_)
    · have hf := hf.1 c1
      refine lv_aload_n hx hb dX7_done_36 rfl (lv_at hl 0 rfl) ?_
      refine lv_iconst (v := 0) hx hb dX7_done_37 (by decide) ?_
      refine va_put (D := D) (ci := 7) (v := .int 0) (ty := .int) (C := RX7) (T := TX7) (N := 20) hx hb hts nX7_done_X7 tyX7 tyX7_ok nmX7 hown hK hP hD hS 0 rfl rfl 6 (by decide) (hts _ mX7_done_3) (fun _ h9 => h9) rfl (by decide +kernel) rfl rfl (Nat.le_of_ble_eq_true rfl) dX7_done_38 (fun H locs hP hD hS => ?_)
      have hP : va_P D vwCl [(q_t, .inr (7, [.ref q_t_book, .ref q_t_now, .int t_shift, .int t_kneels, .int t_sights, .ref q_t_sight, .int 0, .ref q_t_pad, .int t_metAt, .int t_metWho, .int t_reason, .int t_acts, .ref q_t_had, .ref q_t_takes, .ref q_t_worths, .ref q_t_fitting, .ref q_t_wins, .ref q_t_ways, .ref q_t_image, .ref q_t_isKept])), (q_t_book, .inl (cI, 45, .inl t_book)), (q_t_now, .inl (cI, 45, .inl t_now)), (q_t_pad, .inl (cI, 60, .inl t_pad)), (q_t_had, .inl (cI, 6, .inl t_had))] H := hP
      have hD : va_D A [(q_t, .inr (7, [.ref q_t_book, .ref q_t_now, .int t_shift, .int t_kneels, .int t_sights, .ref q_t_sight, .int 0, .ref q_t_pad, .int t_metAt, .int t_metWho, .int t_reason, .int t_acts, .ref q_t_had, .ref q_t_takes, .ref q_t_worths, .ref q_t_fitting, .ref q_t_wins, .ref q_t_ways, .ref q_t_image, .ref q_t_isKept])), (q_t_book, .inl (cI, 45, .inl t_book)), (q_t_now, .inl (cI, 45, .inl t_now)), (q_t_pad, .inl (cI, 60, .inl t_pad)), (q_t_had, .inl (cI, 6, .inl t_had))] := hD
      refine lv_aload_n hx hb dX7_done_41 rfl (lv_at hl 0 rfl) ?_
      refine va_get (D := D) (ci := 7) (v := .int t_acts) (C := RX7) (T := TX7) (N := 20) hx hb hts nX7_done_X7 hown hK hP 0 rfl rfl 11 (by decide) (hts _ mX7_done_4) (fun _ h9 => h9) rfl dX7_done_42 ?_
      exact hret 45 ls H locs t_acts (0, t_metAt, t_metWho, t_reason, t_acts, t_book, t_now, t_had) dX7_done_45 hf hP hD hS
    · have hf := hf.2 c1
      refine lv_aload_n hx hb dX7_done_18 rfl (lv_at hl 0 rfl) ?_
      refine va_get (D := D) (ci := 7) (v := .ref q_t_book) (C := RX7) (T := TX7) (N := 20) hx hb hts nX7_done_X7 hown hK hP 0 rfl rfl 0 (by decide) (hts _ mX7_done_1) (fun _ h9 => h9) rfl dX7_done_19 ?_
      refine lv_iload_n hx hb dX7_done_22 rfl (lv_at hl 1 rfl) ?_
      refine lv_aload_n hx hb dX7_done_23 rfl (lv_at hl 0 rfl) ?_
      refine va_get (D := D) (ci := 7) (v := .ref q_t_now) (C := RX7) (T := TX7) (N := 20) hx hb hts nX7_done_X7 hown hK hP 0 rfl rfl 1 (by decide) (hts _ mX7_done_2) (fun _ h9 => h9) rfl dX7_done_24 ?_
      refine lv_iload_n hx hb dX7_done_27 rfl (lv_at hl 1 rfl) ?_
      have g2 := hf.1
      have hf := hf.2
      refine xa_iald hx hb hK hP 2 0 rfl rfl (j := x1.toNatClampNeg) rfl g2 dX7_done_28 ?_
      refine lv_topi (fun v3 ev3 => ?_)
      have hf := hf v3 ev3
      have g4 := hf.1
      have hf := hf.2
      refine xa_iast hx hb hK hP hD hS 1 0 rfl rfl (j := x1.toNatClampNeg) rfl g4 dX7_done_29 (fun H locs hP hD hS => ?_)
      have hP : va_P D vwCl [(q_t, .inr (7, [.ref q_t_book, .ref q_t_now, .int t_shift, .int t_kneels, .int t_sights, .ref q_t_sight, .int t_signs, .ref q_t_pad, .int t_metAt, .int t_metWho, .int t_reason, .int t_acts, .ref q_t_had, .ref q_t_takes, .ref q_t_worths, .ref q_t_fitting, .ref q_t_wins, .ref q_t_ways, .ref q_t_image, .ref q_t_isKept])), (q_t_book, .inl (cI, 45, .inl (upd t_book x1.toNatClampNeg v3))), (q_t_now, .inl (cI, 45, .inl t_now)), (q_t_pad, .inl (cI, 60, .inl t_pad)), (q_t_had, .inl (cI, 6, .inl t_had))] H := hP
      have hD : va_D A [(q_t, .inr (7, [.ref q_t_book, .ref q_t_now, .int t_shift, .int t_kneels, .int t_sights, .ref q_t_sight, .int t_signs, .ref q_t_pad, .int t_metAt, .int t_metWho, .int t_reason, .int t_acts, .ref q_t_had, .ref q_t_takes, .ref q_t_worths, .ref q_t_fitting, .ref q_t_wins, .ref q_t_ways, .ref q_t_image, .ref q_t_isKept])), (q_t_book, .inl (cI, 45, .inl (upd t_book x1.toNatClampNeg v3))), (q_t_now, .inl (cI, 45, .inl t_now)), (q_t_pad, .inl (cI, 60, .inl t_pad)), (q_t_had, .inl (cI, 6, .inl t_had))] := hD
      obtain ⟨v5, ev5⟩ : ∃ y : Int32, y = x1 + 1 := ⟨_, rfl⟩
      have hf := hf v5 ev5
      refine lv_iinc (v := v5) (lv' := [(1, .int v5), (0, .ref q_t)]) hx hb dX7_done_30 hl (k := 1) rfl (by rw [ev5]; rfl) (by decide) rfl (fun ls hl => ?_)
      refine lv_goto (tgt := 12) hx hb dX7_done_33 (by decide) ?_
      exact ih v5 t_signs t_metAt t_metWho t_reason t_acts (upd t_book x1.toNatClampNeg v3) t_now t_had hf H locs hP hD hS ls (lv_sub hl [1, 0] rfl)

def pX7_done (t_shift : Int32) (t_kneels : Int32) (t_signs : Int32) (t_metAt : Int32) (t_metWho : Int32) (t_reason : Int32) (t_acts : Int32) (t_book : (Nat → Int32)) (t_now : (Nat → Int32)) (t_pad : (Nat → Int32)) (t_had : (Nat → Int32))  (post : Int32 → (Int32 × Int32 × Int32 × Int32 × Int32 × (Nat → Int32) × (Nat → Int32) × (Nat → Int32)) → Prop) : Prop :=
  pX7_barOfYears t_shift t_kneels t_signs t_metAt t_metWho t_reason t_acts t_book t_now t_pad t_had (fun (r1 : Int32) (u2 : Int32 × Int32 × Int32 × Int32 × (Nat → Int32) × (Nat → Int32)) => (0 ≤ r1 → (∃ n1, pX7_done_b12 t_shift t_kneels t_pad post  n1 0 t_signs u2.1 u2.2.1 u2.2.2.1 u2.2.2.2.1 t_book u2.2.2.2.2.1 u2.2.2.2.2.2)) ∧ (¬ 0 ≤ r1 → (post (-5) (t_signs, u2.1, u2.2.1, u2.2.2.1, u2.2.2.2.1, t_book, u2.2.2.2.2.1, u2.2.2.2.2.2))))

set_option maxHeartbeats 4000000 in
set_option maxRecDepth 100000 in
theorem kX7_done (l : Launch) (D : va_G) (cI cZ cJ cO : ClassId) (q_t q_t_book q_t_now q_t_pad q_t_had q_t_sight q_t_takes q_t_worths q_t_fitting q_t_wins q_t_ways q_t_image q_t_isKept : Nat) (sz : Nat) (t_sights : Int32) (t_shift : Int32) (t_kneels : Int32) (t_signs : Int32) (t_metAt : Int32) (t_metWho : Int32) (t_reason : Int32) (t_acts : Int32) (t_book : (Nat → Int32)) (t_now : (Nat → Int32)) (t_pad : (Nat → Int32)) (t_had : (Nat → Int32))  (post : Int32 → (Int32 × Int32 × Int32 × Int32 × Int32 × (Nat → Int32) × (Nat → Int32) × (Nat → Int32)) → Prop) (hf : pX7_done t_shift t_kneels t_signs t_metAt t_metWho t_reason t_acts t_book t_now t_pad t_had post) :
    Met l yX7_done wsX7_done ({ frames := 5, cells := 0, slots := 0, locals := 109 } : Room) (va_Pc [.ref q_t] (B1 D (tyL cI cZ cJ cO) [(q_t, .inr (7, [.ref q_t_book, .ref q_t_now, .int t_shift, .int t_kneels, .int t_sights, .ref q_t_sight, .int t_signs, .ref q_t_pad, .int t_metAt, .int t_metWho, .int t_reason, .int t_acts, .ref q_t_had, .ref q_t_takes, .ref q_t_worths, .ref q_t_fitting, .ref q_t_wins, .ref q_t_ways, .ref q_t_image, .ref q_t_isKept])), (q_t_book, .inl (cI, 45, .inl t_book)), (q_t_now, .inl (cI, 45, .inl t_now)), (q_t_pad, .inl (cI, 60, .inl t_pad)), (q_t_had, .inl (cI, 6, .inl t_had))] sz)) (va_Qi post (fun u t => E1 D (va_A [(q_t, .inr (7, [.ref q_t_book, .ref q_t_now, .int t_shift, .int t_kneels, .int t_sights, .ref q_t_sight, .int t_signs, .ref q_t_pad, .int t_metAt, .int t_metWho, .int t_reason, .int t_acts, .ref q_t_had, .ref q_t_takes, .ref q_t_worths, .ref q_t_fitting, .ref q_t_wins, .ref q_t_ways, .ref q_t_image, .ref q_t_isKept])), (q_t_book, .inl (cI, 45, .inl t_book)), (q_t_now, .inl (cI, 45, .inl t_now)), (q_t_pad, .inl (cI, 60, .inl t_pad)), (q_t_had, .inl (cI, 6, .inl t_had))] sz) ((fun u : Int32 × Int32 × Int32 × Int32 × Int32 × (Nat → Int32) × (Nat → Int32) × (Nat → Int32) => [(q_t, .inr (7, [.ref q_t_book, .ref q_t_now, .int t_shift, .int t_kneels, .int t_sights, .ref q_t_sight, .int u.1, .ref q_t_pad, .int u.2.1, .int u.2.2.1, .int u.2.2.2.1, .int u.2.2.2.2.1, .ref q_t_had, .ref q_t_takes, .ref q_t_worths, .ref q_t_fitting, .ref q_t_wins, .ref q_t_ways, .ref q_t_image, .ref q_t_isKept])), (q_t_book, .inl (cI, 45, .inl u.2.2.2.2.2.1)), (q_t_now, .inl (cI, 45, .inl u.2.2.2.2.2.2.1)), (q_t_pad, .inl (cI, 60, .inl t_pad)), (q_t_had, .inl (cI, 6, .inl u.2.2.2.2.2.2.2))]) u) t) (va_A [(q_t, .inr (7, [.ref q_t_book, .ref q_t_now, .int t_shift, .int t_kneels, .int t_sights, .ref q_t_sight, .int t_signs, .ref q_t_pad, .int t_metAt, .int t_metWho, .int t_reason, .int t_acts, .ref q_t_had, .ref q_t_takes, .ref q_t_worths, .ref q_t_fitting, .ref q_t_wins, .ref q_t_ways, .ref q_t_image, .ref q_t_isKept])), (q_t_book, .inl (cI, 45, .inl t_book)), (q_t_now, .inl (cI, 45, .inl t_now)), (q_t_pad, .inl (cI, 60, .inl t_pad)), (q_t_had, .inl (cI, 6, .inl t_had))] sz)) 0 0 (va_A [(q_t, .inr (7, [.ref q_t_book, .ref q_t_now, .int t_shift, .int t_kneels, .int t_sights, .ref q_t_sight, .int t_signs, .ref q_t_pad, .int t_metAt, .int t_metWho, .int t_reason, .int t_acts, .ref q_t_had, .ref q_t_takes, .ref q_t_worths, .ref q_t_fitting, .ref q_t_wins, .ref q_t_ways, .ref q_t_image, .ref q_t_isKept])), (q_t_book, .inl (cI, 45, .inl t_book)), (q_t_now, .inl (cI, 45, .inl t_now)), (q_t_pad, .inl (cI, 60, .inl t_pad)), (q_t_had, .inl (cI, 6, .inl t_had))] sz) := by
  unfold pX7_done at hf
  refine xm_1i (own := RX7) (by decide) rfl rfl (Nat.le_of_ble_eq_true rfl) (fun p e s m args below meth c Q A C0 hN hK hA hret hP hD ls hl => ?_)
  obtain ⟨hx, hb, hml, hown, hts⟩ := id C0
  have hl : lv_has ls 2 [(0, .ref q_t)] := hl
  have hS : va_S A s.heap s.heap [] := va_S.rf
  obtain ⟨H, hHe⟩ : ∃ H, H = s.heap := ⟨_, rfl⟩
  obtain ⟨locs, hLe⟩ : ∃ L : List Loc, L = [] := ⟨_, rfl⟩
  rw [← hLe]
  rw [← hLe] at hS
  have hP : va_P D vwCl [(q_t, .inr (7, [.ref q_t_book, .ref q_t_now, .int t_shift, .int t_kneels, .int t_sights, .ref q_t_sight, .int t_signs, .ref q_t_pad, .int t_metAt, .int t_metWho, .int t_reason, .int t_acts, .ref q_t_had, .ref q_t_takes, .ref q_t_worths, .ref q_t_fitting, .ref q_t_wins, .ref q_t_ways, .ref q_t_image, .ref q_t_isKept])), (q_t_book, .inl (cI, 45, .inl t_book)), (q_t_now, .inl (cI, 45, .inl t_now)), (q_t_pad, .inl (cI, 60, .inl t_pad)), (q_t_had, .inl (cI, 6, .inl t_had))] H := by rw [hHe]; exact hP
  have hS : va_S A s.heap H locs := by rw [hHe]; exact hS
  suffices hgo : W p l e ({ frames := 5, cells := 0, slots := 0, locals := 109 } : Room) s m args below meth c H locs 0 0 Q (F0 m 0 ls []) by rw [← hHe]; exact hgo
  clear hHe hLe
  refine lv_aload_n hx hb dX7_done_0 rfl (lv_at hl 0 rfl) ?_
  refine xc_i (wr := []) (va_runV (As := []) (rest := []) ⟨hx, hb, hml, hown, hts⟩ (kX7_barOfYears l D cI cZ cJ cO q_t q_t_book q_t_now q_t_pad q_t_had q_t_sight q_t_takes q_t_worths q_t_fitting q_t_wins q_t_ways q_t_image q_t_isKept H.size t_sights t_shift t_kneels t_signs t_metAt t_metWho t_reason t_acts t_book t_now t_pad t_had _ hf) (cwV 0 hts gX7_done_X7_barOfYears rfl rfl rfl (by decide +kernel) ⟨Nat.le_of_ble_eq_true rfl, Nat.le_of_ble_eq_true rfl⟩) (B1_preV (ci := 7) (q0 := 0) hP rfl rfl (hP.sub (ws' := [(q_t, .inr (7, [.ref q_t_book, .ref q_t_now, .int t_shift, .int t_kneels, .int t_sights, .ref q_t_sight, .int t_signs, .ref q_t_pad, .int t_metAt, .int t_metWho, .int t_reason, .int t_acts, .ref q_t_had, .ref q_t_takes, .ref q_t_worths, .ref q_t_fitting, .ref q_t_wins, .ref q_t_ways, .ref q_t_image, .ref q_t_isKept])), (q_t_book, .inl (cI, 45, .inl t_book)), (q_t_now, .inl (cI, 45, .inl t_now)), (q_t_pad, .inl (cI, 60, .inl t_pad)), (q_t_had, .inl (cI, 6, .inl t_had))]) [0, 1, 2, 3, 4] rfl) hK hN (hD.sub (ws' := [(q_t, .inr (7, [.ref q_t_book, .ref q_t_now, .int t_shift, .int t_kneels, .int t_sights, .ref q_t_sight, .int t_signs, .ref q_t_pad, .int t_metAt, .int t_metWho, .int t_reason, .int t_acts, .ref q_t_had, .ref q_t_takes, .ref q_t_worths, .ref q_t_fitting, .ref q_t_wins, .ref q_t_ways, .ref q_t_image, .ref q_t_isKept])), (q_t_book, .inl (cI, 45, .inl t_book)), (q_t_now, .inl (cI, 45, .inl t_now)), (q_t_pad, .inl (cI, 60, .inl t_pad)), (q_t_had, .inl (cI, 6, .inl t_had))]) [0, 1, 2, 3, 4] (by decide) rfl)) rfl rfl hl.1 rfl (lv_room (Nat.le_of_ble_eq_true rfl)) dX7_done_1 ⟨Nat.zero_le _, Nat.zero_le _⟩) hP hD hS hA [0, 1, 2, 3, 4] [] rfl rfl (by decide) (by decide) (fun r1 u2 H locs hf hP hD hS => ?_)
  have hP : va_P D vwCl [(q_t, .inr (7, [.ref q_t_book, .ref q_t_now, .int t_shift, .int t_kneels, .int t_sights, .ref q_t_sight, .int t_signs, .ref q_t_pad, .int u2.1, .int u2.2.1, .int u2.2.2.1, .int u2.2.2.2.1, .ref q_t_had, .ref q_t_takes, .ref q_t_worths, .ref q_t_fitting, .ref q_t_wins, .ref q_t_ways, .ref q_t_image, .ref q_t_isKept])), (q_t_book, .inl (cI, 45, .inl t_book)), (q_t_now, .inl (cI, 45, .inl u2.2.2.2.2.1)), (q_t_pad, .inl (cI, 60, .inl t_pad)), (q_t_had, .inl (cI, 6, .inl u2.2.2.2.2.2))] H := hP
  have hD : va_D A [(q_t, .inr (7, [.ref q_t_book, .ref q_t_now, .int t_shift, .int t_kneels, .int t_sights, .ref q_t_sight, .int t_signs, .ref q_t_pad, .int u2.1, .int u2.2.1, .int u2.2.2.1, .int u2.2.2.2.1, .ref q_t_had, .ref q_t_takes, .ref q_t_worths, .ref q_t_fitting, .ref q_t_wins, .ref q_t_ways, .ref q_t_image, .ref q_t_isKept])), (q_t_book, .inl (cI, 45, .inl t_book)), (q_t_now, .inl (cI, 45, .inl u2.2.2.2.2.1)), (q_t_pad, .inl (cI, 60, .inl t_pad)), (q_t_had, .inl (cI, 6, .inl u2.2.2.2.2.2))] := hD
  refine lv_if_ge (tgt := 10) hx hb dX7_done_4 (by decide) (fun c3 => ?_) (fun c3 => ?_)
  · have hf := hf.1 c3
    refine lv_iconst (v := 0) hx hb dX7_done_10 (by decide) ?_
    refine lv_istore_n (lv' := [(1, .int 0), (0, .ref q_t)]) hx hb dX7_done_11 rfl hl (by decide) rfl (fun ls hl => ?_)
    obtain ⟨n1, hf⟩ := hf
    exact wX7_done_b12 C0 hN hK hA q_t q_t_book q_t_now q_t_pad q_t_had q_t_sight q_t_takes q_t_worths q_t_fitting q_t_wins q_t_ways q_t_image q_t_isKept t_sights t_shift t_kneels t_pad post hret   n1 0 t_signs u2.1 u2.2.1 u2.2.2.1 u2.2.2.2.1 t_book u2.2.2.2.2.1 u2.2.2.2.2.2 hf H locs hP hD hS ls (lv_sub hl [1, 0] rfl)
  · have hf := hf.2 c3
    refine lv_bipush (v := (-5)) hx hb dX7_done_7 (by decide) ?_
    exact hret 9 ls H locs (-5) (t_signs, u2.1, u2.2.1, u2.2.2.1, u2.2.2.2.1, t_book, u2.2.2.2.2.1, u2.2.2.2.2.2) dX7_done_9 hf hP hD hS

/-! X7_behind -/
theorem mX7_behind_1 : Cond.fieldLink RX7 13 "OxenKneelModel" "now" "[I" ∈ wsX7_behind := List.mem_of_getElem? (i := 1) rfl
theorem nX7_behind_X7 : ∀ w ∈ wsX70, w ∈ wsX7_behind := fun _ h => List.mem_cons_of_mem _ (List.mem_append_right _ h)
def pX7_behind (t_shift : Int32) (t_kneels : Int32) (t_signs : Int32) (t_metAt : Int32) (t_metWho : Int32) (t_reason : Int32) (t_acts : Int32) (t_book : (Nat → Int32)) (t_now : (Nat → Int32)) (t_pad : (Nat → Int32)) (t_had : (Nat → Int32)) (a1 : Int32) (a2 : Int32) (post : Int32 → (Int32 × Int32 × Int32 × Int32 × (Nat → Int32) × (Nat → Int32)) → Prop) : Prop :=
  pX7_in a1 0 5 (fun r1 => (¬ r1 = 0 → (pX7_in a2 0 1 (fun r3 => (¬ r3 = 0 → (pX7_barOfYears t_shift t_kneels t_signs t_metAt t_metWho t_reason t_acts t_book t_now t_pad t_had (fun (r5 : Int32) (u6 : Int32 × Int32 × Int32 × Int32 × (Nat → Int32) × (Nat → Int32)) => (0 ≤ r5 → (vp_in ((6 * a2) + a1) 45 ∧ (post (u6.2.2.2.2.1 ((6 * a2) + a1).toNatClampNeg) (u6.1, u6.2.1, u6.2.2.1, u6.2.2.2.1, u6.2.2.2.2.1, u6.2.2.2.2.2)))) ∧ (¬ 0 ≤ r5 → (post (-5) (u6.1, u6.2.1, u6.2.2.1, u6.2.2.2.1, u6.2.2.2.2.1, u6.2.2.2.2.2)))))) ∧ (r3 = 0 → (post (-2) (t_metAt, t_metWho, t_reason, t_acts, t_now, t_had)))))) ∧ (r1 = 0 → (post (-1) (t_metAt, t_metWho, t_reason, t_acts, t_now, t_had))))

set_option maxHeartbeats 4000000 in
set_option maxRecDepth 100000 in
theorem kX7_behind (l : Launch) (D : va_G) (cI cZ cJ cO : ClassId) (q_t q_t_book q_t_now q_t_pad q_t_had q_t_sight q_t_takes q_t_worths q_t_fitting q_t_wins q_t_ways q_t_image q_t_isKept : Nat) (sz : Nat) (t_sights : Int32) (t_shift : Int32) (t_kneels : Int32) (t_signs : Int32) (t_metAt : Int32) (t_metWho : Int32) (t_reason : Int32) (t_acts : Int32) (t_book : (Nat → Int32)) (t_now : (Nat → Int32)) (t_pad : (Nat → Int32)) (t_had : (Nat → Int32)) (a1 : Int32) (a2 : Int32) (post : Int32 → (Int32 × Int32 × Int32 × Int32 × (Nat → Int32) × (Nat → Int32)) → Prop) (hf : pX7_behind t_shift t_kneels t_signs t_metAt t_metWho t_reason t_acts t_book t_now t_pad t_had a1 a2 post) :
    Met l yX7_behind wsX7_behind ({ frames := 5, cells := 0, slots := 0, locals := 109 } : Room) (va_Pc [.ref q_t, .int a1, .int a2] (B1 D (tyL cI cZ cJ cO) [(q_t, .inr (7, [.ref q_t_book, .ref q_t_now, .int t_shift, .int t_kneels, .int t_sights, .ref q_t_sight, .int t_signs, .ref q_t_pad, .int t_metAt, .int t_metWho, .int t_reason, .int t_acts, .ref q_t_had, .ref q_t_takes, .ref q_t_worths, .ref q_t_fitting, .ref q_t_wins, .ref q_t_ways, .ref q_t_image, .ref q_t_isKept])), (q_t_book, .inl (cI, 45, .inl t_book)), (q_t_now, .inl (cI, 45, .inl t_now)), (q_t_pad, .inl (cI, 60, .inl t_pad)), (q_t_had, .inl (cI, 6, .inl t_had))] sz)) (va_Qi post (fun u t => E1 D (va_A [(q_t, .inr (7, [.ref q_t_book, .ref q_t_now, .int t_shift, .int t_kneels, .int t_sights, .ref q_t_sight, .int t_signs, .ref q_t_pad, .int t_metAt, .int t_metWho, .int t_reason, .int t_acts, .ref q_t_had, .ref q_t_takes, .ref q_t_worths, .ref q_t_fitting, .ref q_t_wins, .ref q_t_ways, .ref q_t_image, .ref q_t_isKept])), (q_t_book, .inl (cI, 45, .inl t_book)), (q_t_now, .inl (cI, 45, .inl t_now)), (q_t_pad, .inl (cI, 60, .inl t_pad)), (q_t_had, .inl (cI, 6, .inl t_had))] sz) ((fun u : Int32 × Int32 × Int32 × Int32 × (Nat → Int32) × (Nat → Int32) => [(q_t, .inr (7, [.ref q_t_book, .ref q_t_now, .int t_shift, .int t_kneels, .int t_sights, .ref q_t_sight, .int t_signs, .ref q_t_pad, .int u.1, .int u.2.1, .int u.2.2.1, .int u.2.2.2.1, .ref q_t_had, .ref q_t_takes, .ref q_t_worths, .ref q_t_fitting, .ref q_t_wins, .ref q_t_ways, .ref q_t_image, .ref q_t_isKept])), (q_t_book, .inl (cI, 45, .inl t_book)), (q_t_now, .inl (cI, 45, .inl u.2.2.2.2.1)), (q_t_pad, .inl (cI, 60, .inl t_pad)), (q_t_had, .inl (cI, 6, .inl u.2.2.2.2.2))]) u) t) (va_A [(q_t, .inr (7, [.ref q_t_book, .ref q_t_now, .int t_shift, .int t_kneels, .int t_sights, .ref q_t_sight, .int t_signs, .ref q_t_pad, .int t_metAt, .int t_metWho, .int t_reason, .int t_acts, .ref q_t_had, .ref q_t_takes, .ref q_t_worths, .ref q_t_fitting, .ref q_t_wins, .ref q_t_ways, .ref q_t_image, .ref q_t_isKept])), (q_t_book, .inl (cI, 45, .inl t_book)), (q_t_now, .inl (cI, 45, .inl t_now)), (q_t_pad, .inl (cI, 60, .inl t_pad)), (q_t_had, .inl (cI, 6, .inl t_had))] sz)) 0 0 (va_A [(q_t, .inr (7, [.ref q_t_book, .ref q_t_now, .int t_shift, .int t_kneels, .int t_sights, .ref q_t_sight, .int t_signs, .ref q_t_pad, .int t_metAt, .int t_metWho, .int t_reason, .int t_acts, .ref q_t_had, .ref q_t_takes, .ref q_t_worths, .ref q_t_fitting, .ref q_t_wins, .ref q_t_ways, .ref q_t_image, .ref q_t_isKept])), (q_t_book, .inl (cI, 45, .inl t_book)), (q_t_now, .inl (cI, 45, .inl t_now)), (q_t_pad, .inl (cI, 60, .inl t_pad)), (q_t_had, .inl (cI, 6, .inl t_had))] sz) := by
  unfold pX7_behind at hf
  refine xm_1i (own := RX7) (by decide) rfl rfl (Nat.le_of_ble_eq_true rfl) (fun p e s m args below meth c Q A C0 hN hK hA hret hP hD ls hl => ?_)
  obtain ⟨hx, hb, hml, hown, hts⟩ := id C0
  have hl : lv_has ls 3 [(0, .ref q_t), (1, .int a1), (2, .int a2)] := hl
  have hS : va_S A s.heap s.heap [] := va_S.rf
  obtain ⟨H, hHe⟩ : ∃ H, H = s.heap := ⟨_, rfl⟩
  obtain ⟨locs, hLe⟩ : ∃ L : List Loc, L = [] := ⟨_, rfl⟩
  rw [← hLe]
  rw [← hLe] at hS
  have hP : va_P D vwCl [(q_t, .inr (7, [.ref q_t_book, .ref q_t_now, .int t_shift, .int t_kneels, .int t_sights, .ref q_t_sight, .int t_signs, .ref q_t_pad, .int t_metAt, .int t_metWho, .int t_reason, .int t_acts, .ref q_t_had, .ref q_t_takes, .ref q_t_worths, .ref q_t_fitting, .ref q_t_wins, .ref q_t_ways, .ref q_t_image, .ref q_t_isKept])), (q_t_book, .inl (cI, 45, .inl t_book)), (q_t_now, .inl (cI, 45, .inl t_now)), (q_t_pad, .inl (cI, 60, .inl t_pad)), (q_t_had, .inl (cI, 6, .inl t_had))] H := by rw [hHe]; exact hP
  have hS : va_S A s.heap H locs := by rw [hHe]; exact hS
  suffices hgo : W p l e ({ frames := 5, cells := 0, slots := 0, locals := 109 } : Room) s m args below meth c H locs 0 0 Q (F0 m 0 ls []) by rw [← hHe]; exact hgo
  clear hHe hLe
  refine lv_iload_n hx hb dX7_behind_0 rfl (lv_at hl 1 rfl) ?_
  refine lv_iconst (v := 0) hx hb dX7_behind_1 (by decide) ?_
  refine lv_iconst (v := 5) hx hb dX7_behind_2 (by decide) ?_
  refine xs_i (va_runS (As := [.int a1, .int 0, .int 5]) (rest := []) ⟨hx, hb, hml, hown, hts⟩ (kX7_in l D cI cZ cJ cO a1 0 5 _ hf) (va_cwS 3 hts gX7_behind_X7_in rfl rfl rfl (by decide +kernel) ⟨Nat.le_of_ble_eq_true rfl, Nat.le_of_ble_eq_true rfl⟩) (B0_pre (hP.sub (ws' := []) [] rfl) hK hN) rfl rfl hl.1 rfl (lv_room (Nat.le_of_ble_eq_true rfl)) dX7_behind_3 ⟨Nat.zero_le _, Nat.zero_le _⟩) (fun r1 hf => ?_)
  refine lv_if_ne (tgt := 11) hx hb dX7_behind_6 (by decide) (fun c2 => ?_) (fun c2 => ?_)
  · have hf := hf.1 c2
    refine lv_iload_n hx hb dX7_behind_11 rfl (lv_at hl 2 rfl) ?_
    refine lv_iconst (v := 0) hx hb dX7_behind_12 (by decide) ?_
    refine lv_iconst (v := 1) hx hb dX7_behind_13 (by decide) ?_
    refine xs_i (va_runS (As := [.int a2, .int 0, .int 1]) (rest := []) ⟨hx, hb, hml, hown, hts⟩ (kX7_in l D cI cZ cJ cO a2 0 1 _ hf) (va_cwS 3 hts gX7_behind_X7_in rfl rfl rfl (by decide +kernel) ⟨Nat.le_of_ble_eq_true rfl, Nat.le_of_ble_eq_true rfl⟩) (B0_pre (hP.sub (ws' := []) [] rfl) hK hN) rfl rfl hl.1 rfl (lv_room (Nat.le_of_ble_eq_true rfl)) dX7_behind_14 ⟨Nat.zero_le _, Nat.zero_le _⟩) (fun r3 hf => ?_)
    refine lv_if_ne (tgt := 23) hx hb dX7_behind_17 (by decide) (fun c4 => ?_) (fun c4 => ?_)
    · have hf := hf.1 c4
      refine lv_aload_n hx hb dX7_behind_23 rfl (lv_at hl 0 rfl) ?_
      refine xc_i (wr := []) (va_runV (As := []) (rest := []) ⟨hx, hb, hml, hown, hts⟩ (kX7_barOfYears l D cI cZ cJ cO q_t q_t_book q_t_now q_t_pad q_t_had q_t_sight q_t_takes q_t_worths q_t_fitting q_t_wins q_t_ways q_t_image q_t_isKept H.size t_sights t_shift t_kneels t_signs t_metAt t_metWho t_reason t_acts t_book t_now t_pad t_had _ hf) (cwV 0 hts gX7_behind_X7_barOfYears rfl rfl rfl (by decide +kernel) ⟨Nat.le_of_ble_eq_true rfl, Nat.le_of_ble_eq_true rfl⟩) (B1_preV (ci := 7) (q0 := 0) hP rfl rfl (hP.sub (ws' := [(q_t, .inr (7, [.ref q_t_book, .ref q_t_now, .int t_shift, .int t_kneels, .int t_sights, .ref q_t_sight, .int t_signs, .ref q_t_pad, .int t_metAt, .int t_metWho, .int t_reason, .int t_acts, .ref q_t_had, .ref q_t_takes, .ref q_t_worths, .ref q_t_fitting, .ref q_t_wins, .ref q_t_ways, .ref q_t_image, .ref q_t_isKept])), (q_t_book, .inl (cI, 45, .inl t_book)), (q_t_now, .inl (cI, 45, .inl t_now)), (q_t_pad, .inl (cI, 60, .inl t_pad)), (q_t_had, .inl (cI, 6, .inl t_had))]) [0, 1, 2, 3, 4] rfl) hK hN (hD.sub (ws' := [(q_t, .inr (7, [.ref q_t_book, .ref q_t_now, .int t_shift, .int t_kneels, .int t_sights, .ref q_t_sight, .int t_signs, .ref q_t_pad, .int t_metAt, .int t_metWho, .int t_reason, .int t_acts, .ref q_t_had, .ref q_t_takes, .ref q_t_worths, .ref q_t_fitting, .ref q_t_wins, .ref q_t_ways, .ref q_t_image, .ref q_t_isKept])), (q_t_book, .inl (cI, 45, .inl t_book)), (q_t_now, .inl (cI, 45, .inl t_now)), (q_t_pad, .inl (cI, 60, .inl t_pad)), (q_t_had, .inl (cI, 6, .inl t_had))]) [0, 1, 2, 3, 4] (by decide) rfl)) rfl rfl hl.1 rfl (lv_room (Nat.le_of_ble_eq_true rfl)) dX7_behind_24 ⟨Nat.zero_le _, Nat.zero_le _⟩) hP hD hS hA [0, 1, 2, 3, 4] [] rfl rfl (by decide) (by decide) (fun r5 u6 H locs hf hP hD hS => ?_)
      have hP : va_P D vwCl [(q_t, .inr (7, [.ref q_t_book, .ref q_t_now, .int t_shift, .int t_kneels, .int t_sights, .ref q_t_sight, .int t_signs, .ref q_t_pad, .int u6.1, .int u6.2.1, .int u6.2.2.1, .int u6.2.2.2.1, .ref q_t_had, .ref q_t_takes, .ref q_t_worths, .ref q_t_fitting, .ref q_t_wins, .ref q_t_ways, .ref q_t_image, .ref q_t_isKept])), (q_t_book, .inl (cI, 45, .inl t_book)), (q_t_now, .inl (cI, 45, .inl u6.2.2.2.2.1)), (q_t_pad, .inl (cI, 60, .inl t_pad)), (q_t_had, .inl (cI, 6, .inl u6.2.2.2.2.2))] H := hP
      have hD : va_D A [(q_t, .inr (7, [.ref q_t_book, .ref q_t_now, .int t_shift, .int t_kneels, .int t_sights, .ref q_t_sight, .int t_signs, .ref q_t_pad, .int u6.1, .int u6.2.1, .int u6.2.2.1, .int u6.2.2.2.1, .ref q_t_had, .ref q_t_takes, .ref q_t_worths, .ref q_t_fitting, .ref q_t_wins, .ref q_t_ways, .ref q_t_image, .ref q_t_isKept])), (q_t_book, .inl (cI, 45, .inl t_book)), (q_t_now, .inl (cI, 45, .inl u6.2.2.2.2.1)), (q_t_pad, .inl (cI, 60, .inl t_pad)), (q_t_had, .inl (cI, 6, .inl u6.2.2.2.2.2))] := hD
      refine lv_if_ge (tgt := 35) hx hb dX7_behind_27 (by decide) (fun c7 => ?_) (fun c7 => ?_)
      · have hf := hf.1 c7
        refine lv_aload_n hx hb dX7_behind_35 rfl (lv_at hl 0 rfl) ?_
        refine va_get (D := D) (ci := 7) (v := .ref q_t_now) (C := RX7) (T := TX7) (N := 20) hx hb hts nX7_behind_X7 hown hK hP 0 rfl rfl 1 (by decide) (hts _ mX7_behind_1) (fun _ h9 => h9) rfl dX7_behind_36 ?_
        refine lv_bipush (v := 6) hx hb dX7_behind_39 (by decide) ?_
        refine lv_iload_n hx hb dX7_behind_41 rfl (lv_at hl 2 rfl) ?_
        refine lv_imul hx hb dX7_behind_42 ?_
        refine lv_iload_n hx hb dX7_behind_43 rfl (lv_at hl 1 rfl) ?_
        refine lv_iadd hx hb dX7_behind_44 ?_
        have g8 := hf.1
        have hf := hf.2
        refine xa_iald hx hb hK hP 2 0 rfl rfl (j := ((6 * a2) + a1).toNatClampNeg) rfl g8 dX7_behind_45 ?_
        exact hret 46 ls H locs (u6.2.2.2.2.1 ((6 * a2) + a1).toNatClampNeg) (u6.1, u6.2.1, u6.2.2.1, u6.2.2.2.1, u6.2.2.2.2.1, u6.2.2.2.2.2) dX7_behind_46 hf hP hD hS
      · have hf := hf.2 c7
        refine lv_bipush (v := (-5)) hx hb dX7_behind_30 (by decide) ?_
        refine lv_goto (tgt := 46) hx hb dX7_behind_32 (by decide) ?_
        exact hret 46 ls H locs (-5) (u6.1, u6.2.1, u6.2.2.1, u6.2.2.2.1, u6.2.2.2.2.1, u6.2.2.2.2.2) dX7_behind_46 hf hP hD hS
    · have hf := hf.2 c4
      refine lv_bipush (v := (-2)) hx hb dX7_behind_20 (by decide) ?_
      exact hret 22 ls H locs (-2) (t_metAt, t_metWho, t_reason, t_acts, t_now, t_had) dX7_behind_22 hf hP hD hS
  · have hf := hf.2 c2
    refine lv_iconst (v := (-1)) hx hb dX7_behind_9 (by decide) ?_
    exact hret 10 ls H locs (-1) (t_metAt, t_metWho, t_reason, t_acts, t_now, t_had) dX7_behind_10 hf hP hD hS

/-! X7_lies -/
theorem mX7_lies_1 : Cond.fieldLink RX7 13 "OxenKneelModel" "now" "[I" ∈ wsX7_lies := List.mem_of_getElem? (i := 1) rfl
theorem nX7_lies_X7 : ∀ w ∈ wsX70, w ∈ wsX7_lies := fun _ h => List.mem_cons_of_mem _ (List.mem_append_right _ h)
def pX7_lies (t_shift : Int32) (t_kneels : Int32) (t_signs : Int32) (t_metAt : Int32) (t_metWho : Int32) (t_reason : Int32) (t_acts : Int32) (t_book : (Nat → Int32)) (t_now : (Nat → Int32)) (t_pad : (Nat → Int32)) (t_had : (Nat → Int32)) (a1 : Int32) (post : Int32 → (Int32 × Int32 × Int32 × Int32 × (Nat → Int32) × (Nat → Int32)) → Prop) : Prop :=
  pX7_in a1 0 29 (fun r1 => (¬ r1 = 0 → (pX7_barOfYears t_shift t_kneels t_signs t_metAt t_metWho t_reason t_acts t_book t_now t_pad t_had (fun (r3 : Int32) (u4 : Int32 × Int32 × Int32 × Int32 × (Nat → Int32) × (Nat → Int32)) => (0 ≤ r3 → (vp_in (12 + a1) 45 ∧ (post (u4.2.2.2.2.1 (12 + a1).toNatClampNeg) (u4.1, u4.2.1, u4.2.2.1, u4.2.2.2.1, u4.2.2.2.2.1, u4.2.2.2.2.2)))) ∧ (¬ 0 ≤ r3 → (post (-5) (u4.1, u4.2.1, u4.2.2.1, u4.2.2.2.1, u4.2.2.2.2.1, u4.2.2.2.2.2)))))) ∧ (r1 = 0 → (post (-2) (t_metAt, t_metWho, t_reason, t_acts, t_now, t_had))))

set_option maxHeartbeats 4000000 in
set_option maxRecDepth 100000 in
theorem kX7_lies (l : Launch) (D : va_G) (cI cZ cJ cO : ClassId) (q_t q_t_book q_t_now q_t_pad q_t_had q_t_sight q_t_takes q_t_worths q_t_fitting q_t_wins q_t_ways q_t_image q_t_isKept : Nat) (sz : Nat) (t_sights : Int32) (t_shift : Int32) (t_kneels : Int32) (t_signs : Int32) (t_metAt : Int32) (t_metWho : Int32) (t_reason : Int32) (t_acts : Int32) (t_book : (Nat → Int32)) (t_now : (Nat → Int32)) (t_pad : (Nat → Int32)) (t_had : (Nat → Int32)) (a1 : Int32) (post : Int32 → (Int32 × Int32 × Int32 × Int32 × (Nat → Int32) × (Nat → Int32)) → Prop) (hf : pX7_lies t_shift t_kneels t_signs t_metAt t_metWho t_reason t_acts t_book t_now t_pad t_had a1 post) :
    Met l yX7_lies wsX7_lies ({ frames := 5, cells := 0, slots := 0, locals := 109 } : Room) (va_Pc [.ref q_t, .int a1] (B1 D (tyL cI cZ cJ cO) [(q_t, .inr (7, [.ref q_t_book, .ref q_t_now, .int t_shift, .int t_kneels, .int t_sights, .ref q_t_sight, .int t_signs, .ref q_t_pad, .int t_metAt, .int t_metWho, .int t_reason, .int t_acts, .ref q_t_had, .ref q_t_takes, .ref q_t_worths, .ref q_t_fitting, .ref q_t_wins, .ref q_t_ways, .ref q_t_image, .ref q_t_isKept])), (q_t_book, .inl (cI, 45, .inl t_book)), (q_t_now, .inl (cI, 45, .inl t_now)), (q_t_pad, .inl (cI, 60, .inl t_pad)), (q_t_had, .inl (cI, 6, .inl t_had))] sz)) (va_Qi post (fun u t => E1 D (va_A [(q_t, .inr (7, [.ref q_t_book, .ref q_t_now, .int t_shift, .int t_kneels, .int t_sights, .ref q_t_sight, .int t_signs, .ref q_t_pad, .int t_metAt, .int t_metWho, .int t_reason, .int t_acts, .ref q_t_had, .ref q_t_takes, .ref q_t_worths, .ref q_t_fitting, .ref q_t_wins, .ref q_t_ways, .ref q_t_image, .ref q_t_isKept])), (q_t_book, .inl (cI, 45, .inl t_book)), (q_t_now, .inl (cI, 45, .inl t_now)), (q_t_pad, .inl (cI, 60, .inl t_pad)), (q_t_had, .inl (cI, 6, .inl t_had))] sz) ((fun u : Int32 × Int32 × Int32 × Int32 × (Nat → Int32) × (Nat → Int32) => [(q_t, .inr (7, [.ref q_t_book, .ref q_t_now, .int t_shift, .int t_kneels, .int t_sights, .ref q_t_sight, .int t_signs, .ref q_t_pad, .int u.1, .int u.2.1, .int u.2.2.1, .int u.2.2.2.1, .ref q_t_had, .ref q_t_takes, .ref q_t_worths, .ref q_t_fitting, .ref q_t_wins, .ref q_t_ways, .ref q_t_image, .ref q_t_isKept])), (q_t_book, .inl (cI, 45, .inl t_book)), (q_t_now, .inl (cI, 45, .inl u.2.2.2.2.1)), (q_t_pad, .inl (cI, 60, .inl t_pad)), (q_t_had, .inl (cI, 6, .inl u.2.2.2.2.2))]) u) t) (va_A [(q_t, .inr (7, [.ref q_t_book, .ref q_t_now, .int t_shift, .int t_kneels, .int t_sights, .ref q_t_sight, .int t_signs, .ref q_t_pad, .int t_metAt, .int t_metWho, .int t_reason, .int t_acts, .ref q_t_had, .ref q_t_takes, .ref q_t_worths, .ref q_t_fitting, .ref q_t_wins, .ref q_t_ways, .ref q_t_image, .ref q_t_isKept])), (q_t_book, .inl (cI, 45, .inl t_book)), (q_t_now, .inl (cI, 45, .inl t_now)), (q_t_pad, .inl (cI, 60, .inl t_pad)), (q_t_had, .inl (cI, 6, .inl t_had))] sz)) 0 0 (va_A [(q_t, .inr (7, [.ref q_t_book, .ref q_t_now, .int t_shift, .int t_kneels, .int t_sights, .ref q_t_sight, .int t_signs, .ref q_t_pad, .int t_metAt, .int t_metWho, .int t_reason, .int t_acts, .ref q_t_had, .ref q_t_takes, .ref q_t_worths, .ref q_t_fitting, .ref q_t_wins, .ref q_t_ways, .ref q_t_image, .ref q_t_isKept])), (q_t_book, .inl (cI, 45, .inl t_book)), (q_t_now, .inl (cI, 45, .inl t_now)), (q_t_pad, .inl (cI, 60, .inl t_pad)), (q_t_had, .inl (cI, 6, .inl t_had))] sz) := by
  unfold pX7_lies at hf
  refine xm_1i (own := RX7) (by decide) rfl rfl (Nat.le_of_ble_eq_true rfl) (fun p e s m args below meth c Q A C0 hN hK hA hret hP hD ls hl => ?_)
  obtain ⟨hx, hb, hml, hown, hts⟩ := id C0
  have hl : lv_has ls 2 [(0, .ref q_t), (1, .int a1)] := hl
  have hS : va_S A s.heap s.heap [] := va_S.rf
  obtain ⟨H, hHe⟩ : ∃ H, H = s.heap := ⟨_, rfl⟩
  obtain ⟨locs, hLe⟩ : ∃ L : List Loc, L = [] := ⟨_, rfl⟩
  rw [← hLe]
  rw [← hLe] at hS
  have hP : va_P D vwCl [(q_t, .inr (7, [.ref q_t_book, .ref q_t_now, .int t_shift, .int t_kneels, .int t_sights, .ref q_t_sight, .int t_signs, .ref q_t_pad, .int t_metAt, .int t_metWho, .int t_reason, .int t_acts, .ref q_t_had, .ref q_t_takes, .ref q_t_worths, .ref q_t_fitting, .ref q_t_wins, .ref q_t_ways, .ref q_t_image, .ref q_t_isKept])), (q_t_book, .inl (cI, 45, .inl t_book)), (q_t_now, .inl (cI, 45, .inl t_now)), (q_t_pad, .inl (cI, 60, .inl t_pad)), (q_t_had, .inl (cI, 6, .inl t_had))] H := by rw [hHe]; exact hP
  have hS : va_S A s.heap H locs := by rw [hHe]; exact hS
  suffices hgo : W p l e ({ frames := 5, cells := 0, slots := 0, locals := 109 } : Room) s m args below meth c H locs 0 0 Q (F0 m 0 ls []) by rw [← hHe]; exact hgo
  clear hHe hLe
  refine lv_iload_n hx hb dX7_lies_0 rfl (lv_at hl 1 rfl) ?_
  refine lv_iconst (v := 0) hx hb dX7_lies_1 (by decide) ?_
  refine lv_bipush (v := 29) hx hb dX7_lies_2 (by decide) ?_
  refine xs_i (va_runS (As := [.int a1, .int 0, .int 29]) (rest := []) ⟨hx, hb, hml, hown, hts⟩ (kX7_in l D cI cZ cJ cO a1 0 29 _ hf) (va_cwS 3 hts gX7_lies_X7_in rfl rfl rfl (by decide +kernel) ⟨Nat.le_of_ble_eq_true rfl, Nat.le_of_ble_eq_true rfl⟩) (B0_pre (hP.sub (ws' := []) [] rfl) hK hN) rfl rfl hl.1 rfl (lv_room (Nat.le_of_ble_eq_true rfl)) dX7_lies_4 ⟨Nat.zero_le _, Nat.zero_le _⟩) (fun r1 hf => ?_)
  refine lv_if_ne (tgt := 13) hx hb dX7_lies_7 (by decide) (fun c2 => ?_) (fun c2 => ?_)
  · have hf := hf.1 c2
    refine lv_aload_n hx hb dX7_lies_13 rfl (lv_at hl 0 rfl) ?_
    refine xc_i (wr := []) (va_runV (As := []) (rest := []) ⟨hx, hb, hml, hown, hts⟩ (kX7_barOfYears l D cI cZ cJ cO q_t q_t_book q_t_now q_t_pad q_t_had q_t_sight q_t_takes q_t_worths q_t_fitting q_t_wins q_t_ways q_t_image q_t_isKept H.size t_sights t_shift t_kneels t_signs t_metAt t_metWho t_reason t_acts t_book t_now t_pad t_had _ hf) (cwV 0 hts gX7_lies_X7_barOfYears rfl rfl rfl (by decide +kernel) ⟨Nat.le_of_ble_eq_true rfl, Nat.le_of_ble_eq_true rfl⟩) (B1_preV (ci := 7) (q0 := 0) hP rfl rfl (hP.sub (ws' := [(q_t, .inr (7, [.ref q_t_book, .ref q_t_now, .int t_shift, .int t_kneels, .int t_sights, .ref q_t_sight, .int t_signs, .ref q_t_pad, .int t_metAt, .int t_metWho, .int t_reason, .int t_acts, .ref q_t_had, .ref q_t_takes, .ref q_t_worths, .ref q_t_fitting, .ref q_t_wins, .ref q_t_ways, .ref q_t_image, .ref q_t_isKept])), (q_t_book, .inl (cI, 45, .inl t_book)), (q_t_now, .inl (cI, 45, .inl t_now)), (q_t_pad, .inl (cI, 60, .inl t_pad)), (q_t_had, .inl (cI, 6, .inl t_had))]) [0, 1, 2, 3, 4] rfl) hK hN (hD.sub (ws' := [(q_t, .inr (7, [.ref q_t_book, .ref q_t_now, .int t_shift, .int t_kneels, .int t_sights, .ref q_t_sight, .int t_signs, .ref q_t_pad, .int t_metAt, .int t_metWho, .int t_reason, .int t_acts, .ref q_t_had, .ref q_t_takes, .ref q_t_worths, .ref q_t_fitting, .ref q_t_wins, .ref q_t_ways, .ref q_t_image, .ref q_t_isKept])), (q_t_book, .inl (cI, 45, .inl t_book)), (q_t_now, .inl (cI, 45, .inl t_now)), (q_t_pad, .inl (cI, 60, .inl t_pad)), (q_t_had, .inl (cI, 6, .inl t_had))]) [0, 1, 2, 3, 4] (by decide) rfl)) rfl rfl hl.1 rfl (lv_room (Nat.le_of_ble_eq_true rfl)) dX7_lies_14 ⟨Nat.zero_le _, Nat.zero_le _⟩) hP hD hS hA [0, 1, 2, 3, 4] [] rfl rfl (by decide) (by decide) (fun r3 u4 H locs hf hP hD hS => ?_)
    have hP : va_P D vwCl [(q_t, .inr (7, [.ref q_t_book, .ref q_t_now, .int t_shift, .int t_kneels, .int t_sights, .ref q_t_sight, .int t_signs, .ref q_t_pad, .int u4.1, .int u4.2.1, .int u4.2.2.1, .int u4.2.2.2.1, .ref q_t_had, .ref q_t_takes, .ref q_t_worths, .ref q_t_fitting, .ref q_t_wins, .ref q_t_ways, .ref q_t_image, .ref q_t_isKept])), (q_t_book, .inl (cI, 45, .inl t_book)), (q_t_now, .inl (cI, 45, .inl u4.2.2.2.2.1)), (q_t_pad, .inl (cI, 60, .inl t_pad)), (q_t_had, .inl (cI, 6, .inl u4.2.2.2.2.2))] H := hP
    have hD : va_D A [(q_t, .inr (7, [.ref q_t_book, .ref q_t_now, .int t_shift, .int t_kneels, .int t_sights, .ref q_t_sight, .int t_signs, .ref q_t_pad, .int u4.1, .int u4.2.1, .int u4.2.2.1, .int u4.2.2.2.1, .ref q_t_had, .ref q_t_takes, .ref q_t_worths, .ref q_t_fitting, .ref q_t_wins, .ref q_t_ways, .ref q_t_image, .ref q_t_isKept])), (q_t_book, .inl (cI, 45, .inl t_book)), (q_t_now, .inl (cI, 45, .inl u4.2.2.2.2.1)), (q_t_pad, .inl (cI, 60, .inl t_pad)), (q_t_had, .inl (cI, 6, .inl u4.2.2.2.2.2))] := hD
    refine lv_if_ge (tgt := 25) hx hb dX7_lies_17 (by decide) (fun c5 => ?_) (fun c5 => ?_)
    · have hf := hf.1 c5
      refine lv_aload_n hx hb dX7_lies_25 rfl (lv_at hl 0 rfl) ?_
      refine va_get (D := D) (ci := 7) (v := .ref q_t_now) (C := RX7) (T := TX7) (N := 20) hx hb hts nX7_lies_X7 hown hK hP 0 rfl rfl 1 (by decide) (hts _ mX7_lies_1) (fun _ h9 => h9) rfl dX7_lies_26 ?_
      refine lv_bipush (v := 12) hx hb dX7_lies_29 (by decide) ?_
      refine lv_iload_n hx hb dX7_lies_31 rfl (lv_at hl 1 rfl) ?_
      refine lv_iadd hx hb dX7_lies_32 ?_
      have g6 := hf.1
      have hf := hf.2
      refine xa_iald hx hb hK hP 2 0 rfl rfl (j := (12 + a1).toNatClampNeg) rfl g6 dX7_lies_33 ?_
      exact hret 34 ls H locs (u4.2.2.2.2.1 (12 + a1).toNatClampNeg) (u4.1, u4.2.1, u4.2.2.1, u4.2.2.2.1, u4.2.2.2.2.1, u4.2.2.2.2.2) dX7_lies_34 hf hP hD hS
    · have hf := hf.2 c5
      refine lv_bipush (v := (-5)) hx hb dX7_lies_20 (by decide) ?_
      refine lv_goto (tgt := 34) hx hb dX7_lies_22 (by decide) ?_
      exact hret 34 ls H locs (-5) (u4.1, u4.2.1, u4.2.2.1, u4.2.2.2.1, u4.2.2.2.2.1, u4.2.2.2.2.2) dX7_lies_34 hf hP hD hS
  · have hf := hf.2 c2
    refine lv_bipush (v := (-2)) hx hb dX7_lies_10 (by decide) ?_
    exact hret 12 ls H locs (-2) (t_metAt, t_metWho, t_reason, t_acts, t_now, t_had) dX7_lies_12 hf hP hD hS

/-! X7_then -/
theorem mX7_then_1 : Cond.fieldLink RX7 13 "OxenKneelModel" "now" "[I" ∈ wsX7_then := List.mem_of_getElem? (i := 1) rfl
theorem mX7_then_2 : Cond.fieldLink RX7 16 "OxenKneelModel" "shift" "I" ∈ wsX7_then := List.mem_of_getElem? (i := 2) rfl
theorem mX7_then_4 : Cond.fieldLink RX7 82 "OxenKneelModel" "metWho" "I" ∈ wsX7_then := List.mem_of_getElem? (i := 4) rfl
theorem mX7_then_3 : Cond.fieldLink RX7 79 "OxenKneelModel" "metAt" "I" ∈ wsX7_then := List.mem_of_getElem? (i := 3) rfl
theorem nX7_then_X7 : ∀ w ∈ wsX70, w ∈ wsX7_then := fun _ h => List.mem_cons_of_mem _ (List.mem_append_right _ h)
def pX7_then_b89 (t_shift : Int32) (t_kneels : Int32) (t_signs : Int32) (t_book : (Nat → Int32)) (t_pad : (Nat → Int32)) (a1 : Int32) (post : Int32 → (Int32 × Int32 × Int32 × Int32 × (Nat → Int32) × (Nat → Int32)) → Prop) (t_metAt : Int32) (t_metWho : Int32) (t_reason : Int32) (t_acts : Int32) (t_now : (Nat → Int32)) (t_had : (Nat → Int32)) : Prop :=
  vp_in (41 + a1) 45 ∧ (post (t_now (41 + a1).toNatClampNeg) (t_metAt, t_metWho, t_reason, t_acts, t_now, t_had))

set_option maxHeartbeats 4000000 in
set_option maxRecDepth 100000 in
theorem wX7_then_b89 {p : Program} {l : Launch} {e : Env} {s : State} {m : MethodId} {args : Array Value} {below : List Frame} {meth : Method} {c : Code} {Q : State → Prop} {D : va_G} {cI cZ cJ cO : ClassId} {A : Nat → Prop} (C0 : CallFix p m c cX7_then 2 s args wsX7_then RX7) (hN : nw s) (hK : va_K D vwCl (tyL cI cZ cJ cO) s) (hA : ∀ q, s.heap.size ≤ q → A q) (q_t q_t_book q_t_now q_t_pad q_t_had q_t_sight q_t_takes q_t_worths q_t_fitting q_t_wins q_t_ways q_t_image q_t_isKept : Nat) (t_sights : Int32) (t_shift : Int32) (t_kneels : Int32) (t_signs : Int32) (t_book : (Nat → Int32)) (t_pad : (Nat → Int32)) (a1 : Int32) (post : Int32 → (Int32 × Int32 × Int32 × Int32 × (Nat → Int32) × (Nat → Int32)) → Prop) (hret : hrI p l e ({ frames := 5, cells := 0, slots := 0, locals := 109 } : Room) s m args below meth c cX7_then D A Q post (fun u : Int32 × Int32 × Int32 × Int32 × (Nat → Int32) × (Nat → Int32) => [(q_t, .inr (7, [.ref q_t_book, .ref q_t_now, .int t_shift, .int t_kneels, .int t_sights, .ref q_t_sight, .int t_signs, .ref q_t_pad, .int u.1, .int u.2.1, .int u.2.2.1, .int u.2.2.2.1, .ref q_t_had, .ref q_t_takes, .ref q_t_worths, .ref q_t_fitting, .ref q_t_wins, .ref q_t_ways, .ref q_t_image, .ref q_t_isKept])), (q_t_book, .inl (cI, 45, .inl t_book)), (q_t_now, .inl (cI, 45, .inl u.2.2.2.2.1)), (q_t_pad, .inl (cI, 60, .inl t_pad)), (q_t_had, .inl (cI, 6, .inl u.2.2.2.2.2))])) :
    ∀ (t_metAt : Int32) (t_metWho : Int32) (t_reason : Int32) (t_acts : Int32) (t_now : (Nat → Int32)) (t_had : (Nat → Int32)), pX7_then_b89 t_shift t_kneels t_signs t_book t_pad a1 post t_metAt t_metWho t_reason t_acts t_now t_had → ∀ (H : Heap) (locs : List Loc), va_P D vwCl [(q_t, .inr (7, [.ref q_t_book, .ref q_t_now, .int t_shift, .int t_kneels, .int t_sights, .ref q_t_sight, .int t_signs, .ref q_t_pad, .int t_metAt, .int t_metWho, .int t_reason, .int t_acts, .ref q_t_had, .ref q_t_takes, .ref q_t_worths, .ref q_t_fitting, .ref q_t_wins, .ref q_t_ways, .ref q_t_image, .ref q_t_isKept])), (q_t_book, .inl (cI, 45, .inl t_book)), (q_t_now, .inl (cI, 45, .inl t_now)), (q_t_pad, .inl (cI, 60, .inl t_pad)), (q_t_had, .inl (cI, 6, .inl t_had))] H → va_D A [(q_t, .inr (7, [.ref q_t_book, .ref q_t_now, .int t_shift, .int t_kneels, .int t_sights, .ref q_t_sight, .int t_signs, .ref q_t_pad, .int t_metAt, .int t_metWho, .int t_reason, .int t_acts, .ref q_t_had, .ref q_t_takes, .ref q_t_worths, .ref q_t_fitting, .ref q_t_wins, .ref q_t_ways, .ref q_t_image, .ref q_t_isKept])), (q_t_book, .inl (cI, 45, .inl t_book)), (q_t_now, .inl (cI, 45, .inl t_now)), (q_t_pad, .inl (cI, 60, .inl t_pad)), (q_t_had, .inl (cI, 6, .inl t_had))] → va_S A s.heap H locs → ∀ ls : Array Slot, lv_has ls 2 [(0, .ref q_t), (1, .int a1)] → W p l e ({ frames := 5, cells := 0, slots := 0, locals := 109 } : Room) s m args below meth c H locs 0 0 Q (F0 m 89 ls []) := by
  obtain ⟨hx, hb, hml, hown, hts⟩ := id C0
  intro t_metAt t_metWho t_reason t_acts t_now t_had hf H locs hP hD hS ls hl
  unfold pX7_then_b89 at hf
  refine lv_aload_n hx hb dX7_then_89 rfl (lv_at hl 0 rfl) ?_
  refine va_get (D := D) (ci := 7) (v := .ref q_t_now) (C := RX7) (T := TX7) (N := 20) hx hb hts nX7_then_X7 hown hK hP 0 rfl rfl 1 (by decide) (hts _ mX7_then_1) (fun _ h9 => h9) rfl dX7_then_90 ?_
  refine lv_bipush (v := 41) hx hb dX7_then_93 (by decide) ?_
  refine lv_iload_n hx hb dX7_then_95 rfl (lv_at hl 1 rfl) ?_
  refine lv_iadd hx hb dX7_then_96 ?_
  have g1 := hf.1
  have hf := hf.2
  refine xa_iald hx hb hK hP 2 0 rfl rfl (j := (41 + a1).toNatClampNeg) rfl g1 dX7_then_97 ?_
  exact hret 98 ls H locs (t_now (41 + a1).toNatClampNeg) (t_metAt, t_metWho, t_reason, t_acts, t_now, t_had) dX7_then_98 hf hP hD hS

def pX7_then (t_shift : Int32) (t_kneels : Int32) (t_signs : Int32) (t_metAt : Int32) (t_metWho : Int32) (t_reason : Int32) (t_acts : Int32) (t_book : (Nat → Int32)) (t_now : (Nat → Int32)) (t_pad : (Nat → Int32)) (t_had : (Nat → Int32)) (a1 : Int32) (post : Int32 → (Int32 × Int32 × Int32 × Int32 × (Nat → Int32) × (Nat → Int32)) → Prop) : Prop :=
  pX7_in a1 0 7 (fun r1 => (¬ r1 = 0 → (pX7_barOfYears t_shift t_kneels t_signs t_metAt t_metWho t_reason t_acts t_book t_now t_pad t_had (fun (r3 : Int32) (u4 : Int32 × Int32 × Int32 × Int32 × (Nat → Int32) × (Nat → Int32)) => (0 ≤ r3 → ((a1 = 0 → (post (u4.2.2.2.2.1 42) (u4.1, u4.2.1, u4.2.2.1, u4.2.2.2.1, u4.2.2.2.2.1, u4.2.2.2.2.2))) ∧ ((a1 = 1 → (post (((u4.2.2.2.2.1 42) + t_shift) - ((u4.2.2.2.2.1 42) + t_shift) / 365 * 365) (u4.1, u4.2.1, u4.2.2.1, u4.2.2.2.1, u4.2.2.2.2.1, u4.2.2.2.2.2))) ∧ ((a1 = 2 → (pX7_then_b89 t_shift t_kneels t_signs t_book t_pad a1 post  u4.1 u4.2.1 u4.2.2.1 u4.2.2.2.1 u4.2.2.2.2.1 u4.2.2.2.2.2)) ∧ ((a1 = 3 → (pX7_then_b89 t_shift t_kneels t_signs t_book t_pad a1 post  u4.1 u4.2.1 u4.2.2.1 u4.2.2.2.1 u4.2.2.2.2.1 u4.2.2.2.2.2)) ∧ ((a1 = 4 → (pX7_within u4.2.2.2.2.1 (fun r11 => post r11 (u4.1, u4.2.1, u4.2.2.1, u4.2.2.2.1, u4.2.2.2.2.1, u4.2.2.2.2.2)))) ∧ ((a1 = 5 → (pX7_lying u4.2.2.2.2.1 (fun r13 => post r13 (u4.1, u4.2.1, u4.2.2.1, u4.2.2.2.1, u4.2.2.2.2.1, u4.2.2.2.2.2)))) ∧ ((¬ a1 = 0 → ¬ a1 = 1 → ¬ a1 = 2 → ¬ a1 = 3 → ¬ a1 = 4 → ¬ a1 = 5 → ((¬ a1 = 6 → (post u4.2.1 (u4.1, u4.2.1, u4.2.2.1, u4.2.2.2.1, u4.2.2.2.2.1, u4.2.2.2.2.2))) ∧ (a1 = 6 → (post u4.1 (u4.1, u4.2.1, u4.2.2.1, u4.2.2.2.1, u4.2.2.2.2.1, u4.2.2.2.2.2))))))))))))) ∧ (¬ 0 ≤ r3 → (post (-5) (u4.1, u4.2.1, u4.2.2.1, u4.2.2.2.1, u4.2.2.2.2.1, u4.2.2.2.2.2)))))) ∧ (r1 = 0 → (post (-2) (t_metAt, t_metWho, t_reason, t_acts, t_now, t_had))))

set_option maxHeartbeats 4000000 in
set_option maxRecDepth 100000 in
theorem kX7_then (l : Launch) (D : va_G) (cI cZ cJ cO : ClassId) (q_t q_t_book q_t_now q_t_pad q_t_had q_t_sight q_t_takes q_t_worths q_t_fitting q_t_wins q_t_ways q_t_image q_t_isKept : Nat) (sz : Nat) (t_sights : Int32) (t_shift : Int32) (t_kneels : Int32) (t_signs : Int32) (t_metAt : Int32) (t_metWho : Int32) (t_reason : Int32) (t_acts : Int32) (t_book : (Nat → Int32)) (t_now : (Nat → Int32)) (t_pad : (Nat → Int32)) (t_had : (Nat → Int32)) (a1 : Int32) (post : Int32 → (Int32 × Int32 × Int32 × Int32 × (Nat → Int32) × (Nat → Int32)) → Prop) (hf : pX7_then t_shift t_kneels t_signs t_metAt t_metWho t_reason t_acts t_book t_now t_pad t_had a1 post) :
    Met l yX7_then wsX7_then ({ frames := 5, cells := 0, slots := 0, locals := 109 } : Room) (va_Pc [.ref q_t, .int a1] (B1 D (tyL cI cZ cJ cO) [(q_t, .inr (7, [.ref q_t_book, .ref q_t_now, .int t_shift, .int t_kneels, .int t_sights, .ref q_t_sight, .int t_signs, .ref q_t_pad, .int t_metAt, .int t_metWho, .int t_reason, .int t_acts, .ref q_t_had, .ref q_t_takes, .ref q_t_worths, .ref q_t_fitting, .ref q_t_wins, .ref q_t_ways, .ref q_t_image, .ref q_t_isKept])), (q_t_book, .inl (cI, 45, .inl t_book)), (q_t_now, .inl (cI, 45, .inl t_now)), (q_t_pad, .inl (cI, 60, .inl t_pad)), (q_t_had, .inl (cI, 6, .inl t_had))] sz)) (va_Qi post (fun u t => E1 D (va_A [(q_t, .inr (7, [.ref q_t_book, .ref q_t_now, .int t_shift, .int t_kneels, .int t_sights, .ref q_t_sight, .int t_signs, .ref q_t_pad, .int t_metAt, .int t_metWho, .int t_reason, .int t_acts, .ref q_t_had, .ref q_t_takes, .ref q_t_worths, .ref q_t_fitting, .ref q_t_wins, .ref q_t_ways, .ref q_t_image, .ref q_t_isKept])), (q_t_book, .inl (cI, 45, .inl t_book)), (q_t_now, .inl (cI, 45, .inl t_now)), (q_t_pad, .inl (cI, 60, .inl t_pad)), (q_t_had, .inl (cI, 6, .inl t_had))] sz) ((fun u : Int32 × Int32 × Int32 × Int32 × (Nat → Int32) × (Nat → Int32) => [(q_t, .inr (7, [.ref q_t_book, .ref q_t_now, .int t_shift, .int t_kneels, .int t_sights, .ref q_t_sight, .int t_signs, .ref q_t_pad, .int u.1, .int u.2.1, .int u.2.2.1, .int u.2.2.2.1, .ref q_t_had, .ref q_t_takes, .ref q_t_worths, .ref q_t_fitting, .ref q_t_wins, .ref q_t_ways, .ref q_t_image, .ref q_t_isKept])), (q_t_book, .inl (cI, 45, .inl t_book)), (q_t_now, .inl (cI, 45, .inl u.2.2.2.2.1)), (q_t_pad, .inl (cI, 60, .inl t_pad)), (q_t_had, .inl (cI, 6, .inl u.2.2.2.2.2))]) u) t) (va_A [(q_t, .inr (7, [.ref q_t_book, .ref q_t_now, .int t_shift, .int t_kneels, .int t_sights, .ref q_t_sight, .int t_signs, .ref q_t_pad, .int t_metAt, .int t_metWho, .int t_reason, .int t_acts, .ref q_t_had, .ref q_t_takes, .ref q_t_worths, .ref q_t_fitting, .ref q_t_wins, .ref q_t_ways, .ref q_t_image, .ref q_t_isKept])), (q_t_book, .inl (cI, 45, .inl t_book)), (q_t_now, .inl (cI, 45, .inl t_now)), (q_t_pad, .inl (cI, 60, .inl t_pad)), (q_t_had, .inl (cI, 6, .inl t_had))] sz)) 0 0 (va_A [(q_t, .inr (7, [.ref q_t_book, .ref q_t_now, .int t_shift, .int t_kneels, .int t_sights, .ref q_t_sight, .int t_signs, .ref q_t_pad, .int t_metAt, .int t_metWho, .int t_reason, .int t_acts, .ref q_t_had, .ref q_t_takes, .ref q_t_worths, .ref q_t_fitting, .ref q_t_wins, .ref q_t_ways, .ref q_t_image, .ref q_t_isKept])), (q_t_book, .inl (cI, 45, .inl t_book)), (q_t_now, .inl (cI, 45, .inl t_now)), (q_t_pad, .inl (cI, 60, .inl t_pad)), (q_t_had, .inl (cI, 6, .inl t_had))] sz) := by
  unfold pX7_then at hf
  refine xm_1i (own := RX7) (by decide) rfl rfl (Nat.le_of_ble_eq_true rfl) (fun p e s m args below meth c Q A C0 hN hK hA hret hP hD ls hl => ?_)
  obtain ⟨hx, hb, hml, hown, hts⟩ := id C0
  have hl : lv_has ls 2 [(0, .ref q_t), (1, .int a1)] := hl
  have hS : va_S A s.heap s.heap [] := va_S.rf
  obtain ⟨H, hHe⟩ : ∃ H, H = s.heap := ⟨_, rfl⟩
  obtain ⟨locs, hLe⟩ : ∃ L : List Loc, L = [] := ⟨_, rfl⟩
  rw [← hLe]
  rw [← hLe] at hS
  have hP : va_P D vwCl [(q_t, .inr (7, [.ref q_t_book, .ref q_t_now, .int t_shift, .int t_kneels, .int t_sights, .ref q_t_sight, .int t_signs, .ref q_t_pad, .int t_metAt, .int t_metWho, .int t_reason, .int t_acts, .ref q_t_had, .ref q_t_takes, .ref q_t_worths, .ref q_t_fitting, .ref q_t_wins, .ref q_t_ways, .ref q_t_image, .ref q_t_isKept])), (q_t_book, .inl (cI, 45, .inl t_book)), (q_t_now, .inl (cI, 45, .inl t_now)), (q_t_pad, .inl (cI, 60, .inl t_pad)), (q_t_had, .inl (cI, 6, .inl t_had))] H := by rw [hHe]; exact hP
  have hS : va_S A s.heap H locs := by rw [hHe]; exact hS
  suffices hgo : W p l e ({ frames := 5, cells := 0, slots := 0, locals := 109 } : Room) s m args below meth c H locs 0 0 Q (F0 m 0 ls []) by rw [← hHe]; exact hgo
  clear hHe hLe
  refine lv_iload_n hx hb dX7_then_0 rfl (lv_at hl 1 rfl) ?_
  refine lv_iconst (v := 0) hx hb dX7_then_1 (by decide) ?_
  refine lv_bipush (v := 7) hx hb dX7_then_2 (by decide) ?_
  refine xs_i (va_runS (As := [.int a1, .int 0, .int 7]) (rest := []) ⟨hx, hb, hml, hown, hts⟩ (kX7_in l D cI cZ cJ cO a1 0 7 _ hf) (va_cwS 3 hts gX7_then_X7_in rfl rfl rfl (by decide +kernel) ⟨Nat.le_of_ble_eq_true rfl, Nat.le_of_ble_eq_true rfl⟩) (B0_pre (hP.sub (ws' := []) [] rfl) hK hN) rfl rfl hl.1 rfl (lv_room (Nat.le_of_ble_eq_true rfl)) dX7_then_4 ⟨Nat.zero_le _, Nat.zero_le _⟩) (fun r1 hf => ?_)
  refine lv_if_ne (tgt := 13) hx hb dX7_then_7 (by decide) (fun c2 => ?_) (fun c2 => ?_)
  · have hf := hf.1 c2
    refine lv_aload_n hx hb dX7_then_13 rfl (lv_at hl 0 rfl) ?_
    refine xc_i (wr := []) (va_runV (As := []) (rest := []) ⟨hx, hb, hml, hown, hts⟩ (kX7_barOfYears l D cI cZ cJ cO q_t q_t_book q_t_now q_t_pad q_t_had q_t_sight q_t_takes q_t_worths q_t_fitting q_t_wins q_t_ways q_t_image q_t_isKept H.size t_sights t_shift t_kneels t_signs t_metAt t_metWho t_reason t_acts t_book t_now t_pad t_had _ hf) (cwV 0 hts gX7_then_X7_barOfYears rfl rfl rfl (by decide +kernel) ⟨Nat.le_of_ble_eq_true rfl, Nat.le_of_ble_eq_true rfl⟩) (B1_preV (ci := 7) (q0 := 0) hP rfl rfl (hP.sub (ws' := [(q_t, .inr (7, [.ref q_t_book, .ref q_t_now, .int t_shift, .int t_kneels, .int t_sights, .ref q_t_sight, .int t_signs, .ref q_t_pad, .int t_metAt, .int t_metWho, .int t_reason, .int t_acts, .ref q_t_had, .ref q_t_takes, .ref q_t_worths, .ref q_t_fitting, .ref q_t_wins, .ref q_t_ways, .ref q_t_image, .ref q_t_isKept])), (q_t_book, .inl (cI, 45, .inl t_book)), (q_t_now, .inl (cI, 45, .inl t_now)), (q_t_pad, .inl (cI, 60, .inl t_pad)), (q_t_had, .inl (cI, 6, .inl t_had))]) [0, 1, 2, 3, 4] rfl) hK hN (hD.sub (ws' := [(q_t, .inr (7, [.ref q_t_book, .ref q_t_now, .int t_shift, .int t_kneels, .int t_sights, .ref q_t_sight, .int t_signs, .ref q_t_pad, .int t_metAt, .int t_metWho, .int t_reason, .int t_acts, .ref q_t_had, .ref q_t_takes, .ref q_t_worths, .ref q_t_fitting, .ref q_t_wins, .ref q_t_ways, .ref q_t_image, .ref q_t_isKept])), (q_t_book, .inl (cI, 45, .inl t_book)), (q_t_now, .inl (cI, 45, .inl t_now)), (q_t_pad, .inl (cI, 60, .inl t_pad)), (q_t_had, .inl (cI, 6, .inl t_had))]) [0, 1, 2, 3, 4] (by decide) rfl)) rfl rfl hl.1 rfl (lv_room (Nat.le_of_ble_eq_true rfl)) dX7_then_14 ⟨Nat.zero_le _, Nat.zero_le _⟩) hP hD hS hA [0, 1, 2, 3, 4] [] rfl rfl (by decide) (by decide) (fun r3 u4 H locs hf hP hD hS => ?_)
    have hP : va_P D vwCl [(q_t, .inr (7, [.ref q_t_book, .ref q_t_now, .int t_shift, .int t_kneels, .int t_sights, .ref q_t_sight, .int t_signs, .ref q_t_pad, .int u4.1, .int u4.2.1, .int u4.2.2.1, .int u4.2.2.2.1, .ref q_t_had, .ref q_t_takes, .ref q_t_worths, .ref q_t_fitting, .ref q_t_wins, .ref q_t_ways, .ref q_t_image, .ref q_t_isKept])), (q_t_book, .inl (cI, 45, .inl t_book)), (q_t_now, .inl (cI, 45, .inl u4.2.2.2.2.1)), (q_t_pad, .inl (cI, 60, .inl t_pad)), (q_t_had, .inl (cI, 6, .inl u4.2.2.2.2.2))] H := hP
    have hD : va_D A [(q_t, .inr (7, [.ref q_t_book, .ref q_t_now, .int t_shift, .int t_kneels, .int t_sights, .ref q_t_sight, .int t_signs, .ref q_t_pad, .int u4.1, .int u4.2.1, .int u4.2.2.1, .int u4.2.2.2.1, .ref q_t_had, .ref q_t_takes, .ref q_t_worths, .ref q_t_fitting, .ref q_t_wins, .ref q_t_ways, .ref q_t_image, .ref q_t_isKept])), (q_t_book, .inl (cI, 45, .inl t_book)), (q_t_now, .inl (cI, 45, .inl u4.2.2.2.2.1)), (q_t_pad, .inl (cI, 60, .inl t_pad)), (q_t_had, .inl (cI, 6, .inl u4.2.2.2.2.2))] := hD
    refine lv_if_ge (tgt := 23) hx hb dX7_then_17 (by decide) (fun c5 => ?_) (fun c5 => ?_)
    · have hf := hf.1 c5
      refine lv_iload_n hx hb dX7_then_23 rfl (lv_at hl 1 rfl) ?_
      by_cases z6 : a1 = 0
      · have hf := hf.1 z6
        refine lv_tableIn (off := 40) (tgt := 64) hx hb dX7_then_24 (by rw [z6]; decide) (by rw [z6]; decide) (by rw [z6]; decide) (by decide) ?_
        refine lv_aload_n hx hb dX7_then_64 rfl (lv_at hl 0 rfl) ?_
        refine va_get (D := D) (ci := 7) (v := .ref q_t_now) (C := RX7) (T := TX7) (N := 20) hx hb hts nX7_then_X7 hown hK hP 0 rfl rfl 1 (by decide) (hts _ mX7_then_1) (fun _ h9 => h9) rfl dX7_then_65 ?_
        refine lv_bipush (v := 42) hx hb dX7_then_68 (by decide) ?_
        refine xa_iald hx hb hK hP 2 0 rfl rfl (j := 42) (by decide) (vpc rfl) dX7_then_70 ?_
        exact hret 71 ls H locs (u4.2.2.2.2.1 42) (u4.1, u4.2.1, u4.2.2.1, u4.2.2.2.1, u4.2.2.2.2.1, u4.2.2.2.2.2) dX7_then_71 hf hP hD hS
      · have hf := hf.2
        by_cases z7 : a1 = 1
        · have hf := hf.1 z7
          refine lv_tableIn (off := 48) (tgt := 72) hx hb dX7_then_24 (by rw [z7]; decide) (by rw [z7]; decide) (by rw [z7]; decide) (by decide) ?_
          refine lv_aload_n hx hb dX7_then_72 rfl (lv_at hl 0 rfl) ?_
          refine va_get (D := D) (ci := 7) (v := .ref q_t_now) (C := RX7) (T := TX7) (N := 20) hx hb hts nX7_then_X7 hown hK hP 0 rfl rfl 1 (by decide) (hts _ mX7_then_1) (fun _ h9 => h9) rfl dX7_then_73 ?_
          refine lv_bipush (v := 42) hx hb dX7_then_76 (by decide) ?_
          refine xa_iald hx hb hK hP 2 0 rfl rfl (j := 42) (by decide) (vpc rfl) dX7_then_78 ?_
          refine lv_aload_n hx hb dX7_then_79 rfl (lv_at hl 0 rfl) ?_
          refine va_get (D := D) (ci := 7) (v := .int t_shift) (C := RX7) (T := TX7) (N := 20) hx hb hts nX7_then_X7 hown hK hP 0 rfl rfl 2 (by decide) (hts _ mX7_then_2) (fun _ h9 => h9) rfl dX7_then_80 ?_
          refine lv_iadd hx hb dX7_then_83 ?_
          refine lv_sipush (v := 365) hx hb dX7_then_84 (by decide) ?_
          refine lv_irem hx hb dX7_then_87 (by decide) ?_
          exact hret 88 ls H locs (((u4.2.2.2.2.1 42) + t_shift) - ((u4.2.2.2.2.1 42) + t_shift) / 365 * 365) (u4.1, u4.2.1, u4.2.2.1, u4.2.2.2.1, u4.2.2.2.2.1, u4.2.2.2.2.2) dX7_then_88 hf hP hD hS
        · have hf := hf.2
          by_cases z8 : a1 = 2
          · have hf := hf.1 z8
            refine lv_tableIn (off := 65) (tgt := 89) hx hb dX7_then_24 (by rw [z8]; decide) (by rw [z8]; decide) (by rw [z8]; decide) (by decide) ?_
            exact wX7_then_b89 C0 hN hK hA q_t q_t_book q_t_now q_t_pad q_t_had q_t_sight q_t_takes q_t_worths q_t_fitting q_t_wins q_t_ways q_t_image q_t_isKept t_sights t_shift t_kneels t_signs t_book t_pad a1 post hret   u4.1 u4.2.1 u4.2.2.1 u4.2.2.2.1 u4.2.2.2.2.1 u4.2.2.2.2.2 hf H locs hP hD hS ls (lv_sub hl [0, 1] rfl)
          · have hf := hf.2
            by_cases z9 : a1 = 3
            · have hf := hf.1 z9
              refine lv_tableIn (off := 65) (tgt := 89) hx hb dX7_then_24 (by rw [z9]; decide) (by rw [z9]; decide) (by rw [z9]; decide) (by decide) ?_
              exact wX7_then_b89 C0 hN hK hA q_t q_t_book q_t_now q_t_pad q_t_had q_t_sight q_t_takes q_t_worths q_t_fitting q_t_wins q_t_ways q_t_image q_t_isKept t_sights t_shift t_kneels t_signs t_book t_pad a1 post hret   u4.1 u4.2.1 u4.2.2.1 u4.2.2.2.1 u4.2.2.2.2.1 u4.2.2.2.2.2 hf H locs hP hD hS ls (lv_sub hl [0, 1] rfl)
            · have hf := hf.2
              by_cases z10 : a1 = 4
              · have hf := hf.1 z10
                refine lv_tableIn (off := 75) (tgt := 99) hx hb dX7_then_24 (by rw [z10]; decide) (by rw [z10]; decide) (by rw [z10]; decide) (by decide) ?_
                refine lv_aload_n hx hb dX7_then_99 rfl (lv_at hl 0 rfl) ?_
                refine xs_i (va_runV (As := []) (rest := []) ⟨hx, hb, hml, hown, hts⟩ (kX7_within l D cI cZ cJ cO q_t q_t_now q_t_book q_t_sight q_t_pad q_t_had q_t_takes q_t_worths q_t_fitting q_t_wins q_t_ways q_t_image q_t_isKept t_shift t_kneels t_sights t_signs u4.1 u4.2.1 u4.2.2.1 u4.2.2.2.1 u4.2.2.2.2.1 _ hf) (cwV 0 hts gX7_then_X7_within rfl rfl rfl (by decide +kernel) ⟨Nat.le_of_ble_eq_true rfl, Nat.le_of_ble_eq_true rfl⟩) (B0_preV (ci := 7) (q0 := 0) hP rfl rfl (hP.sub (ws' := [(q_t, .inr (7, [.ref q_t_book, .ref q_t_now, .int t_shift, .int t_kneels, .int t_sights, .ref q_t_sight, .int t_signs, .ref q_t_pad, .int u4.1, .int u4.2.1, .int u4.2.2.1, .int u4.2.2.2.1, .ref q_t_had, .ref q_t_takes, .ref q_t_worths, .ref q_t_fitting, .ref q_t_wins, .ref q_t_ways, .ref q_t_image, .ref q_t_isKept])), (q_t_now, .inl (cI, 45, .inl u4.2.2.2.2.1))]) [0, 2] rfl) hK hN) rfl rfl hl.1 rfl (lv_room (Nat.le_of_ble_eq_true rfl)) dX7_then_100 ⟨Nat.zero_le _, Nat.zero_le _⟩) (fun r11 hf => ?_)
                exact hret 103 ls H locs r11 (u4.1, u4.2.1, u4.2.2.1, u4.2.2.2.1, u4.2.2.2.2.1, u4.2.2.2.2.2) dX7_then_103 hf hP hD hS
              · have hf := hf.2
                by_cases z12 : a1 = 5
                · have hf := hf.1 z12
                  refine lv_tableIn (off := 80) (tgt := 104) hx hb dX7_then_24 (by rw [z12]; decide) (by rw [z12]; decide) (by rw [z12]; decide) (by decide) ?_
                  refine lv_aload_n hx hb dX7_then_104 rfl (lv_at hl 0 rfl) ?_
                  refine xs_i (va_runV (As := []) (rest := []) ⟨hx, hb, hml, hown, hts⟩ (kX7_lying l D cI cZ cJ cO q_t q_t_now q_t_book q_t_sight q_t_pad q_t_had q_t_takes q_t_worths q_t_fitting q_t_wins q_t_ways q_t_image q_t_isKept t_shift t_kneels t_sights t_signs u4.1 u4.2.1 u4.2.2.1 u4.2.2.2.1 u4.2.2.2.2.1 _ hf) (cwV 0 hts gX7_then_X7_lying rfl rfl rfl (by decide +kernel) ⟨Nat.le_of_ble_eq_true rfl, Nat.le_of_ble_eq_true rfl⟩) (B0_preV (ci := 7) (q0 := 0) hP rfl rfl (hP.sub (ws' := [(q_t, .inr (7, [.ref q_t_book, .ref q_t_now, .int t_shift, .int t_kneels, .int t_sights, .ref q_t_sight, .int t_signs, .ref q_t_pad, .int u4.1, .int u4.2.1, .int u4.2.2.1, .int u4.2.2.2.1, .ref q_t_had, .ref q_t_takes, .ref q_t_worths, .ref q_t_fitting, .ref q_t_wins, .ref q_t_ways, .ref q_t_image, .ref q_t_isKept])), (q_t_now, .inl (cI, 45, .inl u4.2.2.2.2.1))]) [0, 2] rfl) hK hN) rfl rfl hl.1 rfl (lv_room (Nat.le_of_ble_eq_true rfl)) dX7_then_105 ⟨Nat.zero_le _, Nat.zero_le _⟩) (fun r13 hf => ?_)
                  exact hret 108 ls H locs r13 (u4.1, u4.2.1, u4.2.2.1, u4.2.2.2.1, u4.2.2.2.2.1, u4.2.2.2.2.2) dX7_then_108 hf hP hD hS
                · have hf := hf.2
                  have hf := hf z6 z7 z8 z9 z10 z12
                  refine lv_tableOut (tgt := 109) hx hb dX7_then_24 (by have yz6 := lv_neT (a := 0) z6 (by decide); have yz7 := lv_neT (a := 1) z7 (by decide); have yz8 := lv_neT (a := 2) z8 (by decide); have yz9 := lv_neT (a := 3) z9 (by decide); have yz10 := lv_neT (a := 4) z10 (by decide); have yz12 := lv_neT (a := 5) z12 (by decide); omega) (by decide) ?_
                  refine lv_iload_n hx hb dX7_then_109 rfl (lv_at hl 1 rfl) ?_
                  refine lv_bipush (v := 6) hx hb dX7_then_110 (by decide) ?_
                  refine lv_icmp_ne (tgt := 122) hx hb dX7_then_112 (by decide) (fun c14 => ?_) (fun c14 => ?_)
                  · have hf := hf.1 c14
                    refine lv_aload_n hx hb dX7_then_122 rfl (lv_at hl 0 rfl) ?_
                    refine va_get (D := D) (ci := 7) (v := .int u4.2.1) (C := RX7) (T := TX7) (N := 20) hx hb hts nX7_then_X7 hown hK hP 0 rfl rfl 9 (by decide) (hts _ mX7_then_4) (fun _ h9 => h9) rfl dX7_then_123 ?_
                    exact hret 126 ls H locs u4.2.1 (u4.1, u4.2.1, u4.2.2.1, u4.2.2.2.1, u4.2.2.2.2.1, u4.2.2.2.2.2) dX7_then_126 hf hP hD hS
                  · have hf := hf.2 c14
                    refine lv_aload_n hx hb dX7_then_115 rfl (lv_at hl 0 rfl) ?_
                    refine va_get (D := D) (ci := 7) (v := .int u4.1) (C := RX7) (T := TX7) (N := 20) hx hb hts nX7_then_X7 hown hK hP 0 rfl rfl 8 (by decide) (hts _ mX7_then_3) (fun _ h9 => h9) rfl dX7_then_116 ?_
                    refine lv_goto (tgt := 126) hx hb dX7_then_119 (by decide) ?_
                    exact hret 126 ls H locs u4.1 (u4.1, u4.2.1, u4.2.2.1, u4.2.2.2.1, u4.2.2.2.2.1, u4.2.2.2.2.2) dX7_then_126 hf hP hD hS
    · have hf := hf.2 c5
      refine lv_bipush (v := (-5)) hx hb dX7_then_20 (by decide) ?_
      exact hret 22 ls H locs (-5) (u4.1, u4.2.1, u4.2.2.1, u4.2.2.2.1, u4.2.2.2.2.1, u4.2.2.2.2.2) dX7_then_22 hf hP hD hS
  · have hf := hf.2 c2
    refine lv_bipush (v := (-2)) hx hb dX7_then_10 (by decide) ?_
    exact hret 12 ls H locs (-2) (t_metAt, t_metWho, t_reason, t_acts, t_now, t_had) dX7_then_12 hf hP hD hS

/-! X7_agree -/

def pX7_agree_b51 (a1 : Int32) (a2 : Int32) (a3 : Int32) (a4 : Int32) (post : Int32 → Prop) : Nat → Int32 → Prop
  | 0 => fun _ => False
  | n + 1 => fun x5 => ((a1 * a3) ≤ x5 → (post (-6))) ∧ (¬ (a1 * a3) ≤ x5 → (¬ a3 = 0 ∧ ((¬ (x5 - x5 / a3 * a3) = a4 → (∀ v4 : Int32, v4 = (x5 + a1) → (pX7_agree_b51 a1 a2 a3 a4 post  n v4))) ∧ ((x5 - x5 / a3 * a3) = a4 → (post x5)))))

set_option maxHeartbeats 4000000 in
set_option maxRecDepth 100000 in
theorem wX7_agree_b51 {p : Program} {l : Launch} {e : Env} {s : State} {m : MethodId} {args : Array Value} {below : List Frame} {meth : Method} {c : Code} {Q : State → Prop} {D : va_G} {cI cZ cJ cO : ClassId} (C0 : CallFix p m c cX7_agree 6 s args wsX7_agree RX7) (hN : nw s) (hK : va_K D vwCl (tyL cI cZ cJ cO) s) (q_t : Nat)  (a1 : Int32) (a2 : Int32) (a3 : Int32) (a4 : Int32) (post : Int32 → Prop) (hret : h0I p l e ({ frames := 1, cells := 0, slots := 0, locals := 22 } : Room) s m args below meth c cX7_agree Q post) (hP : va_P D vwCl [] s.heap) :
    ∀ (n : Nat) (x5 : Int32), pX7_agree_b51 a1 a2 a3 a4 post n x5 → ∀ ls : Array Slot, lv_has ls 6 [(1, .int a1), (3, .int a3), (4, .int a4), (5, .int x5)] → W p l e ({ frames := 1, cells := 0, slots := 0, locals := 22 } : Room) s m args below meth c s.heap [] 0 0 Q (F0 m 51 ls []) := by
  obtain ⟨hx, hb, hml, hown, hts⟩ := id C0
  intro n
  induction n with
  | zero =>
    intro x5 hf
    exact False.elim hf
  | succ n ih =>
    intro x5 hf ls hl
    rw [pX7_agree_b51] at hf
    refine lv_iload hx hb dX7_agree_51 (lv_at hl 3 rfl) ?_
    refine lv_iload_n hx hb dX7_agree_53 rfl (lv_at hl 0 rfl) ?_
    refine lv_iload_n hx hb dX7_agree_54 rfl (lv_at hl 1 rfl) ?_
    refine lv_imul hx hb dX7_agree_55 ?_
    refine lv_icmp_ge (tgt := 80) hx hb dX7_agree_56 (by decide) (fun c1 => ?_) (fun c1 => ?_)
    · have hf := hf.1 c1
      refine lv_bipush (v := (-6)) hx hb dX7_agree_80 (by decide) ?_
      exact hret 82 ls (-6) dX7_agree_82 hf
    · have hf := hf.2 c1
      refine lv_iload hx hb dX7_agree_59 (lv_at hl 3 rfl) ?_
      refine lv_iload_n hx hb dX7_agree_61 rfl (lv_at hl 1 rfl) ?_
      have g2 := hf.1
      have hf := hf.2
      refine lv_irem hx hb dX7_agree_62 g2 ?_
      refine lv_iload hx hb dX7_agree_63 (lv_at hl 2 rfl) ?_
      refine lv_icmp_ne (tgt := 71) hx hb dX7_agree_65 (by decide) (fun c3 => ?_) (fun c3 => ?_)
      · have hf := hf.1 c3
        refine lv_iload hx hb dX7_agree_71 (lv_at hl 3 rfl) ?_
        refine lv_iload_n hx hb dX7_agree_73 rfl (lv_at hl 0 rfl) ?_
        refine lv_iadd hx hb dX7_agree_74 ?_
        refine lv_topi (fun v4 ev4 => ?_)
        have hf := hf v4 ev4
        refine lv_istore (lv' := [(5, .int v4), (1, .int a1), (3, .int a3), (4, .int a4)]) hx hb dX7_agree_75 hl (by decide) rfl (fun ls hl => ?_)
        refine lv_goto (tgt := 51) hx hb dX7_agree_77 (by decide) ?_
        exact ih v4 hf ls (lv_sub hl [1, 2, 3, 0] rfl)
      · have hf := hf.2 c3
        refine lv_iload hx hb dX7_agree_68 (lv_at hl 3 rfl) ?_
        exact hret 70 ls x5 dX7_agree_70 hf

def pX7_agree  (a1 : Int32) (a2 : Int32) (a3 : Int32) (a4 : Int32) (post : Int32 → Prop) : Prop :=
  pX7_in a1 1 999 (fun r1 => (r1 = 0 → (post (-2))) ∧ (¬ r1 = 0 → (pX7_in a3 1 999 (fun r3 => (r3 = 0 → (post (-2))) ∧ (¬ r3 = 0 → (pX7_in a2 0 (a1 - 1) (fun r5 => (r5 = 0 → (post (-2))) ∧ (¬ r5 = 0 → (pX7_in a4 0 (a3 - 1) (fun r7 => (¬ r7 = 0 → (∃ n1, pX7_agree_b51 a1 a2 a3 a4 post  n1 a2)) ∧ (r7 = 0 → (post (-2)))))))))))))

set_option maxHeartbeats 4000000 in
set_option maxRecDepth 100000 in
theorem kX7_agree (l : Launch) (D : va_G) (cI cZ cJ cO : ClassId) (q_t : Nat)   (a1 : Int32) (a2 : Int32) (a3 : Int32) (a4 : Int32) (post : Int32 → Prop) (hf : pX7_agree a1 a2 a3 a4 post) :
    Met l yX7_agree wsX7_agree ({ frames := 1, cells := 0, slots := 0, locals := 22 } : Room) (va_Pc [.ref q_t, .int a1, .int a2, .int a3, .int a4] (B0 D (tyL cI cZ cJ cO) [])) (vp_Si post) 0 0 (fun _ => False) := by
  unfold pX7_agree at hf
  refine xm_0i (own := RX7) (by decide) rfl rfl (Nat.le_of_ble_eq_true rfl) (fun p e s m args below meth c Q C0 hN hK hret hP ls hl => ?_)
  obtain ⟨hx, hb, hml, hown, hts⟩ := id C0
  have hl : lv_has ls 6 [(0, .ref q_t), (1, .int a1), (2, .int a2), (3, .int a3), (4, .int a4)] := hl
  refine lv_iload_n hx hb dX7_agree_0 rfl (lv_at hl 1 rfl) ?_
  refine lv_iconst (v := 1) hx hb dX7_agree_1 (by decide) ?_
  refine lv_sipush (v := 999) hx hb dX7_agree_2 (by decide) ?_
  refine xs_i (va_runS (As := [.int a1, .int 1, .int 999]) (rest := []) ⟨hx, hb, hml, hown, hts⟩ (kX7_in l D cI cZ cJ cO a1 1 999 _ hf) (va_cwS 3 hts gX7_agree_X7_in rfl rfl rfl (by decide +kernel) ⟨Nat.le_of_ble_eq_true rfl, Nat.le_of_ble_eq_true rfl⟩) (B0_pre (hP.sub (ws' := []) [] rfl) hK hN) rfl rfl hl.1 rfl (lv_room (Nat.le_of_ble_eq_true rfl)) dX7_agree_5 ⟨Nat.zero_le _, Nat.zero_le _⟩) (fun r1 hf => ?_)
  refine lv_if_eq (tgt := 45) hx hb dX7_agree_8 (by decide) (fun c2 => ?_) (fun c2 => ?_)
  · have hf := hf.1 c2
    refine lv_bipush (v := (-2)) hx hb dX7_agree_45 (by decide) ?_
    exact hret 47 ls (-2) dX7_agree_47 hf
  · have hf := hf.2 c2
    refine lv_iload_n hx hb dX7_agree_11 rfl (lv_at hl 3 rfl) ?_
    refine lv_iconst (v := 1) hx hb dX7_agree_12 (by decide) ?_
    refine lv_sipush (v := 999) hx hb dX7_agree_13 (by decide) ?_
    refine xs_i (va_runS (As := [.int a3, .int 1, .int 999]) (rest := []) ⟨hx, hb, hml, hown, hts⟩ (kX7_in l D cI cZ cJ cO a3 1 999 _ hf) (va_cwS 3 hts gX7_agree_X7_in rfl rfl rfl (by decide +kernel) ⟨Nat.le_of_ble_eq_true rfl, Nat.le_of_ble_eq_true rfl⟩) (B0_pre (hP.sub (ws' := []) [] rfl) hK hN) rfl rfl hl.1 rfl (lv_room (Nat.le_of_ble_eq_true rfl)) dX7_agree_16 ⟨Nat.zero_le _, Nat.zero_le _⟩) (fun r3 hf => ?_)
    refine lv_if_eq (tgt := 45) hx hb dX7_agree_19 (by decide) (fun c4 => ?_) (fun c4 => ?_)
    · have hf := hf.1 c4
      refine lv_bipush (v := (-2)) hx hb dX7_agree_45 (by decide) ?_
      exact hret 47 ls (-2) dX7_agree_47 hf
    · have hf := hf.2 c4
      refine lv_iload_n hx hb dX7_agree_22 rfl (lv_at hl 2 rfl) ?_
      refine lv_iconst (v := 0) hx hb dX7_agree_23 (by decide) ?_
      refine lv_iload_n hx hb dX7_agree_24 rfl (lv_at hl 1 rfl) ?_
      refine lv_iconst (v := 1) hx hb dX7_agree_25 (by decide) ?_
      refine lv_isub hx hb dX7_agree_26 ?_
      refine xs_i (va_runS (As := [.int a2, .int 0, .int (a1 - 1)]) (rest := []) ⟨hx, hb, hml, hown, hts⟩ (kX7_in l D cI cZ cJ cO a2 0 (a1 - 1) _ hf) (va_cwS 3 hts gX7_agree_X7_in rfl rfl rfl (by decide +kernel) ⟨Nat.le_of_ble_eq_true rfl, Nat.le_of_ble_eq_true rfl⟩) (B0_pre (hP.sub (ws' := []) [] rfl) hK hN) rfl rfl hl.1 rfl (lv_room (Nat.le_of_ble_eq_true rfl)) dX7_agree_27 ⟨Nat.zero_le _, Nat.zero_le _⟩) (fun r5 hf => ?_)
      refine lv_if_eq (tgt := 45) hx hb dX7_agree_30 (by decide) (fun c6 => ?_) (fun c6 => ?_)
      · have hf := hf.1 c6
        refine lv_bipush (v := (-2)) hx hb dX7_agree_45 (by decide) ?_
        exact hret 47 ls (-2) dX7_agree_47 hf
      · have hf := hf.2 c6
        refine lv_iload hx hb dX7_agree_33 (lv_at hl 4 rfl) ?_
        refine lv_iconst (v := 0) hx hb dX7_agree_35 (by decide) ?_
        refine lv_iload_n hx hb dX7_agree_36 rfl (lv_at hl 3 rfl) ?_
        refine lv_iconst (v := 1) hx hb dX7_agree_37 (by decide) ?_
        refine lv_isub hx hb dX7_agree_38 ?_
        refine xs_i (va_runS (As := [.int a4, .int 0, .int (a3 - 1)]) (rest := []) ⟨hx, hb, hml, hown, hts⟩ (kX7_in l D cI cZ cJ cO a4 0 (a3 - 1) _ hf) (va_cwS 3 hts gX7_agree_X7_in rfl rfl rfl (by decide +kernel) ⟨Nat.le_of_ble_eq_true rfl, Nat.le_of_ble_eq_true rfl⟩) (B0_pre (hP.sub (ws' := []) [] rfl) hK hN) rfl rfl hl.1 rfl (lv_room (Nat.le_of_ble_eq_true rfl)) dX7_agree_39 ⟨Nat.zero_le _, Nat.zero_le _⟩) (fun r7 hf => ?_)
        refine lv_if_ne (tgt := 48) hx hb dX7_agree_42 (by decide) (fun c8 => ?_) (fun c8 => ?_)
        · have hf := hf.1 c8
          refine lv_iload_n hx hb dX7_agree_48 rfl (lv_at hl 2 rfl) ?_
          refine lv_istore (lv' := [(5, .int a2), (0, .ref q_t), (1, .int a1), (2, .int a2), (3, .int a3), (4, .int a4)]) hx hb dX7_agree_49 hl (by decide) rfl (fun ls hl => ?_)
          obtain ⟨n1, hf⟩ := hf
          exact wX7_agree_b51 C0 hN hK q_t a1 a2 a3 a4 post hret hP   n1 a2 hf ls (lv_sub hl [2, 4, 5, 0] rfl)
        · have hf := hf.2 c8
          refine lv_bipush (v := (-2)) hx hb dX7_agree_45 (by decide) ?_
          exact hret 47 ls (-2) dX7_agree_47 hf

/-! X7_long1 -/

def pX7_long1  (a1 : Int32) (a2 : Int32) (post : Int32 → Prop) : Prop :=
  (¬ a2 = 2 → ((a2 = 4 → (post 30)) ∧ (¬ a2 = 4 → ((a2 = 6 → (post 30)) ∧ (¬ a2 = 6 → ((a2 = 9 → (post 30)) ∧ (¬ a2 = 9 → ((¬ a2 = 11 → (post 31)) ∧ (a2 = 11 → (post 30)))))))))) ∧ (a2 = 2 → ((¬ (a1 - a1 / 4 * 4) = 0 → (post 28)) ∧ ((a1 - a1 / 4 * 4) = 0 → (post 29))))

set_option maxHeartbeats 4000000 in
set_option maxRecDepth 100000 in
theorem kX7_long1 (l : Launch) (D : va_G) (cI cZ cJ cO : ClassId)    (a1 : Int32) (a2 : Int32) (post : Int32 → Prop) (hf : pX7_long1 a1 a2 post) :
    Met l yX7_long1 wsX7_long1 ({ frames := 0, cells := 0, slots := 0, locals := 0 } : Room) (va_Pc [.int a1, .int a2] (B0 D (tyL cI cZ cJ cO) [])) (vp_Si post) 0 0 (fun _ => False) := by
  unfold pX7_long1 at hf
  refine xm_0i (own := RX7) (by decide) rfl rfl (Nat.le_of_ble_eq_true rfl) (fun p e s m args below meth c Q C0 hN hK hret hP ls hl => ?_)
  obtain ⟨hx, hb, hml, hown, hts⟩ := id C0
  have hl : lv_has ls 2 [(0, .int a1), (1, .int a2)] := hl
  refine lv_iload_n hx hb dX7_long1_0 rfl (lv_at hl 1 rfl) ?_
  refine lv_iconst (v := 2) hx hb dX7_long1_1 (by decide) ?_
  refine lv_icmp_ne (tgt := 21) hx hb dX7_long1_2 (by decide) (fun c1 => ?_) (fun c1 => ?_)
  · have hf := hf.1 c1
    refine lv_iload_n hx hb dX7_long1_21 rfl (lv_at hl 1 rfl) ?_
    refine lv_iconst (v := 4) hx hb dX7_long1_22 (by decide) ?_
    refine lv_icmp_eq (tgt := 44) hx hb dX7_long1_23 (by decide) (fun c2 => ?_) (fun c2 => ?_)
    · have hf := hf.1 c2
      refine lv_bipush (v := 30) hx hb dX7_long1_44 (by decide) ?_
      refine lv_goto (tgt := 51) hx hb dX7_long1_46 (by decide) ?_
      exact hret 51 ls 30 dX7_long1_51 hf
    · have hf := hf.2 c2
      refine lv_iload_n hx hb dX7_long1_26 rfl (lv_at hl 1 rfl) ?_
      refine lv_bipush (v := 6) hx hb dX7_long1_27 (by decide) ?_
      refine lv_icmp_eq (tgt := 44) hx hb dX7_long1_29 (by decide) (fun c3 => ?_) (fun c3 => ?_)
      · have hf := hf.1 c3
        refine lv_bipush (v := 30) hx hb dX7_long1_44 (by decide) ?_
        refine lv_goto (tgt := 51) hx hb dX7_long1_46 (by decide) ?_
        exact hret 51 ls 30 dX7_long1_51 hf
      · have hf := hf.2 c3
        refine lv_iload_n hx hb dX7_long1_32 rfl (lv_at hl 1 rfl) ?_
        refine lv_bipush (v := 9) hx hb dX7_long1_33 (by decide) ?_
        refine lv_icmp_eq (tgt := 44) hx hb dX7_long1_35 (by decide) (fun c4 => ?_) (fun c4 => ?_)
        · have hf := hf.1 c4
          refine lv_bipush (v := 30) hx hb dX7_long1_44 (by decide) ?_
          refine lv_goto (tgt := 51) hx hb dX7_long1_46 (by decide) ?_
          exact hret 51 ls 30 dX7_long1_51 hf
        · have hf := hf.2 c4
          refine lv_iload_n hx hb dX7_long1_38 rfl (lv_at hl 1 rfl) ?_
          refine lv_bipush (v := 11) hx hb dX7_long1_39 (by decide) ?_
          refine lv_icmp_ne (tgt := 49) hx hb dX7_long1_41 (by decide) (fun c5 => ?_) (fun c5 => ?_)
          · have hf := hf.1 c5
            refine lv_bipush (v := 31) hx hb dX7_long1_49 (by decide) ?_
            exact hret 51 ls 31 dX7_long1_51 hf
          · have hf := hf.2 c5
            refine lv_bipush (v := 30) hx hb dX7_long1_44 (by decide) ?_
            refine lv_goto (tgt := 51) hx hb dX7_long1_46 (by decide) ?_
            exact hret 51 ls 30 dX7_long1_51 hf
  · have hf := hf.2 c1
    refine lv_iload_n hx hb dX7_long1_5 rfl (lv_at hl 0 rfl) ?_
    refine lv_iconst (v := 4) hx hb dX7_long1_6 (by decide) ?_
    refine lv_irem hx hb dX7_long1_7 (by decide) ?_
    refine lv_if_ne (tgt := 16) hx hb dX7_long1_8 (by decide) (fun c6 => ?_) (fun c6 => ?_)
    · have hf := hf.1 c6
      refine lv_bipush (v := 28) hx hb dX7_long1_16 (by decide) ?_
      refine lv_goto (tgt := 51) hx hb dX7_long1_18 (by decide) ?_
      exact hret 51 ls 28 dX7_long1_51 hf
    · have hf := hf.2 c6
      refine lv_bipush (v := 29) hx hb dX7_long1_11 (by decide) ?_
      refine lv_goto (tgt := 51) hx hb dX7_long1_13 (by decide) ?_
      exact hret 51 ls 29 dX7_long1_51 hf

/-! X7_count -/

def pX7_count_b12 (a1 : Int32) (a2 : Int32) (a3 : Int32) (a4 : Int32) (post : Int32 → Prop) (s0 : Int32) : Prop :=
  ∀ v1 : Int32, v1 = ((a2 + 9) - (a2 + 9) / 12 * 12) → (∀ v2 : Int32, v2 = ((((365 * s0) + (s0 / 4)) + (((153 * v1) + 2) / 5)) + a3) → ((a4 = 0 → (post v2)) ∧ (¬ a4 = 0 → (post ((v2 - (s0 / 100)) + (s0 / 400))))))

set_option maxHeartbeats 4000000 in
set_option maxRecDepth 100000 in
theorem wX7_count_b12 {p : Program} {l : Launch} {e : Env} {s : State} {m : MethodId} {args : Array Value} {below : List Frame} {meth : Method} {c : Code} {Q : State → Prop} {D : va_G} {cI cZ cJ cO : ClassId} (C0 : CallFix p m c cX7_count 7 s args wsX7_count RX7) (hN : nw s) (hK : va_K D vwCl (tyL cI cZ cJ cO) s)   (a1 : Int32) (a2 : Int32) (a3 : Int32) (a4 : Int32) (post : Int32 → Prop) (hret : h0I p l e ({ frames := 0, cells := 0, slots := 0, locals := 0 } : Room) s m args below meth c cX7_count Q post) (hP : va_P D vwCl [] s.heap) :
    ∀ (s0 : Int32), pX7_count_b12 a1 a2 a3 a4 post s0 → ∀ ls : Array Slot, lv_has ls 7 [(1, .int a2), (2, .int a3), (3, .int a4)] → W p l e ({ frames := 0, cells := 0, slots := 0, locals := 0 } : Room) s m args below meth c s.heap [] 0 0 Q (F0 m 12 ls [.int s0]) := by
  obtain ⟨hx, hb, hml, hown, hts⟩ := id C0
  intro s0 hf ls hl
  unfold pX7_count_b12 at hf
  refine lv_istore (lv' := [(4, .int s0), (1, .int a2), (2, .int a3), (3, .int a4)]) hx hb dX7_count_12 hl (by decide) rfl (fun ls hl => ?_)
  refine lv_iload_n hx hb dX7_count_14 rfl (lv_at hl 1 rfl) ?_
  refine lv_bipush (v := 9) hx hb dX7_count_15 (by decide) ?_
  refine lv_iadd hx hb dX7_count_17 ?_
  refine lv_bipush (v := 12) hx hb dX7_count_18 (by decide) ?_
  refine lv_irem hx hb dX7_count_20 (by decide) ?_
  refine lv_topi (fun v1 ev1 => ?_)
  have hf := hf v1 ev1
  refine lv_istore (lv' := [(5, .int v1), (4, .int s0), (1, .int a2), (2, .int a3), (3, .int a4)]) hx hb dX7_count_21 hl (by decide) rfl (fun ls hl => ?_)
  refine lv_sipush (v := 365) hx hb dX7_count_23 (by decide) ?_
  refine lv_iload hx hb dX7_count_26 (lv_at hl 1 rfl) ?_
  refine lv_imul hx hb dX7_count_28 ?_
  refine lv_iload hx hb dX7_count_29 (lv_at hl 1 rfl) ?_
  refine lv_iconst (v := 4) hx hb dX7_count_31 (by decide) ?_
  refine lv_idiv hx hb dX7_count_32 (by decide) ?_
  refine lv_iadd hx hb dX7_count_33 ?_
  refine lv_sipush (v := 153) hx hb dX7_count_34 (by decide) ?_
  refine lv_iload hx hb dX7_count_37 (lv_at hl 0 rfl) ?_
  refine lv_imul hx hb dX7_count_39 ?_
  refine lv_iconst (v := 2) hx hb dX7_count_40 (by decide) ?_
  refine lv_iadd hx hb dX7_count_41 ?_
  refine lv_iconst (v := 5) hx hb dX7_count_42 (by decide) ?_
  refine lv_idiv hx hb dX7_count_43 (by decide) ?_
  refine lv_iadd hx hb dX7_count_44 ?_
  refine lv_iload_n hx hb dX7_count_45 rfl (lv_at hl 3 rfl) ?_
  refine lv_iadd hx hb dX7_count_46 ?_
  refine lv_topi (fun v2 ev2 => ?_)
  have hf := hf v2 ev2
  refine lv_istore (lv' := [(6, .int v2), (5, .int v1), (4, .int s0), (1, .int a2), (2, .int a3), (3, .int a4)]) hx hb dX7_count_47 hl (by decide) rfl (fun ls hl => ?_)
  refine lv_iload_n hx hb dX7_count_49 rfl (lv_at hl 5 rfl) ?_
  refine lv_if_eq (tgt := 71) hx hb dX7_count_50 (by decide) (fun c3 => ?_) (fun c3 => ?_)
  · have hf := hf.1 c3
    refine lv_iload hx hb dX7_count_71 (lv_at hl 0 rfl) ?_
    exact hret 73 ls v2 dX7_count_73 hf
  · have hf := hf.2 c3
    refine lv_iload hx hb dX7_count_53 (lv_at hl 0 rfl) ?_
    refine lv_iload hx hb dX7_count_55 (lv_at hl 2 rfl) ?_
    refine lv_bipush (v := 100) hx hb dX7_count_57 (by decide) ?_
    refine lv_idiv hx hb dX7_count_59 (by decide) ?_
    refine lv_isub hx hb dX7_count_60 ?_
    refine lv_iload hx hb dX7_count_61 (lv_at hl 2 rfl) ?_
    refine lv_sipush (v := 400) hx hb dX7_count_63 (by decide) ?_
    refine lv_idiv hx hb dX7_count_66 (by decide) ?_
    refine lv_iadd hx hb dX7_count_67 ?_
    refine lv_goto (tgt := 73) hx hb dX7_count_68 (by decide) ?_
    exact hret 73 ls ((v2 - (s0 / 100)) + (s0 / 400)) dX7_count_73 hf

def pX7_count  (a1 : Int32) (a2 : Int32) (a3 : Int32) (a4 : Int32) (post : Int32 → Prop) : Prop :=
  (3 ≤ a2 → (pX7_count_b12 a1 a2 a3 a4 post  a1)) ∧ (¬ 3 ≤ a2 → (pX7_count_b12 a1 a2 a3 a4 post  (a1 - 1)))

set_option maxHeartbeats 4000000 in
set_option maxRecDepth 100000 in
theorem kX7_count (l : Launch) (D : va_G) (cI cZ cJ cO : ClassId)    (a1 : Int32) (a2 : Int32) (a3 : Int32) (a4 : Int32) (post : Int32 → Prop) (hf : pX7_count a1 a2 a3 a4 post) :
    Met l yX7_count wsX7_count ({ frames := 0, cells := 0, slots := 0, locals := 0 } : Room) (va_Pc [.int a1, .int a2, .int a3, .int a4] (B0 D (tyL cI cZ cJ cO) [])) (vp_Si post) 0 0 (fun _ => False) := by
  unfold pX7_count at hf
  refine xm_0i (own := RX7) (by decide) rfl rfl (Nat.le_of_ble_eq_true rfl) (fun p e s m args below meth c Q C0 hN hK hret hP ls hl => ?_)
  obtain ⟨hx, hb, hml, hown, hts⟩ := id C0
  have hl : lv_has ls 7 [(0, .int a1), (1, .int a2), (2, .int a3), (3, .int a4)] := hl
  refine lv_iload_n hx hb dX7_count_0 rfl (lv_at hl 1 rfl) ?_
  refine lv_iconst (v := 3) hx hb dX7_count_1 (by decide) ?_
  refine lv_icmp_ge (tgt := 11) hx hb dX7_count_2 (by decide) (fun c1 => ?_) (fun c1 => ?_)
  · have hf := hf.1 c1
    refine lv_iload_n hx hb dX7_count_11 rfl (lv_at hl 0 rfl) ?_
    exact wX7_count_b12 C0 hN hK a1 a2 a3 a4 post hret hP   a1 hf ls (lv_sub hl [1, 2, 3] rfl)
  · have hf := hf.2 c1
    refine lv_iload_n hx hb dX7_count_5 rfl (lv_at hl 0 rfl) ?_
    refine lv_iconst (v := 1) hx hb dX7_count_6 (by decide) ?_
    refine lv_isub hx hb dX7_count_7 ?_
    refine lv_goto (tgt := 12) hx hb dX7_count_8 (by decide) ?_
    exact wX7_count_b12 C0 hN hK a1 a2 a3 a4 post hret hP   (a1 - 1) hf ls (lv_sub hl [1, 2, 3] rfl)

/-! X7_style -/

def pX7_style_b153 (a1 : Int32) (a2 : Int32) (a3 : Int32) (a4 : Int32) (post : Int32 → Prop) : Nat → Int32 → Int32 → Int32 → Prop
  | 0 => fun _ _ _ => False
  | n + 1 => fun x6 x7 x8 => pX7_count x7 x8 1 1 (fun r1 => (r1 ≤ x6 → (pX7_count x7 x8 1 1 (fun r3 => post (((((10000 * x7) + (100 * x8)) + x6) - r3) + 1)))) ∧ (¬ r1 ≤ x6 → (∀ v4 : Int32, v4 = x8 + (-1) → (pX7_style_b153 a1 a2 a3 a4 post  n x6 x7 v4))))

set_option maxHeartbeats 4000000 in
set_option maxRecDepth 100000 in
theorem wX7_style_b153 {p : Program} {l : Launch} {e : Env} {s : State} {m : MethodId} {args : Array Value} {below : List Frame} {meth : Method} {c : Code} {Q : State → Prop} {D : va_G} {cI cZ cJ cO : ClassId} (C0 : CallFix p m c cX7_style 9 s args wsX7_style RX7) (hN : nw s) (hK : va_K D vwCl (tyL cI cZ cJ cO) s) (q_t : Nat)  (a1 : Int32) (a2 : Int32) (a3 : Int32) (a4 : Int32) (post : Int32 → Prop) (hret : h0I p l e ({ frames := 1, cells := 0, slots := 0, locals := 26 } : Room) s m args below meth c cX7_style Q post) (hP : va_P D vwCl [] s.heap) :
    ∀ (n : Nat) (x6 : Int32) (x7 : Int32) (x8 : Int32), pX7_style_b153 a1 a2 a3 a4 post n x6 x7 x8 → ∀ ls : Array Slot, lv_has ls 9 [(6, .int x6), (7, .int x7), (8, .int x8)] → W p l e ({ frames := 1, cells := 0, slots := 0, locals := 26 } : Room) s m args below meth c s.heap [] 0 0 Q (F0 m 153 ls []) := by
  obtain ⟨hx, hb, hml, hown, hts⟩ := id C0
  intro n
  induction n with
  | zero =>
    intro x6 x7 x8 hf
    exact False.elim hf
  | succ n ih =>
    intro x6 x7 x8 hf ls hl
    rw [pX7_style_b153] at hf
    refine lv_iload hx hb dX7_style_153 (lv_at hl 1 rfl) ?_
    refine lv_iload hx hb dX7_style_155 (lv_at hl 2 rfl) ?_
    refine lv_iconst (v := 1) hx hb dX7_style_157 (by decide) ?_
    refine lv_iconst (v := 1) hx hb dX7_style_158 (by decide) ?_
    refine xs_i (va_runS (As := [.int x7, .int x8, .int 1, .int 1]) (rest := []) ⟨hx, hb, hml, hown, hts⟩ (kX7_count l D cI cZ cJ cO x7 x8 1 1 _ hf) (va_cwS 4 hts gX7_style_X7_count rfl rfl rfl (by decide +kernel) ⟨Nat.le_of_ble_eq_true rfl, Nat.le_of_ble_eq_true rfl⟩) (B0_pre (hP.sub (ws' := []) [] rfl) hK hN) rfl rfl hl.1 rfl (lv_room (Nat.le_of_ble_eq_true rfl)) dX7_style_159 ⟨Nat.zero_le _, Nat.zero_le _⟩) (fun r1 hf => ?_)
    refine lv_iload hx hb dX7_style_162 (lv_at hl 0 rfl) ?_
    refine lv_icmp_le (tgt := 173) hx hb dX7_style_164 (by decide) (fun c2 => ?_) (fun c2 => ?_)
    · have hf := hf.1 c2
      refine lv_sipush (v := 10000) hx hb dX7_style_173 (by decide) ?_
      refine lv_iload hx hb dX7_style_176 (lv_at hl 1 rfl) ?_
      refine lv_imul hx hb dX7_style_178 ?_
      refine lv_bipush (v := 100) hx hb dX7_style_179 (by decide) ?_
      refine lv_iload hx hb dX7_style_181 (lv_at hl 2 rfl) ?_
      refine lv_imul hx hb dX7_style_183 ?_
      refine lv_iadd hx hb dX7_style_184 ?_
      refine lv_iload hx hb dX7_style_185 (lv_at hl 0 rfl) ?_
      refine lv_iadd hx hb dX7_style_187 ?_
      refine lv_iload hx hb dX7_style_188 (lv_at hl 1 rfl) ?_
      refine lv_iload hx hb dX7_style_190 (lv_at hl 2 rfl) ?_
      refine lv_iconst (v := 1) hx hb dX7_style_192 (by decide) ?_
      refine lv_iconst (v := 1) hx hb dX7_style_193 (by decide) ?_
      refine xs_i (va_runS (As := [.int x7, .int x8, .int 1, .int 1]) (rest := [.int (((10000 * x7) + (100 * x8)) + x6)]) ⟨hx, hb, hml, hown, hts⟩ (kX7_count l D cI cZ cJ cO x7 x8 1 1 _ hf) (va_cwS 4 hts gX7_style_X7_count rfl rfl rfl (by decide +kernel) ⟨Nat.le_of_ble_eq_true rfl, Nat.le_of_ble_eq_true rfl⟩) (B0_pre (hP.sub (ws' := []) [] rfl) hK hN) rfl rfl hl.1 rfl (lv_room (Nat.le_of_ble_eq_true rfl)) dX7_style_194 ⟨Nat.zero_le _, Nat.zero_le _⟩) (fun r3 hf => ?_)
      refine lv_isub hx hb dX7_style_197 ?_
      refine lv_iconst (v := 1) hx hb dX7_style_198 (by decide) ?_
      refine lv_iadd hx hb dX7_style_199 ?_
      exact hret 200 ls (((((10000 * x7) + (100 * x8)) + x6) - r3) + 1) dX7_style_200 hf
    · have hf := hf.2 c2
      obtain ⟨v4, ev4⟩ : ∃ y : Int32, y = x8 + (-1) := ⟨_, rfl⟩
      have hf := hf v4 ev4
      refine lv_iinc (v := v4) (lv' := [(8, .int v4), (6, .int x6), (7, .int x7)]) hx hb dX7_style_167 hl (k := 2) rfl (by rw [ev4]; rfl) (by decide) rfl (fun ls hl => ?_)
      refine lv_goto (tgt := 153) hx hb dX7_style_170 (by decide) ?_
      exact ih x6 x7 v4 hf ls (lv_sub hl [1, 2, 0] rfl)

def pX7_style_b110 (a1 : Int32) (a2 : Int32) (a3 : Int32) (a4 : Int32) (post : Int32 → Prop) : Nat → Int32 → Int32 → Prop
  | 0 => fun _ _ => False
  | n + 1 => fun x6 x7 => pX7_count x7 1 1 1 (fun r1 => (r1 ≤ x6 → ((¬ a4 = 2 → (∃ n1, pX7_style_b153 a1 a2 a3 a4 post  n1 x6 x7 12)) ∧ (a4 = 2 → (pX7_count x7 1 1 1 (fun r4 => post ((x6 - r4) + 1)))))) ∧ (¬ r1 ≤ x6 → (∀ v5 : Int32, v5 = x7 + (-1) → (pX7_style_b110 a1 a2 a3 a4 post  n x6 v5))))

set_option maxHeartbeats 4000000 in
set_option maxRecDepth 100000 in
theorem wX7_style_b110 {p : Program} {l : Launch} {e : Env} {s : State} {m : MethodId} {args : Array Value} {below : List Frame} {meth : Method} {c : Code} {Q : State → Prop} {D : va_G} {cI cZ cJ cO : ClassId} (C0 : CallFix p m c cX7_style 9 s args wsX7_style RX7) (hN : nw s) (hK : va_K D vwCl (tyL cI cZ cJ cO) s) (q_t : Nat)  (a1 : Int32) (a2 : Int32) (a3 : Int32) (a4 : Int32) (post : Int32 → Prop) (hret : h0I p l e ({ frames := 1, cells := 0, slots := 0, locals := 26 } : Room) s m args below meth c cX7_style Q post) (hP : va_P D vwCl [] s.heap) :
    ∀ (n : Nat) (x6 : Int32) (x7 : Int32), pX7_style_b110 a1 a2 a3 a4 post n x6 x7 → ∀ ls : Array Slot, lv_has ls 9 [(4, .int a4), (6, .int x6), (7, .int x7)] → W p l e ({ frames := 1, cells := 0, slots := 0, locals := 26 } : Room) s m args below meth c s.heap [] 0 0 Q (F0 m 110 ls []) := by
  obtain ⟨hx, hb, hml, hown, hts⟩ := id C0
  intro n
  induction n with
  | zero =>
    intro x6 x7 hf
    exact False.elim hf
  | succ n ih =>
    intro x6 x7 hf ls hl
    rw [pX7_style_b110] at hf
    refine lv_iload hx hb dX7_style_110 (lv_at hl 2 rfl) ?_
    refine lv_iconst (v := 1) hx hb dX7_style_112 (by decide) ?_
    refine lv_iconst (v := 1) hx hb dX7_style_113 (by decide) ?_
    refine lv_iconst (v := 1) hx hb dX7_style_114 (by decide) ?_
    refine xs_i (va_runS (As := [.int x7, .int 1, .int 1, .int 1]) (rest := []) ⟨hx, hb, hml, hown, hts⟩ (kX7_count l D cI cZ cJ cO x7 1 1 1 _ hf) (va_cwS 4 hts gX7_style_X7_count rfl rfl rfl (by decide +kernel) ⟨Nat.le_of_ble_eq_true rfl, Nat.le_of_ble_eq_true rfl⟩) (B0_pre (hP.sub (ws' := []) [] rfl) hK hN) rfl rfl hl.1 rfl (lv_room (Nat.le_of_ble_eq_true rfl)) dX7_style_115 ⟨Nat.zero_le _, Nat.zero_le _⟩) (fun r1 hf => ?_)
    refine lv_iload hx hb dX7_style_118 (lv_at hl 1 rfl) ?_
    refine lv_icmp_le (tgt := 129) hx hb dX7_style_120 (by decide) (fun c2 => ?_) (fun c2 => ?_)
    · have hf := hf.1 c2
      refine lv_iload hx hb dX7_style_129 (lv_at hl 0 rfl) ?_
      refine lv_iconst (v := 2) hx hb dX7_style_131 (by decide) ?_
      refine lv_icmp_ne (tgt := 149) hx hb dX7_style_132 (by decide) (fun c3 => ?_) (fun c3 => ?_)
      · have hf := hf.1 c3
        refine lv_bipush (v := 12) hx hb dX7_style_149 (by decide) ?_
        refine lv_istore (lv' := [(8, .int 12), (4, .int a4), (6, .int x6), (7, .int x7)]) hx hb dX7_style_151 hl (by decide) rfl (fun ls hl => ?_)
        obtain ⟨n1, hf⟩ := hf
        exact wX7_style_b153 C0 hN hK q_t a1 a2 a3 a4 post hret hP   n1 x6 x7 12 hf ls (lv_sub hl [2, 3, 0] rfl)
      · have hf := hf.2 c3
        refine lv_iload hx hb dX7_style_135 (lv_at hl 1 rfl) ?_
        refine lv_iload hx hb dX7_style_137 (lv_at hl 2 rfl) ?_
        refine lv_iconst (v := 1) hx hb dX7_style_139 (by decide) ?_
        refine lv_iconst (v := 1) hx hb dX7_style_140 (by decide) ?_
        refine lv_iconst (v := 1) hx hb dX7_style_141 (by decide) ?_
        refine xs_i (va_runS (As := [.int x7, .int 1, .int 1, .int 1]) (rest := [.int x6]) ⟨hx, hb, hml, hown, hts⟩ (kX7_count l D cI cZ cJ cO x7 1 1 1 _ hf) (va_cwS 4 hts gX7_style_X7_count rfl rfl rfl (by decide +kernel) ⟨Nat.le_of_ble_eq_true rfl, Nat.le_of_ble_eq_true rfl⟩) (B0_pre (hP.sub (ws' := []) [] rfl) hK hN) rfl rfl hl.1 rfl (lv_room (Nat.le_of_ble_eq_true rfl)) dX7_style_142 ⟨Nat.zero_le _, Nat.zero_le _⟩) (fun r4 hf => ?_)
        refine lv_isub hx hb dX7_style_145 ?_
        refine lv_iconst (v := 1) hx hb dX7_style_146 (by decide) ?_
        refine lv_iadd hx hb dX7_style_147 ?_
        exact hret 148 ls ((x6 - r4) + 1) dX7_style_148 hf
    · have hf := hf.2 c2
      obtain ⟨v5, ev5⟩ : ∃ y : Int32, y = x7 + (-1) := ⟨_, rfl⟩
      have hf := hf v5 ev5
      refine lv_iinc (v := v5) (lv' := [(7, .int v5), (4, .int a4), (6, .int x6)]) hx hb dX7_style_123 hl (k := 2) rfl (by rw [ev5]; rfl) (by decide) rfl (fun ls hl => ?_)
      refine lv_goto (tgt := 110) hx hb dX7_style_126 (by decide) ?_
      exact ih x6 v5 hf ls (lv_sub hl [1, 2, 0] rfl)

def pX7_style  (a1 : Int32) (a2 : Int32) (a3 : Int32) (a4 : Int32) (post : Int32 → Prop) : Prop :=
  pX7_in a1 1000 3000 (fun r1 => (r1 = 0 → (post (-2))) ∧ (¬ r1 = 0 → (pX7_in a2 1 12 (fun r3 => (r3 = 0 → (post (-2))) ∧ (¬ r3 = 0 → (pX7_long1 a1 a2 (fun r5 => pX7_in a3 1 r5 (fun r6 => (r6 = 0 → (post (-2))) ∧ (¬ r6 = 0 → (pX7_in a4 0 2 (fun r8 => (¬ r8 = 0 → (pX7_count a1 a2 a3 0 (fun r10 => pX7_count 1752 9 2 0 (fun r11 => ∀ v12 : Int32, v12 = (r10 - r11) → ((¬ a4 = 1 → (pX7_count 1752 9 13 1 (fun r14 => ∀ v15 : Int32, v15 = (r14 + v12) → (∀ v16 : Int32, v16 = (a1 + 1) → (∃ n1, pX7_style_b110 a1 a2 a3 a4 post  n1 v15 v16))))) ∧ (a4 = 1 → (post ((((v12 + 2) - (v12 + 2) / 7 * 7) + 7) - (((v12 + 2) - (v12 + 2) / 7 * 7) + 7) / 7 * 7)))))))) ∧ (r8 = 0 → (post (-2))))))))))))))

set_option maxHeartbeats 4000000 in
set_option maxRecDepth 100000 in
theorem kX7_style (l : Launch) (D : va_G) (cI cZ cJ cO : ClassId) (q_t : Nat)   (a1 : Int32) (a2 : Int32) (a3 : Int32) (a4 : Int32) (post : Int32 → Prop) (hf : pX7_style a1 a2 a3 a4 post) :
    Met l yX7_style wsX7_style ({ frames := 1, cells := 0, slots := 0, locals := 26 } : Room) (va_Pc [.ref q_t, .int a1, .int a2, .int a3, .int a4] (B0 D (tyL cI cZ cJ cO) [])) (vp_Si post) 0 0 (fun _ => False) := by
  unfold pX7_style at hf
  refine xm_0i (own := RX7) (by decide) rfl rfl (Nat.le_of_ble_eq_true rfl) (fun p e s m args below meth c Q C0 hN hK hret hP ls hl => ?_)
  obtain ⟨hx, hb, hml, hown, hts⟩ := id C0
  have hl : lv_has ls 9 [(0, .ref q_t), (1, .int a1), (2, .int a2), (3, .int a3), (4, .int a4)] := hl
  refine lv_iload_n hx hb dX7_style_0 rfl (lv_at hl 1 rfl) ?_
  refine lv_sipush (v := 1000) hx hb dX7_style_1 (by decide) ?_
  refine lv_sipush (v := 3000) hx hb dX7_style_4 (by decide) ?_
  refine xs_i (va_runS (As := [.int a1, .int 1000, .int 3000]) (rest := []) ⟨hx, hb, hml, hown, hts⟩ (kX7_in l D cI cZ cJ cO a1 1000 3000 _ hf) (va_cwS 3 hts gX7_style_X7_in rfl rfl rfl (by decide +kernel) ⟨Nat.le_of_ble_eq_true rfl, Nat.le_of_ble_eq_true rfl⟩) (B0_pre (hP.sub (ws' := []) [] rfl) hK hN) rfl rfl hl.1 rfl (lv_room (Nat.le_of_ble_eq_true rfl)) dX7_style_7 ⟨Nat.zero_le _, Nat.zero_le _⟩) (fun r1 hf => ?_)
  refine lv_if_eq (tgt := 46) hx hb dX7_style_10 (by decide) (fun c2 => ?_) (fun c2 => ?_)
  · have hf := hf.1 c2
    refine lv_bipush (v := (-2)) hx hb dX7_style_46 (by decide) ?_
    exact hret 48 ls (-2) dX7_style_48 hf
  · have hf := hf.2 c2
    refine lv_iload_n hx hb dX7_style_13 rfl (lv_at hl 2 rfl) ?_
    refine lv_iconst (v := 1) hx hb dX7_style_14 (by decide) ?_
    refine lv_bipush (v := 12) hx hb dX7_style_15 (by decide) ?_
    refine xs_i (va_runS (As := [.int a2, .int 1, .int 12]) (rest := []) ⟨hx, hb, hml, hown, hts⟩ (kX7_in l D cI cZ cJ cO a2 1 12 _ hf) (va_cwS 3 hts gX7_style_X7_in rfl rfl rfl (by decide +kernel) ⟨Nat.le_of_ble_eq_true rfl, Nat.le_of_ble_eq_true rfl⟩) (B0_pre (hP.sub (ws' := []) [] rfl) hK hN) rfl rfl hl.1 rfl (lv_room (Nat.le_of_ble_eq_true rfl)) dX7_style_17 ⟨Nat.zero_le _, Nat.zero_le _⟩) (fun r3 hf => ?_)
    refine lv_if_eq (tgt := 46) hx hb dX7_style_20 (by decide) (fun c4 => ?_) (fun c4 => ?_)
    · have hf := hf.1 c4
      refine lv_bipush (v := (-2)) hx hb dX7_style_46 (by decide) ?_
      exact hret 48 ls (-2) dX7_style_48 hf
    · have hf := hf.2 c4
      refine lv_iload_n hx hb dX7_style_23 rfl (lv_at hl 3 rfl) ?_
      refine lv_iconst (v := 1) hx hb dX7_style_24 (by decide) ?_
      refine lv_iload_n hx hb dX7_style_25 rfl (lv_at hl 1 rfl) ?_
      refine lv_iload_n hx hb dX7_style_26 rfl (lv_at hl 2 rfl) ?_
      refine xs_i (va_runS (As := [.int a1, .int a2]) (rest := [.int 1, .int a3]) ⟨hx, hb, hml, hown, hts⟩ (kX7_long1 l D cI cZ cJ cO a1 a2 _ hf) (va_cwS 2 hts gX7_style_X7_long1 rfl rfl rfl (by decide +kernel) ⟨Nat.le_of_ble_eq_true rfl, Nat.le_of_ble_eq_true rfl⟩) (B0_pre (hP.sub (ws' := []) [] rfl) hK hN) rfl rfl hl.1 rfl (lv_room (Nat.le_of_ble_eq_true rfl)) dX7_style_27 ⟨Nat.zero_le _, Nat.zero_le _⟩) (fun r5 hf => ?_)
      refine xs_i (va_runS (As := [.int a3, .int 1, .int r5]) (rest := []) ⟨hx, hb, hml, hown, hts⟩ (kX7_in l D cI cZ cJ cO a3 1 r5 _ hf) (va_cwS 3 hts gX7_style_X7_in rfl rfl rfl (by decide +kernel) ⟨Nat.le_of_ble_eq_true rfl, Nat.le_of_ble_eq_true rfl⟩) (B0_pre (hP.sub (ws' := []) [] rfl) hK hN) rfl rfl hl.1 rfl (lv_room (Nat.le_of_ble_eq_true rfl)) dX7_style_30 ⟨Nat.zero_le _, Nat.zero_le _⟩) (fun r6 hf => ?_)
      refine lv_if_eq (tgt := 46) hx hb dX7_style_33 (by decide) (fun c7 => ?_) (fun c7 => ?_)
      · have hf := hf.1 c7
        refine lv_bipush (v := (-2)) hx hb dX7_style_46 (by decide) ?_
        exact hret 48 ls (-2) dX7_style_48 hf
      · have hf := hf.2 c7
        refine lv_iload hx hb dX7_style_36 (lv_at hl 4 rfl) ?_
        refine lv_iconst (v := 0) hx hb dX7_style_38 (by decide) ?_
        refine lv_iconst (v := 2) hx hb dX7_style_39 (by decide) ?_
        refine xs_i (va_runS (As := [.int a4, .int 0, .int 2]) (rest := []) ⟨hx, hb, hml, hown, hts⟩ (kX7_in l D cI cZ cJ cO a4 0 2 _ hf) (va_cwS 3 hts gX7_style_X7_in rfl rfl rfl (by decide +kernel) ⟨Nat.le_of_ble_eq_true rfl, Nat.le_of_ble_eq_true rfl⟩) (B0_pre (hP.sub (ws' := []) [] rfl) hK hN) rfl rfl hl.1 rfl (lv_room (Nat.le_of_ble_eq_true rfl)) dX7_style_40 ⟨Nat.zero_le _, Nat.zero_le _⟩) (fun r8 hf => ?_)
        refine lv_if_ne (tgt := 49) hx hb dX7_style_43 (by decide) (fun c9 => ?_) (fun c9 => ?_)
        · have hf := hf.1 c9
          refine lv_iload_n hx hb dX7_style_49 rfl (lv_at hl 1 rfl) ?_
          refine lv_iload_n hx hb dX7_style_50 rfl (lv_at hl 2 rfl) ?_
          refine lv_iload_n hx hb dX7_style_51 rfl (lv_at hl 3 rfl) ?_
          refine lv_iconst (v := 0) hx hb dX7_style_52 (by decide) ?_
          refine xs_i (va_runS (As := [.int a1, .int a2, .int a3, .int 0]) (rest := []) ⟨hx, hb, hml, hown, hts⟩ (kX7_count l D cI cZ cJ cO a1 a2 a3 0 _ hf) (va_cwS 4 hts gX7_style_X7_count rfl rfl rfl (by decide +kernel) ⟨Nat.le_of_ble_eq_true rfl, Nat.le_of_ble_eq_true rfl⟩) (B0_pre (hP.sub (ws' := []) [] rfl) hK hN) rfl rfl hl.1 rfl (lv_room (Nat.le_of_ble_eq_true rfl)) dX7_style_53 ⟨Nat.zero_le _, Nat.zero_le _⟩) (fun r10 hf => ?_)
          refine lv_sipush (v := 1752) hx hb dX7_style_56 (by decide) ?_
          refine lv_bipush (v := 9) hx hb dX7_style_59 (by decide) ?_
          refine lv_iconst (v := 2) hx hb dX7_style_61 (by decide) ?_
          refine lv_iconst (v := 0) hx hb dX7_style_62 (by decide) ?_
          refine xs_i (va_runS (As := [.int 1752, .int 9, .int 2, .int 0]) (rest := [.int r10]) ⟨hx, hb, hml, hown, hts⟩ (kX7_count l D cI cZ cJ cO 1752 9 2 0 _ hf) (va_cwS 4 hts gX7_style_X7_count rfl rfl rfl (by decide +kernel) ⟨Nat.le_of_ble_eq_true rfl, Nat.le_of_ble_eq_true rfl⟩) (B0_pre (hP.sub (ws' := []) [] rfl) hK hN) rfl rfl hl.1 rfl (lv_room (Nat.le_of_ble_eq_true rfl)) dX7_style_63 ⟨Nat.zero_le _, Nat.zero_le _⟩) (fun r11 hf => ?_)
          refine lv_isub hx hb dX7_style_66 ?_
          refine lv_topi (fun v12 ev12 => ?_)
          have hf := hf v12 ev12
          refine lv_istore (lv' := [(5, .int v12), (0, .ref q_t), (1, .int a1), (2, .int a2), (3, .int a3), (4, .int a4)]) hx hb dX7_style_67 hl (by decide) rfl (fun ls hl => ?_)
          refine lv_iload hx hb dX7_style_69 (lv_at hl 5 rfl) ?_
          refine lv_iconst (v := 1) hx hb dX7_style_71 (by decide) ?_
          refine lv_icmp_ne (tgt := 89) hx hb dX7_style_72 (by decide) (fun c13 => ?_) (fun c13 => ?_)
          · have hf := hf.1 c13
            refine lv_sipush (v := 1752) hx hb dX7_style_89 (by decide) ?_
            refine lv_bipush (v := 9) hx hb dX7_style_92 (by decide) ?_
            refine lv_bipush (v := 13) hx hb dX7_style_94 (by decide) ?_
            refine lv_iconst (v := 1) hx hb dX7_style_96 (by decide) ?_
            refine xs_i (va_runS (As := [.int 1752, .int 9, .int 13, .int 1]) (rest := []) ⟨hx, hb, hml, hown, hts⟩ (kX7_count l D cI cZ cJ cO 1752 9 13 1 _ hf) (va_cwS 4 hts gX7_style_X7_count rfl rfl rfl (by decide +kernel) ⟨Nat.le_of_ble_eq_true rfl, Nat.le_of_ble_eq_true rfl⟩) (B0_pre (hP.sub (ws' := []) [] rfl) hK hN) rfl rfl hl.1 rfl (lv_room (Nat.le_of_ble_eq_true rfl)) dX7_style_97 ⟨Nat.zero_le _, Nat.zero_le _⟩) (fun r14 hf => ?_)
            refine lv_iload hx hb dX7_style_100 (lv_at hl 0 rfl) ?_
            refine lv_iadd hx hb dX7_style_102 ?_
            refine lv_topi (fun v15 ev15 => ?_)
            have hf := hf v15 ev15
            refine lv_istore (lv' := [(6, .int v15), (5, .int v12), (0, .ref q_t), (1, .int a1), (2, .int a2), (3, .int a3), (4, .int a4)]) hx hb dX7_style_103 hl (by decide) rfl (fun ls hl => ?_)
            refine lv_iload_n hx hb dX7_style_105 rfl (lv_at hl 3 rfl) ?_
            refine lv_iconst (v := 1) hx hb dX7_style_106 (by decide) ?_
            refine lv_iadd hx hb dX7_style_107 ?_
            refine lv_topi (fun v16 ev16 => ?_)
            have hf := hf v16 ev16
            refine lv_istore (lv' := [(7, .int v16), (6, .int v15), (5, .int v12), (0, .ref q_t), (1, .int a1), (2, .int a2), (3, .int a3), (4, .int a4)]) hx hb dX7_style_108 hl (by decide) rfl (fun ls hl => ?_)
            obtain ⟨n1, hf⟩ := hf
            exact wX7_style_b110 C0 hN hK q_t a1 a2 a3 a4 post hret hP   n1 v15 v16 hf ls (lv_sub hl [7, 1, 0] rfl)
          · have hf := hf.2 c13
            refine lv_iload hx hb dX7_style_75 (lv_at hl 0 rfl) ?_
            refine lv_iconst (v := 2) hx hb dX7_style_77 (by decide) ?_
            refine lv_iadd hx hb dX7_style_78 ?_
            refine lv_bipush (v := 7) hx hb dX7_style_79 (by decide) ?_
            refine lv_irem hx hb dX7_style_81 (by decide) ?_
            refine lv_bipush (v := 7) hx hb dX7_style_82 (by decide) ?_
            refine lv_iadd hx hb dX7_style_84 ?_
            refine lv_bipush (v := 7) hx hb dX7_style_85 (by decide) ?_
            refine lv_irem hx hb dX7_style_87 (by decide) ?_
            exact hret 88 ls ((((v12 + 2) - (v12 + 2) / 7 * 7) + 7) - (((v12 + 2) - (v12 + 2) / 7 * 7) + 7) / 7 * 7) dX7_style_88 hf
        · have hf := hf.2 c9
          refine lv_bipush (v := (-2)) hx hb dX7_style_46 (by decide) ?_
          exact hret 48 ls (-2) dX7_style_48 hf

/-! X7_pack -/
theorem mX7_pack_2 : Cond.fieldLink RX7 35 "OxenKneelModel" "worths" "[I" ∈ wsX7_pack := List.mem_of_getElem? (i := 2) rfl
theorem mX7_pack_1 : Cond.fieldLink RX7 32 "OxenKneelModel" "takes" "[I" ∈ wsX7_pack := List.mem_of_getElem? (i := 1) rfl
theorem nX7_pack_X7 : ∀ w ∈ wsX70, w ∈ wsX7_pack := fun _ h => List.mem_cons_of_mem _ (List.mem_append_right _ h)
def pX7_pack_b279 (a1 : Int32) (a2 : Int32) (a3 : Int32) (a4 : Int32) (a5 : Int32) (post : Int32 → ((Nat → Int32) × (Nat → Int32)) → Prop) (k165 : Int32 → Int32 → Int32 → (Nat → Int32) → (Nat → Int32) → Prop) (x9 : Int32) (x11 : Int32) (x13 : Int32) (x14 : Int32) (s0 : Int32) (t_takes : (Nat → Int32)) (t_worths : (Nat → Int32)) : Prop :=
  (x14 = 0 → (∀ v2 : Int32, v2 = x11 + 1 → (k165 x9 s0 v2 t_takes t_worths))) ∧ (¬ x14 = 0 → (∀ v3 : Int32, v3 = x11 + 1 → (k165 x13 s0 v3 t_takes t_worths)))

set_option maxHeartbeats 4000000 in
set_option maxRecDepth 100000 in
theorem wX7_pack_b279 {p : Program} {l : Launch} {e : Env} {s : State} {m : MethodId} {args : Array Value} {below : List Frame} {meth : Method} {c : Code} {Q : State → Prop} {D : va_G} {cI cZ cJ cO : ClassId} {A : Nat → Prop} (C0 : CallFix p m c cX7_pack 15 s args wsX7_pack RX7) (hN : nw s) (hK : va_K D vwCl (tyL cI cZ cJ cO) s) (hA : ∀ q, s.heap.size ≤ q → A q) (q_t q_t_takes q_t_worths q_t_book q_t_now q_t_sight q_t_pad q_t_had q_t_fitting q_t_wins q_t_ways q_t_image q_t_isKept : Nat) (t_shift : Int32) (t_kneels : Int32) (t_sights : Int32) (t_signs : Int32) (t_metAt : Int32) (t_metWho : Int32) (t_reason : Int32) (t_acts : Int32) (a1 : Int32) (a2 : Int32) (a3 : Int32) (a4 : Int32) (a5 : Int32) (post : Int32 → ((Nat → Int32) × (Nat → Int32)) → Prop) (hret : hrI p l e ({ frames := 1, cells := 0, slots := 0, locals := 22 } : Room) s m args below meth c cX7_pack D A Q post (fun u : (Nat → Int32) × (Nat → Int32) => [(q_t, .inr (7, [.ref q_t_book, .ref q_t_now, .int t_shift, .int t_kneels, .int t_sights, .ref q_t_sight, .int t_signs, .ref q_t_pad, .int t_metAt, .int t_metWho, .int t_reason, .int t_acts, .ref q_t_had, .ref q_t_takes, .ref q_t_worths, .ref q_t_fitting, .ref q_t_wins, .ref q_t_ways, .ref q_t_image, .ref q_t_isKept])), (q_t_takes, .inl (cI, 9, .inl u.1)), (q_t_worths, .inl (cI, 9, .inl u.2))])) (k165 : Int32 → Int32 → Int32 → (Nat → Int32) → (Nat → Int32) → Prop) (hk165 : ∀ (x9 : Int32) (x10 : Int32) (x11 : Int32) (t_takes : (Nat → Int32)) (t_worths : (Nat → Int32)), k165 x9 x10 x11 t_takes t_worths → ∀ (H : Heap) (locs : List Loc), va_P D vwCl [(q_t, .inr (7, [.ref q_t_book, .ref q_t_now, .int t_shift, .int t_kneels, .int t_sights, .ref q_t_sight, .int t_signs, .ref q_t_pad, .int t_metAt, .int t_metWho, .int t_reason, .int t_acts, .ref q_t_had, .ref q_t_takes, .ref q_t_worths, .ref q_t_fitting, .ref q_t_wins, .ref q_t_ways, .ref q_t_image, .ref q_t_isKept])), (q_t_takes, .inl (cI, 9, .inl t_takes)), (q_t_worths, .inl (cI, 9, .inl t_worths))] H → va_D A [(q_t, .inr (7, [.ref q_t_book, .ref q_t_now, .int t_shift, .int t_kneels, .int t_sights, .ref q_t_sight, .int t_signs, .ref q_t_pad, .int t_metAt, .int t_metWho, .int t_reason, .int t_acts, .ref q_t_had, .ref q_t_takes, .ref q_t_worths, .ref q_t_fitting, .ref q_t_wins, .ref q_t_ways, .ref q_t_image, .ref q_t_isKept])), (q_t_takes, .inl (cI, 9, .inl t_takes)), (q_t_worths, .inl (cI, 9, .inl t_worths))] → va_S A s.heap H locs → ∀ ls : Array Slot, lv_has ls 15 [(0, .ref q_t), (3, .int a3), (4, .int a4), (5, .int a5), (9, .int x9), (10, .int x10), (11, .int x11)] → W p l e ({ frames := 1, cells := 0, slots := 0, locals := 22 } : Room) s m args below meth c H locs 0 0 Q (F0 m 165 ls [])) :
    ∀ (x9 : Int32) (x11 : Int32) (x13 : Int32) (x14 : Int32) (s0 : Int32) (t_takes : (Nat → Int32)) (t_worths : (Nat → Int32)), pX7_pack_b279 a1 a2 a3 a4 a5 post k165 x9 x11 x13 x14 s0 t_takes t_worths → ∀ (H : Heap) (locs : List Loc), va_P D vwCl [(q_t, .inr (7, [.ref q_t_book, .ref q_t_now, .int t_shift, .int t_kneels, .int t_sights, .ref q_t_sight, .int t_signs, .ref q_t_pad, .int t_metAt, .int t_metWho, .int t_reason, .int t_acts, .ref q_t_had, .ref q_t_takes, .ref q_t_worths, .ref q_t_fitting, .ref q_t_wins, .ref q_t_ways, .ref q_t_image, .ref q_t_isKept])), (q_t_takes, .inl (cI, 9, .inl t_takes)), (q_t_worths, .inl (cI, 9, .inl t_worths))] H → va_D A [(q_t, .inr (7, [.ref q_t_book, .ref q_t_now, .int t_shift, .int t_kneels, .int t_sights, .ref q_t_sight, .int t_signs, .ref q_t_pad, .int t_metAt, .int t_metWho, .int t_reason, .int t_acts, .ref q_t_had, .ref q_t_takes, .ref q_t_worths, .ref q_t_fitting, .ref q_t_wins, .ref q_t_ways, .ref q_t_image, .ref q_t_isKept])), (q_t_takes, .inl (cI, 9, .inl t_takes)), (q_t_worths, .inl (cI, 9, .inl t_worths))] → va_S A s.heap H locs → ∀ ls : Array Slot, lv_has ls 15 [(0, .ref q_t), (3, .int a3), (4, .int a4), (5, .int a5), (9, .int x9), (11, .int x11), (13, .int x13), (14, .int x14)] → W p l e ({ frames := 1, cells := 0, slots := 0, locals := 22 } : Room) s m args below meth c H locs 0 0 Q (F0 m 279 ls [.int s0]) := by
  obtain ⟨hx, hb, hml, hown, hts⟩ := id C0
  intro x9 x11 x13 x14 s0 t_takes t_worths hf H locs hP hD hS ls hl
  unfold pX7_pack_b279 at hf
  refine lv_istore (lv' := [(10, .int s0), (0, .ref q_t), (3, .int a3), (4, .int a4), (5, .int a5), (9, .int x9), (11, .int x11), (13, .int x13), (14, .int x14)]) hx hb dX7_pack_279 hl (by decide) rfl (fun ls hl => ?_)
  refine lv_iload hx hb dX7_pack_281 (lv_at hl 8 rfl) ?_
  refine lv_if_eq (tgt := 291) hx hb dX7_pack_283 (by decide) (fun c1 => ?_) (fun c1 => ?_)
  · have hf := hf.1 c1
    refine lv_iload hx hb dX7_pack_291 (lv_at hl 5 rfl) ?_
    refine lv_istore (lv' := [(9, .int x9), (10, .int s0), (0, .ref q_t), (3, .int a3), (4, .int a4), (5, .int a5), (11, .int x11), (13, .int x13), (14, .int x14)]) hx hb dX7_pack_293 hl (by decide) rfl (fun ls hl => ?_)
    obtain ⟨v2, ev2⟩ : ∃ y : Int32, y = x11 + 1 := ⟨_, rfl⟩
    have hf := hf v2 ev2
    refine lv_iinc (v := v2) (lv' := [(11, .int v2), (9, .int x9), (10, .int s0), (0, .ref q_t), (3, .int a3), (4, .int a4), (5, .int a5), (13, .int x13), (14, .int x14)]) hx hb dX7_pack_295 hl (k := 6) rfl (by rw [ev2]; rfl) (by decide) rfl (fun ls hl => ?_)
    refine lv_goto (tgt := 165) hx hb dX7_pack_298 (by decide) ?_
    exact hk165 x9 s0 v2 t_takes t_worths hf H locs hP hD hS ls (lv_sub hl [3, 4, 5, 6, 1, 2, 0] rfl)
  · have hf := hf.2 c1
    refine lv_iload hx hb dX7_pack_286 (lv_at hl 7 rfl) ?_
    refine lv_goto (tgt := 293) hx hb dX7_pack_288 (by decide) ?_
    refine lv_istore (lv' := [(9, .int x13), (10, .int s0), (0, .ref q_t), (3, .int a3), (4, .int a4), (5, .int a5), (11, .int x11), (13, .int x13), (14, .int x14)]) hx hb dX7_pack_293 hl (by decide) rfl (fun ls hl => ?_)
    obtain ⟨v3, ev3⟩ : ∃ y : Int32, y = x11 + 1 := ⟨_, rfl⟩
    have hf := hf v3 ev3
    refine lv_iinc (v := v3) (lv' := [(11, .int v3), (9, .int x13), (10, .int s0), (0, .ref q_t), (3, .int a3), (4, .int a4), (5, .int a5), (13, .int x13), (14, .int x14)]) hx hb dX7_pack_295 hl (k := 6) rfl (by rw [ev3]; rfl) (by decide) rfl (fun ls hl => ?_)
    refine lv_goto (tgt := 165) hx hb dX7_pack_298 (by decide) ?_
    exact hk165 x13 s0 v3 t_takes t_worths hf H locs hP hD hS ls (lv_sub hl [3, 4, 5, 6, 1, 2, 0] rfl)

def pX7_pack_b265 (a1 : Int32) (a2 : Int32) (a3 : Int32) (a4 : Int32) (a5 : Int32) (post : Int32 → ((Nat → Int32) × (Nat → Int32)) → Prop) (k165 : Int32 → Int32 → Int32 → (Nat → Int32) → (Nat → Int32) → Prop) (x9 : Int32) (x10 : Int32) (x11 : Int32) (x13 : Int32) (s0 : Int32) (t_takes : (Nat → Int32)) (t_worths : (Nat → Int32)) : Prop :=
  (s0 = 0 → (pX7_pack_b279 a1 a2 a3 a4 a5 post k165 x9 x11 x13 s0 x10 t_takes t_worths)) ∧ (¬ s0 = 0 → (pX7_pack_b279 a1 a2 a3 a4 a5 post k165 x9 x11 x13 s0 x11 t_takes t_worths))

set_option maxHeartbeats 4000000 in
set_option maxRecDepth 100000 in
theorem wX7_pack_b265 {p : Program} {l : Launch} {e : Env} {s : State} {m : MethodId} {args : Array Value} {below : List Frame} {meth : Method} {c : Code} {Q : State → Prop} {D : va_G} {cI cZ cJ cO : ClassId} {A : Nat → Prop} (C0 : CallFix p m c cX7_pack 15 s args wsX7_pack RX7) (hN : nw s) (hK : va_K D vwCl (tyL cI cZ cJ cO) s) (hA : ∀ q, s.heap.size ≤ q → A q) (q_t q_t_takes q_t_worths q_t_book q_t_now q_t_sight q_t_pad q_t_had q_t_fitting q_t_wins q_t_ways q_t_image q_t_isKept : Nat) (t_shift : Int32) (t_kneels : Int32) (t_sights : Int32) (t_signs : Int32) (t_metAt : Int32) (t_metWho : Int32) (t_reason : Int32) (t_acts : Int32) (a1 : Int32) (a2 : Int32) (a3 : Int32) (a4 : Int32) (a5 : Int32) (post : Int32 → ((Nat → Int32) × (Nat → Int32)) → Prop) (hret : hrI p l e ({ frames := 1, cells := 0, slots := 0, locals := 22 } : Room) s m args below meth c cX7_pack D A Q post (fun u : (Nat → Int32) × (Nat → Int32) => [(q_t, .inr (7, [.ref q_t_book, .ref q_t_now, .int t_shift, .int t_kneels, .int t_sights, .ref q_t_sight, .int t_signs, .ref q_t_pad, .int t_metAt, .int t_metWho, .int t_reason, .int t_acts, .ref q_t_had, .ref q_t_takes, .ref q_t_worths, .ref q_t_fitting, .ref q_t_wins, .ref q_t_ways, .ref q_t_image, .ref q_t_isKept])), (q_t_takes, .inl (cI, 9, .inl u.1)), (q_t_worths, .inl (cI, 9, .inl u.2))])) (k165 : Int32 → Int32 → Int32 → (Nat → Int32) → (Nat → Int32) → Prop) (hk165 : ∀ (x9 : Int32) (x10 : Int32) (x11 : Int32) (t_takes : (Nat → Int32)) (t_worths : (Nat → Int32)), k165 x9 x10 x11 t_takes t_worths → ∀ (H : Heap) (locs : List Loc), va_P D vwCl [(q_t, .inr (7, [.ref q_t_book, .ref q_t_now, .int t_shift, .int t_kneels, .int t_sights, .ref q_t_sight, .int t_signs, .ref q_t_pad, .int t_metAt, .int t_metWho, .int t_reason, .int t_acts, .ref q_t_had, .ref q_t_takes, .ref q_t_worths, .ref q_t_fitting, .ref q_t_wins, .ref q_t_ways, .ref q_t_image, .ref q_t_isKept])), (q_t_takes, .inl (cI, 9, .inl t_takes)), (q_t_worths, .inl (cI, 9, .inl t_worths))] H → va_D A [(q_t, .inr (7, [.ref q_t_book, .ref q_t_now, .int t_shift, .int t_kneels, .int t_sights, .ref q_t_sight, .int t_signs, .ref q_t_pad, .int t_metAt, .int t_metWho, .int t_reason, .int t_acts, .ref q_t_had, .ref q_t_takes, .ref q_t_worths, .ref q_t_fitting, .ref q_t_wins, .ref q_t_ways, .ref q_t_image, .ref q_t_isKept])), (q_t_takes, .inl (cI, 9, .inl t_takes)), (q_t_worths, .inl (cI, 9, .inl t_worths))] → va_S A s.heap H locs → ∀ ls : Array Slot, lv_has ls 15 [(0, .ref q_t), (3, .int a3), (4, .int a4), (5, .int a5), (9, .int x9), (10, .int x10), (11, .int x11)] → W p l e ({ frames := 1, cells := 0, slots := 0, locals := 22 } : Room) s m args below meth c H locs 0 0 Q (F0 m 165 ls [])) :
    ∀ (x9 : Int32) (x10 : Int32) (x11 : Int32) (x13 : Int32) (s0 : Int32) (t_takes : (Nat → Int32)) (t_worths : (Nat → Int32)), pX7_pack_b265 a1 a2 a3 a4 a5 post k165 x9 x10 x11 x13 s0 t_takes t_worths → ∀ (H : Heap) (locs : List Loc), va_P D vwCl [(q_t, .inr (7, [.ref q_t_book, .ref q_t_now, .int t_shift, .int t_kneels, .int t_sights, .ref q_t_sight, .int t_signs, .ref q_t_pad, .int t_metAt, .int t_metWho, .int t_reason, .int t_acts, .ref q_t_had, .ref q_t_takes, .ref q_t_worths, .ref q_t_fitting, .ref q_t_wins, .ref q_t_ways, .ref q_t_image, .ref q_t_isKept])), (q_t_takes, .inl (cI, 9, .inl t_takes)), (q_t_worths, .inl (cI, 9, .inl t_worths))] H → va_D A [(q_t, .inr (7, [.ref q_t_book, .ref q_t_now, .int t_shift, .int t_kneels, .int t_sights, .ref q_t_sight, .int t_signs, .ref q_t_pad, .int t_metAt, .int t_metWho, .int t_reason, .int t_acts, .ref q_t_had, .ref q_t_takes, .ref q_t_worths, .ref q_t_fitting, .ref q_t_wins, .ref q_t_ways, .ref q_t_image, .ref q_t_isKept])), (q_t_takes, .inl (cI, 9, .inl t_takes)), (q_t_worths, .inl (cI, 9, .inl t_worths))] → va_S A s.heap H locs → ∀ ls : Array Slot, lv_has ls 15 [(0, .ref q_t), (3, .int a3), (4, .int a4), (5, .int a5), (9, .int x9), (10, .int x10), (11, .int x11), (13, .int x13)] → W p l e ({ frames := 1, cells := 0, slots := 0, locals := 22 } : Room) s m args below meth c H locs 0 0 Q (F0 m 265 ls [.int s0]) := by
  obtain ⟨hx, hb, hml, hown, hts⟩ := id C0
  intro x9 x10 x11 x13 s0 t_takes t_worths hf H locs hP hD hS ls hl
  unfold pX7_pack_b265 at hf
  refine lv_istore (lv' := [(14, .int s0), (0, .ref q_t), (3, .int a3), (4, .int a4), (5, .int a5), (9, .int x9), (10, .int x10), (11, .int x11), (13, .int x13)]) hx hb dX7_pack_265 hl (by decide) rfl (fun ls hl => ?_)
  refine lv_iload hx hb dX7_pack_267 (lv_at hl 0 rfl) ?_
  refine lv_if_eq (tgt := 277) hx hb dX7_pack_269 (by decide) (fun c1 => ?_) (fun c1 => ?_)
  · have hf := hf.1 c1
    refine lv_iload hx hb dX7_pack_277 (lv_at hl 6 rfl) ?_
    exact wX7_pack_b279 C0 hN hK hA q_t q_t_takes q_t_worths q_t_book q_t_now q_t_sight q_t_pad q_t_had q_t_fitting q_t_wins q_t_ways q_t_image q_t_isKept t_shift t_kneels t_sights t_signs t_metAt t_metWho t_reason t_acts a1 a2 a3 a4 a5 post hret _ hk165 x9 x11 x13 s0 x10 t_takes t_worths hf H locs hP hD hS ls (lv_sub hl [1, 2, 3, 4, 5, 7, 8, 0] rfl)
  · have hf := hf.2 c1
    refine lv_iload hx hb dX7_pack_272 (lv_at hl 7 rfl) ?_
    refine lv_goto (tgt := 279) hx hb dX7_pack_274 (by decide) ?_
    exact wX7_pack_b279 C0 hN hK hA q_t q_t_takes q_t_worths q_t_book q_t_now q_t_sight q_t_pad q_t_had q_t_fitting q_t_wins q_t_ways q_t_image q_t_isKept t_shift t_kneels t_sights t_signs t_metAt t_metWho t_reason t_acts a1 a2 a3 a4 a5 post hret _ hk165 x9 x11 x13 s0 x11 t_takes t_worths hf H locs hP hD hS ls (lv_sub hl [1, 2, 3, 4, 5, 7, 8, 0] rfl)

def pX7_pack_b264 (a1 : Int32) (a2 : Int32) (a3 : Int32) (a4 : Int32) (a5 : Int32) (post : Int32 → ((Nat → Int32) × (Nat → Int32)) → Prop) (k165 : Int32 → Int32 → Int32 → (Nat → Int32) → (Nat → Int32) → Prop) (x9 : Int32) (x10 : Int32) (x11 : Int32) (x13 : Int32) (t_takes : (Nat → Int32)) (t_worths : (Nat → Int32)) : Prop :=
  pX7_pack_b265 a1 a2 a3 a4 a5 post k165 x9 x10 x11 x13 0 t_takes t_worths

set_option maxHeartbeats 4000000 in
set_option maxRecDepth 100000 in
theorem wX7_pack_b264 {p : Program} {l : Launch} {e : Env} {s : State} {m : MethodId} {args : Array Value} {below : List Frame} {meth : Method} {c : Code} {Q : State → Prop} {D : va_G} {cI cZ cJ cO : ClassId} {A : Nat → Prop} (C0 : CallFix p m c cX7_pack 15 s args wsX7_pack RX7) (hN : nw s) (hK : va_K D vwCl (tyL cI cZ cJ cO) s) (hA : ∀ q, s.heap.size ≤ q → A q) (q_t q_t_takes q_t_worths q_t_book q_t_now q_t_sight q_t_pad q_t_had q_t_fitting q_t_wins q_t_ways q_t_image q_t_isKept : Nat) (t_shift : Int32) (t_kneels : Int32) (t_sights : Int32) (t_signs : Int32) (t_metAt : Int32) (t_metWho : Int32) (t_reason : Int32) (t_acts : Int32) (a1 : Int32) (a2 : Int32) (a3 : Int32) (a4 : Int32) (a5 : Int32) (post : Int32 → ((Nat → Int32) × (Nat → Int32)) → Prop) (hret : hrI p l e ({ frames := 1, cells := 0, slots := 0, locals := 22 } : Room) s m args below meth c cX7_pack D A Q post (fun u : (Nat → Int32) × (Nat → Int32) => [(q_t, .inr (7, [.ref q_t_book, .ref q_t_now, .int t_shift, .int t_kneels, .int t_sights, .ref q_t_sight, .int t_signs, .ref q_t_pad, .int t_metAt, .int t_metWho, .int t_reason, .int t_acts, .ref q_t_had, .ref q_t_takes, .ref q_t_worths, .ref q_t_fitting, .ref q_t_wins, .ref q_t_ways, .ref q_t_image, .ref q_t_isKept])), (q_t_takes, .inl (cI, 9, .inl u.1)), (q_t_worths, .inl (cI, 9, .inl u.2))])) (k165 : Int32 → Int32 → Int32 → (Nat → Int32) → (Nat → Int32) → Prop) (hk165 : ∀ (x9 : Int32) (x10 : Int32) (x11 : Int32) (t_takes : (Nat → Int32)) (t_worths : (Nat → Int32)), k165 x9 x10 x11 t_takes t_worths → ∀ (H : Heap) (locs : List Loc), va_P D vwCl [(q_t, .inr (7, [.ref q_t_book, .ref q_t_now, .int t_shift, .int t_kneels, .int t_sights, .ref q_t_sight, .int t_signs, .ref q_t_pad, .int t_metAt, .int t_metWho, .int t_reason, .int t_acts, .ref q_t_had, .ref q_t_takes, .ref q_t_worths, .ref q_t_fitting, .ref q_t_wins, .ref q_t_ways, .ref q_t_image, .ref q_t_isKept])), (q_t_takes, .inl (cI, 9, .inl t_takes)), (q_t_worths, .inl (cI, 9, .inl t_worths))] H → va_D A [(q_t, .inr (7, [.ref q_t_book, .ref q_t_now, .int t_shift, .int t_kneels, .int t_sights, .ref q_t_sight, .int t_signs, .ref q_t_pad, .int t_metAt, .int t_metWho, .int t_reason, .int t_acts, .ref q_t_had, .ref q_t_takes, .ref q_t_worths, .ref q_t_fitting, .ref q_t_wins, .ref q_t_ways, .ref q_t_image, .ref q_t_isKept])), (q_t_takes, .inl (cI, 9, .inl t_takes)), (q_t_worths, .inl (cI, 9, .inl t_worths))] → va_S A s.heap H locs → ∀ ls : Array Slot, lv_has ls 15 [(0, .ref q_t), (3, .int a3), (4, .int a4), (5, .int a5), (9, .int x9), (10, .int x10), (11, .int x11)] → W p l e ({ frames := 1, cells := 0, slots := 0, locals := 22 } : Room) s m args below meth c H locs 0 0 Q (F0 m 165 ls [])) :
    ∀ (x9 : Int32) (x10 : Int32) (x11 : Int32) (x13 : Int32) (t_takes : (Nat → Int32)) (t_worths : (Nat → Int32)), pX7_pack_b264 a1 a2 a3 a4 a5 post k165 x9 x10 x11 x13 t_takes t_worths → ∀ (H : Heap) (locs : List Loc), va_P D vwCl [(q_t, .inr (7, [.ref q_t_book, .ref q_t_now, .int t_shift, .int t_kneels, .int t_sights, .ref q_t_sight, .int t_signs, .ref q_t_pad, .int t_metAt, .int t_metWho, .int t_reason, .int t_acts, .ref q_t_had, .ref q_t_takes, .ref q_t_worths, .ref q_t_fitting, .ref q_t_wins, .ref q_t_ways, .ref q_t_image, .ref q_t_isKept])), (q_t_takes, .inl (cI, 9, .inl t_takes)), (q_t_worths, .inl (cI, 9, .inl t_worths))] H → va_D A [(q_t, .inr (7, [.ref q_t_book, .ref q_t_now, .int t_shift, .int t_kneels, .int t_sights, .ref q_t_sight, .int t_signs, .ref q_t_pad, .int t_metAt, .int t_metWho, .int t_reason, .int t_acts, .ref q_t_had, .ref q_t_takes, .ref q_t_worths, .ref q_t_fitting, .ref q_t_wins, .ref q_t_ways, .ref q_t_image, .ref q_t_isKept])), (q_t_takes, .inl (cI, 9, .inl t_takes)), (q_t_worths, .inl (cI, 9, .inl t_worths))] → va_S A s.heap H locs → ∀ ls : Array Slot, lv_has ls 15 [(0, .ref q_t), (3, .int a3), (4, .int a4), (5, .int a5), (9, .int x9), (10, .int x10), (11, .int x11), (13, .int x13)] → W p l e ({ frames := 1, cells := 0, slots := 0, locals := 22 } : Room) s m args below meth c H locs 0 0 Q (F0 m 264 ls []) := by
  obtain ⟨hx, hb, hml, hown, hts⟩ := id C0
  intro x9 x10 x11 x13 t_takes t_worths hf H locs hP hD hS ls hl
  unfold pX7_pack_b264 at hf
  refine lv_iconst (v := 0) hx hb dX7_pack_264 (by decide) ?_
  exact wX7_pack_b265 C0 hN hK hA q_t q_t_takes q_t_worths q_t_book q_t_now q_t_sight q_t_pad q_t_had q_t_fitting q_t_wins q_t_ways q_t_image q_t_isKept t_shift t_kneels t_sights t_signs t_metAt t_metWho t_reason t_acts a1 a2 a3 a4 a5 post hret _ hk165 x9 x10 x11 x13 0 t_takes t_worths hf H locs hP hD hS ls (lv_sub hl [0, 1, 2, 3, 4, 5, 6, 7] rfl)

def pX7_pack_b211 (a1 : Int32) (a2 : Int32) (a3 : Int32) (a4 : Int32) (a5 : Int32) (post : Int32 → ((Nat → Int32) × (Nat → Int32)) → Prop) (k165 : Int32 → Int32 → Int32 → (Nat → Int32) → (Nat → Int32) → Prop) (k182 : Int32 → Int32 → Int32 → Int32 → Int32 → Int32 → (Nat → Int32) → (Nat → Int32) → Prop) (x9 : Int32) (x10 : Int32) (x11 : Int32) (x13 : Int32) (x14 : Int32) (s0 : Int32) (s1 : Int32) (t_takes : (Nat → Int32)) (t_worths : (Nat → Int32)) : Prop :=
  ∀ v1 : Int32, v1 = (s1 + s0) → (pX7_has x11 x14 (fun r2 => (r2 = 0 → (∀ v4 : Int32, v4 = (x13 + 0) → (∀ v5 : Int32, v5 = x14 + 1 → (k182 x9 x10 x11 v1 v4 v5 t_takes t_worths)))) ∧ (¬ r2 = 0 → (vp_in x14 9 ∧ (∀ v7 : Int32, v7 = (x13 + (t_worths x14.toNatClampNeg)) → (∀ v8 : Int32, v8 = x14 + 1 → (k182 x9 x10 x11 v1 v7 v8 t_takes t_worths)))))))

set_option maxHeartbeats 4000000 in
set_option maxRecDepth 100000 in
theorem wX7_pack_b211 {p : Program} {l : Launch} {e : Env} {s : State} {m : MethodId} {args : Array Value} {below : List Frame} {meth : Method} {c : Code} {Q : State → Prop} {D : va_G} {cI cZ cJ cO : ClassId} {A : Nat → Prop} (C0 : CallFix p m c cX7_pack 15 s args wsX7_pack RX7) (hN : nw s) (hK : va_K D vwCl (tyL cI cZ cJ cO) s) (hA : ∀ q, s.heap.size ≤ q → A q) (q_t q_t_takes q_t_worths q_t_book q_t_now q_t_sight q_t_pad q_t_had q_t_fitting q_t_wins q_t_ways q_t_image q_t_isKept : Nat) (t_shift : Int32) (t_kneels : Int32) (t_sights : Int32) (t_signs : Int32) (t_metAt : Int32) (t_metWho : Int32) (t_reason : Int32) (t_acts : Int32) (a1 : Int32) (a2 : Int32) (a3 : Int32) (a4 : Int32) (a5 : Int32) (post : Int32 → ((Nat → Int32) × (Nat → Int32)) → Prop) (hret : hrI p l e ({ frames := 1, cells := 0, slots := 0, locals := 22 } : Room) s m args below meth c cX7_pack D A Q post (fun u : (Nat → Int32) × (Nat → Int32) => [(q_t, .inr (7, [.ref q_t_book, .ref q_t_now, .int t_shift, .int t_kneels, .int t_sights, .ref q_t_sight, .int t_signs, .ref q_t_pad, .int t_metAt, .int t_metWho, .int t_reason, .int t_acts, .ref q_t_had, .ref q_t_takes, .ref q_t_worths, .ref q_t_fitting, .ref q_t_wins, .ref q_t_ways, .ref q_t_image, .ref q_t_isKept])), (q_t_takes, .inl (cI, 9, .inl u.1)), (q_t_worths, .inl (cI, 9, .inl u.2))])) (k165 : Int32 → Int32 → Int32 → (Nat → Int32) → (Nat → Int32) → Prop) (k182 : Int32 → Int32 → Int32 → Int32 → Int32 → Int32 → (Nat → Int32) → (Nat → Int32) → Prop) (hk165 : ∀ (x9 : Int32) (x10 : Int32) (x11 : Int32) (t_takes : (Nat → Int32)) (t_worths : (Nat → Int32)), k165 x9 x10 x11 t_takes t_worths → ∀ (H : Heap) (locs : List Loc), va_P D vwCl [(q_t, .inr (7, [.ref q_t_book, .ref q_t_now, .int t_shift, .int t_kneels, .int t_sights, .ref q_t_sight, .int t_signs, .ref q_t_pad, .int t_metAt, .int t_metWho, .int t_reason, .int t_acts, .ref q_t_had, .ref q_t_takes, .ref q_t_worths, .ref q_t_fitting, .ref q_t_wins, .ref q_t_ways, .ref q_t_image, .ref q_t_isKept])), (q_t_takes, .inl (cI, 9, .inl t_takes)), (q_t_worths, .inl (cI, 9, .inl t_worths))] H → va_D A [(q_t, .inr (7, [.ref q_t_book, .ref q_t_now, .int t_shift, .int t_kneels, .int t_sights, .ref q_t_sight, .int t_signs, .ref q_t_pad, .int t_metAt, .int t_metWho, .int t_reason, .int t_acts, .ref q_t_had, .ref q_t_takes, .ref q_t_worths, .ref q_t_fitting, .ref q_t_wins, .ref q_t_ways, .ref q_t_image, .ref q_t_isKept])), (q_t_takes, .inl (cI, 9, .inl t_takes)), (q_t_worths, .inl (cI, 9, .inl t_worths))] → va_S A s.heap H locs → ∀ ls : Array Slot, lv_has ls 15 [(0, .ref q_t), (3, .int a3), (4, .int a4), (5, .int a5), (9, .int x9), (10, .int x10), (11, .int x11)] → W p l e ({ frames := 1, cells := 0, slots := 0, locals := 22 } : Room) s m args below meth c H locs 0 0 Q (F0 m 165 ls [])) (hk182 : ∀ (x9 : Int32) (x10 : Int32) (x11 : Int32) (x12 : Int32) (x13 : Int32) (x14 : Int32) (t_takes : (Nat → Int32)) (t_worths : (Nat → Int32)), k182 x9 x10 x11 x12 x13 x14 t_takes t_worths → ∀ (H : Heap) (locs : List Loc), va_P D vwCl [(q_t, .inr (7, [.ref q_t_book, .ref q_t_now, .int t_shift, .int t_kneels, .int t_sights, .ref q_t_sight, .int t_signs, .ref q_t_pad, .int t_metAt, .int t_metWho, .int t_reason, .int t_acts, .ref q_t_had, .ref q_t_takes, .ref q_t_worths, .ref q_t_fitting, .ref q_t_wins, .ref q_t_ways, .ref q_t_image, .ref q_t_isKept])), (q_t_takes, .inl (cI, 9, .inl t_takes)), (q_t_worths, .inl (cI, 9, .inl t_worths))] H → va_D A [(q_t, .inr (7, [.ref q_t_book, .ref q_t_now, .int t_shift, .int t_kneels, .int t_sights, .ref q_t_sight, .int t_signs, .ref q_t_pad, .int t_metAt, .int t_metWho, .int t_reason, .int t_acts, .ref q_t_had, .ref q_t_takes, .ref q_t_worths, .ref q_t_fitting, .ref q_t_wins, .ref q_t_ways, .ref q_t_image, .ref q_t_isKept])), (q_t_takes, .inl (cI, 9, .inl t_takes)), (q_t_worths, .inl (cI, 9, .inl t_worths))] → va_S A s.heap H locs → ∀ ls : Array Slot, lv_has ls 15 [(0, .ref q_t), (3, .int a3), (4, .int a4), (5, .int a5), (9, .int x9), (10, .int x10), (11, .int x11), (12, .int x12), (13, .int x13), (14, .int x14)] → W p l e ({ frames := 1, cells := 0, slots := 0, locals := 22 } : Room) s m args below meth c H locs 0 0 Q (F0 m 182 ls [])) :
    ∀ (x9 : Int32) (x10 : Int32) (x11 : Int32) (x13 : Int32) (x14 : Int32) (s0 : Int32) (s1 : Int32) (t_takes : (Nat → Int32)) (t_worths : (Nat → Int32)), pX7_pack_b211 a1 a2 a3 a4 a5 post k165 k182 x9 x10 x11 x13 x14 s0 s1 t_takes t_worths → ∀ (H : Heap) (locs : List Loc), va_P D vwCl [(q_t, .inr (7, [.ref q_t_book, .ref q_t_now, .int t_shift, .int t_kneels, .int t_sights, .ref q_t_sight, .int t_signs, .ref q_t_pad, .int t_metAt, .int t_metWho, .int t_reason, .int t_acts, .ref q_t_had, .ref q_t_takes, .ref q_t_worths, .ref q_t_fitting, .ref q_t_wins, .ref q_t_ways, .ref q_t_image, .ref q_t_isKept])), (q_t_takes, .inl (cI, 9, .inl t_takes)), (q_t_worths, .inl (cI, 9, .inl t_worths))] H → va_D A [(q_t, .inr (7, [.ref q_t_book, .ref q_t_now, .int t_shift, .int t_kneels, .int t_sights, .ref q_t_sight, .int t_signs, .ref q_t_pad, .int t_metAt, .int t_metWho, .int t_reason, .int t_acts, .ref q_t_had, .ref q_t_takes, .ref q_t_worths, .ref q_t_fitting, .ref q_t_wins, .ref q_t_ways, .ref q_t_image, .ref q_t_isKept])), (q_t_takes, .inl (cI, 9, .inl t_takes)), (q_t_worths, .inl (cI, 9, .inl t_worths))] → va_S A s.heap H locs → ∀ ls : Array Slot, lv_has ls 15 [(0, .ref q_t), (3, .int a3), (4, .int a4), (5, .int a5), (9, .int x9), (10, .int x10), (11, .int x11), (13, .int x13), (14, .int x14)] → W p l e ({ frames := 1, cells := 0, slots := 0, locals := 22 } : Room) s m args below meth c H locs 0 0 Q (F0 m 211 ls [.int s0, .int s1]) := by
  obtain ⟨hx, hb, hml, hown, hts⟩ := id C0
  intro x9 x10 x11 x13 x14 s0 s1 t_takes t_worths hf H locs hP hD hS ls hl
  unfold pX7_pack_b211 at hf
  refine lv_iadd hx hb dX7_pack_211 ?_
  refine lv_topi (fun v1 ev1 => ?_)
  have hf := hf v1 ev1
  refine lv_istore (lv' := [(12, .int v1), (0, .ref q_t), (3, .int a3), (4, .int a4), (5, .int a5), (9, .int x9), (10, .int x10), (11, .int x11), (13, .int x13), (14, .int x14)]) hx hb dX7_pack_212 hl (by decide) rfl (fun ls hl => ?_)
  refine lv_iload hx hb dX7_pack_214 (lv_at hl 8 rfl) ?_
  refine lv_iload hx hb dX7_pack_216 (lv_at hl 7 rfl) ?_
  refine lv_iload hx hb dX7_pack_218 (lv_at hl 9 rfl) ?_
  refine xs_i (va_runS (As := [.int x11, .int x14]) (rest := [.int x13]) ⟨hx, hb, hml, hown, hts⟩ (kX7_has l D cI cZ cJ cO x11 x14 _ hf) (va_cwS 2 hts gX7_pack_X7_has rfl rfl rfl (by decide +kernel) ⟨Nat.le_of_ble_eq_true rfl, Nat.le_of_ble_eq_true rfl⟩) (B0_pre (hP.sub (ws' := []) [] rfl) hK hN) rfl rfl hl.1 rfl (lv_room (Nat.le_of_ble_eq_true rfl)) dX7_pack_220 ⟨Nat.zero_le _, Nat.zero_le _⟩) (fun r2 hf => ?_)
  refine lv_if_eq (tgt := 236) hx hb dX7_pack_223 (by decide) (fun c3 => ?_) (fun c3 => ?_)
  · have hf := hf.1 c3
    refine lv_iconst (v := 0) hx hb dX7_pack_236 (by decide) ?_
    refine lv_iadd hx hb dX7_pack_237 ?_
    refine lv_topi (fun v4 ev4 => ?_)
    have hf := hf v4 ev4
    refine lv_istore (lv' := [(13, .int v4), (12, .int v1), (0, .ref q_t), (3, .int a3), (4, .int a4), (5, .int a5), (9, .int x9), (10, .int x10), (11, .int x11), (14, .int x14)]) hx hb dX7_pack_238 hl (by decide) rfl (fun ls hl => ?_)
    obtain ⟨v5, ev5⟩ : ∃ y : Int32, y = x14 + 1 := ⟨_, rfl⟩
    have hf := hf v5 ev5
    refine lv_iinc (v := v5) (lv' := [(14, .int v5), (13, .int v4), (12, .int v1), (0, .ref q_t), (3, .int a3), (4, .int a4), (5, .int a5), (9, .int x9), (10, .int x10), (11, .int x11)]) hx hb dX7_pack_240 hl (k := 9) rfl (by rw [ev5]; rfl) (by decide) rfl (fun ls hl => ?_)
    refine lv_goto (tgt := 182) hx hb dX7_pack_243 (by decide) ?_
    exact hk182 x9 x10 x11 v1 v4 v5 t_takes t_worths hf H locs hP hD hS ls (lv_sub hl [3, 4, 5, 6, 7, 8, 9, 2, 1, 0] rfl)
  · have hf := hf.2 c3
    refine lv_aload_n hx hb dX7_pack_226 rfl (lv_at hl 1 rfl) ?_
    refine va_get (D := D) (ci := 7) (v := .ref q_t_worths) (C := RX7) (T := TX7) (N := 20) hx hb hts nX7_pack_X7 hown hK hP 0 rfl rfl 14 (by decide) (hts _ mX7_pack_2) (fun _ h9 => h9) rfl dX7_pack_227 ?_
    refine lv_iload hx hb dX7_pack_230 (lv_at hl 9 rfl) ?_
    have g6 := hf.1
    have hf := hf.2
    refine xa_iald hx hb hK hP 2 0 rfl rfl (j := x14.toNatClampNeg) rfl g6 dX7_pack_232 ?_
    refine lv_goto (tgt := 237) hx hb dX7_pack_233 (by decide) ?_
    refine lv_iadd hx hb dX7_pack_237 ?_
    refine lv_topi (fun v7 ev7 => ?_)
    have hf := hf v7 ev7
    refine lv_istore (lv' := [(13, .int v7), (12, .int v1), (0, .ref q_t), (3, .int a3), (4, .int a4), (5, .int a5), (9, .int x9), (10, .int x10), (11, .int x11), (14, .int x14)]) hx hb dX7_pack_238 hl (by decide) rfl (fun ls hl => ?_)
    obtain ⟨v8, ev8⟩ : ∃ y : Int32, y = x14 + 1 := ⟨_, rfl⟩
    have hf := hf v8 ev8
    refine lv_iinc (v := v8) (lv' := [(14, .int v8), (13, .int v7), (12, .int v1), (0, .ref q_t), (3, .int a3), (4, .int a4), (5, .int a5), (9, .int x9), (10, .int x10), (11, .int x11)]) hx hb dX7_pack_240 hl (k := 9) rfl (by rw [ev8]; rfl) (by decide) rfl (fun ls hl => ?_)
    refine lv_goto (tgt := 182) hx hb dX7_pack_243 (by decide) ?_
    exact hk182 x9 x10 x11 v1 v7 v8 t_takes t_worths hf H locs hP hD hS ls (lv_sub hl [3, 4, 5, 6, 7, 8, 9, 2, 1, 0] rfl)

def pX7_pack_b182 (a1 : Int32) (a2 : Int32) (a3 : Int32) (a4 : Int32) (a5 : Int32) (post : Int32 → ((Nat → Int32) × (Nat → Int32)) → Prop) (k165 : Int32 → Int32 → Int32 → (Nat → Int32) → (Nat → Int32) → Prop) : Nat → Int32 → Int32 → Int32 → Int32 → Int32 → Int32 → (Nat → Int32) → (Nat → Int32) → Prop
  | 0 => fun _ _ _ _ _ _ _ _ => False
  | n + 1 => fun x9 x10 x11 x12 x13 x14 t_takes t_worths => (a3 ≤ x14 → ((a4 < x12 → (pX7_pack_b264 a1 a2 a3 a4 a5 post k165 x9 x10 x11 x13 t_takes t_worths)) ∧ (¬ a4 < x12 → ((x13 ≤ x9 → (pX7_pack_b264 a1 a2 a3 a4 a5 post k165 x9 x10 x11 x13 t_takes t_worths)) ∧ (¬ x13 ≤ x9 → (pX7_pack_b265 a1 a2 a3 a4 a5 post k165 x9 x10 x11 x13 1 t_takes t_worths)))))) ∧ (¬ a3 ≤ x14 → (pX7_has x11 x14 (fun r4 => (r4 = 0 → (pX7_pack_b211 a1 a2 a3 a4 a5 post k165 (fun x9 x10 x11 x12 x13 x14 t_takes t_worths => pX7_pack_b182 a1 a2 a3 a4 a5 post k165 n x9 x10 x11 x12 x13 x14 t_takes t_worths) x9 x10 x11 x13 x14 0 x12 t_takes t_worths)) ∧ (¬ r4 = 0 → (vp_in x14 9 ∧ (pX7_pack_b211 a1 a2 a3 a4 a5 post k165 (fun x9 x10 x11 x12 x13 x14 t_takes t_worths => pX7_pack_b182 a1 a2 a3 a4 a5 post k165 n x9 x10 x11 x12 x13 x14 t_takes t_worths) x9 x10 x11 x13 x14 (t_takes x14.toNatClampNeg) x12 t_takes t_worths))))))

set_option maxHeartbeats 4000000 in
set_option maxRecDepth 100000 in
theorem wX7_pack_b182 {p : Program} {l : Launch} {e : Env} {s : State} {m : MethodId} {args : Array Value} {below : List Frame} {meth : Method} {c : Code} {Q : State → Prop} {D : va_G} {cI cZ cJ cO : ClassId} {A : Nat → Prop} (C0 : CallFix p m c cX7_pack 15 s args wsX7_pack RX7) (hN : nw s) (hK : va_K D vwCl (tyL cI cZ cJ cO) s) (hA : ∀ q, s.heap.size ≤ q → A q) (q_t q_t_takes q_t_worths q_t_book q_t_now q_t_sight q_t_pad q_t_had q_t_fitting q_t_wins q_t_ways q_t_image q_t_isKept : Nat) (t_shift : Int32) (t_kneels : Int32) (t_sights : Int32) (t_signs : Int32) (t_metAt : Int32) (t_metWho : Int32) (t_reason : Int32) (t_acts : Int32) (a1 : Int32) (a2 : Int32) (a3 : Int32) (a4 : Int32) (a5 : Int32) (post : Int32 → ((Nat → Int32) × (Nat → Int32)) → Prop) (hret : hrI p l e ({ frames := 1, cells := 0, slots := 0, locals := 22 } : Room) s m args below meth c cX7_pack D A Q post (fun u : (Nat → Int32) × (Nat → Int32) => [(q_t, .inr (7, [.ref q_t_book, .ref q_t_now, .int t_shift, .int t_kneels, .int t_sights, .ref q_t_sight, .int t_signs, .ref q_t_pad, .int t_metAt, .int t_metWho, .int t_reason, .int t_acts, .ref q_t_had, .ref q_t_takes, .ref q_t_worths, .ref q_t_fitting, .ref q_t_wins, .ref q_t_ways, .ref q_t_image, .ref q_t_isKept])), (q_t_takes, .inl (cI, 9, .inl u.1)), (q_t_worths, .inl (cI, 9, .inl u.2))])) (k165 : Int32 → Int32 → Int32 → (Nat → Int32) → (Nat → Int32) → Prop) (hk165 : ∀ (x9 : Int32) (x10 : Int32) (x11 : Int32) (t_takes : (Nat → Int32)) (t_worths : (Nat → Int32)), k165 x9 x10 x11 t_takes t_worths → ∀ (H : Heap) (locs : List Loc), va_P D vwCl [(q_t, .inr (7, [.ref q_t_book, .ref q_t_now, .int t_shift, .int t_kneels, .int t_sights, .ref q_t_sight, .int t_signs, .ref q_t_pad, .int t_metAt, .int t_metWho, .int t_reason, .int t_acts, .ref q_t_had, .ref q_t_takes, .ref q_t_worths, .ref q_t_fitting, .ref q_t_wins, .ref q_t_ways, .ref q_t_image, .ref q_t_isKept])), (q_t_takes, .inl (cI, 9, .inl t_takes)), (q_t_worths, .inl (cI, 9, .inl t_worths))] H → va_D A [(q_t, .inr (7, [.ref q_t_book, .ref q_t_now, .int t_shift, .int t_kneels, .int t_sights, .ref q_t_sight, .int t_signs, .ref q_t_pad, .int t_metAt, .int t_metWho, .int t_reason, .int t_acts, .ref q_t_had, .ref q_t_takes, .ref q_t_worths, .ref q_t_fitting, .ref q_t_wins, .ref q_t_ways, .ref q_t_image, .ref q_t_isKept])), (q_t_takes, .inl (cI, 9, .inl t_takes)), (q_t_worths, .inl (cI, 9, .inl t_worths))] → va_S A s.heap H locs → ∀ ls : Array Slot, lv_has ls 15 [(0, .ref q_t), (3, .int a3), (4, .int a4), (5, .int a5), (9, .int x9), (10, .int x10), (11, .int x11)] → W p l e ({ frames := 1, cells := 0, slots := 0, locals := 22 } : Room) s m args below meth c H locs 0 0 Q (F0 m 165 ls [])) :
    ∀ (n : Nat) (x9 : Int32) (x10 : Int32) (x11 : Int32) (x12 : Int32) (x13 : Int32) (x14 : Int32) (t_takes : (Nat → Int32)) (t_worths : (Nat → Int32)), pX7_pack_b182 a1 a2 a3 a4 a5 post k165 n x9 x10 x11 x12 x13 x14 t_takes t_worths → ∀ (H : Heap) (locs : List Loc), va_P D vwCl [(q_t, .inr (7, [.ref q_t_book, .ref q_t_now, .int t_shift, .int t_kneels, .int t_sights, .ref q_t_sight, .int t_signs, .ref q_t_pad, .int t_metAt, .int t_metWho, .int t_reason, .int t_acts, .ref q_t_had, .ref q_t_takes, .ref q_t_worths, .ref q_t_fitting, .ref q_t_wins, .ref q_t_ways, .ref q_t_image, .ref q_t_isKept])), (q_t_takes, .inl (cI, 9, .inl t_takes)), (q_t_worths, .inl (cI, 9, .inl t_worths))] H → va_D A [(q_t, .inr (7, [.ref q_t_book, .ref q_t_now, .int t_shift, .int t_kneels, .int t_sights, .ref q_t_sight, .int t_signs, .ref q_t_pad, .int t_metAt, .int t_metWho, .int t_reason, .int t_acts, .ref q_t_had, .ref q_t_takes, .ref q_t_worths, .ref q_t_fitting, .ref q_t_wins, .ref q_t_ways, .ref q_t_image, .ref q_t_isKept])), (q_t_takes, .inl (cI, 9, .inl t_takes)), (q_t_worths, .inl (cI, 9, .inl t_worths))] → va_S A s.heap H locs → ∀ ls : Array Slot, lv_has ls 15 [(0, .ref q_t), (3, .int a3), (4, .int a4), (5, .int a5), (9, .int x9), (10, .int x10), (11, .int x11), (12, .int x12), (13, .int x13), (14, .int x14)] → W p l e ({ frames := 1, cells := 0, slots := 0, locals := 22 } : Room) s m args below meth c H locs 0 0 Q (F0 m 182 ls []) := by
  obtain ⟨hx, hb, hml, hown, hts⟩ := id C0
  intro n
  induction n with
  | zero =>
    intro x9 x10 x11 x12 x13 x14 t_takes t_worths hf
    exact False.elim hf
  | succ n ih =>
    intro x9 x10 x11 x12 x13 x14 t_takes t_worths hf H locs hP hD hS ls hl
    rw [pX7_pack_b182] at hf
    refine lv_iload hx hb dX7_pack_182 (lv_at hl 9 rfl) ?_
    refine lv_iload_n hx hb dX7_pack_184 rfl (lv_at hl 1 rfl) ?_
    refine lv_icmp_ge (tgt := 246) hx hb dX7_pack_185 (by decide) (fun c1 => ?_) (fun c1 => ?_)
    · have hf := hf.1 c1
      refine lv_iload hx hb dX7_pack_246 (lv_at hl 7 rfl) ?_
      refine lv_iload hx hb dX7_pack_248 (lv_at hl 2 rfl) ?_
      refine lv_icmp_gt (tgt := 264) hx hb dX7_pack_250 (by decide) (fun c2 => ?_) (fun c2 => ?_)
      · have hf := hf.1 c2
        exact wX7_pack_b264 C0 hN hK hA q_t q_t_takes q_t_worths q_t_book q_t_now q_t_sight q_t_pad q_t_had q_t_fitting q_t_wins q_t_ways q_t_image q_t_isKept t_shift t_kneels t_sights t_signs t_metAt t_metWho t_reason t_acts a1 a2 a3 a4 a5 post hret _ hk165 x9 x10 x11 x13 t_takes t_worths hf H locs hP hD hS ls (lv_sub hl [0, 1, 2, 3, 4, 5, 6, 8] rfl)
      · have hf := hf.2 c2
        refine lv_iload hx hb dX7_pack_253 (lv_at hl 8 rfl) ?_
        refine lv_iload hx hb dX7_pack_255 (lv_at hl 4 rfl) ?_
        refine lv_icmp_le (tgt := 264) hx hb dX7_pack_257 (by decide) (fun c3 => ?_) (fun c3 => ?_)
        · have hf := hf.1 c3
          exact wX7_pack_b264 C0 hN hK hA q_t q_t_takes q_t_worths q_t_book q_t_now q_t_sight q_t_pad q_t_had q_t_fitting q_t_wins q_t_ways q_t_image q_t_isKept t_shift t_kneels t_sights t_signs t_metAt t_metWho t_reason t_acts a1 a2 a3 a4 a5 post hret _ hk165 x9 x10 x11 x13 t_takes t_worths hf H locs hP hD hS ls (lv_sub hl [0, 1, 2, 3, 4, 5, 6, 8] rfl)
        · have hf := hf.2 c3
          refine lv_iconst (v := 1) hx hb dX7_pack_260 (by decide) ?_
          refine lv_goto (tgt := 265) hx hb dX7_pack_261 (by decide) ?_
          exact wX7_pack_b265 C0 hN hK hA q_t q_t_takes q_t_worths q_t_book q_t_now q_t_sight q_t_pad q_t_had q_t_fitting q_t_wins q_t_ways q_t_image q_t_isKept t_shift t_kneels t_sights t_signs t_metAt t_metWho t_reason t_acts a1 a2 a3 a4 a5 post hret _ hk165 x9 x10 x11 x13 1 t_takes t_worths hf H locs hP hD hS ls (lv_sub hl [0, 1, 2, 3, 4, 5, 6, 8] rfl)
    · have hf := hf.2 c1
      refine lv_iload hx hb dX7_pack_188 (lv_at hl 7 rfl) ?_
      refine lv_iload hx hb dX7_pack_190 (lv_at hl 6 rfl) ?_
      refine lv_iload hx hb dX7_pack_192 (lv_at hl 9 rfl) ?_
      refine xs_i (va_runS (As := [.int x11, .int x14]) (rest := [.int x12]) ⟨hx, hb, hml, hown, hts⟩ (kX7_has l D cI cZ cJ cO x11 x14 _ hf) (va_cwS 2 hts gX7_pack_X7_has rfl rfl rfl (by decide +kernel) ⟨Nat.le_of_ble_eq_true rfl, Nat.le_of_ble_eq_true rfl⟩) (B0_pre (hP.sub (ws' := []) [] rfl) hK hN) rfl rfl hl.1 rfl (lv_room (Nat.le_of_ble_eq_true rfl)) dX7_pack_194 ⟨Nat.zero_le _, Nat.zero_le _⟩) (fun r4 hf => ?_)
      refine lv_if_eq (tgt := 210) hx hb dX7_pack_197 (by decide) (fun c5 => ?_) (fun c5 => ?_)
      · have hf := hf.1 c5
        refine lv_iconst (v := 0) hx hb dX7_pack_210 (by decide) ?_
        exact wX7_pack_b211 C0 hN hK hA q_t q_t_takes q_t_worths q_t_book q_t_now q_t_sight q_t_pad q_t_had q_t_fitting q_t_wins q_t_ways q_t_image q_t_isKept t_shift t_kneels t_sights t_signs t_metAt t_metWho t_reason t_acts a1 a2 a3 a4 a5 post hret _ _ hk165 ih x9 x10 x11 x13 x14 0 x12 t_takes t_worths hf H locs hP hD hS ls (lv_sub hl [0, 1, 2, 3, 4, 5, 6, 8, 9] rfl)
      · have hf := hf.2 c5
        refine lv_aload_n hx hb dX7_pack_200 rfl (lv_at hl 0 rfl) ?_
        refine va_get (D := D) (ci := 7) (v := .ref q_t_takes) (C := RX7) (T := TX7) (N := 20) hx hb hts nX7_pack_X7 hown hK hP 0 rfl rfl 13 (by decide) (hts _ mX7_pack_1) (fun _ h9 => h9) rfl dX7_pack_201 ?_
        refine lv_iload hx hb dX7_pack_204 (lv_at hl 9 rfl) ?_
        have g6 := hf.1
        have hf := hf.2
        refine xa_iald hx hb hK hP 1 0 rfl rfl (j := x14.toNatClampNeg) rfl g6 dX7_pack_206 ?_
        refine lv_goto (tgt := 211) hx hb dX7_pack_207 (by decide) ?_
        exact wX7_pack_b211 C0 hN hK hA q_t q_t_takes q_t_worths q_t_book q_t_now q_t_sight q_t_pad q_t_had q_t_fitting q_t_wins q_t_ways q_t_image q_t_isKept t_shift t_kneels t_sights t_signs t_metAt t_metWho t_reason t_acts a1 a2 a3 a4 a5 post hret _ _ hk165 ih x9 x10 x11 x13 x14 (t_takes x14.toNatClampNeg) x12 t_takes t_worths hf H locs hP hD hS ls (lv_sub hl [0, 1, 2, 3, 4, 5, 6, 8, 9] rfl)

def pX7_pack_b165 (a1 : Int32) (a2 : Int32) (a3 : Int32) (a4 : Int32) (a5 : Int32) (post : Int32 → ((Nat → Int32) × (Nat → Int32)) → Prop) : Nat → Int32 → Int32 → Int32 → (Nat → Int32) → (Nat → Int32) → Prop
  | 0 => fun _ _ _ _ _ => False
  | n + 1 => fun x9 x10 x11 t_takes t_worths => ((1 <<< (a3 &&& 31)) ≤ x11 → ((¬ a5 = 0 → (post x10 (t_takes, t_worths))) ∧ (a5 = 0 → (post x9 (t_takes, t_worths))))) ∧ (¬ (1 <<< (a3 &&& 31)) ≤ x11 → (∃ n1, pX7_pack_b182 a1 a2 a3 a4 a5 post (fun x9 x10 x11 t_takes t_worths => pX7_pack_b165 a1 a2 a3 a4 a5 post  n x9 x10 x11 t_takes t_worths) n1 x9 x10 x11 0 0 0 t_takes t_worths))

set_option maxHeartbeats 4000000 in
set_option maxRecDepth 100000 in
theorem wX7_pack_b165 {p : Program} {l : Launch} {e : Env} {s : State} {m : MethodId} {args : Array Value} {below : List Frame} {meth : Method} {c : Code} {Q : State → Prop} {D : va_G} {cI cZ cJ cO : ClassId} {A : Nat → Prop} (C0 : CallFix p m c cX7_pack 15 s args wsX7_pack RX7) (hN : nw s) (hK : va_K D vwCl (tyL cI cZ cJ cO) s) (hA : ∀ q, s.heap.size ≤ q → A q) (q_t q_t_takes q_t_worths q_t_book q_t_now q_t_sight q_t_pad q_t_had q_t_fitting q_t_wins q_t_ways q_t_image q_t_isKept : Nat) (t_shift : Int32) (t_kneels : Int32) (t_sights : Int32) (t_signs : Int32) (t_metAt : Int32) (t_metWho : Int32) (t_reason : Int32) (t_acts : Int32) (a1 : Int32) (a2 : Int32) (a3 : Int32) (a4 : Int32) (a5 : Int32) (post : Int32 → ((Nat → Int32) × (Nat → Int32)) → Prop) (hret : hrI p l e ({ frames := 1, cells := 0, slots := 0, locals := 22 } : Room) s m args below meth c cX7_pack D A Q post (fun u : (Nat → Int32) × (Nat → Int32) => [(q_t, .inr (7, [.ref q_t_book, .ref q_t_now, .int t_shift, .int t_kneels, .int t_sights, .ref q_t_sight, .int t_signs, .ref q_t_pad, .int t_metAt, .int t_metWho, .int t_reason, .int t_acts, .ref q_t_had, .ref q_t_takes, .ref q_t_worths, .ref q_t_fitting, .ref q_t_wins, .ref q_t_ways, .ref q_t_image, .ref q_t_isKept])), (q_t_takes, .inl (cI, 9, .inl u.1)), (q_t_worths, .inl (cI, 9, .inl u.2))])) :
    ∀ (n : Nat) (x9 : Int32) (x10 : Int32) (x11 : Int32) (t_takes : (Nat → Int32)) (t_worths : (Nat → Int32)), pX7_pack_b165 a1 a2 a3 a4 a5 post n x9 x10 x11 t_takes t_worths → ∀ (H : Heap) (locs : List Loc), va_P D vwCl [(q_t, .inr (7, [.ref q_t_book, .ref q_t_now, .int t_shift, .int t_kneels, .int t_sights, .ref q_t_sight, .int t_signs, .ref q_t_pad, .int t_metAt, .int t_metWho, .int t_reason, .int t_acts, .ref q_t_had, .ref q_t_takes, .ref q_t_worths, .ref q_t_fitting, .ref q_t_wins, .ref q_t_ways, .ref q_t_image, .ref q_t_isKept])), (q_t_takes, .inl (cI, 9, .inl t_takes)), (q_t_worths, .inl (cI, 9, .inl t_worths))] H → va_D A [(q_t, .inr (7, [.ref q_t_book, .ref q_t_now, .int t_shift, .int t_kneels, .int t_sights, .ref q_t_sight, .int t_signs, .ref q_t_pad, .int t_metAt, .int t_metWho, .int t_reason, .int t_acts, .ref q_t_had, .ref q_t_takes, .ref q_t_worths, .ref q_t_fitting, .ref q_t_wins, .ref q_t_ways, .ref q_t_image, .ref q_t_isKept])), (q_t_takes, .inl (cI, 9, .inl t_takes)), (q_t_worths, .inl (cI, 9, .inl t_worths))] → va_S A s.heap H locs → ∀ ls : Array Slot, lv_has ls 15 [(0, .ref q_t), (3, .int a3), (4, .int a4), (5, .int a5), (9, .int x9), (10, .int x10), (11, .int x11)] → W p l e ({ frames := 1, cells := 0, slots := 0, locals := 22 } : Room) s m args below meth c H locs 0 0 Q (F0 m 165 ls []) := by
  obtain ⟨hx, hb, hml, hown, hts⟩ := id C0
  intro n
  induction n with
  | zero =>
    intro x9 x10 x11 t_takes t_worths hf
    exact False.elim hf
  | succ n ih =>
    intro x9 x10 x11 t_takes t_worths hf H locs hP hD hS ls hl
    rw [pX7_pack_b165] at hf
    refine lv_iload hx hb dX7_pack_165 (lv_at hl 6 rfl) ?_
    refine lv_iconst (v := 1) hx hb dX7_pack_167 (by decide) ?_
    refine lv_iload_n hx hb dX7_pack_168 rfl (lv_at hl 1 rfl) ?_
    refine lv_ishl hx hb dX7_pack_169 ?_
    refine lv_icmp_ge (tgt := 301) hx hb dX7_pack_170 (by decide) (fun c1 => ?_) (fun c1 => ?_)
    · have hf := hf.1 c1
      refine lv_iload hx hb dX7_pack_301 (lv_at hl 3 rfl) ?_
      refine lv_if_ne (tgt := 311) hx hb dX7_pack_303 (by decide) (fun c2 => ?_) (fun c2 => ?_)
      · have hf := hf.1 c2
        refine lv_iload hx hb dX7_pack_311 (lv_at hl 5 rfl) ?_
        exact hret 313 ls H locs x10 (t_takes, t_worths) dX7_pack_313 hf hP hD hS
      · have hf := hf.2 c2
        refine lv_iload hx hb dX7_pack_306 (lv_at hl 4 rfl) ?_
        refine lv_goto (tgt := 313) hx hb dX7_pack_308 (by decide) ?_
        exact hret 313 ls H locs x9 (t_takes, t_worths) dX7_pack_313 hf hP hD hS
    · have hf := hf.2 c1
      refine lv_iconst (v := 0) hx hb dX7_pack_173 (by decide) ?_
      refine lv_istore (lv' := [(12, .int 0), (0, .ref q_t), (3, .int a3), (4, .int a4), (5, .int a5), (9, .int x9), (10, .int x10), (11, .int x11)]) hx hb dX7_pack_174 hl (by decide) rfl (fun ls hl => ?_)
      refine lv_iconst (v := 0) hx hb dX7_pack_176 (by decide) ?_
      refine lv_istore (lv' := [(13, .int 0), (12, .int 0), (0, .ref q_t), (3, .int a3), (4, .int a4), (5, .int a5), (9, .int x9), (10, .int x10), (11, .int x11)]) hx hb dX7_pack_177 hl (by decide) rfl (fun ls hl => ?_)
      refine lv_iconst (v := 0) hx hb dX7_pack_179 (by decide) ?_
      refine lv_istore (lv' := [(14, .int 0), (13, .int 0), (12, .int 0), (0, .ref q_t), (3, .int a3), (4, .int a4), (5, .int a5), (9, .int x9), (10, .int x10), (11, .int x11)]) hx hb dX7_pack_180 hl (by decide) rfl (fun ls hl => ?_)
      obtain ⟨n1, hf⟩ := hf
      exact wX7_pack_b182 C0 hN hK hA q_t q_t_takes q_t_worths q_t_book q_t_now q_t_sight q_t_pad q_t_had q_t_fitting q_t_wins q_t_ways q_t_image q_t_isKept t_shift t_kneels t_sights t_signs t_metAt t_metWho t_reason t_acts a1 a2 a3 a4 a5 post hret _ ih n1 x9 x10 x11 0 0 0 t_takes t_worths hf H locs hP hD hS ls (lv_sub hl [3, 4, 5, 6, 7, 8, 9, 2, 1, 0] rfl)

def pX7_pack_b138 (a1 : Int32) (a2 : Int32) (a3 : Int32) (a4 : Int32) (a5 : Int32) (post : Int32 → ((Nat → Int32) × (Nat → Int32)) → Prop) (x6 : Int32) (x7 : Int32) (x8 : Int32) (t_takes : (Nat → Int32)) (t_worths : (Nat → Int32)) : Prop :=
  (x6 = 0 → (post (-2) (t_takes, t_worths))) ∧ (¬ x6 = 0 → ((¬ x7 = 0 → (post (-2) (t_takes, t_worths))) ∧ (x7 = 0 → ((x8 = 0 → (∃ n1, pX7_pack_b165 a1 a2 a3 a4 a5 post  n1 0 0 1 t_takes t_worths)) ∧ (¬ x8 = 0 → (post (-2) (t_takes, t_worths)))))))

set_option maxHeartbeats 4000000 in
set_option maxRecDepth 100000 in
theorem wX7_pack_b138 {p : Program} {l : Launch} {e : Env} {s : State} {m : MethodId} {args : Array Value} {below : List Frame} {meth : Method} {c : Code} {Q : State → Prop} {D : va_G} {cI cZ cJ cO : ClassId} {A : Nat → Prop} (C0 : CallFix p m c cX7_pack 15 s args wsX7_pack RX7) (hN : nw s) (hK : va_K D vwCl (tyL cI cZ cJ cO) s) (hA : ∀ q, s.heap.size ≤ q → A q) (q_t q_t_takes q_t_worths q_t_book q_t_now q_t_sight q_t_pad q_t_had q_t_fitting q_t_wins q_t_ways q_t_image q_t_isKept : Nat) (t_shift : Int32) (t_kneels : Int32) (t_sights : Int32) (t_signs : Int32) (t_metAt : Int32) (t_metWho : Int32) (t_reason : Int32) (t_acts : Int32) (a1 : Int32) (a2 : Int32) (a3 : Int32) (a4 : Int32) (a5 : Int32) (post : Int32 → ((Nat → Int32) × (Nat → Int32)) → Prop) (hret : hrI p l e ({ frames := 1, cells := 0, slots := 0, locals := 22 } : Room) s m args below meth c cX7_pack D A Q post (fun u : (Nat → Int32) × (Nat → Int32) => [(q_t, .inr (7, [.ref q_t_book, .ref q_t_now, .int t_shift, .int t_kneels, .int t_sights, .ref q_t_sight, .int t_signs, .ref q_t_pad, .int t_metAt, .int t_metWho, .int t_reason, .int t_acts, .ref q_t_had, .ref q_t_takes, .ref q_t_worths, .ref q_t_fitting, .ref q_t_wins, .ref q_t_ways, .ref q_t_image, .ref q_t_isKept])), (q_t_takes, .inl (cI, 9, .inl u.1)), (q_t_worths, .inl (cI, 9, .inl u.2))])) :
    ∀ (x6 : Int32) (x7 : Int32) (x8 : Int32) (t_takes : (Nat → Int32)) (t_worths : (Nat → Int32)), pX7_pack_b138 a1 a2 a3 a4 a5 post x6 x7 x8 t_takes t_worths → ∀ (H : Heap) (locs : List Loc), va_P D vwCl [(q_t, .inr (7, [.ref q_t_book, .ref q_t_now, .int t_shift, .int t_kneels, .int t_sights, .ref q_t_sight, .int t_signs, .ref q_t_pad, .int t_metAt, .int t_metWho, .int t_reason, .int t_acts, .ref q_t_had, .ref q_t_takes, .ref q_t_worths, .ref q_t_fitting, .ref q_t_wins, .ref q_t_ways, .ref q_t_image, .ref q_t_isKept])), (q_t_takes, .inl (cI, 9, .inl t_takes)), (q_t_worths, .inl (cI, 9, .inl t_worths))] H → va_D A [(q_t, .inr (7, [.ref q_t_book, .ref q_t_now, .int t_shift, .int t_kneels, .int t_sights, .ref q_t_sight, .int t_signs, .ref q_t_pad, .int t_metAt, .int t_metWho, .int t_reason, .int t_acts, .ref q_t_had, .ref q_t_takes, .ref q_t_worths, .ref q_t_fitting, .ref q_t_wins, .ref q_t_ways, .ref q_t_image, .ref q_t_isKept])), (q_t_takes, .inl (cI, 9, .inl t_takes)), (q_t_worths, .inl (cI, 9, .inl t_worths))] → va_S A s.heap H locs → ∀ ls : Array Slot, lv_has ls 15 [(0, .ref q_t), (3, .int a3), (4, .int a4), (5, .int a5), (6, .int x6), (7, .int x7), (8, .int x8)] → W p l e ({ frames := 1, cells := 0, slots := 0, locals := 22 } : Room) s m args below meth c H locs 0 0 Q (F0 m 138 ls []) := by
  obtain ⟨hx, hb, hml, hown, hts⟩ := id C0
  intro x6 x7 x8 t_takes t_worths hf H locs hP hD hS ls hl
  unfold pX7_pack_b138 at hf
  refine lv_iload hx hb dX7_pack_138 (lv_at hl 4 rfl) ?_
  refine lv_if_eq (tgt := 153) hx hb dX7_pack_140 (by decide) (fun c1 => ?_) (fun c1 => ?_)
  · have hf := hf.1 c1
    refine lv_bipush (v := (-2)) hx hb dX7_pack_153 (by decide) ?_
    exact hret 155 ls H locs (-2) (t_takes, t_worths) dX7_pack_155 hf hP hD hS
  · have hf := hf.2 c1
    refine lv_iload hx hb dX7_pack_143 (lv_at hl 5 rfl) ?_
    refine lv_if_ne (tgt := 153) hx hb dX7_pack_145 (by decide) (fun c2 => ?_) (fun c2 => ?_)
    · have hf := hf.1 c2
      refine lv_bipush (v := (-2)) hx hb dX7_pack_153 (by decide) ?_
      exact hret 155 ls H locs (-2) (t_takes, t_worths) dX7_pack_155 hf hP hD hS
    · have hf := hf.2 c2
      refine lv_iload hx hb dX7_pack_148 (lv_at hl 6 rfl) ?_
      refine lv_if_eq (tgt := 156) hx hb dX7_pack_150 (by decide) (fun c3 => ?_) (fun c3 => ?_)
      · have hf := hf.1 c3
        refine lv_iconst (v := 0) hx hb dX7_pack_156 (by decide) ?_
        refine lv_istore (lv' := [(9, .int 0), (0, .ref q_t), (3, .int a3), (4, .int a4), (5, .int a5), (6, .int x6), (7, .int x7), (8, .int x8)]) hx hb dX7_pack_157 hl (by decide) rfl (fun ls hl => ?_)
        refine lv_iconst (v := 0) hx hb dX7_pack_159 (by decide) ?_
        refine lv_istore (lv' := [(10, .int 0), (9, .int 0), (0, .ref q_t), (3, .int a3), (4, .int a4), (5, .int a5), (6, .int x6), (7, .int x7), (8, .int x8)]) hx hb dX7_pack_160 hl (by decide) rfl (fun ls hl => ?_)
        refine lv_iconst (v := 1) hx hb dX7_pack_162 (by decide) ?_
        refine lv_istore (lv' := [(11, .int 1), (10, .int 0), (9, .int 0), (0, .ref q_t), (3, .int a3), (4, .int a4), (5, .int a5), (6, .int x6), (7, .int x7), (8, .int x8)]) hx hb dX7_pack_163 hl (by decide) rfl (fun ls hl => ?_)
        obtain ⟨n1, hf⟩ := hf
        exact wX7_pack_b165 C0 hN hK hA q_t q_t_takes q_t_worths q_t_book q_t_now q_t_sight q_t_pad q_t_had q_t_fitting q_t_wins q_t_ways q_t_image q_t_isKept t_shift t_kneels t_sights t_signs t_metAt t_metWho t_reason t_acts a1 a2 a3 a4 a5 post hret   n1 0 0 1 t_takes t_worths hf H locs hP hD hS ls (lv_sub hl [3, 4, 5, 6, 2, 1, 0] rfl)
      · have hf := hf.2 c3
        refine lv_bipush (v := (-2)) hx hb dX7_pack_153 (by decide) ?_
        exact hret 155 ls H locs (-2) (t_takes, t_worths) dX7_pack_155 hf hP hD hS

def pX7_pack_b116 (a1 : Int32) (a2 : Int32) (a3 : Int32) (a4 : Int32) (a5 : Int32) (post : Int32 → ((Nat → Int32) × (Nat → Int32)) → Prop) (k57 : Int32 → Int32 → Int32 → Int32 → (Nat → Int32) → (Nat → Int32) → Prop) (x7 : Int32) (x8 : Int32) (x9 : Int32) (s0 : Int32) (t_takes : (Nat → Int32)) (t_worths : (Nat → Int32)) : Prop :=
  ∀ v1 : Int32, v1 = (x7 / 10) → (∀ v2 : Int32, v2 = (x8 / 10) → (∀ v3 : Int32, v3 = x9 + (-1) → (k57 s0 v1 v2 v3 t_takes t_worths)))

set_option maxHeartbeats 4000000 in
set_option maxRecDepth 100000 in
theorem wX7_pack_b116 {p : Program} {l : Launch} {e : Env} {s : State} {m : MethodId} {args : Array Value} {below : List Frame} {meth : Method} {c : Code} {Q : State → Prop} {D : va_G} {cI cZ cJ cO : ClassId} {A : Nat → Prop} (C0 : CallFix p m c cX7_pack 15 s args wsX7_pack RX7) (hN : nw s) (hK : va_K D vwCl (tyL cI cZ cJ cO) s) (hA : ∀ q, s.heap.size ≤ q → A q) (q_t q_t_takes q_t_worths q_t_book q_t_now q_t_sight q_t_pad q_t_had q_t_fitting q_t_wins q_t_ways q_t_image q_t_isKept : Nat) (t_shift : Int32) (t_kneels : Int32) (t_sights : Int32) (t_signs : Int32) (t_metAt : Int32) (t_metWho : Int32) (t_reason : Int32) (t_acts : Int32) (a1 : Int32) (a2 : Int32) (a3 : Int32) (a4 : Int32) (a5 : Int32) (post : Int32 → ((Nat → Int32) × (Nat → Int32)) → Prop) (hret : hrI p l e ({ frames := 1, cells := 0, slots := 0, locals := 22 } : Room) s m args below meth c cX7_pack D A Q post (fun u : (Nat → Int32) × (Nat → Int32) => [(q_t, .inr (7, [.ref q_t_book, .ref q_t_now, .int t_shift, .int t_kneels, .int t_sights, .ref q_t_sight, .int t_signs, .ref q_t_pad, .int t_metAt, .int t_metWho, .int t_reason, .int t_acts, .ref q_t_had, .ref q_t_takes, .ref q_t_worths, .ref q_t_fitting, .ref q_t_wins, .ref q_t_ways, .ref q_t_image, .ref q_t_isKept])), (q_t_takes, .inl (cI, 9, .inl u.1)), (q_t_worths, .inl (cI, 9, .inl u.2))])) (k57 : Int32 → Int32 → Int32 → Int32 → (Nat → Int32) → (Nat → Int32) → Prop) (hk57 : ∀ (x6 : Int32) (x7 : Int32) (x8 : Int32) (x9 : Int32) (t_takes : (Nat → Int32)) (t_worths : (Nat → Int32)), k57 x6 x7 x8 x9 t_takes t_worths → ∀ (H : Heap) (locs : List Loc), va_P D vwCl [(q_t, .inr (7, [.ref q_t_book, .ref q_t_now, .int t_shift, .int t_kneels, .int t_sights, .ref q_t_sight, .int t_signs, .ref q_t_pad, .int t_metAt, .int t_metWho, .int t_reason, .int t_acts, .ref q_t_had, .ref q_t_takes, .ref q_t_worths, .ref q_t_fitting, .ref q_t_wins, .ref q_t_ways, .ref q_t_image, .ref q_t_isKept])), (q_t_takes, .inl (cI, 9, .inl t_takes)), (q_t_worths, .inl (cI, 9, .inl t_worths))] H → va_D A [(q_t, .inr (7, [.ref q_t_book, .ref q_t_now, .int t_shift, .int t_kneels, .int t_sights, .ref q_t_sight, .int t_signs, .ref q_t_pad, .int t_metAt, .int t_metWho, .int t_reason, .int t_acts, .ref q_t_had, .ref q_t_takes, .ref q_t_worths, .ref q_t_fitting, .ref q_t_wins, .ref q_t_ways, .ref q_t_image, .ref q_t_isKept])), (q_t_takes, .inl (cI, 9, .inl t_takes)), (q_t_worths, .inl (cI, 9, .inl t_worths))] → va_S A s.heap H locs → ∀ ls : Array Slot, lv_has ls 15 [(0, .ref q_t), (3, .int a3), (4, .int a4), (5, .int a5), (6, .int x6), (7, .int x7), (8, .int x8), (9, .int x9)] → W p l e ({ frames := 1, cells := 0, slots := 0, locals := 22 } : Room) s m args below meth c H locs 0 0 Q (F0 m 57 ls [])) :
    ∀ (x7 : Int32) (x8 : Int32) (x9 : Int32) (s0 : Int32) (t_takes : (Nat → Int32)) (t_worths : (Nat → Int32)), pX7_pack_b116 a1 a2 a3 a4 a5 post k57 x7 x8 x9 s0 t_takes t_worths → ∀ (H : Heap) (locs : List Loc), va_P D vwCl [(q_t, .inr (7, [.ref q_t_book, .ref q_t_now, .int t_shift, .int t_kneels, .int t_sights, .ref q_t_sight, .int t_signs, .ref q_t_pad, .int t_metAt, .int t_metWho, .int t_reason, .int t_acts, .ref q_t_had, .ref q_t_takes, .ref q_t_worths, .ref q_t_fitting, .ref q_t_wins, .ref q_t_ways, .ref q_t_image, .ref q_t_isKept])), (q_t_takes, .inl (cI, 9, .inl t_takes)), (q_t_worths, .inl (cI, 9, .inl t_worths))] H → va_D A [(q_t, .inr (7, [.ref q_t_book, .ref q_t_now, .int t_shift, .int t_kneels, .int t_sights, .ref q_t_sight, .int t_signs, .ref q_t_pad, .int t_metAt, .int t_metWho, .int t_reason, .int t_acts, .ref q_t_had, .ref q_t_takes, .ref q_t_worths, .ref q_t_fitting, .ref q_t_wins, .ref q_t_ways, .ref q_t_image, .ref q_t_isKept])), (q_t_takes, .inl (cI, 9, .inl t_takes)), (q_t_worths, .inl (cI, 9, .inl t_worths))] → va_S A s.heap H locs → ∀ ls : Array Slot, lv_has ls 15 [(0, .ref q_t), (3, .int a3), (4, .int a4), (5, .int a5), (7, .int x7), (8, .int x8), (9, .int x9)] → W p l e ({ frames := 1, cells := 0, slots := 0, locals := 22 } : Room) s m args below meth c H locs 0 0 Q (F0 m 116 ls [.int s0]) := by
  obtain ⟨hx, hb, hml, hown, hts⟩ := id C0
  intro x7 x8 x9 s0 t_takes t_worths hf H locs hP hD hS ls hl
  unfold pX7_pack_b116 at hf
  refine lv_istore (lv' := [(6, .int s0), (0, .ref q_t), (3, .int a3), (4, .int a4), (5, .int a5), (7, .int x7), (8, .int x8), (9, .int x9)]) hx hb dX7_pack_116 hl (by decide) rfl (fun ls hl => ?_)
  refine lv_iload hx hb dX7_pack_118 (lv_at hl 5 rfl) ?_
  refine lv_bipush (v := 10) hx hb dX7_pack_120 (by decide) ?_
  refine lv_idiv hx hb dX7_pack_122 (by decide) ?_
  refine lv_topi (fun v1 ev1 => ?_)
  have hf := hf v1 ev1
  refine lv_istore (lv' := [(7, .int v1), (6, .int s0), (0, .ref q_t), (3, .int a3), (4, .int a4), (5, .int a5), (8, .int x8), (9, .int x9)]) hx hb dX7_pack_123 hl (by decide) rfl (fun ls hl => ?_)
  refine lv_iload hx hb dX7_pack_125 (lv_at hl 6 rfl) ?_
  refine lv_bipush (v := 10) hx hb dX7_pack_127 (by decide) ?_
  refine lv_idiv hx hb dX7_pack_129 (by decide) ?_
  refine lv_topi (fun v2 ev2 => ?_)
  have hf := hf v2 ev2
  refine lv_istore (lv' := [(8, .int v2), (7, .int v1), (6, .int s0), (0, .ref q_t), (3, .int a3), (4, .int a4), (5, .int a5), (9, .int x9)]) hx hb dX7_pack_130 hl (by decide) rfl (fun ls hl => ?_)
  obtain ⟨v3, ev3⟩ : ∃ y : Int32, y = x9 + (-1) := ⟨_, rfl⟩
  have hf := hf v3 ev3
  refine lv_iinc (v := v3) (lv' := [(9, .int v3), (8, .int v2), (7, .int v1), (6, .int s0), (0, .ref q_t), (3, .int a3), (4, .int a4), (5, .int a5)]) hx hb dX7_pack_132 hl (k := 7) rfl (by rw [ev3]; rfl) (by decide) rfl (fun ls hl => ?_)
  refine lv_goto (tgt := 57) hx hb dX7_pack_135 (by decide) ?_
  exact hk57 s0 v1 v2 v3 t_takes t_worths hf H locs hP hD hS ls (lv_sub hl [4, 5, 6, 7, 3, 2, 1, 0] rfl)

def pX7_pack_b115 (a1 : Int32) (a2 : Int32) (a3 : Int32) (a4 : Int32) (a5 : Int32) (post : Int32 → ((Nat → Int32) × (Nat → Int32)) → Prop) (k57 : Int32 → Int32 → Int32 → Int32 → (Nat → Int32) → (Nat → Int32) → Prop) (x7 : Int32) (x8 : Int32) (x9 : Int32) (t_takes : (Nat → Int32)) (t_worths : (Nat → Int32)) : Prop :=
  pX7_pack_b116 a1 a2 a3 a4 a5 post k57 x7 x8 x9 0 t_takes t_worths

set_option maxHeartbeats 4000000 in
set_option maxRecDepth 100000 in
theorem wX7_pack_b115 {p : Program} {l : Launch} {e : Env} {s : State} {m : MethodId} {args : Array Value} {below : List Frame} {meth : Method} {c : Code} {Q : State → Prop} {D : va_G} {cI cZ cJ cO : ClassId} {A : Nat → Prop} (C0 : CallFix p m c cX7_pack 15 s args wsX7_pack RX7) (hN : nw s) (hK : va_K D vwCl (tyL cI cZ cJ cO) s) (hA : ∀ q, s.heap.size ≤ q → A q) (q_t q_t_takes q_t_worths q_t_book q_t_now q_t_sight q_t_pad q_t_had q_t_fitting q_t_wins q_t_ways q_t_image q_t_isKept : Nat) (t_shift : Int32) (t_kneels : Int32) (t_sights : Int32) (t_signs : Int32) (t_metAt : Int32) (t_metWho : Int32) (t_reason : Int32) (t_acts : Int32) (a1 : Int32) (a2 : Int32) (a3 : Int32) (a4 : Int32) (a5 : Int32) (post : Int32 → ((Nat → Int32) × (Nat → Int32)) → Prop) (hret : hrI p l e ({ frames := 1, cells := 0, slots := 0, locals := 22 } : Room) s m args below meth c cX7_pack D A Q post (fun u : (Nat → Int32) × (Nat → Int32) => [(q_t, .inr (7, [.ref q_t_book, .ref q_t_now, .int t_shift, .int t_kneels, .int t_sights, .ref q_t_sight, .int t_signs, .ref q_t_pad, .int t_metAt, .int t_metWho, .int t_reason, .int t_acts, .ref q_t_had, .ref q_t_takes, .ref q_t_worths, .ref q_t_fitting, .ref q_t_wins, .ref q_t_ways, .ref q_t_image, .ref q_t_isKept])), (q_t_takes, .inl (cI, 9, .inl u.1)), (q_t_worths, .inl (cI, 9, .inl u.2))])) (k57 : Int32 → Int32 → Int32 → Int32 → (Nat → Int32) → (Nat → Int32) → Prop) (hk57 : ∀ (x6 : Int32) (x7 : Int32) (x8 : Int32) (x9 : Int32) (t_takes : (Nat → Int32)) (t_worths : (Nat → Int32)), k57 x6 x7 x8 x9 t_takes t_worths → ∀ (H : Heap) (locs : List Loc), va_P D vwCl [(q_t, .inr (7, [.ref q_t_book, .ref q_t_now, .int t_shift, .int t_kneels, .int t_sights, .ref q_t_sight, .int t_signs, .ref q_t_pad, .int t_metAt, .int t_metWho, .int t_reason, .int t_acts, .ref q_t_had, .ref q_t_takes, .ref q_t_worths, .ref q_t_fitting, .ref q_t_wins, .ref q_t_ways, .ref q_t_image, .ref q_t_isKept])), (q_t_takes, .inl (cI, 9, .inl t_takes)), (q_t_worths, .inl (cI, 9, .inl t_worths))] H → va_D A [(q_t, .inr (7, [.ref q_t_book, .ref q_t_now, .int t_shift, .int t_kneels, .int t_sights, .ref q_t_sight, .int t_signs, .ref q_t_pad, .int t_metAt, .int t_metWho, .int t_reason, .int t_acts, .ref q_t_had, .ref q_t_takes, .ref q_t_worths, .ref q_t_fitting, .ref q_t_wins, .ref q_t_ways, .ref q_t_image, .ref q_t_isKept])), (q_t_takes, .inl (cI, 9, .inl t_takes)), (q_t_worths, .inl (cI, 9, .inl t_worths))] → va_S A s.heap H locs → ∀ ls : Array Slot, lv_has ls 15 [(0, .ref q_t), (3, .int a3), (4, .int a4), (5, .int a5), (6, .int x6), (7, .int x7), (8, .int x8), (9, .int x9)] → W p l e ({ frames := 1, cells := 0, slots := 0, locals := 22 } : Room) s m args below meth c H locs 0 0 Q (F0 m 57 ls [])) :
    ∀ (x7 : Int32) (x8 : Int32) (x9 : Int32) (t_takes : (Nat → Int32)) (t_worths : (Nat → Int32)), pX7_pack_b115 a1 a2 a3 a4 a5 post k57 x7 x8 x9 t_takes t_worths → ∀ (H : Heap) (locs : List Loc), va_P D vwCl [(q_t, .inr (7, [.ref q_t_book, .ref q_t_now, .int t_shift, .int t_kneels, .int t_sights, .ref q_t_sight, .int t_signs, .ref q_t_pad, .int t_metAt, .int t_metWho, .int t_reason, .int t_acts, .ref q_t_had, .ref q_t_takes, .ref q_t_worths, .ref q_t_fitting, .ref q_t_wins, .ref q_t_ways, .ref q_t_image, .ref q_t_isKept])), (q_t_takes, .inl (cI, 9, .inl t_takes)), (q_t_worths, .inl (cI, 9, .inl t_worths))] H → va_D A [(q_t, .inr (7, [.ref q_t_book, .ref q_t_now, .int t_shift, .int t_kneels, .int t_sights, .ref q_t_sight, .int t_signs, .ref q_t_pad, .int t_metAt, .int t_metWho, .int t_reason, .int t_acts, .ref q_t_had, .ref q_t_takes, .ref q_t_worths, .ref q_t_fitting, .ref q_t_wins, .ref q_t_ways, .ref q_t_image, .ref q_t_isKept])), (q_t_takes, .inl (cI, 9, .inl t_takes)), (q_t_worths, .inl (cI, 9, .inl t_worths))] → va_S A s.heap H locs → ∀ ls : Array Slot, lv_has ls 15 [(0, .ref q_t), (3, .int a3), (4, .int a4), (5, .int a5), (7, .int x7), (8, .int x8), (9, .int x9)] → W p l e ({ frames := 1, cells := 0, slots := 0, locals := 22 } : Room) s m args below meth c H locs 0 0 Q (F0 m 115 ls []) := by
  obtain ⟨hx, hb, hml, hown, hts⟩ := id C0
  intro x7 x8 x9 t_takes t_worths hf H locs hP hD hS ls hl
  unfold pX7_pack_b115 at hf
  refine lv_iconst (v := 0) hx hb dX7_pack_115 (by decide) ?_
  exact wX7_pack_b116 C0 hN hK hA q_t q_t_takes q_t_worths q_t_book q_t_now q_t_sight q_t_pad q_t_had q_t_fitting q_t_wins q_t_ways q_t_image q_t_isKept t_shift t_kneels t_sights t_signs t_metAt t_metWho t_reason t_acts a1 a2 a3 a4 a5 post hret _ hk57 x7 x8 x9 0 t_takes t_worths hf H locs hP hD hS ls (lv_sub hl [0, 1, 2, 3, 4, 5, 6] rfl)

def pX7_pack_b57 (a1 : Int32) (a2 : Int32) (a3 : Int32) (a4 : Int32) (a5 : Int32) (post : Int32 → ((Nat → Int32) × (Nat → Int32)) → Prop) : Nat → Int32 → Int32 → Int32 → Int32 → (Nat → Int32) → (Nat → Int32) → Prop
  | 0 => fun _ _ _ _ _ _ => False
  | n + 1 => fun x6 x7 x8 x9 t_takes t_worths => (x9 < 0 → (pX7_pack_b138 a1 a2 a3 a4 a5 post  x6 x7 x8 t_takes t_worths)) ∧ (¬ x9 < 0 → ((x6 = 0 → (pX7_pack_b138 a1 a2 a3 a4 a5 post  x6 x7 x8 t_takes t_worths)) ∧ (¬ x6 = 0 → (∀ v3 : Int32, v3 = (x7 - x7 / 10 * 10) → (vp_in x9 9 ∧ (∀ v5 : Int32, v5 = (x8 - x8 / 10 * 10) → (vp_in x9 9 ∧ (vp_in x9 9 ∧ ((((upd t_takes x9.toNatClampNeg v3) x9.toNatClampNeg) ≤ 0 → (pX7_pack_b115 a1 a2 a3 a4 a5 post (fun x6 x7 x8 x9 t_takes t_worths => pX7_pack_b57 a1 a2 a3 a4 a5 post  n x6 x7 x8 x9 t_takes t_worths) x7 x8 x9 (upd t_takes x9.toNatClampNeg v3) (upd t_worths x9.toNatClampNeg v5))) ∧ (¬ ((upd t_takes x9.toNatClampNeg v3) x9.toNatClampNeg) ≤ 0 → (vp_in x9 9 ∧ ((((upd t_worths x9.toNatClampNeg v5) x9.toNatClampNeg) ≤ 0 → (pX7_pack_b115 a1 a2 a3 a4 a5 post (fun x6 x7 x8 x9 t_takes t_worths => pX7_pack_b57 a1 a2 a3 a4 a5 post  n x6 x7 x8 x9 t_takes t_worths) x7 x8 x9 (upd t_takes x9.toNatClampNeg v3) (upd t_worths x9.toNatClampNeg v5))) ∧ (¬ ((upd t_worths x9.toNatClampNeg v5) x9.toNatClampNeg) ≤ 0 → (pX7_pack_b116 a1 a2 a3 a4 a5 post (fun x6 x7 x8 x9 t_takes t_worths => pX7_pack_b57 a1 a2 a3 a4 a5 post  n x6 x7 x8 x9 t_takes t_worths) x7 x8 x9 1 (upd t_takes x9.toNatClampNeg v3) (upd t_worths x9.toNatClampNeg v5)))))))))))))))

set_option maxHeartbeats 4000000 in
set_option maxRecDepth 100000 in
theorem wX7_pack_b57 {p : Program} {l : Launch} {e : Env} {s : State} {m : MethodId} {args : Array Value} {below : List Frame} {meth : Method} {c : Code} {Q : State → Prop} {D : va_G} {cI cZ cJ cO : ClassId} {A : Nat → Prop} (C0 : CallFix p m c cX7_pack 15 s args wsX7_pack RX7) (hN : nw s) (hK : va_K D vwCl (tyL cI cZ cJ cO) s) (hA : ∀ q, s.heap.size ≤ q → A q) (q_t q_t_takes q_t_worths q_t_book q_t_now q_t_sight q_t_pad q_t_had q_t_fitting q_t_wins q_t_ways q_t_image q_t_isKept : Nat) (t_shift : Int32) (t_kneels : Int32) (t_sights : Int32) (t_signs : Int32) (t_metAt : Int32) (t_metWho : Int32) (t_reason : Int32) (t_acts : Int32) (a1 : Int32) (a2 : Int32) (a3 : Int32) (a4 : Int32) (a5 : Int32) (post : Int32 → ((Nat → Int32) × (Nat → Int32)) → Prop) (hret : hrI p l e ({ frames := 1, cells := 0, slots := 0, locals := 22 } : Room) s m args below meth c cX7_pack D A Q post (fun u : (Nat → Int32) × (Nat → Int32) => [(q_t, .inr (7, [.ref q_t_book, .ref q_t_now, .int t_shift, .int t_kneels, .int t_sights, .ref q_t_sight, .int t_signs, .ref q_t_pad, .int t_metAt, .int t_metWho, .int t_reason, .int t_acts, .ref q_t_had, .ref q_t_takes, .ref q_t_worths, .ref q_t_fitting, .ref q_t_wins, .ref q_t_ways, .ref q_t_image, .ref q_t_isKept])), (q_t_takes, .inl (cI, 9, .inl u.1)), (q_t_worths, .inl (cI, 9, .inl u.2))])) :
    ∀ (n : Nat) (x6 : Int32) (x7 : Int32) (x8 : Int32) (x9 : Int32) (t_takes : (Nat → Int32)) (t_worths : (Nat → Int32)), pX7_pack_b57 a1 a2 a3 a4 a5 post n x6 x7 x8 x9 t_takes t_worths → ∀ (H : Heap) (locs : List Loc), va_P D vwCl [(q_t, .inr (7, [.ref q_t_book, .ref q_t_now, .int t_shift, .int t_kneels, .int t_sights, .ref q_t_sight, .int t_signs, .ref q_t_pad, .int t_metAt, .int t_metWho, .int t_reason, .int t_acts, .ref q_t_had, .ref q_t_takes, .ref q_t_worths, .ref q_t_fitting, .ref q_t_wins, .ref q_t_ways, .ref q_t_image, .ref q_t_isKept])), (q_t_takes, .inl (cI, 9, .inl t_takes)), (q_t_worths, .inl (cI, 9, .inl t_worths))] H → va_D A [(q_t, .inr (7, [.ref q_t_book, .ref q_t_now, .int t_shift, .int t_kneels, .int t_sights, .ref q_t_sight, .int t_signs, .ref q_t_pad, .int t_metAt, .int t_metWho, .int t_reason, .int t_acts, .ref q_t_had, .ref q_t_takes, .ref q_t_worths, .ref q_t_fitting, .ref q_t_wins, .ref q_t_ways, .ref q_t_image, .ref q_t_isKept])), (q_t_takes, .inl (cI, 9, .inl t_takes)), (q_t_worths, .inl (cI, 9, .inl t_worths))] → va_S A s.heap H locs → ∀ ls : Array Slot, lv_has ls 15 [(0, .ref q_t), (3, .int a3), (4, .int a4), (5, .int a5), (6, .int x6), (7, .int x7), (8, .int x8), (9, .int x9)] → W p l e ({ frames := 1, cells := 0, slots := 0, locals := 22 } : Room) s m args below meth c H locs 0 0 Q (F0 m 57 ls []) := by
  obtain ⟨hx, hb, hml, hown, hts⟩ := id C0
  intro n
  induction n with
  | zero =>
    intro x6 x7 x8 x9 t_takes t_worths hf
    exact False.elim hf
  | succ n ih =>
    intro x6 x7 x8 x9 t_takes t_worths hf H locs hP hD hS ls hl
    rw [pX7_pack_b57] at hf
    refine lv_iload hx hb dX7_pack_57 (lv_at hl 7 rfl) ?_
    refine lv_if_lt (tgt := 138) hx hb dX7_pack_59 (by decide) (fun c1 => ?_) (fun c1 => ?_)
    · have hf := hf.1 c1
      exact wX7_pack_b138 C0 hN hK hA q_t q_t_takes q_t_worths q_t_book q_t_now q_t_sight q_t_pad q_t_had q_t_fitting q_t_wins q_t_ways q_t_image q_t_isKept t_shift t_kneels t_sights t_signs t_metAt t_metWho t_reason t_acts a1 a2 a3 a4 a5 post hret   x6 x7 x8 t_takes t_worths hf H locs hP hD hS ls (lv_sub hl [0, 1, 2, 3, 4, 5, 6] rfl)
    · have hf := hf.2 c1
      refine lv_iload hx hb dX7_pack_62 (lv_at hl 4 rfl) ?_
      refine lv_if_eq (tgt := 138) hx hb dX7_pack_64 (by decide) (fun c2 => ?_) (fun c2 => ?_)
      · have hf := hf.1 c2
        exact wX7_pack_b138 C0 hN hK hA q_t q_t_takes q_t_worths q_t_book q_t_now q_t_sight q_t_pad q_t_had q_t_fitting q_t_wins q_t_ways q_t_image q_t_isKept t_shift t_kneels t_sights t_signs t_metAt t_metWho t_reason t_acts a1 a2 a3 a4 a5 post hret   x6 x7 x8 t_takes t_worths hf H locs hP hD hS ls (lv_sub hl [0, 1, 2, 3, 4, 5, 6] rfl)
      · have hf := hf.2 c2
        refine lv_aload_n hx hb dX7_pack_67 rfl (lv_at hl 0 rfl) ?_
        refine va_get (D := D) (ci := 7) (v := .ref q_t_takes) (C := RX7) (T := TX7) (N := 20) hx hb hts nX7_pack_X7 hown hK hP 0 rfl rfl 13 (by decide) (hts _ mX7_pack_1) (fun _ h9 => h9) rfl dX7_pack_68 ?_
        refine lv_iload hx hb dX7_pack_71 (lv_at hl 7 rfl) ?_
        refine lv_iload hx hb dX7_pack_73 (lv_at hl 5 rfl) ?_
        refine lv_bipush (v := 10) hx hb dX7_pack_75 (by decide) ?_
        refine lv_irem hx hb dX7_pack_77 (by decide) ?_
        refine lv_topi (fun v3 ev3 => ?_)
        have hf := hf v3 ev3
        have g4 := hf.1
        have hf := hf.2
        refine xa_iast hx hb hK hP hD hS 1 0 rfl rfl (j := x9.toNatClampNeg) rfl g4 dX7_pack_78 (fun H locs hP hD hS => ?_)
        have hP : va_P D vwCl [(q_t, .inr (7, [.ref q_t_book, .ref q_t_now, .int t_shift, .int t_kneels, .int t_sights, .ref q_t_sight, .int t_signs, .ref q_t_pad, .int t_metAt, .int t_metWho, .int t_reason, .int t_acts, .ref q_t_had, .ref q_t_takes, .ref q_t_worths, .ref q_t_fitting, .ref q_t_wins, .ref q_t_ways, .ref q_t_image, .ref q_t_isKept])), (q_t_takes, .inl (cI, 9, .inl (upd t_takes x9.toNatClampNeg v3))), (q_t_worths, .inl (cI, 9, .inl t_worths))] H := hP
        have hD : va_D A [(q_t, .inr (7, [.ref q_t_book, .ref q_t_now, .int t_shift, .int t_kneels, .int t_sights, .ref q_t_sight, .int t_signs, .ref q_t_pad, .int t_metAt, .int t_metWho, .int t_reason, .int t_acts, .ref q_t_had, .ref q_t_takes, .ref q_t_worths, .ref q_t_fitting, .ref q_t_wins, .ref q_t_ways, .ref q_t_image, .ref q_t_isKept])), (q_t_takes, .inl (cI, 9, .inl (upd t_takes x9.toNatClampNeg v3))), (q_t_worths, .inl (cI, 9, .inl t_worths))] := hD
        refine lv_aload_n hx hb dX7_pack_79 rfl (lv_at hl 0 rfl) ?_
        refine va_get (D := D) (ci := 7) (v := .ref q_t_worths) (C := RX7) (T := TX7) (N := 20) hx hb hts nX7_pack_X7 hown hK hP 0 rfl rfl 14 (by decide) (hts _ mX7_pack_2) (fun _ h9 => h9) rfl dX7_pack_80 ?_
        refine lv_iload hx hb dX7_pack_83 (lv_at hl 7 rfl) ?_
        refine lv_iload hx hb dX7_pack_85 (lv_at hl 6 rfl) ?_
        refine lv_bipush (v := 10) hx hb dX7_pack_87 (by decide) ?_
        refine lv_irem hx hb dX7_pack_89 (by decide) ?_
        refine lv_topi (fun v5 ev5 => ?_)
        have hf := hf v5 ev5
        have g6 := hf.1
        have hf := hf.2
        refine xa_iast hx hb hK hP hD hS 2 0 rfl rfl (j := x9.toNatClampNeg) rfl g6 dX7_pack_90 (fun H locs hP hD hS => ?_)
        have hP : va_P D vwCl [(q_t, .inr (7, [.ref q_t_book, .ref q_t_now, .int t_shift, .int t_kneels, .int t_sights, .ref q_t_sight, .int t_signs, .ref q_t_pad, .int t_metAt, .int t_metWho, .int t_reason, .int t_acts, .ref q_t_had, .ref q_t_takes, .ref q_t_worths, .ref q_t_fitting, .ref q_t_wins, .ref q_t_ways, .ref q_t_image, .ref q_t_isKept])), (q_t_takes, .inl (cI, 9, .inl (upd t_takes x9.toNatClampNeg v3))), (q_t_worths, .inl (cI, 9, .inl (upd t_worths x9.toNatClampNeg v5)))] H := hP
        have hD : va_D A [(q_t, .inr (7, [.ref q_t_book, .ref q_t_now, .int t_shift, .int t_kneels, .int t_sights, .ref q_t_sight, .int t_signs, .ref q_t_pad, .int t_metAt, .int t_metWho, .int t_reason, .int t_acts, .ref q_t_had, .ref q_t_takes, .ref q_t_worths, .ref q_t_fitting, .ref q_t_wins, .ref q_t_ways, .ref q_t_image, .ref q_t_isKept])), (q_t_takes, .inl (cI, 9, .inl (upd t_takes x9.toNatClampNeg v3))), (q_t_worths, .inl (cI, 9, .inl (upd t_worths x9.toNatClampNeg v5)))] := hD
        refine lv_aload_n hx hb dX7_pack_91 rfl (lv_at hl 0 rfl) ?_
        refine va_get (D := D) (ci := 7) (v := .ref q_t_takes) (C := RX7) (T := TX7) (N := 20) hx hb hts nX7_pack_X7 hown hK hP 0 rfl rfl 13 (by decide) (hts _ mX7_pack_1) (fun _ h9 => h9) rfl dX7_pack_92 ?_
        refine lv_iload hx hb dX7_pack_95 (lv_at hl 7 rfl) ?_
        have g7 := hf.1
        have hf := hf.2
        refine xa_iald hx hb hK hP 1 0 rfl rfl (j := x9.toNatClampNeg) rfl g7 dX7_pack_97 ?_
        refine lv_if_le (tgt := 115) hx hb dX7_pack_98 (by decide) (fun c8 => ?_) (fun c8 => ?_)
        · have hf := hf.1 c8
          exact wX7_pack_b115 C0 hN hK hA q_t q_t_takes q_t_worths q_t_book q_t_now q_t_sight q_t_pad q_t_had q_t_fitting q_t_wins q_t_ways q_t_image q_t_isKept t_shift t_kneels t_sights t_signs t_metAt t_metWho t_reason t_acts a1 a2 a3 a4 a5 post hret _ ih x7 x8 x9 (upd t_takes x9.toNatClampNeg v3) (upd t_worths x9.toNatClampNeg v5) hf H locs hP hD hS ls (lv_sub hl [0, 1, 2, 3, 5, 6, 7] rfl)
        · have hf := hf.2 c8
          refine lv_aload_n hx hb dX7_pack_101 rfl (lv_at hl 0 rfl) ?_
          refine va_get (D := D) (ci := 7) (v := .ref q_t_worths) (C := RX7) (T := TX7) (N := 20) hx hb hts nX7_pack_X7 hown hK hP 0 rfl rfl 14 (by decide) (hts _ mX7_pack_2) (fun _ h9 => h9) rfl dX7_pack_102 ?_
          refine lv_iload hx hb dX7_pack_105 (lv_at hl 7 rfl) ?_
          have g9 := hf.1
          have hf := hf.2
          refine xa_iald hx hb hK hP 2 0 rfl rfl (j := x9.toNatClampNeg) rfl g9 dX7_pack_107 ?_
          refine lv_if_le (tgt := 115) hx hb dX7_pack_108 (by decide) (fun c10 => ?_) (fun c10 => ?_)
          · have hf := hf.1 c10
            exact wX7_pack_b115 C0 hN hK hA q_t q_t_takes q_t_worths q_t_book q_t_now q_t_sight q_t_pad q_t_had q_t_fitting q_t_wins q_t_ways q_t_image q_t_isKept t_shift t_kneels t_sights t_signs t_metAt t_metWho t_reason t_acts a1 a2 a3 a4 a5 post hret _ ih x7 x8 x9 (upd t_takes x9.toNatClampNeg v3) (upd t_worths x9.toNatClampNeg v5) hf H locs hP hD hS ls (lv_sub hl [0, 1, 2, 3, 5, 6, 7] rfl)
          · have hf := hf.2 c10
            refine lv_iconst (v := 1) hx hb dX7_pack_111 (by decide) ?_
            refine lv_goto (tgt := 116) hx hb dX7_pack_112 (by decide) ?_
            exact wX7_pack_b116 C0 hN hK hA q_t q_t_takes q_t_worths q_t_book q_t_now q_t_sight q_t_pad q_t_had q_t_fitting q_t_wins q_t_ways q_t_image q_t_isKept t_shift t_kneels t_sights t_signs t_metAt t_metWho t_reason t_acts a1 a2 a3 a4 a5 post hret _ ih x7 x8 x9 1 (upd t_takes x9.toNatClampNeg v3) (upd t_worths x9.toNatClampNeg v5) hf H locs hP hD hS ls (lv_sub hl [0, 1, 2, 3, 5, 6, 7] rfl)

def pX7_pack_b44 (a1 : Int32) (a2 : Int32) (a3 : Int32) (a4 : Int32) (a5 : Int32) (post : Int32 → ((Nat → Int32) × (Nat → Int32)) → Prop) (s0 : Int32) (t_takes : (Nat → Int32)) (t_worths : (Nat → Int32)) : Prop :=
  ∀ v1 : Int32, v1 = (a3 - 1) → (∃ n1, pX7_pack_b57 a1 a2 a3 a4 a5 post  n1 s0 a1 a2 v1 t_takes t_worths)

set_option maxHeartbeats 4000000 in
set_option maxRecDepth 100000 in
theorem wX7_pack_b44 {p : Program} {l : Launch} {e : Env} {s : State} {m : MethodId} {args : Array Value} {below : List Frame} {meth : Method} {c : Code} {Q : State → Prop} {D : va_G} {cI cZ cJ cO : ClassId} {A : Nat → Prop} (C0 : CallFix p m c cX7_pack 15 s args wsX7_pack RX7) (hN : nw s) (hK : va_K D vwCl (tyL cI cZ cJ cO) s) (hA : ∀ q, s.heap.size ≤ q → A q) (q_t q_t_takes q_t_worths q_t_book q_t_now q_t_sight q_t_pad q_t_had q_t_fitting q_t_wins q_t_ways q_t_image q_t_isKept : Nat) (t_shift : Int32) (t_kneels : Int32) (t_sights : Int32) (t_signs : Int32) (t_metAt : Int32) (t_metWho : Int32) (t_reason : Int32) (t_acts : Int32) (a1 : Int32) (a2 : Int32) (a3 : Int32) (a4 : Int32) (a5 : Int32) (post : Int32 → ((Nat → Int32) × (Nat → Int32)) → Prop) (hret : hrI p l e ({ frames := 1, cells := 0, slots := 0, locals := 22 } : Room) s m args below meth c cX7_pack D A Q post (fun u : (Nat → Int32) × (Nat → Int32) => [(q_t, .inr (7, [.ref q_t_book, .ref q_t_now, .int t_shift, .int t_kneels, .int t_sights, .ref q_t_sight, .int t_signs, .ref q_t_pad, .int t_metAt, .int t_metWho, .int t_reason, .int t_acts, .ref q_t_had, .ref q_t_takes, .ref q_t_worths, .ref q_t_fitting, .ref q_t_wins, .ref q_t_ways, .ref q_t_image, .ref q_t_isKept])), (q_t_takes, .inl (cI, 9, .inl u.1)), (q_t_worths, .inl (cI, 9, .inl u.2))])) :
    ∀ (s0 : Int32) (t_takes : (Nat → Int32)) (t_worths : (Nat → Int32)), pX7_pack_b44 a1 a2 a3 a4 a5 post s0 t_takes t_worths → ∀ (H : Heap) (locs : List Loc), va_P D vwCl [(q_t, .inr (7, [.ref q_t_book, .ref q_t_now, .int t_shift, .int t_kneels, .int t_sights, .ref q_t_sight, .int t_signs, .ref q_t_pad, .int t_metAt, .int t_metWho, .int t_reason, .int t_acts, .ref q_t_had, .ref q_t_takes, .ref q_t_worths, .ref q_t_fitting, .ref q_t_wins, .ref q_t_ways, .ref q_t_image, .ref q_t_isKept])), (q_t_takes, .inl (cI, 9, .inl t_takes)), (q_t_worths, .inl (cI, 9, .inl t_worths))] H → va_D A [(q_t, .inr (7, [.ref q_t_book, .ref q_t_now, .int t_shift, .int t_kneels, .int t_sights, .ref q_t_sight, .int t_signs, .ref q_t_pad, .int t_metAt, .int t_metWho, .int t_reason, .int t_acts, .ref q_t_had, .ref q_t_takes, .ref q_t_worths, .ref q_t_fitting, .ref q_t_wins, .ref q_t_ways, .ref q_t_image, .ref q_t_isKept])), (q_t_takes, .inl (cI, 9, .inl t_takes)), (q_t_worths, .inl (cI, 9, .inl t_worths))] → va_S A s.heap H locs → ∀ ls : Array Slot, lv_has ls 15 [(0, .ref q_t), (1, .int a1), (2, .int a2), (3, .int a3), (4, .int a4), (5, .int a5)] → W p l e ({ frames := 1, cells := 0, slots := 0, locals := 22 } : Room) s m args below meth c H locs 0 0 Q (F0 m 44 ls [.int s0]) := by
  obtain ⟨hx, hb, hml, hown, hts⟩ := id C0
  intro s0 t_takes t_worths hf H locs hP hD hS ls hl
  unfold pX7_pack_b44 at hf
  refine lv_istore (lv' := [(6, .int s0), (0, .ref q_t), (1, .int a1), (2, .int a2), (3, .int a3), (4, .int a4), (5, .int a5)]) hx hb dX7_pack_44 hl (by decide) rfl (fun ls hl => ?_)
  refine lv_iload_n hx hb dX7_pack_46 rfl (lv_at hl 2 rfl) ?_
  refine lv_istore (lv' := [(7, .int a1), (6, .int s0), (0, .ref q_t), (1, .int a1), (2, .int a2), (3, .int a3), (4, .int a4), (5, .int a5)]) hx hb dX7_pack_47 hl (by decide) rfl (fun ls hl => ?_)
  refine lv_iload_n hx hb dX7_pack_49 rfl (lv_at hl 4 rfl) ?_
  refine lv_istore (lv' := [(8, .int a2), (7, .int a1), (6, .int s0), (0, .ref q_t), (1, .int a1), (2, .int a2), (3, .int a3), (4, .int a4), (5, .int a5)]) hx hb dX7_pack_50 hl (by decide) rfl (fun ls hl => ?_)
  refine lv_iload_n hx hb dX7_pack_52 rfl (lv_at hl 6 rfl) ?_
  refine lv_iconst (v := 1) hx hb dX7_pack_53 (by decide) ?_
  refine lv_isub hx hb dX7_pack_54 ?_
  refine lv_topi (fun v1 ev1 => ?_)
  have hf := hf v1 ev1
  refine lv_istore (lv' := [(9, .int v1), (8, .int a2), (7, .int a1), (6, .int s0), (0, .ref q_t), (1, .int a1), (2, .int a2), (3, .int a3), (4, .int a4), (5, .int a5)]) hx hb dX7_pack_55 hl (by decide) rfl (fun ls hl => ?_)
  obtain ⟨n1, hf⟩ := hf
  exact wX7_pack_b57 C0 hN hK hA q_t q_t_takes q_t_worths q_t_book q_t_now q_t_sight q_t_pad q_t_had q_t_fitting q_t_wins q_t_ways q_t_image q_t_isKept t_shift t_kneels t_sights t_signs t_metAt t_metWho t_reason t_acts a1 a2 a3 a4 a5 post hret   n1 s0 a1 a2 v1 t_takes t_worths hf H locs hP hD hS ls (lv_sub hl [4, 7, 8, 9, 3, 2, 1, 0] rfl)

def pX7_pack_b43 (a1 : Int32) (a2 : Int32) (a3 : Int32) (a4 : Int32) (a5 : Int32) (post : Int32 → ((Nat → Int32) × (Nat → Int32)) → Prop) (t_takes : (Nat → Int32)) (t_worths : (Nat → Int32)) : Prop :=
  pX7_pack_b44 a1 a2 a3 a4 a5 post  0 t_takes t_worths

set_option maxHeartbeats 4000000 in
set_option maxRecDepth 100000 in
theorem wX7_pack_b43 {p : Program} {l : Launch} {e : Env} {s : State} {m : MethodId} {args : Array Value} {below : List Frame} {meth : Method} {c : Code} {Q : State → Prop} {D : va_G} {cI cZ cJ cO : ClassId} {A : Nat → Prop} (C0 : CallFix p m c cX7_pack 15 s args wsX7_pack RX7) (hN : nw s) (hK : va_K D vwCl (tyL cI cZ cJ cO) s) (hA : ∀ q, s.heap.size ≤ q → A q) (q_t q_t_takes q_t_worths q_t_book q_t_now q_t_sight q_t_pad q_t_had q_t_fitting q_t_wins q_t_ways q_t_image q_t_isKept : Nat) (t_shift : Int32) (t_kneels : Int32) (t_sights : Int32) (t_signs : Int32) (t_metAt : Int32) (t_metWho : Int32) (t_reason : Int32) (t_acts : Int32) (a1 : Int32) (a2 : Int32) (a3 : Int32) (a4 : Int32) (a5 : Int32) (post : Int32 → ((Nat → Int32) × (Nat → Int32)) → Prop) (hret : hrI p l e ({ frames := 1, cells := 0, slots := 0, locals := 22 } : Room) s m args below meth c cX7_pack D A Q post (fun u : (Nat → Int32) × (Nat → Int32) => [(q_t, .inr (7, [.ref q_t_book, .ref q_t_now, .int t_shift, .int t_kneels, .int t_sights, .ref q_t_sight, .int t_signs, .ref q_t_pad, .int t_metAt, .int t_metWho, .int t_reason, .int t_acts, .ref q_t_had, .ref q_t_takes, .ref q_t_worths, .ref q_t_fitting, .ref q_t_wins, .ref q_t_ways, .ref q_t_image, .ref q_t_isKept])), (q_t_takes, .inl (cI, 9, .inl u.1)), (q_t_worths, .inl (cI, 9, .inl u.2))])) :
    ∀ (t_takes : (Nat → Int32)) (t_worths : (Nat → Int32)), pX7_pack_b43 a1 a2 a3 a4 a5 post t_takes t_worths → ∀ (H : Heap) (locs : List Loc), va_P D vwCl [(q_t, .inr (7, [.ref q_t_book, .ref q_t_now, .int t_shift, .int t_kneels, .int t_sights, .ref q_t_sight, .int t_signs, .ref q_t_pad, .int t_metAt, .int t_metWho, .int t_reason, .int t_acts, .ref q_t_had, .ref q_t_takes, .ref q_t_worths, .ref q_t_fitting, .ref q_t_wins, .ref q_t_ways, .ref q_t_image, .ref q_t_isKept])), (q_t_takes, .inl (cI, 9, .inl t_takes)), (q_t_worths, .inl (cI, 9, .inl t_worths))] H → va_D A [(q_t, .inr (7, [.ref q_t_book, .ref q_t_now, .int t_shift, .int t_kneels, .int t_sights, .ref q_t_sight, .int t_signs, .ref q_t_pad, .int t_metAt, .int t_metWho, .int t_reason, .int t_acts, .ref q_t_had, .ref q_t_takes, .ref q_t_worths, .ref q_t_fitting, .ref q_t_wins, .ref q_t_ways, .ref q_t_image, .ref q_t_isKept])), (q_t_takes, .inl (cI, 9, .inl t_takes)), (q_t_worths, .inl (cI, 9, .inl t_worths))] → va_S A s.heap H locs → ∀ ls : Array Slot, lv_has ls 15 [(0, .ref q_t), (1, .int a1), (2, .int a2), (3, .int a3), (4, .int a4), (5, .int a5)] → W p l e ({ frames := 1, cells := 0, slots := 0, locals := 22 } : Room) s m args below meth c H locs 0 0 Q (F0 m 43 ls []) := by
  obtain ⟨hx, hb, hml, hown, hts⟩ := id C0
  intro t_takes t_worths hf H locs hP hD hS ls hl
  unfold pX7_pack_b43 at hf
  refine lv_iconst (v := 0) hx hb dX7_pack_43 (by decide) ?_
  exact wX7_pack_b44 C0 hN hK hA q_t q_t_takes q_t_worths q_t_book q_t_now q_t_sight q_t_pad q_t_had q_t_fitting q_t_wins q_t_ways q_t_image q_t_isKept t_shift t_kneels t_sights t_signs t_metAt t_metWho t_reason t_acts a1 a2 a3 a4 a5 post hret   0 t_takes t_worths hf H locs hP hD hS ls (lv_sub hl [0, 1, 2, 3, 4, 5] rfl)

def pX7_pack (t_takes : (Nat → Int32)) (t_worths : (Nat → Int32)) (a1 : Int32) (a2 : Int32) (a3 : Int32) (a4 : Int32) (a5 : Int32) (post : Int32 → ((Nat → Int32) × (Nat → Int32)) → Prop) : Prop :=
  pX7_in a3 1 9 (fun r1 => (r1 = 0 → (pX7_pack_b43 a1 a2 a3 a4 a5 post  t_takes t_worths)) ∧ (¬ r1 = 0 → ((a1 ≤ 0 → (pX7_pack_b43 a1 a2 a3 a4 a5 post  t_takes t_worths)) ∧ (¬ a1 ≤ 0 → ((a2 ≤ 0 → (pX7_pack_b43 a1 a2 a3 a4 a5 post  t_takes t_worths)) ∧ (¬ a2 ≤ 0 → (pX7_in a4 0 99 (fun r5 => (r5 = 0 → (pX7_pack_b43 a1 a2 a3 a4 a5 post  t_takes t_worths)) ∧ (¬ r5 = 0 → (pX7_in a5 0 1 (fun r7 => (r7 = 0 → (pX7_pack_b43 a1 a2 a3 a4 a5 post  t_takes t_worths)) ∧ (¬ r7 = 0 → (pX7_pack_b44 a1 a2 a3 a4 a5 post  1 t_takes t_worths)))))))))))))

set_option maxHeartbeats 4000000 in
set_option maxRecDepth 100000 in
theorem kX7_pack (l : Launch) (D : va_G) (cI cZ cJ cO : ClassId) (q_t q_t_takes q_t_worths q_t_book q_t_now q_t_sight q_t_pad q_t_had q_t_fitting q_t_wins q_t_ways q_t_image q_t_isKept : Nat) (sz : Nat) (t_shift : Int32) (t_kneels : Int32) (t_sights : Int32) (t_signs : Int32) (t_metAt : Int32) (t_metWho : Int32) (t_reason : Int32) (t_acts : Int32) (t_takes : (Nat → Int32)) (t_worths : (Nat → Int32)) (a1 : Int32) (a2 : Int32) (a3 : Int32) (a4 : Int32) (a5 : Int32) (post : Int32 → ((Nat → Int32) × (Nat → Int32)) → Prop) (hf : pX7_pack t_takes t_worths a1 a2 a3 a4 a5 post) :
    Met l yX7_pack wsX7_pack ({ frames := 1, cells := 0, slots := 0, locals := 22 } : Room) (va_Pc [.ref q_t, .int a1, .int a2, .int a3, .int a4, .int a5] (B1 D (tyL cI cZ cJ cO) [(q_t, .inr (7, [.ref q_t_book, .ref q_t_now, .int t_shift, .int t_kneels, .int t_sights, .ref q_t_sight, .int t_signs, .ref q_t_pad, .int t_metAt, .int t_metWho, .int t_reason, .int t_acts, .ref q_t_had, .ref q_t_takes, .ref q_t_worths, .ref q_t_fitting, .ref q_t_wins, .ref q_t_ways, .ref q_t_image, .ref q_t_isKept])), (q_t_takes, .inl (cI, 9, .inl t_takes)), (q_t_worths, .inl (cI, 9, .inl t_worths))] sz)) (va_Qi post (fun u t => E1 D (va_A [(q_t, .inr (7, [.ref q_t_book, .ref q_t_now, .int t_shift, .int t_kneels, .int t_sights, .ref q_t_sight, .int t_signs, .ref q_t_pad, .int t_metAt, .int t_metWho, .int t_reason, .int t_acts, .ref q_t_had, .ref q_t_takes, .ref q_t_worths, .ref q_t_fitting, .ref q_t_wins, .ref q_t_ways, .ref q_t_image, .ref q_t_isKept])), (q_t_takes, .inl (cI, 9, .inl t_takes)), (q_t_worths, .inl (cI, 9, .inl t_worths))] sz) ((fun u : (Nat → Int32) × (Nat → Int32) => [(q_t, .inr (7, [.ref q_t_book, .ref q_t_now, .int t_shift, .int t_kneels, .int t_sights, .ref q_t_sight, .int t_signs, .ref q_t_pad, .int t_metAt, .int t_metWho, .int t_reason, .int t_acts, .ref q_t_had, .ref q_t_takes, .ref q_t_worths, .ref q_t_fitting, .ref q_t_wins, .ref q_t_ways, .ref q_t_image, .ref q_t_isKept])), (q_t_takes, .inl (cI, 9, .inl u.1)), (q_t_worths, .inl (cI, 9, .inl u.2))]) u) t) (va_A [(q_t, .inr (7, [.ref q_t_book, .ref q_t_now, .int t_shift, .int t_kneels, .int t_sights, .ref q_t_sight, .int t_signs, .ref q_t_pad, .int t_metAt, .int t_metWho, .int t_reason, .int t_acts, .ref q_t_had, .ref q_t_takes, .ref q_t_worths, .ref q_t_fitting, .ref q_t_wins, .ref q_t_ways, .ref q_t_image, .ref q_t_isKept])), (q_t_takes, .inl (cI, 9, .inl t_takes)), (q_t_worths, .inl (cI, 9, .inl t_worths))] sz)) 0 0 (va_A [(q_t, .inr (7, [.ref q_t_book, .ref q_t_now, .int t_shift, .int t_kneels, .int t_sights, .ref q_t_sight, .int t_signs, .ref q_t_pad, .int t_metAt, .int t_metWho, .int t_reason, .int t_acts, .ref q_t_had, .ref q_t_takes, .ref q_t_worths, .ref q_t_fitting, .ref q_t_wins, .ref q_t_ways, .ref q_t_image, .ref q_t_isKept])), (q_t_takes, .inl (cI, 9, .inl t_takes)), (q_t_worths, .inl (cI, 9, .inl t_worths))] sz) := by
  unfold pX7_pack at hf
  refine xm_1i (own := RX7) (by decide) rfl rfl (Nat.le_of_ble_eq_true rfl) (fun p e s m args below meth c Q A C0 hN hK hA hret hP hD ls hl => ?_)
  obtain ⟨hx, hb, hml, hown, hts⟩ := id C0
  have hl : lv_has ls 15 [(0, .ref q_t), (1, .int a1), (2, .int a2), (3, .int a3), (4, .int a4), (5, .int a5)] := hl
  have hS : va_S A s.heap s.heap [] := va_S.rf
  obtain ⟨H, hHe⟩ : ∃ H, H = s.heap := ⟨_, rfl⟩
  obtain ⟨locs, hLe⟩ : ∃ L : List Loc, L = [] := ⟨_, rfl⟩
  rw [← hLe]
  rw [← hLe] at hS
  have hP : va_P D vwCl [(q_t, .inr (7, [.ref q_t_book, .ref q_t_now, .int t_shift, .int t_kneels, .int t_sights, .ref q_t_sight, .int t_signs, .ref q_t_pad, .int t_metAt, .int t_metWho, .int t_reason, .int t_acts, .ref q_t_had, .ref q_t_takes, .ref q_t_worths, .ref q_t_fitting, .ref q_t_wins, .ref q_t_ways, .ref q_t_image, .ref q_t_isKept])), (q_t_takes, .inl (cI, 9, .inl t_takes)), (q_t_worths, .inl (cI, 9, .inl t_worths))] H := by rw [hHe]; exact hP
  have hS : va_S A s.heap H locs := by rw [hHe]; exact hS
  suffices hgo : W p l e ({ frames := 1, cells := 0, slots := 0, locals := 22 } : Room) s m args below meth c H locs 0 0 Q (F0 m 0 ls []) by rw [← hHe]; exact hgo
  clear hHe hLe
  refine lv_iload_n hx hb dX7_pack_0 rfl (lv_at hl 3 rfl) ?_
  refine lv_iconst (v := 1) hx hb dX7_pack_1 (by decide) ?_
  refine lv_bipush (v := 9) hx hb dX7_pack_2 (by decide) ?_
  refine xs_i (va_runS (As := [.int a3, .int 1, .int 9]) (rest := []) ⟨hx, hb, hml, hown, hts⟩ (kX7_in l D cI cZ cJ cO a3 1 9 _ hf) (va_cwS 3 hts gX7_pack_X7_in rfl rfl rfl (by decide +kernel) ⟨Nat.le_of_ble_eq_true rfl, Nat.le_of_ble_eq_true rfl⟩) (B0_pre (hP.sub (ws' := []) [] rfl) hK hN) rfl rfl hl.1 rfl (lv_room (Nat.le_of_ble_eq_true rfl)) dX7_pack_4 ⟨Nat.zero_le _, Nat.zero_le _⟩) (fun r1 hf => ?_)
  refine lv_if_eq (tgt := 43) hx hb dX7_pack_7 (by decide) (fun c2 => ?_) (fun c2 => ?_)
  · have hf := hf.1 c2
    exact wX7_pack_b43 C0 hN hK hA q_t q_t_takes q_t_worths q_t_book q_t_now q_t_sight q_t_pad q_t_had q_t_fitting q_t_wins q_t_ways q_t_image q_t_isKept t_shift t_kneels t_sights t_signs t_metAt t_metWho t_reason t_acts a1 a2 a3 a4 a5 post hret   t_takes t_worths hf H locs hP hD hS ls (lv_sub hl [0, 1, 2, 3, 4, 5] rfl)
  · have hf := hf.2 c2
    refine lv_iload_n hx hb dX7_pack_10 rfl (lv_at hl 1 rfl) ?_
    refine lv_if_le (tgt := 43) hx hb dX7_pack_11 (by decide) (fun c3 => ?_) (fun c3 => ?_)
    · have hf := hf.1 c3
      exact wX7_pack_b43 C0 hN hK hA q_t q_t_takes q_t_worths q_t_book q_t_now q_t_sight q_t_pad q_t_had q_t_fitting q_t_wins q_t_ways q_t_image q_t_isKept t_shift t_kneels t_sights t_signs t_metAt t_metWho t_reason t_acts a1 a2 a3 a4 a5 post hret   t_takes t_worths hf H locs hP hD hS ls (lv_sub hl [0, 1, 2, 3, 4, 5] rfl)
    · have hf := hf.2 c3
      refine lv_iload_n hx hb dX7_pack_14 rfl (lv_at hl 2 rfl) ?_
      refine lv_if_le (tgt := 43) hx hb dX7_pack_15 (by decide) (fun c4 => ?_) (fun c4 => ?_)
      · have hf := hf.1 c4
        exact wX7_pack_b43 C0 hN hK hA q_t q_t_takes q_t_worths q_t_book q_t_now q_t_sight q_t_pad q_t_had q_t_fitting q_t_wins q_t_ways q_t_image q_t_isKept t_shift t_kneels t_sights t_signs t_metAt t_metWho t_reason t_acts a1 a2 a3 a4 a5 post hret   t_takes t_worths hf H locs hP hD hS ls (lv_sub hl [0, 1, 2, 3, 4, 5] rfl)
      · have hf := hf.2 c4
        refine lv_iload hx hb dX7_pack_18 (lv_at hl 4 rfl) ?_
        refine lv_iconst (v := 0) hx hb dX7_pack_20 (by decide) ?_
        refine lv_bipush (v := 99) hx hb dX7_pack_21 (by decide) ?_
        refine xs_i (va_runS (As := [.int a4, .int 0, .int 99]) (rest := []) ⟨hx, hb, hml, hown, hts⟩ (kX7_in l D cI cZ cJ cO a4 0 99 _ hf) (va_cwS 3 hts gX7_pack_X7_in rfl rfl rfl (by decide +kernel) ⟨Nat.le_of_ble_eq_true rfl, Nat.le_of_ble_eq_true rfl⟩) (B0_pre (hP.sub (ws' := []) [] rfl) hK hN) rfl rfl hl.1 rfl (lv_room (Nat.le_of_ble_eq_true rfl)) dX7_pack_23 ⟨Nat.zero_le _, Nat.zero_le _⟩) (fun r5 hf => ?_)
        refine lv_if_eq (tgt := 43) hx hb dX7_pack_26 (by decide) (fun c6 => ?_) (fun c6 => ?_)
        · have hf := hf.1 c6
          exact wX7_pack_b43 C0 hN hK hA q_t q_t_takes q_t_worths q_t_book q_t_now q_t_sight q_t_pad q_t_had q_t_fitting q_t_wins q_t_ways q_t_image q_t_isKept t_shift t_kneels t_sights t_signs t_metAt t_metWho t_reason t_acts a1 a2 a3 a4 a5 post hret   t_takes t_worths hf H locs hP hD hS ls (lv_sub hl [0, 1, 2, 3, 4, 5] rfl)
        · have hf := hf.2 c6
          refine lv_iload hx hb dX7_pack_29 (lv_at hl 5 rfl) ?_
          refine lv_iconst (v := 0) hx hb dX7_pack_31 (by decide) ?_
          refine lv_iconst (v := 1) hx hb dX7_pack_32 (by decide) ?_
          refine xs_i (va_runS (As := [.int a5, .int 0, .int 1]) (rest := []) ⟨hx, hb, hml, hown, hts⟩ (kX7_in l D cI cZ cJ cO a5 0 1 _ hf) (va_cwS 3 hts gX7_pack_X7_in rfl rfl rfl (by decide +kernel) ⟨Nat.le_of_ble_eq_true rfl, Nat.le_of_ble_eq_true rfl⟩) (B0_pre (hP.sub (ws' := []) [] rfl) hK hN) rfl rfl hl.1 rfl (lv_room (Nat.le_of_ble_eq_true rfl)) dX7_pack_33 ⟨Nat.zero_le _, Nat.zero_le _⟩) (fun r7 hf => ?_)
          refine lv_if_eq (tgt := 43) hx hb dX7_pack_36 (by decide) (fun c8 => ?_) (fun c8 => ?_)
          · have hf := hf.1 c8
            exact wX7_pack_b43 C0 hN hK hA q_t q_t_takes q_t_worths q_t_book q_t_now q_t_sight q_t_pad q_t_had q_t_fitting q_t_wins q_t_ways q_t_image q_t_isKept t_shift t_kneels t_sights t_signs t_metAt t_metWho t_reason t_acts a1 a2 a3 a4 a5 post hret   t_takes t_worths hf H locs hP hD hS ls (lv_sub hl [0, 1, 2, 3, 4, 5] rfl)
          · have hf := hf.2 c8
            refine lv_iconst (v := 1) hx hb dX7_pack_39 (by decide) ?_
            refine lv_goto (tgt := 44) hx hb dX7_pack_40 (by decide) ?_
            exact wX7_pack_b44 C0 hN hK hA q_t q_t_takes q_t_worths q_t_book q_t_now q_t_sight q_t_pad q_t_had q_t_fitting q_t_wins q_t_ways q_t_image q_t_isKept t_shift t_kneels t_sights t_signs t_metAt t_metWho t_reason t_acts a1 a2 a3 a4 a5 post hret   1 t_takes t_worths hf H locs hP hD hS ls (lv_sub hl [0, 1, 2, 3, 4, 5] rfl)
