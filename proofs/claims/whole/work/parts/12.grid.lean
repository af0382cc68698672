def p_X0_reset_12 (x1 : Int32) (x2 : Int32) (post : Int32 → Int32 → (Nat → Nat → Int32) → Prop) : Nat → Int32 → Int32 → (Nat → Nat → Int32) → Int32 → Prop
  | 0, _, _, _, _ => False
  | n + 1, M, N, C, x3 => ((6 ≤ x3 → post M N C) ∧ (¬ 6 ≤ x3 → (vp_in x3 6 ∧ p_J7_fill_53178 6 (C (x3.toNatClampNeg)) 0 (fun f_3 => p_X0_reset_12 x1 x2 post n M N (up2 C (x3.toNatClampNeg) f_3) (x3 + 1)))))
def p_X0_reset (M : Int32) (N : Int32) (C : Nat → Nat → Int32) (x1 : Int32) (x2 : Int32) (post : Int32 → Int32 → (Nat → Nat → Int32) → Prop) : Prop := (∃ n_4, p_X0_reset_12 x1 x2 post n_4 x1 x2 C 0)
theorem in_X0_reset_X0 : ∀ w ∈ u_ws RX0 TX0 6, w ∈ wsX0_reset := by decide +kernel
theorem lk_X0_reset_11 : Cond.fieldLink RX0 11 "GrowingCorners$Grid" "rows" "I" ∈ wsX0_reset := by decide +kernel
theorem lk_X0_reset_15 : Cond.fieldLink RX0 15 "GrowingCorners$Grid" "columns" "I" ∈ wsX0_reset := by decide +kernel
theorem lk_X0_reset_20 : Cond.fieldLink RX0 20 "GrowingCorners$Grid" "cells" "[[I" ∈ wsX0_reset := by decide +kernel
set_option maxHeartbeats 4000000 in
set_option maxRecDepth 100000 in
theorem k_X0_reset_12 {p : Program} {l : Launch} {e : Env} {s : State} {m : MethodId} {args : Array Value} {below : List Frame} {meth : Method} {c : Code} {A : Nat → Prop} {D : va_G} {k : Nat → ClassId} {a : Nat → Nat} {Gr : Nat → Nat → Int32} {Pr : Nat → Nat → Int64} {Pa : Nat → Nat → Int32} {x1 : Int32} {x2 : Int32} (C0 : xM p s m args meth c cX0_reset 4 RX0 none wsX0_reset) (hG : xG D k s) {post : Int32 → Int32 → (Nat → Nat → Int32) → Prop} : ∀ (n : Nat) (M : Int32) (N : Int32) (C : Nat → Nat → Int32) (x3 : Int32) (H : Heap) (locs : List Loc) (ls : Array Slot), p_X0_reset_12 x1 x2 post n M N C x3 → va_P D vwCl (wG k a M N C Gr Pr Pa) H → va_D A (wG k a M N C Gr Pr Pa) → va_S A s.heap H locs → lv_has ls 4 [(0, .ref (a 0)), (3, .int x3)] → W p l e ({ frames := 1, cells := 0, slots := 0, locals := 23 }) s m args below meth c H locs 0 0 (MQ below (va_Qv (fun (u : Int32 × Int32 × (Nat → Nat → Int32)) => post u.1 u.2.1 u.2.2) (fun u t => va_P D vwCl (wG k a (u.1) (u.2.1) (u.2.2) Gr Pr Pa) t.heap) A) args s 0 0 A) (F0 m 12 ls []) := by
  obtain ⟨hx, hb, hr, hts, hown, hlocks, hml⟩ := id C0
  intro n
  induction n with
  | zero =>
    intro M N C x3 H locs ls hf
    exact False.elim hf
  | succ n ih =>
    intro M N C x3 H locs ls hf hP hD hS hl
    unfold p_X0_reset_12 at hf
    refine lv_iload_n hx hb dX0_reset_12 rfl (lv_at hl 1 rfl) ?_
    refine lv_bipush (v := 6) hx hb dX0_reset_13 (by decide) ?_
    refine lv_icmp_ge (tgt := 34) hx hb dX0_reset_15 (by decide) (fun c_1 => ?_) (fun c_1 => ?_)
    · have hf := hf.1 c_1
      exact W.vret hx hb hr (fun t ht hW => ⟨⟨(M, N, C), rfl, hf, xHp ht hP⟩, hS.F ht⟩) hS.2.2 dX0_reset_34 hlocks
    · have hf := hf.2 c_1
      refine lv_aload_n hx hb dX0_reset_18 rfl (lv_at hl 0 rfl) ?_
      refine va_get (D := D) (ci := 0) (C := RX0) (T := TX0) (N := 6) hx hb hts in_X0_reset_X0 hown hG.1 hP 0 rfl rfl 2 (by decide) (hts _ lk_X0_reset_20) (fun _ h9 => h9) rfl dX0_reset_19 ?_
      refine lv_iload_n hx hb dX0_reset_22 rfl (lv_at hl 1 rfl) ?_
      obtain ⟨h_2, hf⟩ := hf
      refine xAald (f := fun i => a (i + 5)) hx hb hG.1 hP 1 3 rfl rfl h_2 dX0_reset_23 ?_
      refine lv_iconst (v := 0) hx hb dX0_reset_24 (by decide) ?_
      have hp : xPerm (wG k a M N C Gr Pr Pa) (([((a (x3.toNatClampNeg + 5), .inl (k 0, 6, .inl (C (x3.toNatClampNeg)))) : Nat × va_E)]) ++ ((wG k a M N C Gr Pr Pa).eraseIdx (x3.toNatClampNeg + 5))) := (xCut1 (i := (x3.toNatClampNeg + 5)) (wG_row1 (vp_lt h_2)))
      refine xCallV (w := [((a (x3.toNatClampNeg + 5), .inl (k 0, 6, .inl (C (x3.toNatClampNeg)))) : Nat × va_E)]) (r := (wG k a M N C Gr Pr Pa).eraseIdx (x3.toNatClampNeg + 5)) (va_runS (As := [.ref (a (x3.toNatClampNeg + 5)), .int 0]) (rest := []) ⟨hx, hb, hml, hown, hts⟩ (c_J7_fill_53178 (a (x3.toNatClampNeg + 5)) 6 (C (x3.toNatClampNeg)) 0 hf) (va_cwS 2 hts gX0_reset_J7_fill_53178 rfl rfl rfl (by decide +kernel) ⟨Nat.le_of_ble_eq_true rfl, Nat.le_of_ble_eq_true rfl⟩) (xPreS hG hP hD hp) rfl rfl hl.1 rfl (lv_room (Nat.le_of_ble_eq_true rfl)) dX0_reset_25 ⟨Nat.zero_le _, Nat.zero_le _⟩) hP hD hS hp (fun _ => rfl) (fun f_3 H locs hf hP hD hS => ?_)
      have hP : va_P D vwCl (wG k a M N (up2 C (x3.toNatClampNeg) f_3) Gr Pr Pa) H := by rw [← wG_put1 (vp_lt h_2)]; exact xP_perm (xJoin1 (i := (x3.toNatClampNeg + 5)) (wG_row1 (vp_lt h_2))) hP
      have hD : va_D A (wG k a M N (up2 C (x3.toNatClampNeg) f_3) Gr Pr Pa) := by rw [← wG_put1 (vp_lt h_2)]; exact xD_perm (xJoin1 (i := (x3.toNatClampNeg + 5)) (wG_row1 (vp_lt h_2))) hD
      refine lv_iinc (v := x3 + 1) (lv' := [(3, .int (x3 + 1)), (0, .ref (a 0))]) hx hb dX0_reset_28 hl (k := 1) rfl rfl (by decide) rfl (fun ls hl => ?_)
      refine lv_goto (tgt := 12) hx hb dX0_reset_31 (by decide) ?_
      exact ih M N (up2 C (x3.toNatClampNeg) f_3) (x3 + 1) _ _ _ hf hP hD hS (lv_sub hl [1, 0] rfl)
set_option maxHeartbeats 4000000 in
set_option maxRecDepth 100000 in
theorem c_X0_reset {l : Launch} {D : va_G} {k : Nat → ClassId} (a : Nat → Nat) (M : Int32) (N : Int32) (C : Nat → Nat → Int32) (Gr : Nat → Nat → Int32) (Pr : Nat → Nat → Int64) (Pa : Nat → Nat → Int32) (x1 : Int32) (x2 : Int32) {post : Int32 → Int32 → (Nat → Nat → Int32) → Prop} (hf : p_X0_reset M N C x1 x2 post) : ctV l yX0_reset wsX0_reset ({ frames := 1, cells := 0, slots := 0, locals := 23 }) D k [.ref (a 0), .int x1, .int x2] (wG k a M N C Gr Pr Pa) (fun u : Int32 × Int32 × (Nat → Nat → Int32) => wG k a (u.1) (u.2.1) (u.2.2) Gr Pr Pa) (fun (u : Int32 × Int32 × (Nat → Nat → Int32)) => post u.1 u.2.1 u.2.2) := by
  refine Met.ofW (cc := cX0_reset) (maxL := 4) (ret := none) (by decide) rfl ?_
  intro p e s m args below meth c s₁ B hml hv
  obtain ⟨rfl, hP, hG, hD0⟩ := hv
  have C0 : xM p s m ([.ref (a 0), .int x1, .int x2] : List Value).toArray meth c cX0_reset 4 RX0 none wsX0_reset := ⟨B.exec, B.bytes, B.returns, atoms_spec (ws := wsX0_reset) B.pre, findClass_of_methodNamed B.named, B.notSynchronized, hml⟩
  obtain ⟨hx, hb, hr, hts, hown, hlocks, hml⟩ := id C0
  have hD := xSelf hD0
  have hS : va_S (xIn (wG k a M N C Gr Pr Pa)) s.heap s.heap [] := va_S.rf
  generalize xIn (wG k a M N C Gr Pr Pa) = A at hD hS ⊢
  have hl := lv_entry ([.ref (a 0), .int x1, .int x2]) (n := 4) (Nat.le_of_ble_eq_true rfl)
  rw [lg_entry_eq]
  generalize (lg_sl ([.ref (a 0), .int x1, .int x2]) ++ List.replicate (4 - (lg_sl ([.ref (a 0), .int x1, .int x2])).length) Slot.unset).toArray = ls at hl ⊢
  have hl : lv_has ls 4 [(0, .ref (a 0)), (1, .int x1), (2, .int x2)] := hl
  unfold p_X0_reset at hf
  refine lv_aload_n hx hb dX0_reset_0 rfl (lv_at hl 0 rfl) ?_
  refine lv_iload_n hx hb dX0_reset_1 rfl (lv_at hl 1 rfl) ?_
  refine va_put (D := D) (ci := 0) (v := .int x1) (ty := .int) (C := RX0) (T := TX0) (N := 6) hx hb hts in_X0_reset_X0 tyX0 tyX0_ok nmX0 hown hG.1 hP hD hS 0 rfl rfl 0 (by decide) (hts _ lk_X0_reset_11) (fun _ h9 => h9) rfl (by decide +kernel) rfl rfl (Nat.le_of_ble_eq_true rfl) dX0_reset_2 (fun H locs hP hD hS => ?_)
  have hP : va_P D vwCl (wG k a x1 N C Gr Pr Pa) H := hP
  have hD : va_D A (wG k a x1 N C Gr Pr Pa) := hD
  refine lv_aload_n hx hb dX0_reset_5 rfl (lv_at hl 0 rfl) ?_
  refine lv_iload_n hx hb dX0_reset_6 rfl (lv_at hl 2 rfl) ?_
  refine va_put (D := D) (ci := 0) (v := .int x2) (ty := .int) (C := RX0) (T := TX0) (N := 6) hx hb hts in_X0_reset_X0 tyX0 tyX0_ok nmX0 hown hG.1 hP hD hS 0 rfl rfl 1 (by decide) (hts _ lk_X0_reset_15) (fun _ h9 => h9) rfl (by decide +kernel) rfl rfl (Nat.le_of_ble_eq_true rfl) dX0_reset_7 (fun H locs hP hD hS => ?_)
  have hP : va_P D vwCl (wG k a x1 x2 C Gr Pr Pa) H := hP
  have hD : va_D A (wG k a x1 x2 C Gr Pr Pa) := hD
  refine lv_iconst (v := 0) hx hb dX0_reset_10 (by decide) ?_
  refine lv_istore_n (lv' := [(3, .int 0), (0, .ref (a 0)), (1, .int x1), (2, .int x2)]) hx hb dX0_reset_11 rfl hl (by decide) rfl (fun ls hl => ?_)
  obtain ⟨n_4, hf⟩ := hf
  exact k_X0_reset_12 C0 hG n_4 x1 x2 C 0 _ _ _ hf hP hD hS (lv_sub hl [1, 0] rfl)

def p_X0_hasPlace (M : Int32) (N : Int32) (x1 : Int32) (x2 : Int32) (post : Int32 → Prop) : Prop := p_X4_isWithin x1 0 (M - 1) (fun r_1 => ((r_1 = 0 → post 0) ∧ (¬ r_1 = 0 → p_X4_isWithin x2 0 (N - 1) (fun r_3 => ((r_3 = 0 → post 0) ∧ (¬ r_3 = 0 → post 1))))))
theorem in_X0_hasPlace_X0 : ∀ w ∈ u_ws RX0 TX0 6, w ∈ wsX0_hasPlace := by decide +kernel
theorem lk_X0_hasPlace_11 : Cond.fieldLink RX0 11 "GrowingCorners$Grid" "rows" "I" ∈ wsX0_hasPlace := by decide +kernel
theorem lk_X0_hasPlace_15 : Cond.fieldLink RX0 15 "GrowingCorners$Grid" "columns" "I" ∈ wsX0_hasPlace := by decide +kernel
theorem mb_X0_hasPlace_ni : Cond.initialized RX4 ∈ wsX0_hasPlace := by decide +kernel
theorem mb_X0_hasPlace_ns_X4_isWithin : Cond.static yX4_isWithin ∈ wsX0_hasPlace := by decide +kernel
set_option maxHeartbeats 4000000 in
set_option maxRecDepth 100000 in
theorem c_X0_hasPlace {l : Launch} {D : va_G} {k : Nat → ClassId} (a : Nat → Nat) (M : Int32) (N : Int32) (C : Nat → Nat → Int32) (Gr : Nat → Nat → Int32) (Pr : Nat → Nat → Int64) (Pa : Nat → Nat → Int32) (x1 : Int32) (x2 : Int32) {post : Int32 → Prop} (hf : p_X0_hasPlace M N x1 x2 post) : ctI l yX0_hasPlace wsX0_hasPlace ({ frames := 1, cells := 0, slots := 0, locals := 22 }) D k [.ref (a 0), .int x1, .int x2] (wG k a M N C Gr Pr Pa) (fun u : Unit => wG k a M N C Gr Pr Pa) (fun (r : Int32) (u : Unit) => post r) := by
  refine Met.ofW (cc := cX0_hasPlace) (maxL := 3) (ret := (some .boolean)) (by decide) rfl ?_
  intro p e s m args below meth c s₁ B hml hv
  obtain ⟨rfl, hP, hG, hD0⟩ := hv
  have C0 : xM p s m ([.ref (a 0), .int x1, .int x2] : List Value).toArray meth c cX0_hasPlace 3 RX0 (some .boolean) wsX0_hasPlace := ⟨B.exec, B.bytes, B.returns, atoms_spec (ws := wsX0_hasPlace) B.pre, findClass_of_methodNamed B.named, B.notSynchronized, hml⟩
  obtain ⟨hx, hb, hr, hts, hown, hlocks, hml⟩ := id C0
  have hD := xSelf hD0
  have hS : va_S (xIn (wG k a M N C Gr Pr Pa)) s.heap s.heap [] := va_S.rf
  generalize xIn (wG k a M N C Gr Pr Pa) = A at hD hS ⊢
  have hl := lv_entry ([.ref (a 0), .int x1, .int x2]) (n := 3) (Nat.le_of_ble_eq_true rfl)
  rw [lg_entry_eq]
  generalize (lg_sl ([.ref (a 0), .int x1, .int x2]) ++ List.replicate (3 - (lg_sl ([.ref (a 0), .int x1, .int x2])).length) Slot.unset).toArray = ls at hl ⊢
  have hl : lv_has ls 3 [(0, .ref (a 0)), (1, .int x1), (2, .int x2)] := hl
  unfold p_X0_hasPlace at hf
  refine lv_iload_n hx hb dX0_hasPlace_0 rfl (lv_at hl 1 rfl) ?_
  refine lv_iconst (v := 0) hx hb dX0_hasPlace_1 (by decide) ?_
  refine lv_aload_n hx hb dX0_hasPlace_2 rfl (lv_at hl 0 rfl) ?_
  refine va_get (D := D) (ci := 0) (C := RX0) (T := TX0) (N := 6) hx hb hts in_X0_hasPlace_X0 hown hG.1 hP 0 rfl rfl 0 (by decide) (hts _ lk_X0_hasPlace_11) (fun _ h9 => h9) rfl dX0_hasPlace_3 ?_
  refine lv_iconst (v := 1) hx hb dX0_hasPlace_6 (by decide) ?_
  refine lv_isub hx hb dX0_hasPlace_7 ?_
  have hp : xPerm (wG k a M N C Gr Pr Pa) (([]) ++ (wG k a M N C Gr Pr Pa)) := (List.Perm.refl _)
  refine xCallI (w := []) (r := wG k a M N C Gr Pr Pa) (va_runSN (As := [.int x1, .int 0, .int (M - 1)]) (rest := []) ⟨hx, hb, hml, hown, hts⟩ (c_X4_isWithin x1 0 (M - 1) hf) ⟨va_cnB 3 hts gX0_hasPlace_X4_isWithin_n40 rfl rfl rfl hG.2.1 (hts _ mb_X0_hasPlace_ni) (by decide +kernel) ⟨Nat.le_of_ble_eq_true rfl, Nat.le_of_ble_eq_true rfl⟩, hts _ mb_X0_hasPlace_ns_X4_isWithin, trivial⟩ (xPreS hG hP hD hp) rfl rfl hl.1 rfl (lv_room (Nat.le_of_ble_eq_true rfl)) dX0_hasPlace_8 ⟨Nat.zero_le _, Nat.zero_le _⟩) hP hD hS hp (fun _ => rfl) (fun r_1 _ H locs hf hP hD hS => ?_)
  have hP : va_P D vwCl (wG k a M N C Gr Pr Pa) H := hP
  have hD : va_D A (wG k a M N C Gr Pr Pa) := hD
  refine lv_if_eq (tgt := 32) hx hb dX0_hasPlace_11 (by decide) (fun c_2 => ?_) (fun c_2 => ?_)
  · have hf := hf.1 c_2
    refine lv_iconst (v := 0) hx hb dX0_hasPlace_32 (by decide) ?_
    exact W.zret (v := 0) hx hb hr rfl (fun t ht hW => ⟨⟨(0 : Int32), (), rfl, hf, xHp ht hP⟩, hS.F ht⟩) hS.2.2 dX0_hasPlace_33 hlocks
  · have hf := hf.2 c_2
    refine lv_iload_n hx hb dX0_hasPlace_14 rfl (lv_at hl 2 rfl) ?_
    refine lv_iconst (v := 0) hx hb dX0_hasPlace_15 (by decide) ?_
    refine lv_aload_n hx hb dX0_hasPlace_16 rfl (lv_at hl 0 rfl) ?_
    refine va_get (D := D) (ci := 0) (C := RX0) (T := TX0) (N := 6) hx hb hts in_X0_hasPlace_X0 hown hG.1 hP 0 rfl rfl 1 (by decide) (hts _ lk_X0_hasPlace_15) (fun _ h9 => h9) rfl dX0_hasPlace_17 ?_
    refine lv_iconst (v := 1) hx hb dX0_hasPlace_20 (by decide) ?_
    refine lv_isub hx hb dX0_hasPlace_21 ?_
    have hp : xPerm (wG k a M N C Gr Pr Pa) (([]) ++ (wG k a M N C Gr Pr Pa)) := (List.Perm.refl _)
    refine xCallI (w := []) (r := wG k a M N C Gr Pr Pa) (va_runSN (As := [.int x2, .int 0, .int (N - 1)]) (rest := []) ⟨hx, hb, hml, hown, hts⟩ (c_X4_isWithin x2 0 (N - 1) hf) ⟨va_cnB 3 hts gX0_hasPlace_X4_isWithin_n40 rfl rfl rfl hG.2.1 (hts _ mb_X0_hasPlace_ni) (by decide +kernel) ⟨Nat.le_of_ble_eq_true rfl, Nat.le_of_ble_eq_true rfl⟩, hts _ mb_X0_hasPlace_ns_X4_isWithin, trivial⟩ (xPreS hG hP hD hp) rfl rfl hl.1 rfl (lv_room (Nat.le_of_ble_eq_true rfl)) dX0_hasPlace_22 ⟨Nat.zero_le _, Nat.zero_le _⟩) hP hD hS hp (fun _ => rfl) (fun r_3 _ H locs hf hP hD hS => ?_)
    have hP : va_P D vwCl (wG k a M N C Gr Pr Pa) H := hP
    have hD : va_D A (wG k a M N C Gr Pr Pa) := hD
    refine lv_if_eq (tgt := 32) hx hb dX0_hasPlace_25 (by decide) (fun c_4 => ?_) (fun c_4 => ?_)
    · have hf := hf.1 c_4
      refine lv_iconst (v := 0) hx hb dX0_hasPlace_32 (by decide) ?_
      exact W.zret (v := 0) hx hb hr rfl (fun t ht hW => ⟨⟨(0 : Int32), (), rfl, hf, xHp ht hP⟩, hS.F ht⟩) hS.2.2 dX0_hasPlace_33 hlocks
    · have hf := hf.2 c_4
      refine lv_iconst (v := 1) hx hb dX0_hasPlace_28 (by decide) ?_
      refine lv_goto (tgt := 33) hx hb dX0_hasPlace_29 (by decide) ?_
      exact W.zret (v := 1) hx hb hr rfl (fun t ht hW => ⟨⟨(1 : Int32), (), rfl, hf, xHp ht hP⟩, hS.F ht⟩) hS.2.2 dX0_hasPlace_33 hlocks

def p_X0_hasCorner (M : Int32) (N : Int32) (x1 : Int32) (x2 : Int32) (post : Int32 → Prop) : Prop := p_X4_isWithin x1 0 M (fun r_1 => ((r_1 = 0 → post 0) ∧ (¬ r_1 = 0 → p_X4_isWithin x2 0 N (fun r_3 => ((r_3 = 0 → post 0) ∧ (¬ r_3 = 0 → post 1))))))
theorem in_X0_hasCorner_X0 : ∀ w ∈ u_ws RX0 TX0 6, w ∈ wsX0_hasCorner := by decide +kernel
theorem lk_X0_hasCorner_11 : Cond.fieldLink RX0 11 "GrowingCorners$Grid" "rows" "I" ∈ wsX0_hasCorner := by decide +kernel
theorem lk_X0_hasCorner_15 : Cond.fieldLink RX0 15 "GrowingCorners$Grid" "columns" "I" ∈ wsX0_hasCorner := by decide +kernel
theorem mb_X0_hasCorner_ni : Cond.initialized RX4 ∈ wsX0_hasCorner := by decide +kernel
theorem mb_X0_hasCorner_ns_X4_isWithin : Cond.static yX4_isWithin ∈ wsX0_hasCorner := by decide +kernel
set_option maxHeartbeats 4000000 in
set_option maxRecDepth 100000 in
theorem c_X0_hasCorner {l : Launch} {D : va_G} {k : Nat → ClassId} (a : Nat → Nat) (M : Int32) (N : Int32) (C : Nat → Nat → Int32) (Gr : Nat → Nat → Int32) (Pr : Nat → Nat → Int64) (Pa : Nat → Nat → Int32) (x1 : Int32) (x2 : Int32) {post : Int32 → Prop} (hf : p_X0_hasCorner M N x1 x2 post) : ctI l yX0_hasCorner wsX0_hasCorner ({ frames := 1, cells := 0, slots := 0, locals := 22 }) D k [.ref (a 0), .int x1, .int x2] (wG k a M N C Gr Pr Pa) (fun u : Unit => wG k a M N C Gr Pr Pa) (fun (r : Int32) (u : Unit) => post r) := by
  refine Met.ofW (cc := cX0_hasCorner) (maxL := 3) (ret := (some .boolean)) (by decide) rfl ?_
  intro p e s m args below meth c s₁ B hml hv
  obtain ⟨rfl, hP, hG, hD0⟩ := hv
  have C0 : xM p s m ([.ref (a 0), .int x1, .int x2] : List Value).toArray meth c cX0_hasCorner 3 RX0 (some .boolean) wsX0_hasCorner := ⟨B.exec, B.bytes, B.returns, atoms_spec (ws := wsX0_hasCorner) B.pre, findClass_of_methodNamed B.named, B.notSynchronized, hml⟩
  obtain ⟨hx, hb, hr, hts, hown, hlocks, hml⟩ := id C0
  have hD := xSelf hD0
  have hS : va_S (xIn (wG k a M N C Gr Pr Pa)) s.heap s.heap [] := va_S.rf
  generalize xIn (wG k a M N C Gr Pr Pa) = A at hD hS ⊢
  have hl := lv_entry ([.ref (a 0), .int x1, .int x2]) (n := 3) (Nat.le_of_ble_eq_true rfl)
  rw [lg_entry_eq]
  generalize (lg_sl ([.ref (a 0), .int x1, .int x2]) ++ List.replicate (3 - (lg_sl ([.ref (a 0), .int x1, .int x2])).length) Slot.unset).toArray = ls at hl ⊢
  have hl : lv_has ls 3 [(0, .ref (a 0)), (1, .int x1), (2, .int x2)] := hl
  unfold p_X0_hasCorner at hf
  refine lv_iload_n hx hb dX0_hasCorner_0 rfl (lv_at hl 1 rfl) ?_
  refine lv_iconst (v := 0) hx hb dX0_hasCorner_1 (by decide) ?_
  refine lv_aload_n hx hb dX0_hasCorner_2 rfl (lv_at hl 0 rfl) ?_
  refine va_get (D := D) (ci := 0) (C := RX0) (T := TX0) (N := 6) hx hb hts in_X0_hasCorner_X0 hown hG.1 hP 0 rfl rfl 0 (by decide) (hts _ lk_X0_hasCorner_11) (fun _ h9 => h9) rfl dX0_hasCorner_3 ?_
  have hp : xPerm (wG k a M N C Gr Pr Pa) (([]) ++ (wG k a M N C Gr Pr Pa)) := (List.Perm.refl _)
  refine xCallI (w := []) (r := wG k a M N C Gr Pr Pa) (va_runSN (As := [.int x1, .int 0, .int M]) (rest := []) ⟨hx, hb, hml, hown, hts⟩ (c_X4_isWithin x1 0 M hf) ⟨va_cnB 3 hts gX0_hasCorner_X4_isWithin_n40 rfl rfl rfl hG.2.1 (hts _ mb_X0_hasCorner_ni) (by decide +kernel) ⟨Nat.le_of_ble_eq_true rfl, Nat.le_of_ble_eq_true rfl⟩, hts _ mb_X0_hasCorner_ns_X4_isWithin, trivial⟩ (xPreS hG hP hD hp) rfl rfl hl.1 rfl (lv_room (Nat.le_of_ble_eq_true rfl)) dX0_hasCorner_6 ⟨Nat.zero_le _, Nat.zero_le _⟩) hP hD hS hp (fun _ => rfl) (fun r_1 _ H locs hf hP hD hS => ?_)
  have hP : va_P D vwCl (wG k a M N C Gr Pr Pa) H := hP
  have hD : va_D A (wG k a M N C Gr Pr Pa) := hD
  refine lv_if_eq (tgt := 28) hx hb dX0_hasCorner_9 (by decide) (fun c_2 => ?_) (fun c_2 => ?_)
  · have hf := hf.1 c_2
    refine lv_iconst (v := 0) hx hb dX0_hasCorner_28 (by decide) ?_
    exact W.zret (v := 0) hx hb hr rfl (fun t ht hW => ⟨⟨(0 : Int32), (), rfl, hf, xHp ht hP⟩, hS.F ht⟩) hS.2.2 dX0_hasCorner_29 hlocks
  · have hf := hf.2 c_2
    refine lv_iload_n hx hb dX0_hasCorner_12 rfl (lv_at hl 2 rfl) ?_
    refine lv_iconst (v := 0) hx hb dX0_hasCorner_13 (by decide) ?_
    refine lv_aload_n hx hb dX0_hasCorner_14 rfl (lv_at hl 0 rfl) ?_
    refine va_get (D := D) (ci := 0) (C := RX0) (T := TX0) (N := 6) hx hb hts in_X0_hasCorner_X0 hown hG.1 hP 0 rfl rfl 1 (by decide) (hts _ lk_X0_hasCorner_15) (fun _ h9 => h9) rfl dX0_hasCorner_15 ?_
    have hp : xPerm (wG k a M N C Gr Pr Pa) (([]) ++ (wG k a M N C Gr Pr Pa)) := (List.Perm.refl _)
    refine xCallI (w := []) (r := wG k a M N C Gr Pr Pa) (va_runSN (As := [.int x2, .int 0, .int N]) (rest := []) ⟨hx, hb, hml, hown, hts⟩ (c_X4_isWithin x2 0 N hf) ⟨va_cnB 3 hts gX0_hasCorner_X4_isWithin_n40 rfl rfl rfl hG.2.1 (hts _ mb_X0_hasCorner_ni) (by decide +kernel) ⟨Nat.le_of_ble_eq_true rfl, Nat.le_of_ble_eq_true rfl⟩, hts _ mb_X0_hasCorner_ns_X4_isWithin, trivial⟩ (xPreS hG hP hD hp) rfl rfl hl.1 rfl (lv_room (Nat.le_of_ble_eq_true rfl)) dX0_hasCorner_18 ⟨Nat.zero_le _, Nat.zero_le _⟩) hP hD hS hp (fun _ => rfl) (fun r_3 _ H locs hf hP hD hS => ?_)
    have hP : va_P D vwCl (wG k a M N C Gr Pr Pa) H := hP
    have hD : va_D A (wG k a M N C Gr Pr Pa) := hD
    refine lv_if_eq (tgt := 28) hx hb dX0_hasCorner_21 (by decide) (fun c_4 => ?_) (fun c_4 => ?_)
    · have hf := hf.1 c_4
      refine lv_iconst (v := 0) hx hb dX0_hasCorner_28 (by decide) ?_
      exact W.zret (v := 0) hx hb hr rfl (fun t ht hW => ⟨⟨(0 : Int32), (), rfl, hf, xHp ht hP⟩, hS.F ht⟩) hS.2.2 dX0_hasCorner_29 hlocks
    · have hf := hf.2 c_4
      refine lv_iconst (v := 1) hx hb dX0_hasCorner_24 (by decide) ?_
      refine lv_goto (tgt := 29) hx hb dX0_hasCorner_25 (by decide) ?_
      exact W.zret (v := 1) hx hb hr rfl (fun t ht hW => ⟨⟨(1 : Int32), (), rfl, hf, xHp ht hP⟩, hS.F ht⟩) hS.2.2 dX0_hasCorner_29 hlocks

def p_X0_placeCount (M : Int32) (N : Int32) (post : Int32 → Prop) : Prop := post (M * N)
theorem in_X0_placeCount_X0 : ∀ w ∈ u_ws RX0 TX0 6, w ∈ wsX0_placeCount := by decide +kernel
theorem lk_X0_placeCount_11 : Cond.fieldLink RX0 11 "GrowingCorners$Grid" "rows" "I" ∈ wsX0_placeCount := by decide +kernel
theorem lk_X0_placeCount_15 : Cond.fieldLink RX0 15 "GrowingCorners$Grid" "columns" "I" ∈ wsX0_placeCount := by decide +kernel
set_option maxHeartbeats 4000000 in
set_option maxRecDepth 100000 in
theorem c_X0_placeCount {l : Launch} {D : va_G} {k : Nat → ClassId} (a : Nat → Nat) (M : Int32) (N : Int32) (C : Nat → Nat → Int32) (Gr : Nat → Nat → Int32) (Pr : Nat → Nat → Int64) (Pa : Nat → Nat → Int32) {post : Int32 → Prop} (hf : p_X0_placeCount M N post) : ctI l yX0_placeCount wsX0_placeCount ({ frames := 0, cells := 0, slots := 0, locals := 0 }) D k [.ref (a 0)] (wG k a M N C Gr Pr Pa) (fun u : Unit => wG k a M N C Gr Pr Pa) (fun (r : Int32) (u : Unit) => post r) := by
  refine Met.ofW (cc := cX0_placeCount) (maxL := 1) (ret := (some .int)) (by decide) rfl ?_
  intro p e s m args below meth c s₁ B hml hv
  obtain ⟨rfl, hP, hG, hD0⟩ := hv
  have C0 : xM p s m ([.ref (a 0)] : List Value).toArray meth c cX0_placeCount 1 RX0 (some .int) wsX0_placeCount := ⟨B.exec, B.bytes, B.returns, atoms_spec (ws := wsX0_placeCount) B.pre, findClass_of_methodNamed B.named, B.notSynchronized, hml⟩
  obtain ⟨hx, hb, hr, hts, hown, hlocks, hml⟩ := id C0
  have hD := xSelf hD0
  have hS : va_S (xIn (wG k a M N C Gr Pr Pa)) s.heap s.heap [] := va_S.rf
  generalize xIn (wG k a M N C Gr Pr Pa) = A at hD hS ⊢
  have hl := lv_entry ([.ref (a 0)]) (n := 1) (Nat.le_of_ble_eq_true rfl)
  rw [lg_entry_eq]
  generalize (lg_sl ([.ref (a 0)]) ++ List.replicate (1 - (lg_sl ([.ref (a 0)])).length) Slot.unset).toArray = ls at hl ⊢
  have hl : lv_has ls 1 [(0, .ref (a 0))] := hl
  unfold p_X0_placeCount at hf
  refine lv_aload_n hx hb dX0_placeCount_0 rfl (lv_at hl 0 rfl) ?_
  refine va_get (D := D) (ci := 0) (C := RX0) (T := TX0) (N := 6) hx hb hts in_X0_placeCount_X0 hown hG.1 hP 0 rfl rfl 0 (by decide) (hts _ lk_X0_placeCount_11) (fun _ h9 => h9) rfl dX0_placeCount_1 ?_
  refine lv_aload_n hx hb dX0_placeCount_4 rfl (lv_at hl 0 rfl) ?_
  refine va_get (D := D) (ci := 0) (C := RX0) (T := TX0) (N := 6) hx hb hts in_X0_placeCount_X0 hown hG.1 hP 0 rfl rfl 1 (by decide) (hts _ lk_X0_placeCount_15) (fun _ h9 => h9) rfl dX0_placeCount_5 ?_
  refine lv_imul hx hb dX0_placeCount_8 ?_
  exact W.iret (v := (M * N)) hx hb hr (fun t ht hW => ⟨⟨(M * N), (), rfl, hf, xHp ht hP⟩, hS.F ht⟩) hS.2.2 dX0_placeCount_9 hlocks

def p_X0_lastStep (M : Int32) (N : Int32) (post : Int32 → Prop) : Prop := post ((M + N) - 2)
theorem in_X0_lastStep_X0 : ∀ w ∈ u_ws RX0 TX0 6, w ∈ wsX0_lastStep := by decide +kernel
theorem lk_X0_lastStep_11 : Cond.fieldLink RX0 11 "GrowingCorners$Grid" "rows" "I" ∈ wsX0_lastStep := by decide +kernel
theorem lk_X0_lastStep_15 : Cond.fieldLink RX0 15 "GrowingCorners$Grid" "columns" "I" ∈ wsX0_lastStep := by decide +kernel
set_option maxHeartbeats 4000000 in
set_option maxRecDepth 100000 in
theorem c_X0_lastStep {l : Launch} {D : va_G} {k : Nat → ClassId} (a : Nat → Nat) (M : Int32) (N : Int32) (C : Nat → Nat → Int32) (Gr : Nat → Nat → Int32) (Pr : Nat → Nat → Int64) (Pa : Nat → Nat → Int32) {post : Int32 → Prop} (hf : p_X0_lastStep M N post) : ctI l yX0_lastStep wsX0_lastStep ({ frames := 0, cells := 0, slots := 0, locals := 0 }) D k [.ref (a 0)] (wG k a M N C Gr Pr Pa) (fun u : Unit => wG k a M N C Gr Pr Pa) (fun (r : Int32) (u : Unit) => post r) := by
  refine Met.ofW (cc := cX0_lastStep) (maxL := 1) (ret := (some .int)) (by decide) rfl ?_
  intro p e s m args below meth c s₁ B hml hv
  obtain ⟨rfl, hP, hG, hD0⟩ := hv
  have C0 : xM p s m ([.ref (a 0)] : List Value).toArray meth c cX0_lastStep 1 RX0 (some .int) wsX0_lastStep := ⟨B.exec, B.bytes, B.returns, atoms_spec (ws := wsX0_lastStep) B.pre, findClass_of_methodNamed B.named, B.notSynchronized, hml⟩
  obtain ⟨hx, hb, hr, hts, hown, hlocks, hml⟩ := id C0
  have hD := xSelf hD0
  have hS : va_S (xIn (wG k a M N C Gr Pr Pa)) s.heap s.heap [] := va_S.rf
  generalize xIn (wG k a M N C Gr Pr Pa) = A at hD hS ⊢
  have hl := lv_entry ([.ref (a 0)]) (n := 1) (Nat.le_of_ble_eq_true rfl)
  rw [lg_entry_eq]
  generalize (lg_sl ([.ref (a 0)]) ++ List.replicate (1 - (lg_sl ([.ref (a 0)])).length) Slot.unset).toArray = ls at hl ⊢
  have hl : lv_has ls 1 [(0, .ref (a 0))] := hl
  unfold p_X0_lastStep at hf
  refine lv_aload_n hx hb dX0_lastStep_0 rfl (lv_at hl 0 rfl) ?_
  refine va_get (D := D) (ci := 0) (C := RX0) (T := TX0) (N := 6) hx hb hts in_X0_lastStep_X0 hown hG.1 hP 0 rfl rfl 0 (by decide) (hts _ lk_X0_lastStep_11) (fun _ h9 => h9) rfl dX0_lastStep_1 ?_
  refine lv_aload_n hx hb dX0_lastStep_4 rfl (lv_at hl 0 rfl) ?_
  refine va_get (D := D) (ci := 0) (C := RX0) (T := TX0) (N := 6) hx hb hts in_X0_lastStep_X0 hown hG.1 hP 0 rfl rfl 1 (by decide) (hts _ lk_X0_lastStep_15) (fun _ h9 => h9) rfl dX0_lastStep_5 ?_
  refine lv_iadd hx hb dX0_lastStep_8 ?_
  refine lv_iconst (v := 2) hx hb dX0_lastStep_9 (by decide) ?_
  refine lv_isub hx hb dX0_lastStep_10 ?_
  exact W.iret (v := ((M + N) - 2)) hx hb hr (fun t ht hW => ⟨⟨((M + N) - 2), (), rfl, hf, xHp ht hP⟩, hS.F ht⟩) hS.2.2 dX0_lastStep_11 hlocks

def p_X0_exchange (C : Nat → Nat → Int32) (x1 : Int32) (x2 : Int32) (x3 : Int32) (post : Int32 → (Nat → Nat → Int32) → Prop) : Prop := (vp_in x1 6 ∧ (vp_in x2 6 ∧ (vp_in x1 6 ∧ (vp_in x2 6 ∧ post (C (x1.toNatClampNeg) x2.toNatClampNeg) (up2 C (x1.toNatClampNeg) (upd (C (x1.toNatClampNeg)) (x2.toNatClampNeg) x3))))))
theorem in_X0_exchange_X0 : ∀ w ∈ u_ws RX0 TX0 6, w ∈ wsX0_exchange := by decide +kernel
theorem lk_X0_exchange_20 : Cond.fieldLink RX0 20 "GrowingCorners$Grid" "cells" "[[I" ∈ wsX0_exchange := by decide +kernel
set_option maxHeartbeats 4000000 in
set_option maxRecDepth 100000 in
theorem c_X0_exchange {l : Launch} {D : va_G} {k : Nat → ClassId} (a : Nat → Nat) (M : Int32) (N : Int32) (C : Nat → Nat → Int32) (Gr : Nat → Nat → Int32) (Pr : Nat → Nat → Int64) (Pa : Nat → Nat → Int32) (x1 : Int32) (x2 : Int32) (x3 : Int32) {post : Int32 → (Nat → Nat → Int32) → Prop} (hf : p_X0_exchange C x1 x2 x3 post) : ctI l yX0_exchange wsX0_exchange ({ frames := 0, cells := 0, slots := 0, locals := 0 }) D k [.ref (a 0), .int x1, .int x2, .int x3] (wG k a M N C Gr Pr Pa) (fun u : (Nat → Nat → Int32) => wG k a M N u Gr Pr Pa) (fun (r : Int32) (u : (Nat → Nat → Int32)) => post r u) := by
  refine Met.ofW (cc := cX0_exchange) (maxL := 5) (ret := (some .int)) (by decide) rfl ?_
  intro p e s m args below meth c s₁ B hml hv
  obtain ⟨rfl, hP, hG, hD0⟩ := hv
  have C0 : xM p s m ([.ref (a 0), .int x1, .int x2, .int x3] : List Value).toArray meth c cX0_exchange 5 RX0 (some .int) wsX0_exchange := ⟨B.exec, B.bytes, B.returns, atoms_spec (ws := wsX0_exchange) B.pre, findClass_of_methodNamed B.named, B.notSynchronized, hml⟩
  obtain ⟨hx, hb, hr, hts, hown, hlocks, hml⟩ := id C0
  have hD := xSelf hD0
  have hS : va_S (xIn (wG k a M N C Gr Pr Pa)) s.heap s.heap [] := va_S.rf
  generalize xIn (wG k a M N C Gr Pr Pa) = A at hD hS ⊢
  have hl := lv_entry ([.ref (a 0), .int x1, .int x2, .int x3]) (n := 5) (Nat.le_of_ble_eq_true rfl)
  rw [lg_entry_eq]
  generalize (lg_sl ([.ref (a 0), .int x1, .int x2, .int x3]) ++ List.replicate (5 - (lg_sl ([.ref (a 0), .int x1, .int x2, .int x3])).length) Slot.unset).toArray = ls at hl ⊢
  have hl : lv_has ls 5 [(0, .ref (a 0)), (1, .int x1), (2, .int x2), (3, .int x3)] := hl
  unfold p_X0_exchange at hf
  refine lv_aload_n hx hb dX0_exchange_0 rfl (lv_at hl 0 rfl) ?_
  refine va_get (D := D) (ci := 0) (C := RX0) (T := TX0) (N := 6) hx hb hts in_X0_exchange_X0 hown hG.1 hP 0 rfl rfl 2 (by decide) (hts _ lk_X0_exchange_20) (fun _ h9 => h9) rfl dX0_exchange_1 ?_
  refine lv_iload_n hx hb dX0_exchange_4 rfl (lv_at hl 1 rfl) ?_
  obtain ⟨h_1, hf⟩ := hf
  refine xAald (f := fun i => a (i + 5)) hx hb hG.1 hP 1 3 rfl rfl h_1 dX0_exchange_5 ?_
  refine lv_iload_n hx hb dX0_exchange_6 rfl (lv_at hl 2 rfl) ?_
  obtain ⟨h_2, hf⟩ := hf
  refine va_iald hx hb hG.1 hP (x1.toNatClampNeg + 5) 0 (wG_row1 (vp_lt h_1)) rfl h_2 dX0_exchange_7 ?_
  refine lv_istore (lv' := [(4, .int (C (x1.toNatClampNeg) x2.toNatClampNeg)), (0, .ref (a 0)), (1, .int x1), (2, .int x2), (3, .int x3)]) hx hb dX0_exchange_8 hl (by decide) rfl (fun ls hl => ?_)
  refine lv_aload_n hx hb dX0_exchange_10 rfl (lv_at hl 1 rfl) ?_
  refine va_get (D := D) (ci := 0) (C := RX0) (T := TX0) (N := 6) hx hb hts in_X0_exchange_X0 hown hG.1 hP 0 rfl rfl 2 (by decide) (hts _ lk_X0_exchange_20) (fun _ h9 => h9) rfl dX0_exchange_11 ?_
  refine lv_iload_n hx hb dX0_exchange_14 rfl (lv_at hl 2 rfl) ?_
  obtain ⟨h_3, hf⟩ := hf
  refine xAald (f := fun i => a (i + 5)) hx hb hG.1 hP 1 3 rfl rfl h_3 dX0_exchange_15 ?_
  refine lv_iload_n hx hb dX0_exchange_16 rfl (lv_at hl 3 rfl) ?_
  refine lv_iload_n hx hb dX0_exchange_17 rfl (lv_at hl 4 rfl) ?_
  obtain ⟨h_4, hf⟩ := hf
  refine va_iast hx hb hG.1 hP hD hS (x1.toNatClampNeg + 5) 0 (wG_row1 (vp_lt h_3)) rfl h_4 dX0_exchange_18 (fun H locs hP hD hS => ?_)
  have hP : va_P D vwCl (wG k a M N (up2 C (x1.toNatClampNeg) (upd (C (x1.toNatClampNeg)) (x2.toNatClampNeg) x3)) Gr Pr Pa) H := by rw [← wG_put1 (vp_lt h_3)]; exact hP
  have hD : va_D A (wG k a M N (up2 C (x1.toNatClampNeg) (upd (C (x1.toNatClampNeg)) (x2.toNatClampNeg) x3)) Gr Pr Pa) := by rw [← wG_put1 (vp_lt h_3)]; exact hD
  refine lv_iload hx hb dX0_exchange_19 (lv_at hl 0 rfl) ?_
  exact W.iret (v := (C (x1.toNatClampNeg) x2.toNatClampNeg)) hx hb hr (fun t ht hW => ⟨⟨(C (x1.toNatClampNeg) x2.toNatClampNeg), (up2 C (x1.toNatClampNeg) (upd (C (x1.toNatClampNeg)) (x2.toNatClampNeg) x3)), rfl, hf, xHp ht hP⟩, hS.F ht⟩) hS.2.2 dX0_exchange_21 hlocks

def p_X0_takeFrom_17 (iI : Nat → Int64) (M : Int32) (N : Int32) (x2 : Int32) (post : (Nat → Nat → Int32) → Prop) (k5 : (Nat → Nat → Int32) → Int32 → Int32 → Prop) : Nat → (Nat → Nat → Int32) → Int32 → Int32 → Int32 → Prop
  | 0, _, _, _, _ => False
  | n + 1, C, x3, x4, x5 => ((N ≤ x5 → k5 C x3 (x4 + 1)) ∧ (¬ N ≤ x5 → (vp_in x4 6 ∧ p_X1_itemAt iI x3 (fun r_4 => (vp_in x5 6 ∧ p_X0_takeFrom_17 iI M N x2 post k5 n (up2 C (x4.toNatClampNeg) (upd (C (x4.toNatClampNeg)) (x5.toNatClampNeg) (r_4.toInt32))) (x3 + 1) x4 (x5 + 1))))))
def p_X0_takeFrom_5 (iI : Nat → Int64) (M : Int32) (N : Int32) (x2 : Int32) (post : (Nat → Nat → Int32) → Prop) : Nat → (Nat → Nat → Int32) → Int32 → Int32 → Prop
  | 0, _, _, _ => False
  | n + 1, C, x3, x4 => ((M ≤ x4 → post C) ∧ (¬ M ≤ x4 → (∃ n_6, p_X0_takeFrom_17 iI M N x2 post (fun C x3 x4 => p_X0_takeFrom_5 iI M N x2 post n C x3 x4) n_6 C x3 x4 0)))
def p_X0_takeFrom (iI : Nat → Int64) (M : Int32) (N : Int32) (C : Nat → Nat → Int32) (x2 : Int32) (post : (Nat → Nat → Int32) → Prop) : Prop := (∃ n_7, p_X0_takeFrom_5 iI M N x2 post n_7 C x2 0)
theorem in_X0_takeFrom_X0 : ∀ w ∈ u_ws RX0 TX0 6, w ∈ wsX0_takeFrom := by decide +kernel
theorem lk_X0_takeFrom_11 : Cond.fieldLink RX0 11 "GrowingCorners$Grid" "rows" "I" ∈ wsX0_takeFrom := by decide +kernel
theorem lk_X0_takeFrom_15 : Cond.fieldLink RX0 15 "GrowingCorners$Grid" "columns" "I" ∈ wsX0_takeFrom := by decide +kernel
theorem lk_X0_takeFrom_20 : Cond.fieldLink RX0 20 "GrowingCorners$Grid" "cells" "[[I" ∈ wsX0_takeFrom := by decide +kernel
set_option maxHeartbeats 4000000 in
set_option maxRecDepth 100000 in
theorem k_X0_takeFrom_17 {p : Program} {l : Launch} {e : Env} {s : State} {m : MethodId} {args : Array Value} {below : List Frame} {meth : Method} {c : Code} {A : Nat → Prop} {D : va_G} {k : Nat → ClassId} {ai : Nat → Nat} {a : Nat → Nat} {iI : Nat → Int64} {iLn : Int32} {iSz : Int32} {M : Int32} {N : Int32} {Gr : Nat → Nat → Int32} {Pr : Nat → Nat → Int64} {Pa : Nat → Nat → Int32} {x2 : Int32} (C0 : xM p s m args meth c cX0_takeFrom 6 RX0 none wsX0_takeFrom) (hG : xG D k s) {post : (Nat → Nat → Int32) → Prop} {k5 : (Nat → Nat → Int32) → Int32 → Int32 → Prop} (hk5 : ∀ (C : Nat → Nat → Int32) (x3 : Int32) (x4 : Int32) (H : Heap) (locs : List Loc) (ls : Array Slot), k5 C x3 x4 → va_P D vwCl (wS k ai iI iLn iSz ++ wG k a M N C Gr Pr Pa) H → va_D A (wS k ai iI iLn iSz ++ wG k a M N C Gr Pr Pa) → va_S A s.heap H locs → lv_has ls 6 [(0, .ref (a 0)), (1, .ref (ai 0)), (3, .int x3), (4, .int x4)] → W p l e ({ frames := 1, cells := 0, slots := 0, locals := 21 }) s m args below meth c H locs 0 0 (MQ below (va_Qv (fun (u : (Nat → Nat → Int32)) => post u) (fun u t => va_P D vwCl (wS k ai iI iLn iSz ++ wG k a M N u Gr Pr Pa) t.heap) A) args s 0 0 A) (F0 m 5 ls [])) : ∀ (n : Nat) (C : Nat → Nat → Int32) (x3 : Int32) (x4 : Int32) (x5 : Int32) (H : Heap) (locs : List Loc) (ls : Array Slot), p_X0_takeFrom_17 iI M N x2 post k5 n C x3 x4 x5 → va_P D vwCl (wS k ai iI iLn iSz ++ wG k a M N C Gr Pr Pa) H → va_D A (wS k ai iI iLn iSz ++ wG k a M N C Gr Pr Pa) → va_S A s.heap H locs → lv_has ls 6 [(0, .ref (a 0)), (1, .ref (ai 0)), (3, .int x3), (4, .int x4), (5, .int x5)] → W p l e ({ frames := 1, cells := 0, slots := 0, locals := 21 }) s m args below meth c H locs 0 0 (MQ below (va_Qv (fun (u : (Nat → Nat → Int32)) => post u) (fun u t => va_P D vwCl (wS k ai iI iLn iSz ++ wG k a M N u Gr Pr Pa) t.heap) A) args s 0 0 A) (F0 m 17 ls []) := by
  obtain ⟨hx, hb, hr, hts, hown, hlocks, hml⟩ := id C0
  intro n
  induction n with
  | zero =>
    intro C x3 x4 x5 H locs ls hf
    exact False.elim hf
  | succ n ih =>
    intro C x3 x4 x5 H locs ls hf hP hD hS hl
    unfold p_X0_takeFrom_17 at hf
    refine lv_iload hx hb dX0_takeFrom_17 (lv_at hl 4 rfl) ?_
    refine lv_aload_n hx hb dX0_takeFrom_19 rfl (lv_at hl 0 rfl) ?_
    refine va_get (D := D) (ci := 0) (C := RX0) (T := TX0) (N := 6) hx hb hts in_X0_takeFrom_X0 hown hG.1 hP 2 rfl rfl 1 (by decide) (hts _ lk_X0_takeFrom_15) (fun _ h9 => h9) rfl dX0_takeFrom_20 ?_
    refine lv_icmp_ge (tgt := 51) hx hb dX0_takeFrom_23 (by decide) (fun c_2 => ?_) (fun c_2 => ?_)
    · have hf := hf.1 c_2
      refine lv_iinc (v := x4 + 1) (lv' := [(4, .int (x4 + 1)), (0, .ref (a 0)), (1, .ref (ai 0)), (3, .int x3), (5, .int x5)]) hx hb dX0_takeFrom_51 hl (k := 3) rfl rfl (by decide) rfl (fun ls hl => ?_)
      refine lv_goto (tgt := 5) hx hb dX0_takeFrom_54 (by decide) ?_
      exact hk5 C x3 (x4 + 1) _ _ _ hf hP hD hS (lv_sub hl [1, 2, 3, 0] rfl)
    · have hf := hf.2 c_2
      refine lv_aload_n hx hb dX0_takeFrom_26 rfl (lv_at hl 0 rfl) ?_
      refine va_get (D := D) (ci := 0) (C := RX0) (T := TX0) (N := 6) hx hb hts in_X0_takeFrom_X0 hown hG.1 hP 2 rfl rfl 2 (by decide) (hts _ lk_X0_takeFrom_20) (fun _ h9 => h9) rfl dX0_takeFrom_27 ?_
      refine lv_iload hx hb dX0_takeFrom_30 (lv_at hl 3 rfl) ?_
      obtain ⟨h_3, hf⟩ := hf
      refine xAald (f := fun i => a (i + 5)) hx hb hG.1 hP 3 3 rfl rfl h_3 dX0_takeFrom_32 ?_
      refine lv_iload hx hb dX0_takeFrom_33 (lv_at hl 4 rfl) ?_
      refine lv_aload_n hx hb dX0_takeFrom_35 rfl (lv_at hl 1 rfl) ?_
      refine lv_iload_n hx hb dX0_takeFrom_36 rfl (lv_at hl 2 rfl) ?_
      have hp : xPerm (wS k ai iI iLn iSz ++ wG k a M N C Gr Pr Pa) ((wS k ai iI iLn iSz) ++ (wG k a M N C Gr Pr Pa)) := (List.Perm.refl _)
      refine xCallL (w := wS k ai iI iLn iSz) (r := wG k a M N C Gr Pr Pa) (va_runV (As := [.int x3]) (rest := [.int x5, .ref (a (x4.toNatClampNeg + 5))]) ⟨hx, hb, hml, hown, hts⟩ (c_X1_itemAt ai iI iLn iSz x3 hf) (cwV 1 hts gX0_takeFrom_X1_itemAt rfl rfl rfl (by decide +kernel) ⟨Nat.le_of_ble_eq_true rfl, Nat.le_of_ble_eq_true rfl⟩) (xPreV hG hP hD hp (ci := 1) rfl (i := 0) rfl) rfl rfl hl.1 rfl (lv_room (Nat.le_of_ble_eq_true rfl)) dX0_takeFrom_37 ⟨Nat.zero_le _, Nat.zero_le _⟩) hP hD hS hp (fun _ => rfl) (fun r_4 _ H locs hf hP hD hS => ?_)
      have hP : va_P D vwCl (wS k ai iI iLn iSz ++ wG k a M N C Gr Pr Pa) H := hP
      have hD : va_D A (wS k ai iI iLn iSz ++ wG k a M N C Gr Pr Pa) := hD
      refine lv_l2i (v := r_4.toInt32) hx hb dX0_takeFrom_40 rfl ?_
      obtain ⟨h_5, hf⟩ := hf
      refine va_iast hx hb hG.1 hP hD hS (x4.toNatClampNeg + 5 + 2) 0 (wG_row1 (M := M) (N := N) (vp_lt h_3)) rfl h_5 dX0_takeFrom_41 (fun H locs hP hD hS => ?_)
      have hP : va_P D vwCl (wS k ai iI iLn iSz ++ wG k a M N (up2 C (x4.toNatClampNeg) (upd (C (x4.toNatClampNeg)) (x5.toNatClampNeg) (r_4.toInt32))) Gr Pr Pa) H := by rw [← wG_put1 (vp_lt h_3)]; exact hP
      have hD : va_D A (wS k ai iI iLn iSz ++ wG k a M N (up2 C (x4.toNatClampNeg) (upd (C (x4.toNatClampNeg)) (x5.toNatClampNeg) (r_4.toInt32))) Gr Pr Pa) := by rw [← wG_put1 (vp_lt h_3)]; exact hD
      refine lv_iinc (v := x3 + 1) (lv' := [(3, .int (x3 + 1)), (0, .ref (a 0)), (1, .ref (ai 0)), (4, .int x4), (5, .int x5)]) hx hb dX0_takeFrom_42 hl (k := 2) rfl rfl (by decide) rfl (fun ls hl => ?_)
      refine lv_iinc (v := x5 + 1) (lv' := [(5, .int (x5 + 1)), (3, .int (x3 + 1)), (0, .ref (a 0)), (1, .ref (ai 0)), (4, .int x4)]) hx hb dX0_takeFrom_45 hl (k := 4) rfl rfl (by decide) rfl (fun ls hl => ?_)
      refine lv_goto (tgt := 17) hx hb dX0_takeFrom_48 (by decide) ?_
      exact ih (up2 C (x4.toNatClampNeg) (upd (C (x4.toNatClampNeg)) (x5.toNatClampNeg) (r_4.toInt32))) (x3 + 1) x4 (x5 + 1) _ _ _ hf hP hD hS (lv_sub hl [2, 3, 1, 4, 0] rfl)
set_option maxHeartbeats 4000000 in
set_option maxRecDepth 100000 in
theorem k_X0_takeFrom_5 {p : Program} {l : Launch} {e : Env} {s : State} {m : MethodId} {args : Array Value} {below : List Frame} {meth : Method} {c : Code} {A : Nat → Prop} {D : va_G} {k : Nat → ClassId} {ai : Nat → Nat} {a : Nat → Nat} {iI : Nat → Int64} {iLn : Int32} {iSz : Int32} {M : Int32} {N : Int32} {Gr : Nat → Nat → Int32} {Pr : Nat → Nat → Int64} {Pa : Nat → Nat → Int32} {x2 : Int32} (C0 : xM p s m args meth c cX0_takeFrom 6 RX0 none wsX0_takeFrom) (hG : xG D k s) {post : (Nat → Nat → Int32) → Prop} : ∀ (n : Nat) (C : Nat → Nat → Int32) (x3 : Int32) (x4 : Int32) (H : Heap) (locs : List Loc) (ls : Array Slot), p_X0_takeFrom_5 iI M N x2 post n C x3 x4 → va_P D vwCl (wS k ai iI iLn iSz ++ wG k a M N C Gr Pr Pa) H → va_D A (wS k ai iI iLn iSz ++ wG k a M N C Gr Pr Pa) → va_S A s.heap H locs → lv_has ls 6 [(0, .ref (a 0)), (1, .ref (ai 0)), (3, .int x3), (4, .int x4)] → W p l e ({ frames := 1, cells := 0, slots := 0, locals := 21 }) s m args below meth c H locs 0 0 (MQ below (va_Qv (fun (u : (Nat → Nat → Int32)) => post u) (fun u t => va_P D vwCl (wS k ai iI iLn iSz ++ wG k a M N u Gr Pr Pa) t.heap) A) args s 0 0 A) (F0 m 5 ls []) := by
  obtain ⟨hx, hb, hr, hts, hown, hlocks, hml⟩ := id C0
  intro n
  induction n with
  | zero =>
    intro C x3 x4 H locs ls hf
    exact False.elim hf
  | succ n ih =>
    intro C x3 x4 H locs ls hf hP hD hS hl
    unfold p_X0_takeFrom_5 at hf
    refine lv_iload hx hb dX0_takeFrom_5 (lv_at hl 3 rfl) ?_
    refine lv_aload_n hx hb dX0_takeFrom_7 rfl (lv_at hl 0 rfl) ?_
    refine va_get (D := D) (ci := 0) (C := RX0) (T := TX0) (N := 6) hx hb hts in_X0_takeFrom_X0 hown hG.1 hP 2 rfl rfl 0 (by decide) (hts _ lk_X0_takeFrom_11) (fun _ h9 => h9) rfl dX0_takeFrom_8 ?_
    refine lv_icmp_ge (tgt := 57) hx hb dX0_takeFrom_11 (by decide) (fun c_1 => ?_) (fun c_1 => ?_)
    · have hf := hf.1 c_1
      exact W.vret hx hb hr (fun t ht hW => ⟨⟨C, rfl, hf, xHp ht hP⟩, hS.F ht⟩) hS.2.2 dX0_takeFrom_57 hlocks
    · have hf := hf.2 c_1
      refine lv_iconst (v := 0) hx hb dX0_takeFrom_14 (by decide) ?_
      refine lv_istore (lv' := [(5, .int 0), (0, .ref (a 0)), (1, .ref (ai 0)), (3, .int x3), (4, .int x4)]) hx hb dX0_takeFrom_15 hl (by decide) rfl (fun ls hl => ?_)
      obtain ⟨n_6, hf⟩ := hf
      exact k_X0_takeFrom_17 C0 hG ih n_6 C x3 x4 0 _ _ _ hf hP hD hS (lv_sub hl [1, 2, 3, 4, 0] rfl)
set_option maxHeartbeats 4000000 in
set_option maxRecDepth 100000 in
theorem c_X0_takeFrom {l : Launch} {D : va_G} {k : Nat → ClassId} (ai : Nat → Nat) (a : Nat → Nat) (iI : Nat → Int64) (iLn : Int32) (iSz : Int32) (M : Int32) (N : Int32) (C : Nat → Nat → Int32) (Gr : Nat → Nat → Int32) (Pr : Nat → Nat → Int64) (Pa : Nat → Nat → Int32) (x2 : Int32) {post : (Nat → Nat → Int32) → Prop} (hf : p_X0_takeFrom iI M N C x2 post) : ctV l yX0_takeFrom wsX0_takeFrom ({ frames := 1, cells := 0, slots := 0, locals := 21 }) D k [.ref (a 0), .ref (ai 0), .int x2] (wS k ai iI iLn iSz ++ wG k a M N C Gr Pr Pa) (fun u : (Nat → Nat → Int32) => wS k ai iI iLn iSz ++ wG k a M N u Gr Pr Pa) (fun (u : (Nat → Nat → Int32)) => post u) := by
  refine Met.ofW (cc := cX0_takeFrom) (maxL := 6) (ret := none) (by decide) rfl ?_
  intro p e s m args below meth c s₁ B hml hv
  obtain ⟨rfl, hP, hG, hD0⟩ := hv
  have C0 : xM p s m ([.ref (a 0), .ref (ai 0), .int x2] : List Value).toArray meth c cX0_takeFrom 6 RX0 none wsX0_takeFrom := ⟨B.exec, B.bytes, B.returns, atoms_spec (ws := wsX0_takeFrom) B.pre, findClass_of_methodNamed B.named, B.notSynchronized, hml⟩
  obtain ⟨hx, hb, hr, hts, hown, hlocks, hml⟩ := id C0
  have hD := xSelf hD0
  have hS : va_S (xIn (wS k ai iI iLn iSz ++ wG k a M N C Gr Pr Pa)) s.heap s.heap [] := va_S.rf
  generalize xIn (wS k ai iI iLn iSz ++ wG k a M N C Gr Pr Pa) = A at hD hS ⊢
  have hl := lv_entry ([.ref (a 0), .ref (ai 0), .int x2]) (n := 6) (Nat.le_of_ble_eq_true rfl)
  rw [lg_entry_eq]
  generalize (lg_sl ([.ref (a 0), .ref (ai 0), .int x2]) ++ List.replicate (6 - (lg_sl ([.ref (a 0), .ref (ai 0), .int x2])).length) Slot.unset).toArray = ls at hl ⊢
  have hl : lv_has ls 6 [(0, .ref (a 0)), (1, .ref (ai 0)), (2, .int x2)] := hl
  unfold p_X0_takeFrom at hf
  refine lv_iload_n hx hb dX0_takeFrom_0 rfl (lv_at hl 2 rfl) ?_
  refine lv_istore_n (lv' := [(3, .int x2), (0, .ref (a 0)), (1, .ref (ai 0)), (2, .int x2)]) hx hb dX0_takeFrom_1 rfl hl (by decide) rfl (fun ls hl => ?_)
  refine lv_iconst (v := 0) hx hb dX0_takeFrom_2 (by decide) ?_
  refine lv_istore (lv' := [(4, .int 0), (3, .int x2), (0, .ref (a 0)), (1, .ref (ai 0)), (2, .int x2)]) hx hb dX0_takeFrom_3 hl (by decide) rfl (fun ls hl => ?_)
  obtain ⟨n_7, hf⟩ := hf
  exact k_X0_takeFrom_5 C0 hG n_7 C x2 0 _ _ _ hf hP hD hS (lv_sub hl [2, 3, 1, 0] rfl)

def p_X0_total_14 (M : Int32) (N : Int32) (C : Nat → Nat → Int32) (post : Int32 → Prop) (k4 : Int32 → Int32 → Prop) : Nat → Int32 → Int32 → Int32 → Prop
  | 0, _, _, _ => False
  | n + 1, x1, x2, x3 => ((N ≤ x3 → k4 x1 (x2 + 1)) ∧ (¬ N ≤ x3 → (vp_in x2 6 ∧ (vp_in x3 6 ∧ p_X0_total_14 M N C post k4 n (x1 + (C (x2.toNatClampNeg) x3.toNatClampNeg)) x2 (x3 + 1)))))
def p_X0_total_4 (M : Int32) (N : Int32) (C : Nat → Nat → Int32) (post : Int32 → Prop) : Nat → Int32 → Int32 → Prop
  | 0, _, _ => False
  | n + 1, x1, x2 => ((M ≤ x2 → post x1) ∧ (¬ M ≤ x2 → (∃ n_5, p_X0_total_14 M N C post (fun x1 x2 => p_X0_total_4 M N C post n x1 x2) n_5 x1 x2 0)))
def p_X0_total (M : Int32) (N : Int32) (C : Nat → Nat → Int32) (post : Int32 → Prop) : Prop := (∃ n_6, p_X0_total_4 M N C post n_6 0 0)
theorem in_X0_total_X0 : ∀ w ∈ u_ws RX0 TX0 6, w ∈ wsX0_total := by decide +kernel
theorem lk_X0_total_11 : Cond.fieldLink RX0 11 "GrowingCorners$Grid" "rows" "I" ∈ wsX0_total := by decide +kernel
theorem lk_X0_total_15 : Cond.fieldLink RX0 15 "GrowingCorners$Grid" "columns" "I" ∈ wsX0_total := by decide +kernel
theorem lk_X0_total_20 : Cond.fieldLink RX0 20 "GrowingCorners$Grid" "cells" "[[I" ∈ wsX0_total := by decide +kernel
set_option maxHeartbeats 4000000 in
set_option maxRecDepth 100000 in
theorem k_X0_total_14 {p : Program} {l : Launch} {e : Env} {s : State} {m : MethodId} {args : Array Value} {below : List Frame} {meth : Method} {c : Code} {A : Nat → Prop} {D : va_G} {k : Nat → ClassId} {a : Nat → Nat} {M : Int32} {N : Int32} {C : Nat → Nat → Int32} {Gr : Nat → Nat → Int32} {Pr : Nat → Nat → Int64} {Pa : Nat → Nat → Int32} (C0 : xM p s m args meth c cX0_total 4 RX0 (some .int) wsX0_total) (hG : xG D k s) {post : Int32 → Prop} {k4 : Int32 → Int32 → Prop} (hk4 : ∀ (x1 : Int32) (x2 : Int32) (H : Heap) (locs : List Loc) (ls : Array Slot), k4 x1 x2 → va_P D vwCl (wG k a M N C Gr Pr Pa) H → va_D A (wG k a M N C Gr Pr Pa) → va_S A s.heap H locs → lv_has ls 4 [(0, .ref (a 0)), (1, .int x1), (2, .int x2)] → W p l e ({ frames := 0, cells := 0, slots := 0, locals := 0 }) s m args below meth c H locs 0 0 (MQ below (va_Qi (fun (r : Int32) (u : Unit) => post r) (fun u t => va_P D vwCl (wG k a M N C Gr Pr Pa) t.heap) A) args s 0 0 A) (F0 m 4 ls [])) : ∀ (n : Nat) (x1 : Int32) (x2 : Int32) (x3 : Int32) (H : Heap) (locs : List Loc) (ls : Array Slot), p_X0_total_14 M N C post k4 n x1 x2 x3 → va_P D vwCl (wG k a M N C Gr Pr Pa) H → va_D A (wG k a M N C Gr Pr Pa) → va_S A s.heap H locs → lv_has ls 4 [(0, .ref (a 0)), (1, .int x1), (2, .int x2), (3, .int x3)] → W p l e ({ frames := 0, cells := 0, slots := 0, locals := 0 }) s m args below meth c H locs 0 0 (MQ below (va_Qi (fun (r : Int32) (u : Unit) => post r) (fun u t => va_P D vwCl (wG k a M N C Gr Pr Pa) t.heap) A) args s 0 0 A) (F0 m 14 ls []) := by
  obtain ⟨hx, hb, hr, hts, hown, hlocks, hml⟩ := id C0
  intro n
  induction n with
  | zero =>
    intro x1 x2 x3 H locs ls hf
    exact False.elim hf
  | succ n ih =>
    intro x1 x2 x3 H locs ls hf hP hD hS hl
    unfold p_X0_total_14 at hf
    refine lv_iload_n hx hb dX0_total_14 rfl (lv_at hl 3 rfl) ?_
    refine lv_aload_n hx hb dX0_total_15 rfl (lv_at hl 0 rfl) ?_
    refine va_get (D := D) (ci := 0) (C := RX0) (T := TX0) (N := 6) hx hb hts in_X0_total_X0 hown hG.1 hP 0 rfl rfl 1 (by decide) (hts _ lk_X0_total_15) (fun _ h9 => h9) rfl dX0_total_16 ?_
    refine lv_icmp_ge (tgt := 39) hx hb dX0_total_19 (by decide) (fun c_2 => ?_) (fun c_2 => ?_)
    · have hf := hf.1 c_2
      refine lv_iinc (v := x2 + 1) (lv' := [(2, .int (x2 + 1)), (0, .ref (a 0)), (1, .int x1), (3, .int x3)]) hx hb dX0_total_39 hl (k := 2) rfl rfl (by decide) rfl (fun ls hl => ?_)
      refine lv_goto (tgt := 4) hx hb dX0_total_42 (by decide) ?_
      exact hk4 x1 (x2 + 1) _ _ _ hf hP hD hS (lv_sub hl [1, 2, 0] rfl)
    · have hf := hf.2 c_2
      refine lv_iload_n hx hb dX0_total_22 rfl (lv_at hl 1 rfl) ?_
      refine lv_aload_n hx hb dX0_total_23 rfl (lv_at hl 0 rfl) ?_
      refine va_get (D := D) (ci := 0) (C := RX0) (T := TX0) (N := 6) hx hb hts in_X0_total_X0 hown hG.1 hP 0 rfl rfl 2 (by decide) (hts _ lk_X0_total_20) (fun _ h9 => h9) rfl dX0_total_24 ?_
      refine lv_iload_n hx hb dX0_total_27 rfl (lv_at hl 2 rfl) ?_
      obtain ⟨h_3, hf⟩ := hf
      refine xAald (f := fun i => a (i + 5)) hx hb hG.1 hP 1 3 rfl rfl h_3 dX0_total_28 ?_
      refine lv_iload_n hx hb dX0_total_29 rfl (lv_at hl 3 rfl) ?_
      obtain ⟨h_4, hf⟩ := hf
      refine va_iald hx hb hG.1 hP (x2.toNatClampNeg + 5) 0 (wG_row1 (vp_lt h_3)) rfl h_4 dX0_total_30 ?_
      refine lv_iadd hx hb dX0_total_31 ?_
      refine lv_istore_n (lv' := [(1, .int (x1 + (C (x2.toNatClampNeg) x3.toNatClampNeg))), (0, .ref (a 0)), (2, .int x2), (3, .int x3)]) hx hb dX0_total_32 rfl hl (by decide) rfl (fun ls hl => ?_)
      refine lv_iinc (v := x3 + 1) (lv' := [(3, .int (x3 + 1)), (1, .int (x1 + (C (x2.toNatClampNeg) x3.toNatClampNeg))), (0, .ref (a 0)), (2, .int x2)]) hx hb dX0_total_33 hl (k := 3) rfl rfl (by decide) rfl (fun ls hl => ?_)
      refine lv_goto (tgt := 14) hx hb dX0_total_36 (by decide) ?_
      exact ih (x1 + (C (x2.toNatClampNeg) x3.toNatClampNeg)) x2 (x3 + 1) _ _ _ hf hP hD hS (lv_sub hl [2, 1, 3, 0] rfl)
set_option maxHeartbeats 4000000 in
set_option maxRecDepth 100000 in
theorem k_X0_total_4 {p : Program} {l : Launch} {e : Env} {s : State} {m : MethodId} {args : Array Value} {below : List Frame} {meth : Method} {c : Code} {A : Nat → Prop} {D : va_G} {k : Nat → ClassId} {a : Nat → Nat} {M : Int32} {N : Int32} {C : Nat → Nat → Int32} {Gr : Nat → Nat → Int32} {Pr : Nat → Nat → Int64} {Pa : Nat → Nat → Int32} (C0 : xM p s m args meth c cX0_total 4 RX0 (some .int) wsX0_total) (hG : xG D k s) {post : Int32 → Prop} : ∀ (n : Nat) (x1 : Int32) (x2 : Int32) (H : Heap) (locs : List Loc) (ls : Array Slot), p_X0_total_4 M N C post n x1 x2 → va_P D vwCl (wG k a M N C Gr Pr Pa) H → va_D A (wG k a M N C Gr Pr Pa) → va_S A s.heap H locs → lv_has ls 4 [(0, .ref (a 0)), (1, .int x1), (2, .int x2)] → W p l e ({ frames := 0, cells := 0, slots := 0, locals := 0 }) s m args below meth c H locs 0 0 (MQ below (va_Qi (fun (r : Int32) (u : Unit) => post r) (fun u t => va_P D vwCl (wG k a M N C Gr Pr Pa) t.heap) A) args s 0 0 A) (F0 m 4 ls []) := by
  obtain ⟨hx, hb, hr, hts, hown, hlocks, hml⟩ := id C0
  intro n
  induction n with
  | zero =>
    intro x1 x2 H locs ls hf
    exact False.elim hf
  | succ n ih =>
    intro x1 x2 H locs ls hf hP hD hS hl
    unfold p_X0_total_4 at hf
    refine lv_iload_n hx hb dX0_total_4 rfl (lv_at hl 2 rfl) ?_
    refine lv_aload_n hx hb dX0_total_5 rfl (lv_at hl 0 rfl) ?_
    refine va_get (D := D) (ci := 0) (C := RX0) (T := TX0) (N := 6) hx hb hts in_X0_total_X0 hown hG.1 hP 0 rfl rfl 0 (by decide) (hts _ lk_X0_total_11) (fun _ h9 => h9) rfl dX0_total_6 ?_
    refine lv_icmp_ge (tgt := 45) hx hb dX0_total_9 (by decide) (fun c_1 => ?_) (fun c_1 => ?_)
    · have hf := hf.1 c_1
      refine lv_iload_n hx hb dX0_total_45 rfl (lv_at hl 1 rfl) ?_
      exact W.iret (v := x1) hx hb hr (fun t ht hW => ⟨⟨x1, (), rfl, hf, xHp ht hP⟩, hS.F ht⟩) hS.2.2 dX0_total_46 hlocks
    · have hf := hf.2 c_1
      refine lv_iconst (v := 0) hx hb dX0_total_12 (by decide) ?_
      refine lv_istore_n (lv' := [(3, .int 0), (0, .ref (a 0)), (1, .int x1), (2, .int x2)]) hx hb dX0_total_13 rfl hl (by decide) rfl (fun ls hl => ?_)
      obtain ⟨n_5, hf⟩ := hf
      exact k_X0_total_14 C0 hG ih n_5 x1 x2 0 _ _ _ hf hP hD hS (lv_sub hl [1, 2, 3, 0] rfl)
set_option maxHeartbeats 4000000 in
set_option maxRecDepth 100000 in
theorem c_X0_total {l : Launch} {D : va_G} {k : Nat → ClassId} (a : Nat → Nat) (M : Int32) (N : Int32) (C : Nat → Nat → Int32) (Gr : Nat → Nat → Int32) (Pr : Nat → Nat → Int64) (Pa : Nat → Nat → Int32) {post : Int32 → Prop} (hf : p_X0_total M N C post) : ctI l yX0_total wsX0_total ({ frames := 0, cells := 0, slots := 0, locals := 0 }) D k [.ref (a 0)] (wG k a M N C Gr Pr Pa) (fun u : Unit => wG k a M N C Gr Pr Pa) (fun (r : Int32) (u : Unit) => post r) := by
  refine Met.ofW (cc := cX0_total) (maxL := 4) (ret := (some .int)) (by decide) rfl ?_
  intro p e s m args below meth c s₁ B hml hv
  obtain ⟨rfl, hP, hG, hD0⟩ := hv
  have C0 : xM p s m ([.ref (a 0)] : List Value).toArray meth c cX0_total 4 RX0 (some .int) wsX0_total := ⟨B.exec, B.bytes, B.returns, atoms_spec (ws := wsX0_total) B.pre, findClass_of_methodNamed B.named, B.notSynchronized, hml⟩
  obtain ⟨hx, hb, hr, hts, hown, hlocks, hml⟩ := id C0
  have hD := xSelf hD0
  have hS : va_S (xIn (wG k a M N C Gr Pr Pa)) s.heap s.heap [] := va_S.rf
  generalize xIn (wG k a M N C Gr Pr Pa) = A at hD hS ⊢
  have hl := lv_entry ([.ref (a 0)]) (n := 4) (Nat.le_of_ble_eq_true rfl)
  rw [lg_entry_eq]
  generalize (lg_sl ([.ref (a 0)]) ++ List.replicate (4 - (lg_sl ([.ref (a 0)])).length) Slot.unset).toArray = ls at hl ⊢
  have hl : lv_has ls 4 [(0, .ref (a 0))] := hl
  unfold p_X0_total at hf
  refine lv_iconst (v := 0) hx hb dX0_total_0 (by decide) ?_
  refine lv_istore_n (lv' := [(1, .int 0), (0, .ref (a 0))]) hx hb dX0_total_1 rfl hl (by decide) rfl (fun ls hl => ?_)
  refine lv_iconst (v := 0) hx hb dX0_total_2 (by decide) ?_
  refine lv_istore_n (lv' := [(2, .int 0), (1, .int 0), (0, .ref (a 0))]) hx hb dX0_total_3 rfl hl (by decide) rfl (fun ls hl => ?_)
  obtain ⟨n_6, hf⟩ := hf
  exact k_X0_total_4 C0 hG n_6 0 0 _ _ _ hf hP hD hS (lv_sub hl [2, 1, 0] rfl)

def p_X0_transpose_10 (post : Int32 → Int32 → (Nat → Nat → Int32) → Prop) (k2 : Int32 → Int32 → (Nat → Nat → Int32) → Int32 → Prop) : Nat → Int32 → Int32 → (Nat → Nat → Int32) → Int32 → Int32 → Prop
  | 0, _, _, _, _, _ => False
  | n + 1, M, N, C, x1, x2 => ((x1 ≤ x2 → k2 M N C (x1 + 1)) ∧ (¬ x1 ≤ x2 → (vp_in x1 6 ∧ (vp_in x2 6 ∧ (vp_in x1 6 ∧ (vp_in x2 6 ∧ (vp_in x1 6 ∧ (vp_in x2 6 ∧ (vp_in x2 6 ∧ (vp_in x1 6 ∧ p_X0_transpose_10 post k2 n M N (up2 (up2 C (x1.toNatClampNeg) (upd (C (x1.toNatClampNeg)) (x2.toNatClampNeg) (C (x2.toNatClampNeg) x1.toNatClampNeg))) (x2.toNatClampNeg) (upd ((up2 C (x1.toNatClampNeg) (upd (C (x1.toNatClampNeg)) (x2.toNatClampNeg) (C (x2.toNatClampNeg) x1.toNatClampNeg))) (x2.toNatClampNeg)) (x1.toNatClampNeg) (C (x1.toNatClampNeg) x2.toNatClampNeg))) x1 (x2 + 1)))))))))))
def p_X0_transpose_2 (post : Int32 → Int32 → (Nat → Nat → Int32) → Prop) : Nat → Int32 → Int32 → (Nat → Nat → Int32) → Int32 → Prop
  | 0, _, _, _, _ => False
  | n + 1, M, N, C, x1 => ((6 ≤ x1 → post N M C) ∧ (¬ 6 ≤ x1 → (∃ n_11, p_X0_transpose_10 post (fun M N C x1 => p_X0_transpose_2 post n M N C x1) n_11 M N C x1 0)))
def p_X0_transpose (M : Int32) (N : Int32) (C : Nat → Nat → Int32) (post : Int32 → Int32 → (Nat → Nat → Int32) → Prop) : Prop := (∃ n_12, p_X0_transpose_2 post n_12 M N C 0)
theorem in_X0_transpose_X0 : ∀ w ∈ u_ws RX0 TX0 6, w ∈ wsX0_transpose := by decide +kernel
theorem lk_X0_transpose_11 : Cond.fieldLink RX0 11 "GrowingCorners$Grid" "rows" "I" ∈ wsX0_transpose := by decide +kernel
theorem lk_X0_transpose_15 : Cond.fieldLink RX0 15 "GrowingCorners$Grid" "columns" "I" ∈ wsX0_transpose := by decide +kernel
theorem lk_X0_transpose_20 : Cond.fieldLink RX0 20 "GrowingCorners$Grid" "cells" "[[I" ∈ wsX0_transpose := by decide +kernel
set_option maxHeartbeats 4000000 in
set_option maxRecDepth 100000 in
theorem k_X0_transpose_10 {p : Program} {l : Launch} {e : Env} {s : State} {m : MethodId} {args : Array Value} {below : List Frame} {meth : Method} {c : Code} {A : Nat → Prop} {D : va_G} {k : Nat → ClassId} {a : Nat → Nat} {Gr : Nat → Nat → Int32} {Pr : Nat → Nat → Int64} {Pa : Nat → Nat → Int32} (C0 : xM p s m args meth c cX0_transpose 4 RX0 none wsX0_transpose) (hG : xG D k s) {post : Int32 → Int32 → (Nat → Nat → Int32) → Prop} {k2 : Int32 → Int32 → (Nat → Nat → Int32) → Int32 → Prop} (hk2 : ∀ (M : Int32) (N : Int32) (C : Nat → Nat → Int32) (x1 : Int32) (H : Heap) (locs : List Loc) (ls : Array Slot), k2 M N C x1 → va_P D vwCl (wG k a M N C Gr Pr Pa) H → va_D A (wG k a M N C Gr Pr Pa) → va_S A s.heap H locs → lv_has ls 4 [(0, .ref (a 0)), (1, .int x1)] → W p l e ({ frames := 0, cells := 0, slots := 0, locals := 0 }) s m args below meth c H locs 0 0 (MQ below (va_Qv (fun (u : Int32 × Int32 × (Nat → Nat → Int32)) => post u.1 u.2.1 u.2.2) (fun u t => va_P D vwCl (wG k a (u.1) (u.2.1) (u.2.2) Gr Pr Pa) t.heap) A) args s 0 0 A) (F0 m 2 ls [])) : ∀ (n : Nat) (M : Int32) (N : Int32) (C : Nat → Nat → Int32) (x1 : Int32) (x2 : Int32) (H : Heap) (locs : List Loc) (ls : Array Slot), p_X0_transpose_10 post k2 n M N C x1 x2 → va_P D vwCl (wG k a M N C Gr Pr Pa) H → va_D A (wG k a M N C Gr Pr Pa) → va_S A s.heap H locs → lv_has ls 4 [(0, .ref (a 0)), (1, .int x1), (2, .int x2)] → W p l e ({ frames := 0, cells := 0, slots := 0, locals := 0 }) s m args below meth c H locs 0 0 (MQ below (va_Qv (fun (u : Int32 × Int32 × (Nat → Nat → Int32)) => post u.1 u.2.1 u.2.2) (fun u t => va_P D vwCl (wG k a (u.1) (u.2.1) (u.2.2) Gr Pr Pa) t.heap) A) args s 0 0 A) (F0 m 10 ls []) := by
  obtain ⟨hx, hb, hr, hts, hown, hlocks, hml⟩ := id C0
  intro n
  induction n with
  | zero =>
    intro M N C x1 x2 H locs ls hf
    exact False.elim hf
  | succ n ih =>
    intro M N C x1 x2 H locs ls hf hP hD hS hl
    unfold p_X0_transpose_10 at hf
    refine lv_iload_n hx hb dX0_transpose_10 rfl (lv_at hl 2 rfl) ?_
    refine lv_iload_n hx hb dX0_transpose_11 rfl (lv_at hl 1 rfl) ?_
    refine lv_icmp_ge (tgt := 55) hx hb dX0_transpose_12 (by decide) (fun c_2 => ?_) (fun c_2 => ?_)
    · have hf := hf.1 c_2
      refine lv_iinc (v := x1 + 1) (lv' := [(1, .int (x1 + 1)), (0, .ref (a 0)), (2, .int x2)]) hx hb dX0_transpose_55 hl (k := 1) rfl rfl (by decide) rfl (fun ls hl => ?_)
      refine lv_goto (tgt := 2) hx hb dX0_transpose_58 (by decide) ?_
      exact hk2 M N C (x1 + 1) _ _ _ hf hP hD hS (lv_sub hl [1, 0] rfl)
    · have hf := hf.2 c_2
      refine lv_aload_n hx hb dX0_transpose_15 rfl (lv_at hl 0 rfl) ?_
      refine va_get (D := D) (ci := 0) (C := RX0) (T := TX0) (N := 6) hx hb hts in_X0_transpose_X0 hown hG.1 hP 0 rfl rfl 2 (by decide) (hts _ lk_X0_transpose_20) (fun _ h9 => h9) rfl dX0_transpose_16 ?_
      refine lv_iload_n hx hb dX0_transpose_19 rfl (lv_at hl 1 rfl) ?_
      obtain ⟨h_3, hf⟩ := hf
      refine xAald (f := fun i => a (i + 5)) hx hb hG.1 hP 1 3 rfl rfl h_3 dX0_transpose_20 ?_
      refine lv_iload_n hx hb dX0_transpose_21 rfl (lv_at hl 2 rfl) ?_
      obtain ⟨h_4, hf⟩ := hf
      refine va_iald hx hb hG.1 hP (x1.toNatClampNeg + 5) 0 (wG_row1 (vp_lt h_3)) rfl h_4 dX0_transpose_22 ?_
      refine lv_istore_n (lv' := [(3, .int (C (x1.toNatClampNeg) x2.toNatClampNeg)), (0, .ref (a 0)), (1, .int x1), (2, .int x2)]) hx hb dX0_transpose_23 rfl hl (by decide) rfl (fun ls hl => ?_)
      refine lv_aload_n hx hb dX0_transpose_24 rfl (lv_at hl 1 rfl) ?_
      refine va_get (D := D) (ci := 0) (C := RX0) (T := TX0) (N := 6) hx hb hts in_X0_transpose_X0 hown hG.1 hP 0 rfl rfl 2 (by decide) (hts _ lk_X0_transpose_20) (fun _ h9 => h9) rfl dX0_transpose_25 ?_
      refine lv_iload_n hx hb dX0_transpose_28 rfl (lv_at hl 2 rfl) ?_
      obtain ⟨h_5, hf⟩ := hf
      refine xAald (f := fun i => a (i + 5)) hx hb hG.1 hP 1 3 rfl rfl h_5 dX0_transpose_29 ?_
      refine lv_iload_n hx hb dX0_transpose_30 rfl (lv_at hl 3 rfl) ?_
      refine lv_aload_n hx hb dX0_transpose_31 rfl (lv_at hl 1 rfl) ?_
      refine va_get (D := D) (ci := 0) (C := RX0) (T := TX0) (N := 6) hx hb hts in_X0_transpose_X0 hown hG.1 hP 0 rfl rfl 2 (by decide) (hts _ lk_X0_transpose_20) (fun _ h9 => h9) rfl dX0_transpose_32 ?_
      refine lv_iload_n hx hb dX0_transpose_35 rfl (lv_at hl 3 rfl) ?_
      obtain ⟨h_6, hf⟩ := hf
      refine xAald (f := fun i => a (i + 5)) hx hb hG.1 hP 1 3 rfl rfl h_6 dX0_transpose_36 ?_
      refine lv_iload_n hx hb dX0_transpose_37 rfl (lv_at hl 2 rfl) ?_
      obtain ⟨h_7, hf⟩ := hf
      refine va_iald hx hb hG.1 hP (x2.toNatClampNeg + 5) 0 (wG_row1 (vp_lt h_6)) rfl h_7 dX0_transpose_38 ?_
      obtain ⟨h_8, hf⟩ := hf
      refine va_iast hx hb hG.1 hP hD hS (x1.toNatClampNeg + 5) 0 (wG_row1 (vp_lt h_5)) rfl h_8 dX0_transpose_39 (fun H locs hP hD hS => ?_)
      have hP : va_P D vwCl (wG k a M N (up2 C (x1.toNatClampNeg) (upd (C (x1.toNatClampNeg)) (x2.toNatClampNeg) (C (x2.toNatClampNeg) x1.toNatClampNeg))) Gr Pr Pa) H := by rw [← wG_put1 (vp_lt h_5)]; exact hP
      have hD : va_D A (wG k a M N (up2 C (x1.toNatClampNeg) (upd (C (x1.toNatClampNeg)) (x2.toNatClampNeg) (C (x2.toNatClampNeg) x1.toNatClampNeg))) Gr Pr Pa) := by rw [← wG_put1 (vp_lt h_5)]; exact hD
      refine lv_aload_n hx hb dX0_transpose_40 rfl (lv_at hl 1 rfl) ?_
      refine va_get (D := D) (ci := 0) (C := RX0) (T := TX0) (N := 6) hx hb hts in_X0_transpose_X0 hown hG.1 hP 0 rfl rfl 2 (by decide) (hts _ lk_X0_transpose_20) (fun _ h9 => h9) rfl dX0_transpose_41 ?_
      refine lv_iload_n hx hb dX0_transpose_44 rfl (lv_at hl 3 rfl) ?_
      obtain ⟨h_9, hf⟩ := hf
      refine xAald (f := fun i => a (i + 5)) hx hb hG.1 hP 1 3 rfl rfl h_9 dX0_transpose_45 ?_
      refine lv_iload_n hx hb dX0_transpose_46 rfl (lv_at hl 2 rfl) ?_
      refine lv_iload_n hx hb dX0_transpose_47 rfl (lv_at hl 0 rfl) ?_
      obtain ⟨h_10, hf⟩ := hf
      refine va_iast hx hb hG.1 hP hD hS (x2.toNatClampNeg + 5) 0 (wG_row1 (vp_lt h_9)) rfl h_10 dX0_transpose_48 (fun H locs hP hD hS => ?_)
      have hP : va_P D vwCl (wG k a M N (up2 (up2 C (x1.toNatClampNeg) (upd (C (x1.toNatClampNeg)) (x2.toNatClampNeg) (C (x2.toNatClampNeg) x1.toNatClampNeg))) (x2.toNatClampNeg) (upd ((up2 C (x1.toNatClampNeg) (upd (C (x1.toNatClampNeg)) (x2.toNatClampNeg) (C (x2.toNatClampNeg) x1.toNatClampNeg))) (x2.toNatClampNeg)) (x1.toNatClampNeg) (C (x1.toNatClampNeg) x2.toNatClampNeg))) Gr Pr Pa) H := by rw [← wG_put1 (vp_lt h_9)]; exact hP
      have hD : va_D A (wG k a M N (up2 (up2 C (x1.toNatClampNeg) (upd (C (x1.toNatClampNeg)) (x2.toNatClampNeg) (C (x2.toNatClampNeg) x1.toNatClampNeg))) (x2.toNatClampNeg) (upd ((up2 C (x1.toNatClampNeg) (upd (C (x1.toNatClampNeg)) (x2.toNatClampNeg) (C (x2.toNatClampNeg) x1.toNatClampNeg))) (x2.toNatClampNeg)) (x1.toNatClampNeg) (C (x1.toNatClampNeg) x2.toNatClampNeg))) Gr Pr Pa) := by rw [← wG_put1 (vp_lt h_9)]; exact hD
      refine lv_iinc (v := x2 + 1) (lv' := [(2, .int (x2 + 1)), (3, .int (C (x1.toNatClampNeg) x2.toNatClampNeg)), (0, .ref (a 0)), (1, .int x1)]) hx hb dX0_transpose_49 hl (k := 3) rfl rfl (by decide) rfl (fun ls hl => ?_)
      refine lv_goto (tgt := 10) hx hb dX0_transpose_52 (by decide) ?_
      exact ih M N (up2 (up2 C (x1.toNatClampNeg) (upd (C (x1.toNatClampNeg)) (x2.toNatClampNeg) (C (x2.toNatClampNeg) x1.toNatClampNeg))) (x2.toNatClampNeg) (upd ((up2 C (x1.toNatClampNeg) (upd (C (x1.toNatClampNeg)) (x2.toNatClampNeg) (C (x2.toNatClampNeg) x1.toNatClampNeg))) (x2.toNatClampNeg)) (x1.toNatClampNeg) (C (x1.toNatClampNeg) x2.toNatClampNeg))) x1 (x2 + 1) _ _ _ hf hP hD hS (lv_sub hl [2, 3, 0] rfl)
set_option maxHeartbeats 4000000 in
set_option maxRecDepth 100000 in
theorem k_X0_transpose_2 {p : Program} {l : Launch} {e : Env} {s : State} {m : MethodId} {args : Array Value} {below : List Frame} {meth : Method} {c : Code} {A : Nat → Prop} {D : va_G} {k : Nat → ClassId} {a : Nat → Nat} {Gr : Nat → Nat → Int32} {Pr : Nat → Nat → Int64} {Pa : Nat → Nat → Int32} (C0 : xM p s m args meth c cX0_transpose 4 RX0 none wsX0_transpose) (hG : xG D k s) {post : Int32 → Int32 → (Nat → Nat → Int32) → Prop} : ∀ (n : Nat) (M : Int32) (N : Int32) (C : Nat → Nat → Int32) (x1 : Int32) (H : Heap) (locs : List Loc) (ls : Array Slot), p_X0_transpose_2 post n M N C x1 → va_P D vwCl (wG k a M N C Gr Pr Pa) H → va_D A (wG k a M N C Gr Pr Pa) → va_S A s.heap H locs → lv_has ls 4 [(0, .ref (a 0)), (1, .int x1)] → W p l e ({ frames := 0, cells := 0, slots := 0, locals := 0 }) s m args below meth c H locs 0 0 (MQ below (va_Qv (fun (u : Int32 × Int32 × (Nat → Nat → Int32)) => post u.1 u.2.1 u.2.2) (fun u t => va_P D vwCl (wG k a (u.1) (u.2.1) (u.2.2) Gr Pr Pa) t.heap) A) args s 0 0 A) (F0 m 2 ls []) := by
  obtain ⟨hx, hb, hr, hts, hown, hlocks, hml⟩ := id C0
  intro n
  induction n with
  | zero =>
    intro M N C x1 H locs ls hf
    exact False.elim hf
  | succ n ih =>
    intro M N C x1 H locs ls hf hP hD hS hl
    unfold p_X0_transpose_2 at hf
    refine lv_iload_n hx hb dX0_transpose_2 rfl (lv_at hl 1 rfl) ?_
    refine lv_bipush (v := 6) hx hb dX0_transpose_3 (by decide) ?_
    refine lv_icmp_ge (tgt := 61) hx hb dX0_transpose_5 (by decide) (fun c_1 => ?_) (fun c_1 => ?_)
    · have hf := hf.1 c_1
      refine lv_aload_n hx hb dX0_transpose_61 rfl (lv_at hl 0 rfl) ?_
      refine va_get (D := D) (ci := 0) (C := RX0) (T := TX0) (N := 6) hx hb hts in_X0_transpose_X0 hown hG.1 hP 0 rfl rfl 0 (by decide) (hts _ lk_X0_transpose_11) (fun _ h9 => h9) rfl dX0_transpose_62 ?_
      refine lv_istore_n (lv' := [(1, .int M), (0, .ref (a 0))]) hx hb dX0_transpose_65 rfl hl (by decide) rfl (fun ls hl => ?_)
      refine lv_aload_n hx hb dX0_transpose_66 rfl (lv_at hl 1 rfl) ?_
      refine lv_aload_n hx hb dX0_transpose_67 rfl (lv_at hl 1 rfl) ?_
      refine va_get (D := D) (ci := 0) (C := RX0) (T := TX0) (N := 6) hx hb hts in_X0_transpose_X0 hown hG.1 hP 0 rfl rfl 1 (by decide) (hts _ lk_X0_transpose_15) (fun _ h9 => h9) rfl dX0_transpose_68 ?_
      refine va_put (D := D) (ci := 0) (v := .int N) (ty := .int) (C := RX0) (T := TX0) (N := 6) hx hb hts in_X0_transpose_X0 tyX0 tyX0_ok nmX0 hown hG.1 hP hD hS 0 rfl rfl 0 (by decide) (hts _ lk_X0_transpose_11) (fun _ h9 => h9) rfl (by decide +kernel) rfl rfl (Nat.le_of_ble_eq_true rfl) dX0_transpose_71 (fun H locs hP hD hS => ?_)
      have hP : va_P D vwCl (wG k a N N C Gr Pr Pa) H := hP
      have hD : va_D A (wG k a N N C Gr Pr Pa) := hD
      refine lv_aload_n hx hb dX0_transpose_74 rfl (lv_at hl 1 rfl) ?_
      refine lv_iload_n hx hb dX0_transpose_75 rfl (lv_at hl 0 rfl) ?_
      refine va_put (D := D) (ci := 0) (v := .int M) (ty := .int) (C := RX0) (T := TX0) (N := 6) hx hb hts in_X0_transpose_X0 tyX0 tyX0_ok nmX0 hown hG.1 hP hD hS 0 rfl rfl 1 (by decide) (hts _ lk_X0_transpose_15) (fun _ h9 => h9) rfl (by decide +kernel) rfl rfl (Nat.le_of_ble_eq_true rfl) dX0_transpose_76 (fun H locs hP hD hS => ?_)
      have hP : va_P D vwCl (wG k a N M C Gr Pr Pa) H := hP
      have hD : va_D A (wG k a N M C Gr Pr Pa) := hD
      exact W.vret hx hb hr (fun t ht hW => ⟨⟨(N, M, C), rfl, hf, xHp ht hP⟩, hS.F ht⟩) hS.2.2 dX0_transpose_79 hlocks
    · have hf := hf.2 c_1
      refine lv_iconst (v := 0) hx hb dX0_transpose_8 (by decide) ?_
      refine lv_istore_n (lv' := [(2, .int 0), (0, .ref (a 0)), (1, .int x1)]) hx hb dX0_transpose_9 rfl hl (by decide) rfl (fun ls hl => ?_)
      obtain ⟨n_11, hf⟩ := hf
      exact k_X0_transpose_10 C0 hG ih n_11 M N C x1 0 _ _ _ hf hP hD hS (lv_sub hl [1, 2, 0] rfl)
set_option maxHeartbeats 4000000 in
set_option maxRecDepth 100000 in
theorem c_X0_transpose {l : Launch} {D : va_G} {k : Nat → ClassId} (a : Nat → Nat) (M : Int32) (N : Int32) (C : Nat → Nat → Int32) (Gr : Nat → Nat → Int32) (Pr : Nat → Nat → Int64) (Pa : Nat → Nat → Int32) {post : Int32 → Int32 → (Nat → Nat → Int32) → Prop} (hf : p_X0_transpose M N C post) : ctV l yX0_transpose wsX0_transpose ({ frames := 0, cells := 0, slots := 0, locals := 0 }) D k [.ref (a 0)] (wG k a M N C Gr Pr Pa) (fun u : Int32 × Int32 × (Nat → Nat → Int32) => wG k a (u.1) (u.2.1) (u.2.2) Gr Pr Pa) (fun (u : Int32 × Int32 × (Nat → Nat → Int32)) => post u.1 u.2.1 u.2.2) := by
  refine Met.ofW (cc := cX0_transpose) (maxL := 4) (ret := none) (by decide) rfl ?_
  intro p e s m args below meth c s₁ B hml hv
  obtain ⟨rfl, hP, hG, hD0⟩ := hv
  have C0 : xM p s m ([.ref (a 0)] : List Value).toArray meth c cX0_transpose 4 RX0 none wsX0_transpose := ⟨B.exec, B.bytes, B.returns, atoms_spec (ws := wsX0_transpose) B.pre, findClass_of_methodNamed B.named, B.notSynchronized, hml⟩
  obtain ⟨hx, hb, hr, hts, hown, hlocks, hml⟩ := id C0
  have hD := xSelf hD0
  have hS : va_S (xIn (wG k a M N C Gr Pr Pa)) s.heap s.heap [] := va_S.rf
  generalize xIn (wG k a M N C Gr Pr Pa) = A at hD hS ⊢
  have hl := lv_entry ([.ref (a 0)]) (n := 4) (Nat.le_of_ble_eq_true rfl)
  rw [lg_entry_eq]
  generalize (lg_sl ([.ref (a 0)]) ++ List.replicate (4 - (lg_sl ([.ref (a 0)])).length) Slot.unset).toArray = ls at hl ⊢
  have hl : lv_has ls 4 [(0, .ref (a 0))] := hl
  unfold p_X0_transpose at hf
  refine lv_iconst (v := 0) hx hb dX0_transpose_0 (by decide) ?_
  refine lv_istore_n (lv' := [(1, .int 0), (0, .ref (a 0))]) hx hb dX0_transpose_1 rfl hl (by decide) rfl (fun ls hl => ?_)
  obtain ⟨n_12, hf⟩ := hf
  exact k_X0_transpose_2 C0 hG n_12 M N C 0 _ _ _ hf hP hD hS (lv_sub hl [1, 0] rfl)

def p_X0_heaviest_65 (C : Nat → Nat → Int32) (x1 : Int32) (x2 : Int32) (x3 : Int32) (x4 : Int32) (post : Int32 → (Nat → Nat → Int32) → Prop) (k3 : (Nat → Nat → Int32) → Int32 → Prop) (k12 : (Nat → Nat → Int32) → Int32 → Int32 → Prop) (Gr : Nat → Nat → Int32) (x5 : Int32) (x6 : Int32) (x7 : Int32) (s0 : Int32) : Prop := (vp_in x5 6 ∧ (vp_in x5 6 ∧ (vp_in x6 6 ∧ (vp_in x6 6 ∧ k12 (up2 Gr (x5.toNatClampNeg) (upd (Gr (x5.toNatClampNeg)) (x6.toNatClampNeg) ((C (x5.toNatClampNeg) x6.toNatClampNeg) + (if x7 < s0 then s0 else x7)))) x5 (x6 + 1)))))
def p_X0_heaviest_41 (C : Nat → Nat → Int32) (x1 : Int32) (x2 : Int32) (x3 : Int32) (x4 : Int32) (post : Int32 → (Nat → Nat → Int32) → Prop) (k3 : (Nat → Nat → Int32) → Int32 → Prop) (k12 : (Nat → Nat → Int32) → Int32 → Int32 → Prop) (Gr : Nat → Nat → Int32) (x5 : Int32) (x6 : Int32) (s0 : Int32) : Prop := ((x6 ≤ x2 → p_X0_heaviest_65 C x1 x2 x3 x4 post k3 k12 Gr x5 x6 s0 0) ∧ (¬ x6 ≤ x2 → (vp_in x5 6 ∧ (vp_in (x6 - 1) 6 ∧ p_X0_heaviest_65 C x1 x2 x3 x4 post k3 k12 Gr x5 x6 s0 (Gr (x5.toNatClampNeg) (x6 - 1).toNatClampNeg)))))
def p_X0_heaviest_12 (C : Nat → Nat → Int32) (x1 : Int32) (x2 : Int32) (x3 : Int32) (x4 : Int32) (post : Int32 → (Nat → Nat → Int32) → Prop) (k3 : (Nat → Nat → Int32) → Int32 → Prop) : Nat → (Nat → Nat → Int32) → Int32 → Int32 → Prop
  | 0, _, _, _ => False
  | n + 1, Gr, x5, x6 => ((x4 < x6 → k3 Gr (x5 + 1)) ∧ (¬ x4 < x6 → ((x5 ≤ x1 → p_X0_heaviest_41 C x1 x2 x3 x4 post k3 (fun Gr x5 x6 => p_X0_heaviest_12 C x1 x2 x3 x4 post k3 n Gr x5 x6) Gr x5 x6 0) ∧ (¬ x5 ≤ x1 → (vp_in (x5 - 1) 6 ∧ (vp_in x6 6 ∧ p_X0_heaviest_41 C x1 x2 x3 x4 post k3 (fun Gr x5 x6 => p_X0_heaviest_12 C x1 x2 x3 x4 post k3 n Gr x5 x6) Gr x5 x6 (Gr ((x5 - 1).toNatClampNeg) x6.toNatClampNeg)))))))
def p_X0_heaviest_3 (C : Nat → Nat → Int32) (x1 : Int32) (x2 : Int32) (x3 : Int32) (x4 : Int32) (post : Int32 → (Nat → Nat → Int32) → Prop) : Nat → (Nat → Nat → Int32) → Int32 → Prop
  | 0, _, _ => False
  | n + 1, Gr, x5 => ((x3 < x5 → (vp_in x3 6 ∧ (vp_in x4 6 ∧ post (Gr (x3.toNatClampNeg) x4.toNatClampNeg) Gr))) ∧ (¬ x3 < x5 → (∃ n_15, p_X0_heaviest_12 C x1 x2 x3 x4 post (fun Gr x5 => p_X0_heaviest_3 C x1 x2 x3 x4 post n Gr x5) n_15 Gr x5 x2)))
def p_X0_heaviest (C : Nat → Nat → Int32) (Gr : Nat → Nat → Int32) (x1 : Int32) (x2 : Int32) (x3 : Int32) (x4 : Int32) (post : Int32 → (Nat → Nat → Int32) → Prop) : Prop := (∃ n_16, p_X0_heaviest_3 C x1 x2 x3 x4 post n_16 Gr x1)
theorem in_X0_heaviest_X0 : ∀ w ∈ u_ws RX0 TX0 6, w ∈ wsX0_heaviest := by decide +kernel
theorem lk_X0_heaviest_20 : Cond.fieldLink RX0 20 "GrowingCorners$Grid" "cells" "[[I" ∈ wsX0_heaviest := by decide +kernel
theorem lk_X0_heaviest_23 : Cond.fieldLink RX0 23 "GrowingCorners$Grid" "greatest" "[[I" ∈ wsX0_heaviest := by decide +kernel
theorem mb_X0_heaviest_mc_max : Cond.code Lib.Math.max.name Lib.Math.max.code 2 (some .int) ∈ wsX0_heaviest := by decide +kernel
theorem mb_X0_heaviest_mi : Cond.initialized "java/lang/Math" ∈ wsX0_heaviest := by decide +kernel
theorem mb_X0_heaviest_ml50 : Cond.methodLink RX0 50 Lib.Math.max.name ∈ wsX0_heaviest := by decide +kernel
theorem mb_X0_heaviest_ms_max : Cond.static Lib.Math.max.name ∈ wsX0_heaviest := by decide +kernel
set_option maxHeartbeats 4000000 in
set_option maxRecDepth 100000 in
theorem k_X0_heaviest_65 {p : Program} {l : Launch} {e : Env} {s : State} {m : MethodId} {args : Array Value} {below : List Frame} {meth : Method} {c : Code} {A : Nat → Prop} {D : va_G} {k : Nat → ClassId} {a : Nat → Nat} {M : Int32} {N : Int32} {C : Nat → Nat → Int32} {Pr : Nat → Nat → Int64} {Pa : Nat → Nat → Int32} {x1 : Int32} {x2 : Int32} {x3 : Int32} {x4 : Int32} (C0 : xM p s m args meth c cX0_heaviest 9 RX0 (some .int) wsX0_heaviest) (hG : xG D k s) {post : Int32 → (Nat → Nat → Int32) → Prop} {k3 : (Nat → Nat → Int32) → Int32 → Prop} (hk3 : ∀ (Gr : Nat → Nat → Int32) (x5 : Int32) (H : Heap) (locs : List Loc) (ls : Array Slot), k3 Gr x5 → va_P D vwCl (wG k a M N C Gr Pr Pa) H → va_D A (wG k a M N C Gr Pr Pa) → va_S A s.heap H locs → lv_has ls 9 [(0, .ref (a 0)), (1, .int x1), (2, .int x2), (3, .int x3), (4, .int x4), (5, .int x5)] → W p l e ({ frames := 1, cells := 0, slots := 0, locals := 24 }) s m args below meth c H locs 0 0 (MQ below (va_Qi (fun (r : Int32) (u : (Nat → Nat → Int32)) => post r u) (fun u t => va_P D vwCl (wG k a M N C u Pr Pa) t.heap) A) args s 0 0 A) (F0 m 3 ls [])) {k12 : (Nat → Nat → Int32) → Int32 → Int32 → Prop} (hk12 : ∀ (Gr : Nat → Nat → Int32) (x5 : Int32) (x6 : Int32) (H : Heap) (locs : List Loc) (ls : Array Slot), k12 Gr x5 x6 → va_P D vwCl (wG k a M N C Gr Pr Pa) H → va_D A (wG k a M N C Gr Pr Pa) → va_S A s.heap H locs → lv_has ls 9 [(0, .ref (a 0)), (1, .int x1), (2, .int x2), (3, .int x3), (4, .int x4), (5, .int x5), (6, .int x6)] → W p l e ({ frames := 1, cells := 0, slots := 0, locals := 24 }) s m args below meth c H locs 0 0 (MQ below (va_Qi (fun (r : Int32) (u : (Nat → Nat → Int32)) => post r u) (fun u t => va_P D vwCl (wG k a M N C u Pr Pa) t.heap) A) args s 0 0 A) (F0 m 12 ls [])) : ∀ (Gr : Nat → Nat → Int32) (x5 : Int32) (x6 : Int32) (x7 : Int32) (s0 : Int32) (H : Heap) (locs : List Loc) (ls : Array Slot), p_X0_heaviest_65 C x1 x2 x3 x4 post k3 k12 Gr x5 x6 x7 s0 → va_P D vwCl (wG k a M N C Gr Pr Pa) H → va_D A (wG k a M N C Gr Pr Pa) → va_S A s.heap H locs → lv_has ls 9 [(0, .ref (a 0)), (1, .int x1), (2, .int x2), (3, .int x3), (4, .int x4), (5, .int x5), (6, .int x6), (7, .int x7)] → W p l e ({ frames := 1, cells := 0, slots := 0, locals := 24 }) s m args below meth c H locs 0 0 (MQ below (va_Qi (fun (r : Int32) (u : (Nat → Nat → Int32)) => post r u) (fun u t => va_P D vwCl (wG k a M N C u Pr Pa) t.heap) A) args s 0 0 A) (F0 m 65 ls [.int s0]) := by
  obtain ⟨hx, hb, hr, hts, hown, hlocks, hml⟩ := id C0
  intro Gr x5 x6 x7 s0 H locs ls hf hP hD hS hl
  unfold p_X0_heaviest_65 at hf
  refine lv_istore (lv' := [(8, .int s0), (0, .ref (a 0)), (1, .int x1), (2, .int x2), (3, .int x3), (4, .int x4), (5, .int x5), (6, .int x6), (7, .int x7)]) hx hb dX0_heaviest_65 hl (by decide) rfl (fun ls hl => ?_)
  refine lv_aload_n hx hb dX0_heaviest_67 rfl (lv_at hl 1 rfl) ?_
  refine va_get (D := D) (ci := 0) (C := RX0) (T := TX0) (N := 6) hx hb hts in_X0_heaviest_X0 hown hG.1 hP 0 rfl rfl 3 (by decide) (hts _ lk_X0_heaviest_23) (fun _ h9 => h9) rfl dX0_heaviest_68 ?_
  refine lv_iload hx hb dX0_heaviest_71 (lv_at hl 6 rfl) ?_
  obtain ⟨h_7, hf⟩ := hf
  refine xAald (f := fun i => a (i + 11)) hx hb hG.1 hP 2 3 rfl rfl h_7 dX0_heaviest_73 ?_
  refine lv_iload hx hb dX0_heaviest_74 (lv_at hl 7 rfl) ?_
  refine lv_aload_n hx hb dX0_heaviest_76 rfl (lv_at hl 1 rfl) ?_
  refine va_get (D := D) (ci := 0) (C := RX0) (T := TX0) (N := 6) hx hb hts in_X0_heaviest_X0 hown hG.1 hP 0 rfl rfl 2 (by decide) (hts _ lk_X0_heaviest_20) (fun _ h9 => h9) rfl dX0_heaviest_77 ?_
  refine lv_iload hx hb dX0_heaviest_80 (lv_at hl 6 rfl) ?_
  obtain ⟨h_8, hf⟩ := hf
  refine xAald (f := fun i => a (i + 5)) hx hb hG.1 hP 1 3 rfl rfl h_8 dX0_heaviest_82 ?_
  refine lv_iload hx hb dX0_heaviest_83 (lv_at hl 7 rfl) ?_
  obtain ⟨h_9, hf⟩ := hf
  refine va_iald hx hb hG.1 hP (x5.toNatClampNeg + 5) 0 (wG_row1 (vp_lt h_8)) rfl h_9 dX0_heaviest_85 ?_
  refine lv_iload hx hb dX0_heaviest_86 (lv_at hl 8 rfl) ?_
  refine lv_iload hx hb dX0_heaviest_88 (lv_at hl 0 rfl) ?_
  refine va_mmax hx hb (hml.trans hl.1.symm) hown (hts _ mb_X0_heaviest_ml50) (hts _ mb_X0_heaviest_ms_max) (hts _ mb_X0_heaviest_mi) (hts _ mb_X0_heaviest_mc_max) (Nat.le_of_ble_eq_true rfl) (Nat.le_of_ble_eq_true rfl) (Nat.zero_le _) (Nat.zero_le _) dX0_heaviest_90 ?_
  refine lv_iadd hx hb dX0_heaviest_93 ?_
  obtain ⟨h_10, hf⟩ := hf
  refine va_iast hx hb hG.1 hP hD hS (x5.toNatClampNeg + 11) 0 (wG_row2 (vp_lt h_7)) rfl h_10 dX0_heaviest_94 (fun H locs hP hD hS => ?_)
  have hP : va_P D vwCl (wG k a M N C (up2 Gr (x5.toNatClampNeg) (upd (Gr (x5.toNatClampNeg)) (x6.toNatClampNeg) ((C (x5.toNatClampNeg) x6.toNatClampNeg) + (if x7 < s0 then s0 else x7)))) Pr Pa) H := by rw [← wG_put2 (vp_lt h_7)]; exact hP
  have hD : va_D A (wG k a M N C (up2 Gr (x5.toNatClampNeg) (upd (Gr (x5.toNatClampNeg)) (x6.toNatClampNeg) ((C (x5.toNatClampNeg) x6.toNatClampNeg) + (if x7 < s0 then s0 else x7)))) Pr Pa) := by rw [← wG_put2 (vp_lt h_7)]; exact hD
  refine lv_iinc (v := x6 + 1) (lv' := [(6, .int (x6 + 1)), (8, .int s0), (0, .ref (a 0)), (1, .int x1), (2, .int x2), (3, .int x3), (4, .int x4), (5, .int x5), (7, .int x7)]) hx hb dX0_heaviest_95 hl (k := 7) rfl rfl (by decide) rfl (fun ls hl => ?_)
  refine lv_goto (tgt := 12) hx hb dX0_heaviest_98 (by decide) ?_
  exact hk12 (up2 Gr (x5.toNatClampNeg) (upd (Gr (x5.toNatClampNeg)) (x6.toNatClampNeg) ((C (x5.toNatClampNeg) x6.toNatClampNeg) + (if x7 < s0 then s0 else x7)))) x5 (x6 + 1) _ _ _ hf hP hD hS (lv_sub hl [2, 3, 4, 5, 6, 7, 0] rfl)
set_option maxHeartbeats 4000000 in
set_option maxRecDepth 100000 in
theorem k_X0_heaviest_41 {p : Program} {l : Launch} {e : Env} {s : State} {m : MethodId} {args : Array Value} {below : List Frame} {meth : Method} {c : Code} {A : Nat → Prop} {D : va_G} {k : Nat → ClassId} {a : Nat → Nat} {M : Int32} {N : Int32} {C : Nat → Nat → Int32} {Pr : Nat → Nat → Int64} {Pa : Nat → Nat → Int32} {x1 : Int32} {x2 : Int32} {x3 : Int32} {x4 : Int32} (C0 : xM p s m args meth c cX0_heaviest 9 RX0 (some .int) wsX0_heaviest) (hG : xG D k s) {post : Int32 → (Nat → Nat → Int32) → Prop} {k3 : (Nat → Nat → Int32) → Int32 → Prop} (hk3 : ∀ (Gr : Nat → Nat → Int32) (x5 : Int32) (H : Heap) (locs : List Loc) (ls : Array Slot), k3 Gr x5 → va_P D vwCl (wG k a M N C Gr Pr Pa) H → va_D A (wG k a M N C Gr Pr Pa) → va_S A s.heap H locs → lv_has ls 9 [(0, .ref (a 0)), (1, .int x1), (2, .int x2), (3, .int x3), (4, .int x4), (5, .int x5)] → W p l e ({ frames := 1, cells := 0, slots := 0, locals := 24 }) s m args below meth c H locs 0 0 (MQ below (va_Qi (fun (r : Int32) (u : (Nat → Nat → Int32)) => post r u) (fun u t => va_P D vwCl (wG k a M N C u Pr Pa) t.heap) A) args s 0 0 A) (F0 m 3 ls [])) {k12 : (Nat → Nat → Int32) → Int32 → Int32 → Prop} (hk12 : ∀ (Gr : Nat → Nat → Int32) (x5 : Int32) (x6 : Int32) (H : Heap) (locs : List Loc) (ls : Array Slot), k12 Gr x5 x6 → va_P D vwCl (wG k a M N C Gr Pr Pa) H → va_D A (wG k a M N C Gr Pr Pa) → va_S A s.heap H locs → lv_has ls 9 [(0, .ref (a 0)), (1, .int x1), (2, .int x2), (3, .int x3), (4, .int x4), (5, .int x5), (6, .int x6)] → W p l e ({ frames := 1, cells := 0, slots := 0, locals := 24 }) s m args below meth c H locs 0 0 (MQ below (va_Qi (fun (r : Int32) (u : (Nat → Nat → Int32)) => post r u) (fun u t => va_P D vwCl (wG k a M N C u Pr Pa) t.heap) A) args s 0 0 A) (F0 m 12 ls [])) : ∀ (Gr : Nat → Nat → Int32) (x5 : Int32) (x6 : Int32) (s0 : Int32) (H : Heap) (locs : List Loc) (ls : Array Slot), p_X0_heaviest_41 C x1 x2 x3 x4 post k3 k12 Gr x5 x6 s0 → va_P D vwCl (wG k a M N C Gr Pr Pa) H → va_D A (wG k a M N C Gr Pr Pa) → va_S A s.heap H locs → lv_has ls 9 [(0, .ref (a 0)), (1, .int x1), (2, .int x2), (3, .int x3), (4, .int x4), (5, .int x5), (6, .int x6)] → W p l e ({ frames := 1, cells := 0, slots := 0, locals := 24 }) s m args below meth c H locs 0 0 (MQ below (va_Qi (fun (r : Int32) (u : (Nat → Nat → Int32)) => post r u) (fun u t => va_P D vwCl (wG k a M N C u Pr Pa) t.heap) A) args s 0 0 A) (F0 m 41 ls [.int s0]) := by
  obtain ⟨hx, hb, hr, hts, hown, hlocks, hml⟩ := id C0
  intro Gr x5 x6 s0 H locs ls hf hP hD hS hl
  unfold p_X0_heaviest_41 at hf
  refine lv_istore (lv' := [(7, .int s0), (0, .ref (a 0)), (1, .int x1), (2, .int x2), (3, .int x3), (4, .int x4), (5, .int x5), (6, .int x6)]) hx hb dX0_heaviest_41 hl (by decide) rfl (fun ls hl => ?_)
  refine lv_iload hx hb dX0_heaviest_43 (lv_at hl 7 rfl) ?_
  refine lv_iload_n hx hb dX0_heaviest_45 rfl (lv_at hl 3 rfl) ?_
  refine lv_icmp_le (tgt := 64) hx hb dX0_heaviest_46 (by decide) (fun c_6 => ?_) (fun c_6 => ?_)
  · have hf := hf.1 c_6
    refine lv_iconst (v := 0) hx hb dX0_heaviest_64 (by decide) ?_
    exact k_X0_heaviest_65 C0 hG hk3 hk12 Gr x5 x6 s0 0 _ _ _ hf hP hD hS (lv_sub hl [1, 2, 3, 4, 5, 6, 7, 0] rfl)
  · have hf := hf.2 c_6
    refine lv_aload_n hx hb dX0_heaviest_49 rfl (lv_at hl 1 rfl) ?_
    refine va_get (D := D) (ci := 0) (C := RX0) (T := TX0) (N := 6) hx hb hts in_X0_heaviest_X0 hown hG.1 hP 0 rfl rfl 3 (by decide) (hts _ lk_X0_heaviest_23) (fun _ h9 => h9) rfl dX0_heaviest_50 ?_
    refine lv_iload hx hb dX0_heaviest_53 (lv_at hl 6 rfl) ?_
    obtain ⟨h_11, hf⟩ := hf
    refine xAald (f := fun i => a (i + 11)) hx hb hG.1 hP 2 3 rfl rfl h_11 dX0_heaviest_55 ?_
    refine lv_iload hx hb dX0_heaviest_56 (lv_at hl 7 rfl) ?_
    refine lv_iconst (v := 1) hx hb dX0_heaviest_58 (by decide) ?_
    refine lv_isub hx hb dX0_heaviest_59 ?_
    obtain ⟨h_12, hf⟩ := hf
    refine va_iald hx hb hG.1 hP (x5.toNatClampNeg + 11) 0 (wG_row2 (vp_lt h_11)) rfl h_12 dX0_heaviest_60 ?_
    refine lv_goto (tgt := 65) hx hb dX0_heaviest_61 (by decide) ?_
    exact k_X0_heaviest_65 C0 hG hk3 hk12 Gr x5 x6 s0 (Gr (x5.toNatClampNeg) (x6 - 1).toNatClampNeg) _ _ _ hf hP hD hS (lv_sub hl [1, 2, 3, 4, 5, 6, 7, 0] rfl)
set_option maxHeartbeats 4000000 in
set_option maxRecDepth 100000 in
theorem k_X0_heaviest_12 {p : Program} {l : Launch} {e : Env} {s : State} {m : MethodId} {args : Array Value} {below : List Frame} {meth : Method} {c : Code} {A : Nat → Prop} {D : va_G} {k : Nat → ClassId} {a : Nat → Nat} {M : Int32} {N : Int32} {C : Nat → Nat → Int32} {Pr : Nat → Nat → Int64} {Pa : Nat → Nat → Int32} {x1 : Int32} {x2 : Int32} {x3 : Int32} {x4 : Int32} (C0 : xM p s m args meth c cX0_heaviest 9 RX0 (some .int) wsX0_heaviest) (hG : xG D k s) {post : Int32 → (Nat → Nat → Int32) → Prop} {k3 : (Nat → Nat → Int32) → Int32 → Prop} (hk3 : ∀ (Gr : Nat → Nat → Int32) (x5 : Int32) (H : Heap) (locs : List Loc) (ls : Array Slot), k3 Gr x5 → va_P D vwCl (wG k a M N C Gr Pr Pa) H → va_D A (wG k a M N C Gr Pr Pa) → va_S A s.heap H locs → lv_has ls 9 [(0, .ref (a 0)), (1, .int x1), (2, .int x2), (3, .int x3), (4, .int x4), (5, .int x5)] → W p l e ({ frames := 1, cells := 0, slots := 0, locals := 24 }) s m args below meth c H locs 0 0 (MQ below (va_Qi (fun (r : Int32) (u : (Nat → Nat → Int32)) => post r u) (fun u t => va_P D vwCl (wG k a M N C u Pr Pa) t.heap) A) args s 0 0 A) (F0 m 3 ls [])) : ∀ (n : Nat) (Gr : Nat → Nat → Int32) (x5 : Int32) (x6 : Int32) (H : Heap) (locs : List Loc) (ls : Array Slot), p_X0_heaviest_12 C x1 x2 x3 x4 post k3 n Gr x5 x6 → va_P D vwCl (wG k a M N C Gr Pr Pa) H → va_D A (wG k a M N C Gr Pr Pa) → va_S A s.heap H locs → lv_has ls 9 [(0, .ref (a 0)), (1, .int x1), (2, .int x2), (3, .int x3), (4, .int x4), (5, .int x5), (6, .int x6)] → W p l e ({ frames := 1, cells := 0, slots := 0, locals := 24 }) s m args below meth c H locs 0 0 (MQ below (va_Qi (fun (r : Int32) (u : (Nat → Nat → Int32)) => post r u) (fun u t => va_P D vwCl (wG k a M N C u Pr Pa) t.heap) A) args s 0 0 A) (F0 m 12 ls []) := by
  obtain ⟨hx, hb, hr, hts, hown, hlocks, hml⟩ := id C0
  intro n
  induction n with
  | zero =>
    intro Gr x5 x6 H locs ls hf
    exact False.elim hf
  | succ n ih =>
    intro Gr x5 x6 H locs ls hf hP hD hS hl
    unfold p_X0_heaviest_12 at hf
    refine lv_iload hx hb dX0_heaviest_12 (lv_at hl 6 rfl) ?_
    refine lv_iload hx hb dX0_heaviest_14 (lv_at hl 4 rfl) ?_
    refine lv_icmp_gt (tgt := 101) hx hb dX0_heaviest_16 (by decide) (fun c_4 => ?_) (fun c_4 => ?_)
    · have hf := hf.1 c_4
      refine lv_iinc (v := x5 + 1) (lv' := [(5, .int (x5 + 1)), (0, .ref (a 0)), (1, .int x1), (2, .int x2), (3, .int x3), (4, .int x4), (6, .int x6)]) hx hb dX0_heaviest_101 hl (k := 5) rfl rfl (by decide) rfl (fun ls hl => ?_)
      refine lv_goto (tgt := 3) hx hb dX0_heaviest_104 (by decide) ?_
      exact hk3 Gr (x5 + 1) _ _ _ hf hP hD hS (lv_sub hl [1, 2, 3, 4, 5, 0] rfl)
    · have hf := hf.2 c_4
      refine lv_iload hx hb dX0_heaviest_19 (lv_at hl 5 rfl) ?_
      refine lv_iload_n hx hb dX0_heaviest_21 rfl (lv_at hl 1 rfl) ?_
      refine lv_icmp_le (tgt := 40) hx hb dX0_heaviest_22 (by decide) (fun c_5 => ?_) (fun c_5 => ?_)
      · have hf := hf.1 c_5
        refine lv_iconst (v := 0) hx hb dX0_heaviest_40 (by decide) ?_
        exact k_X0_heaviest_41 C0 hG hk3 ih Gr x5 x6 0 _ _ _ hf hP hD hS (lv_sub hl [0, 1, 2, 3, 4, 5, 6] rfl)
      · have hf := hf.2 c_5
        refine lv_aload_n hx hb dX0_heaviest_25 rfl (lv_at hl 0 rfl) ?_
        refine va_get (D := D) (ci := 0) (C := RX0) (T := TX0) (N := 6) hx hb hts in_X0_heaviest_X0 hown hG.1 hP 0 rfl rfl 3 (by decide) (hts _ lk_X0_heaviest_23) (fun _ h9 => h9) rfl dX0_heaviest_26 ?_
        refine lv_iload hx hb dX0_heaviest_29 (lv_at hl 5 rfl) ?_
        refine lv_iconst (v := 1) hx hb dX0_heaviest_31 (by decide) ?_
        refine lv_isub hx hb dX0_heaviest_32 ?_
        obtain ⟨h_13, hf⟩ := hf
        refine xAald (f := fun i => a (i + 11)) hx hb hG.1 hP 2 3 rfl rfl h_13 dX0_heaviest_33 ?_
        refine lv_iload hx hb dX0_heaviest_34 (lv_at hl 6 rfl) ?_
        obtain ⟨h_14, hf⟩ := hf
        refine va_iald hx hb hG.1 hP ((x5 - 1).toNatClampNeg + 11) 0 (wG_row2 (vp_lt h_13)) rfl h_14 dX0_heaviest_36 ?_
        refine lv_goto (tgt := 41) hx hb dX0_heaviest_37 (by decide) ?_
        exact k_X0_heaviest_41 C0 hG hk3 ih Gr x5 x6 (Gr ((x5 - 1).toNatClampNeg) x6.toNatClampNeg) _ _ _ hf hP hD hS (lv_sub hl [0, 1, 2, 3, 4, 5, 6] rfl)
set_option maxHeartbeats 4000000 in
set_option maxRecDepth 100000 in
theorem k_X0_heaviest_3 {p : Program} {l : Launch} {e : Env} {s : State} {m : MethodId} {args : Array Value} {below : List Frame} {meth : Method} {c : Code} {A : Nat → Prop} {D : va_G} {k : Nat → ClassId} {a : Nat → Nat} {M : Int32} {N : Int32} {C : Nat → Nat → Int32} {Pr : Nat → Nat → Int64} {Pa : Nat → Nat → Int32} {x1 : Int32} {x2 : Int32} {x3 : Int32} {x4 : Int32} (C0 : xM p s m args meth c cX0_heaviest 9 RX0 (some .int) wsX0_heaviest) (hG : xG D k s) {post : Int32 → (Nat → Nat → Int32) → Prop} : ∀ (n : Nat) (Gr : Nat → Nat → Int32) (x5 : Int32) (H : Heap) (locs : List Loc) (ls : Array Slot), p_X0_heaviest_3 C x1 x2 x3 x4 post n Gr x5 → va_P D vwCl (wG k a M N C Gr Pr Pa) H → va_D A (wG k a M N C Gr Pr Pa) → va_S A s.heap H locs → lv_has ls 9 [(0, .ref (a 0)), (1, .int x1), (2, .int x2), (3, .int x3), (4, .int x4), (5, .int x5)] → W p l e ({ frames := 1, cells := 0, slots := 0, locals := 24 }) s m args below meth c H locs 0 0 (MQ below (va_Qi (fun (r : Int32) (u : (Nat → Nat → Int32)) => post r u) (fun u t => va_P D vwCl (wG k a M N C u Pr Pa) t.heap) A) args s 0 0 A) (F0 m 3 ls []) := by
  obtain ⟨hx, hb, hr, hts, hown, hlocks, hml⟩ := id C0
  intro n
  induction n with
  | zero =>
    intro Gr x5 H locs ls hf
    exact False.elim hf
  | succ n ih =>
    intro Gr x5 H locs ls hf hP hD hS hl
    unfold p_X0_heaviest_3 at hf
    refine lv_iload hx hb dX0_heaviest_3 (lv_at hl 5 rfl) ?_
    refine lv_iload_n hx hb dX0_heaviest_5 rfl (lv_at hl 3 rfl) ?_
    refine lv_icmp_gt (tgt := 107) hx hb dX0_heaviest_6 (by decide) (fun c_1 => ?_) (fun c_1 => ?_)
    · have hf := hf.1 c_1
      refine lv_aload_n hx hb dX0_heaviest_107 rfl (lv_at hl 0 rfl) ?_
      refine va_get (D := D) (ci := 0) (C := RX0) (T := TX0) (N := 6) hx hb hts in_X0_heaviest_X0 hown hG.1 hP 0 rfl rfl 3 (by decide) (hts _ lk_X0_heaviest_23) (fun _ h9 => h9) rfl dX0_heaviest_108 ?_
      refine lv_iload_n hx hb dX0_heaviest_111 rfl (lv_at hl 3 rfl) ?_
      obtain ⟨h_2, hf⟩ := hf
      refine xAald (f := fun i => a (i + 11)) hx hb hG.1 hP 2 3 rfl rfl h_2 dX0_heaviest_112 ?_
      refine lv_iload hx hb dX0_heaviest_113 (lv_at hl 4 rfl) ?_
      obtain ⟨h_3, hf⟩ := hf
      refine va_iald hx hb hG.1 hP (x3.toNatClampNeg + 11) 0 (wG_row2 (vp_lt h_2)) rfl h_3 dX0_heaviest_115 ?_
      exact W.iret (v := (Gr (x3.toNatClampNeg) x4.toNatClampNeg)) hx hb hr (fun t ht hW => ⟨⟨(Gr (x3.toNatClampNeg) x4.toNatClampNeg), Gr, rfl, hf, xHp ht hP⟩, hS.F ht⟩) hS.2.2 dX0_heaviest_116 hlocks
    · have hf := hf.2 c_1
      refine lv_iload_n hx hb dX0_heaviest_9 rfl (lv_at hl 2 rfl) ?_
      refine lv_istore (lv' := [(6, .int x2), (0, .ref (a 0)), (1, .int x1), (2, .int x2), (3, .int x3), (4, .int x4), (5, .int x5)]) hx hb dX0_heaviest_10 hl (by decide) rfl (fun ls hl => ?_)
      obtain ⟨n_15, hf⟩ := hf
      exact k_X0_heaviest_12 C0 hG ih n_15 Gr x5 x2 _ _ _ hf hP hD hS (lv_sub hl [1, 2, 3, 4, 5, 6, 0] rfl)
set_option maxHeartbeats 4000000 in
set_option maxRecDepth 100000 in
theorem c_X0_heaviest {l : Launch} {D : va_G} {k : Nat → ClassId} (a : Nat → Nat) (M : Int32) (N : Int32) (C : Nat → Nat → Int32) (Gr : Nat → Nat → Int32) (Pr : Nat → Nat → Int64) (Pa : Nat → Nat → Int32) (x1 : Int32) (x2 : Int32) (x3 : Int32) (x4 : Int32) {post : Int32 → (Nat → Nat → Int32) → Prop} (hf : p_X0_heaviest C Gr x1 x2 x3 x4 post) : ctI l yX0_heaviest wsX0_heaviest ({ frames := 1, cells := 0, slots := 0, locals := 24 }) D k [.ref (a 0), .int x1, .int x2, .int x3, .int x4] (wG k a M N C Gr Pr Pa) (fun u : (Nat → Nat → Int32) => wG k a M N C u Pr Pa) (fun (r : Int32) (u : (Nat → Nat → Int32)) => post r u) := by
  refine Met.ofW (cc := cX0_heaviest) (maxL := 9) (ret := (some .int)) (by decide) rfl ?_
  intro p e s m args below meth c s₁ B hml hv
  obtain ⟨rfl, hP, hG, hD0⟩ := hv
  have C0 : xM p s m ([.ref (a 0), .int x1, .int x2, .int x3, .int x4] : List Value).toArray meth c cX0_heaviest 9 RX0 (some .int) wsX0_heaviest := ⟨B.exec, B.bytes, B.returns, atoms_spec (ws := wsX0_heaviest) B.pre, findClass_of_methodNamed B.named, B.notSynchronized, hml⟩
  obtain ⟨hx, hb, hr, hts, hown, hlocks, hml⟩ := id C0
  have hD := xSelf hD0
  have hS : va_S (xIn (wG k a M N C Gr Pr Pa)) s.heap s.heap [] := va_S.rf
  generalize xIn (wG k a M N C Gr Pr Pa) = A at hD hS ⊢
  have hl := lv_entry ([.ref (a 0), .int x1, .int x2, .int x3, .int x4]) (n := 9) (Nat.le_of_ble_eq_true rfl)
  rw [lg_entry_eq]
  generalize (lg_sl ([.ref (a 0), .int x1, .int x2, .int x3, .int x4]) ++ List.replicate (9 - (lg_sl ([.ref (a 0), .int x1, .int x2, .int x3, .int x4])).length) Slot.unset).toArray = ls at hl ⊢
  have hl : lv_has ls 9 [(0, .ref (a 0)), (1, .int x1), (2, .int x2), (3, .int x3), (4, .int x4)] := hl
  unfold p_X0_heaviest at hf
  refine lv_iload_n hx hb dX0_heaviest_0 rfl (lv_at hl 1 rfl) ?_
  refine lv_istore (lv' := [(5, .int x1), (0, .ref (a 0)), (1, .int x1), (2, .int x2), (3, .int x3), (4, .int x4)]) hx hb dX0_heaviest_1 hl (by decide) rfl (fun ls hl => ?_)
  obtain ⟨n_16, hf⟩ := hf
  exact k_X0_heaviest_3 C0 hG n_16 Gr x1 _ _ _ hf hP hD hS (lv_sub hl [1, 2, 3, 4, 5, 0] rfl)

def p_X0_cornerNumber (x0 : Int32) (x1 : Int32) (post : Int32 → Prop) : Prop := post ((x0 * 7) + x1)
set_option maxHeartbeats 4000000 in
set_option maxRecDepth 100000 in
theorem c_X0_cornerNumber {l : Launch} {D : va_G} {k : Nat → ClassId} (x0 : Int32) (x1 : Int32) {post : Int32 → Prop} (hf : p_X0_cornerNumber x0 x1 post) : ctI l yX0_cornerNumber wsX0_cornerNumber ({ frames := 0, cells := 0, slots := 0, locals := 0 }) D k [.int x0, .int x1] ([]) (fun u : Unit => []) (fun (r : Int32) (u : Unit) => post r) := by
  refine Met.ofW (cc := cX0_cornerNumber) (maxL := 2) (ret := (some .int)) (by decide) rfl ?_
  intro p e s m args below meth c s₁ B hml hv
  obtain ⟨rfl, hP, hG, hD0⟩ := hv
  have C0 : xM p s m ([.int x0, .int x1] : List Value).toArray meth c cX0_cornerNumber 2 RX0 (some .int) wsX0_cornerNumber := ⟨B.exec, B.bytes, B.returns, atoms_spec (ws := wsX0_cornerNumber) B.pre, findClass_of_methodNamed B.named, B.notSynchronized, hml⟩
  obtain ⟨hx, hb, hr, hts, hown, hlocks, hml⟩ := id C0
  have hD := xSelf hD0
  have hS : va_S (xIn ([])) s.heap s.heap [] := va_S.rf
  generalize xIn ([]) = A at hD hS ⊢
  have hl := lv_entry ([.int x0, .int x1]) (n := 2) (Nat.le_of_ble_eq_true rfl)
  rw [lg_entry_eq]
  generalize (lg_sl ([.int x0, .int x1]) ++ List.replicate (2 - (lg_sl ([.int x0, .int x1])).length) Slot.unset).toArray = ls at hl ⊢
  have hl : lv_has ls 2 [(0, .int x0), (1, .int x1)] := hl
  unfold p_X0_cornerNumber at hf
  refine lv_iload_n hx hb dX0_cornerNumber_0 rfl (lv_at hl 0 rfl) ?_
  refine lv_bipush (v := 7) hx hb dX0_cornerNumber_1 (by decide) ?_
  refine lv_imul hx hb dX0_cornerNumber_3 ?_
  refine lv_iload_n hx hb dX0_cornerNumber_4 rfl (lv_at hl 1 rfl) ?_
  refine lv_iadd hx hb dX0_cornerNumber_5 ?_
  exact W.iret (v := ((x0 * 7) + x1)) hx hb hr (fun t ht hW => ⟨⟨((x0 * 7) + x1), (), rfl, hf, xHp ht hP⟩, hS.F ht⟩) hS.2.2 dX0_cornerNumber_6 hlocks

def p_X0_growCorner_86 (C : Nat → Nat → Int32) (x1 : Int32) (x2 : Int32) (post : (Nat → Nat → Int32) → Prop) : Nat → (Nat → Nat → Int32) → Nat → Nat → Nat → Nat → Int32 → Prop
  | 0, _, _, _, _, _, _ => False
  | n + 1, Pa, x3, x4, x5, x6, x7 => ((6 ≤ x7 → post Pa) ∧ (¬ 6 ≤ x7 → (vp_in x7 6 ∧ (vp_in x7 6 ∧ (vp_in (x7 - 1) 6 ∧ (vp_in (x7 - 1) 6 ∧ (vp_in (x7 - 1) 6 ∧ (vp_in x7 6 ∧ p_X0_growCorner_86 C x1 x2 post n (up2 Pa x6 (upd (Pa x6) (x7.toNatClampNeg) (((if (Pa x4 x7.toNatClampNeg) < (Pa x5 x7.toNatClampNeg) then (Pa x5 x7.toNatClampNeg) else (Pa x4 x7.toNatClampNeg)) + (if (Pa x5 (x7 - 1).toNatClampNeg) < (Pa x4 (x7 - 1).toNatClampNeg) then (Pa x5 (x7 - 1).toNatClampNeg) else (Pa x4 (x7 - 1).toNatClampNeg))) - (Pa x3 (x7 - 1).toNatClampNeg)))) x3 x4 x5 x6 (x7 + 1)))))))))
def p_X0_growCorner (C : Nat → Nat → Int32) (Pa : Nat → Nat → Int32) (x1 : Int32) (x2 : Int32) (post : (Nat → Nat → Int32) → Prop) : Prop := p_X0_cornerNumber (x1 - 1) (x2 - 1) (fun r_1 => (vp_in r_1 49 ∧ p_X0_cornerNumber (x1 - 1) x2 (fun r_3 => (vp_in r_3 49 ∧ p_X0_cornerNumber x1 (x2 - 1) (fun r_5 => (vp_in r_5 49 ∧ p_X0_cornerNumber x1 x2 (fun r_7 => (vp_in r_7 49 ∧ (vp_in 0 6 ∧ (vp_in 0 6 ∧ (vp_in (x1 - 1) 6 ∧ (vp_in (x2 - 1) 6 ∧ (vp_in 0 6 ∧ (∃ n_21, p_X0_growCorner_86 C x1 x2 post n_21 (up2 Pa (r_7.toNatClampNeg) (upd (Pa (r_7.toNatClampNeg)) ((0 : Int32).toNatClampNeg) ((if (Pa (r_3.toNatClampNeg) (0 : Int32).toNatClampNeg) < (Pa (r_5.toNatClampNeg) (0 : Int32).toNatClampNeg) then (Pa (r_5.toNatClampNeg) (0 : Int32).toNatClampNeg) else (Pa (r_3.toNatClampNeg) (0 : Int32).toNatClampNeg)) + (C ((x1 - 1).toNatClampNeg) (x2 - 1).toNatClampNeg)))) (r_1.toNatClampNeg) (r_3.toNatClampNeg) (r_5.toNatClampNeg) (r_7.toNatClampNeg) 1))))))))))))))
theorem in_X0_growCorner_X0 : ∀ w ∈ u_ws RX0 TX0 6, w ∈ wsX0_growCorner := by decide +kernel
theorem lk_X0_growCorner_20 : Cond.fieldLink RX0 20 "GrowingCorners$Grid" "cells" "[[I" ∈ wsX0_growCorner := by decide +kernel
theorem lk_X0_growCorner_31 : Cond.fieldLink RX0 31 "GrowingCorners$Grid" "parts" "[[I" ∈ wsX0_growCorner := by decide +kernel
theorem mb_X0_growCorner_mc_max : Cond.code Lib.Math.max.name Lib.Math.max.code 2 (some .int) ∈ wsX0_growCorner := by decide +kernel
theorem mb_X0_growCorner_mc_min : Cond.code Lib.Math.min.name Lib.Math.min.code 2 (some .int) ∈ wsX0_growCorner := by decide +kernel
theorem mb_X0_growCorner_mi : Cond.initialized "java/lang/Math" ∈ wsX0_growCorner := by decide +kernel
theorem mb_X0_growCorner_ml50 : Cond.methodLink RX0 50 Lib.Math.max.name ∈ wsX0_growCorner := by decide +kernel
theorem mb_X0_growCorner_ml63 : Cond.methodLink RX0 63 Lib.Math.min.name ∈ wsX0_growCorner := by decide +kernel
theorem mb_X0_growCorner_ms_max : Cond.static Lib.Math.max.name ∈ wsX0_growCorner := by decide +kernel
theorem mb_X0_growCorner_ms_min : Cond.static Lib.Math.min.name ∈ wsX0_growCorner := by decide +kernel
set_option maxHeartbeats 4000000 in
set_option maxRecDepth 100000 in
theorem k_X0_growCorner_86 {p : Program} {l : Launch} {e : Env} {s : State} {m : MethodId} {args : Array Value} {below : List Frame} {meth : Method} {c : Code} {A : Nat → Prop} {D : va_G} {k : Nat → ClassId} {a : Nat → Nat} {M : Int32} {N : Int32} {C : Nat → Nat → Int32} {Gr : Nat → Nat → Int32} {Pr : Nat → Nat → Int64} {x1 : Int32} {x2 : Int32} (C0 : xM p s m args meth c cX0_growCorner 8 RX0 none wsX0_growCorner) (hG : xG D k s) {post : (Nat → Nat → Int32) → Prop} : ∀ (n : Nat) (Pa : Nat → Nat → Int32) (x3 : Nat) (x4 : Nat) (x5 : Nat) (x6 : Nat) (x7 : Int32) (H : Heap) (locs : List Loc) (ls : Array Slot), p_X0_growCorner_86 C x1 x2 post n Pa x3 x4 x5 x6 x7 → x3 < 49 → x4 < 49 → x5 < 49 → x6 < 49 → va_P D vwCl (wG k a M N C Gr Pr Pa) H → va_D A (wG k a M N C Gr Pr Pa) → va_S A s.heap H locs → lv_has ls 8 [(3, .ref (a (x3 + 23))), (4, .ref (a (x4 + 23))), (5, .ref (a (x5 + 23))), (6, .ref (a (x6 + 23))), (7, .int x7)] → W p l e ({ frames := 1, cells := 0, slots := 0, locals := 24 }) s m args below meth c H locs 0 0 (MQ below (va_Qv (fun (u : (Nat → Nat → Int32)) => post u) (fun u t => va_P D vwCl (wG k a M N C Gr Pr u) t.heap) A) args s 0 0 A) (F0 m 86 ls []) := by
  obtain ⟨hx, hb, hr, hts, hown, hlocks, hml⟩ := id C0
  intro n
  induction n with
  | zero =>
    intro Pa x3 x4 x5 x6 x7 H locs ls hf
    exact False.elim hf
  | succ n ih =>
    intro Pa x3 x4 x5 x6 x7 H locs ls hf hx3 hx4 hx5 hx6 hP hD hS hl
    unfold p_X0_growCorner_86 at hf
    refine lv_iload hx hb dX0_growCorner_86 (lv_at hl 4 rfl) ?_
    refine lv_bipush (v := 6) hx hb dX0_growCorner_88 (by decide) ?_
    refine lv_icmp_ge (tgt := 142) hx hb dX0_growCorner_90 (by decide) (fun c_14 => ?_) (fun c_14 => ?_)
    · have hf := hf.1 c_14
      exact W.vret hx hb hr (fun t ht hW => ⟨⟨Pa, rfl, hf, xHp ht hP⟩, hS.F ht⟩) hS.2.2 dX0_growCorner_142 hlocks
    · have hf := hf.2 c_14
      refine lv_aload hx hb dX0_growCorner_93 (lv_at hl 3 rfl) ?_
      refine lv_iload hx hb dX0_growCorner_95 (lv_at hl 4 rfl) ?_
      refine lv_aload hx hb dX0_growCorner_97 (lv_at hl 1 rfl) ?_
      refine lv_iload hx hb dX0_growCorner_99 (lv_at hl 4 rfl) ?_
      obtain ⟨h_15, hf⟩ := hf
      refine va_iald hx hb hG.1 hP (x4 + 23) 0 (wG_row4 hx4) rfl h_15 dX0_growCorner_101 ?_
      refine lv_aload hx hb dX0_growCorner_102 (lv_at hl 2 rfl) ?_
      refine lv_iload hx hb dX0_growCorner_104 (lv_at hl 4 rfl) ?_
      obtain ⟨h_16, hf⟩ := hf
      refine va_iald hx hb hG.1 hP (x5 + 23) 0 (wG_row4 hx5) rfl h_16 dX0_growCorner_106 ?_
      refine va_mmax hx hb (hml.trans hl.1.symm) hown (hts _ mb_X0_growCorner_ml50) (hts _ mb_X0_growCorner_ms_max) (hts _ mb_X0_growCorner_mi) (hts _ mb_X0_growCorner_mc_max) (Nat.le_of_ble_eq_true rfl) (Nat.le_of_ble_eq_true rfl) (Nat.zero_le _) (Nat.zero_le _) dX0_growCorner_107 ?_
      refine lv_aload hx hb dX0_growCorner_110 (lv_at hl 1 rfl) ?_
      refine lv_iload hx hb dX0_growCorner_112 (lv_at hl 4 rfl) ?_
      refine lv_iconst (v := 1) hx hb dX0_growCorner_114 (by decide) ?_
      refine lv_isub hx hb dX0_growCorner_115 ?_
      obtain ⟨h_17, hf⟩ := hf
      refine va_iald hx hb hG.1 hP (x4 + 23) 0 (wG_row4 hx4) rfl h_17 dX0_growCorner_116 ?_
      refine lv_aload hx hb dX0_growCorner_117 (lv_at hl 2 rfl) ?_
      refine lv_iload hx hb dX0_growCorner_119 (lv_at hl 4 rfl) ?_
      refine lv_iconst (v := 1) hx hb dX0_growCorner_121 (by decide) ?_
      refine lv_isub hx hb dX0_growCorner_122 ?_
      obtain ⟨h_18, hf⟩ := hf
      refine va_iald hx hb hG.1 hP (x5 + 23) 0 (wG_row4 hx5) rfl h_18 dX0_growCorner_123 ?_
      refine va_mmin hx hb (hml.trans hl.1.symm) hown (hts _ mb_X0_growCorner_ml63) (hts _ mb_X0_growCorner_ms_min) (hts _ mb_X0_growCorner_mi) (hts _ mb_X0_growCorner_mc_min) (Nat.le_of_ble_eq_true rfl) (Nat.le_of_ble_eq_true rfl) (Nat.zero_le _) (Nat.zero_le _) dX0_growCorner_124 ?_
      refine lv_iadd hx hb dX0_growCorner_127 ?_
      refine lv_aload_n hx hb dX0_growCorner_128 rfl (lv_at hl 0 rfl) ?_
      refine lv_iload hx hb dX0_growCorner_129 (lv_at hl 4 rfl) ?_
      refine lv_iconst (v := 1) hx hb dX0_growCorner_131 (by decide) ?_
      refine lv_isub hx hb dX0_growCorner_132 ?_
      obtain ⟨h_19, hf⟩ := hf
      refine va_iald hx hb hG.1 hP (x3 + 23) 0 (wG_row4 hx3) rfl h_19 dX0_growCorner_133 ?_
      refine lv_isub hx hb dX0_growCorner_134 ?_
      obtain ⟨h_20, hf⟩ := hf
      refine va_iast hx hb hG.1 hP hD hS (x6 + 23) 0 (wG_row4 hx6) rfl h_20 dX0_growCorner_135 (fun H locs hP hD hS => ?_)
      have hP : va_P D vwCl (wG k a M N C Gr Pr (up2 Pa x6 (upd (Pa x6) (x7.toNatClampNeg) (((if (Pa x4 x7.toNatClampNeg) < (Pa x5 x7.toNatClampNeg) then (Pa x5 x7.toNatClampNeg) else (Pa x4 x7.toNatClampNeg)) + (if (Pa x5 (x7 - 1).toNatClampNeg) < (Pa x4 (x7 - 1).toNatClampNeg) then (Pa x5 (x7 - 1).toNatClampNeg) else (Pa x4 (x7 - 1).toNatClampNeg))) - (Pa x3 (x7 - 1).toNatClampNeg))))) H := by rw [← wG_put4 hx6]; exact hP
      have hD : va_D A (wG k a M N C Gr Pr (up2 Pa x6 (upd (Pa x6) (x7.toNatClampNeg) (((if (Pa x4 x7.toNatClampNeg) < (Pa x5 x7.toNatClampNeg) then (Pa x5 x7.toNatClampNeg) else (Pa x4 x7.toNatClampNeg)) + (if (Pa x5 (x7 - 1).toNatClampNeg) < (Pa x4 (x7 - 1).toNatClampNeg) then (Pa x5 (x7 - 1).toNatClampNeg) else (Pa x4 (x7 - 1).toNatClampNeg))) - (Pa x3 (x7 - 1).toNatClampNeg))))) := by rw [← wG_put4 hx6]; exact hD
      refine lv_iinc (v := x7 + 1) (lv' := [(7, .int (x7 + 1)), (3, .ref (a (x3 + 23))), (4, .ref (a (x4 + 23))), (5, .ref (a (x5 + 23))), (6, .ref (a (x6 + 23)))]) hx hb dX0_growCorner_136 hl (k := 4) rfl rfl (by decide) rfl (fun ls hl => ?_)
      refine lv_goto (tgt := 86) hx hb dX0_growCorner_139 (by decide) ?_
      exact ih (up2 Pa x6 (upd (Pa x6) (x7.toNatClampNeg) (((if (Pa x4 x7.toNatClampNeg) < (Pa x5 x7.toNatClampNeg) then (Pa x5 x7.toNatClampNeg) else (Pa x4 x7.toNatClampNeg)) + (if (Pa x5 (x7 - 1).toNatClampNeg) < (Pa x4 (x7 - 1).toNatClampNeg) then (Pa x5 (x7 - 1).toNatClampNeg) else (Pa x4 (x7 - 1).toNatClampNeg))) - (Pa x3 (x7 - 1).toNatClampNeg)))) x3 x4 x5 x6 (x7 + 1) _ _ _ hf hx3 hx4 hx5 hx6 hP hD hS (lv_sub hl [1, 2, 3, 4, 0] rfl)
set_option maxHeartbeats 4000000 in
set_option maxRecDepth 100000 in
theorem c_X0_growCorner {l : Launch} {D : va_G} {k : Nat → ClassId} (a : Nat → Nat) (M : Int32) (N : Int32) (C : Nat → Nat → Int32) (Gr : Nat → Nat → Int32) (Pr : Nat → Nat → Int64) (Pa : Nat → Nat → Int32) (x1 : Int32) (x2 : Int32) {post : (Nat → Nat → Int32) → Prop} (hf : p_X0_growCorner C Pa x1 x2 post) : ctV l yX0_growCorner wsX0_growCorner ({ frames := 1, cells := 0, slots := 0, locals := 24 }) D k [.ref (a 0), .int x1, .int x2] (wG k a M N C Gr Pr Pa) (fun u : (Nat → Nat → Int32) => wG k a M N C Gr Pr u) (fun (u : (Nat → Nat → Int32)) => post u) := by
  refine Met.ofW (cc := cX0_growCorner) (maxL := 8) (ret := none) (by decide) rfl ?_
  intro p e s m args below meth c s₁ B hml hv
  obtain ⟨rfl, hP, hG, hD0⟩ := hv
  have C0 : xM p s m ([.ref (a 0), .int x1, .int x2] : List Value).toArray meth c cX0_growCorner 8 RX0 none wsX0_growCorner := ⟨B.exec, B.bytes, B.returns, atoms_spec (ws := wsX0_growCorner) B.pre, findClass_of_methodNamed B.named, B.notSynchronized, hml⟩
  obtain ⟨hx, hb, hr, hts, hown, hlocks, hml⟩ := id C0
  have hD := xSelf hD0
  have hS : va_S (xIn (wG k a M N C Gr Pr Pa)) s.heap s.heap [] := va_S.rf
  generalize xIn (wG k a M N C Gr Pr Pa) = A at hD hS ⊢
  have hl := lv_entry ([.ref (a 0), .int x1, .int x2]) (n := 8) (Nat.le_of_ble_eq_true rfl)
  rw [lg_entry_eq]
  generalize (lg_sl ([.ref (a 0), .int x1, .int x2]) ++ List.replicate (8 - (lg_sl ([.ref (a 0), .int x1, .int x2])).length) Slot.unset).toArray = ls at hl ⊢
  have hl : lv_has ls 8 [(0, .ref (a 0)), (1, .int x1), (2, .int x2)] := hl
  unfold p_X0_growCorner at hf
  refine lv_aload_n hx hb dX0_growCorner_0 rfl (lv_at hl 0 rfl) ?_
  refine va_get (D := D) (ci := 0) (C := RX0) (T := TX0) (N := 6) hx hb hts in_X0_growCorner_X0 hown hG.1 hP 0 rfl rfl 5 (by decide) (hts _ lk_X0_growCorner_31) (fun _ h9 => h9) rfl dX0_growCorner_1 ?_
  refine lv_iload_n hx hb dX0_growCorner_4 rfl (lv_at hl 1 rfl) ?_
  refine lv_iconst (v := 1) hx hb dX0_growCorner_5 (by decide) ?_
  refine lv_isub hx hb dX0_growCorner_6 ?_
  refine lv_iload_n hx hb dX0_growCorner_7 rfl (lv_at hl 2 rfl) ?_
  refine lv_iconst (v := 1) hx hb dX0_growCorner_8 (by decide) ?_
  refine lv_isub hx hb dX0_growCorner_9 ?_
  have hp : xPerm (wG k a M N C Gr Pr Pa) (([]) ++ (wG k a M N C Gr Pr Pa)) := (List.Perm.refl _)
  refine xCallI (w := []) (r := wG k a M N C Gr Pr Pa) (va_runS (As := [.int (x1 - 1), .int (x2 - 1)]) (rest := [.ref (a 4)]) ⟨hx, hb, hml, hown, hts⟩ (c_X0_cornerNumber (x1 - 1) (x2 - 1) hf) (va_cwS 2 hts gX0_growCorner_X0_cornerNumber rfl rfl rfl (by decide +kernel) ⟨Nat.le_of_ble_eq_true rfl, Nat.le_of_ble_eq_true rfl⟩) (xPreS hG hP hD hp) rfl rfl hl.1 rfl (lv_room (Nat.le_of_ble_eq_true rfl)) dX0_growCorner_10 ⟨Nat.zero_le _, Nat.zero_le _⟩) hP hD hS hp (fun _ => rfl) (fun r_1 _ H locs hf hP hD hS => ?_)
  have hP : va_P D vwCl (wG k a M N C Gr Pr Pa) H := hP
  have hD : va_D A (wG k a M N C Gr Pr Pa) := hD
  obtain ⟨h_2, hf⟩ := hf
  refine xAald (f := fun i => a (i + 23)) hx hb hG.1 hP 4 3 rfl rfl h_2 dX0_growCorner_13 ?_
  refine lv_astore_n (lv' := [(3, .ref (a (r_1.toNatClampNeg + 23))), (0, .ref (a 0)), (1, .int x1), (2, .int x2)]) hx hb dX0_growCorner_14 rfl hl (by decide) rfl (fun ls hl => ?_)
  refine lv_aload_n hx hb dX0_growCorner_15 rfl (lv_at hl 1 rfl) ?_
  refine va_get (D := D) (ci := 0) (C := RX0) (T := TX0) (N := 6) hx hb hts in_X0_growCorner_X0 hown hG.1 hP 0 rfl rfl 5 (by decide) (hts _ lk_X0_growCorner_31) (fun _ h9 => h9) rfl dX0_growCorner_16 ?_
  refine lv_iload_n hx hb dX0_growCorner_19 rfl (lv_at hl 2 rfl) ?_
  refine lv_iconst (v := 1) hx hb dX0_growCorner_20 (by decide) ?_
  refine lv_isub hx hb dX0_growCorner_21 ?_
  refine lv_iload_n hx hb dX0_growCorner_22 rfl (lv_at hl 3 rfl) ?_
  have hp : xPerm (wG k a M N C Gr Pr Pa) (([]) ++ (wG k a M N C Gr Pr Pa)) := (List.Perm.refl _)
  refine xCallI (w := []) (r := wG k a M N C Gr Pr Pa) (va_runS (As := [.int (x1 - 1), .int x2]) (rest := [.ref (a 4)]) ⟨hx, hb, hml, hown, hts⟩ (c_X0_cornerNumber (x1 - 1) x2 hf) (va_cwS 2 hts gX0_growCorner_X0_cornerNumber rfl rfl rfl (by decide +kernel) ⟨Nat.le_of_ble_eq_true rfl, Nat.le_of_ble_eq_true rfl⟩) (xPreS hG hP hD hp) rfl rfl hl.1 rfl (lv_room (Nat.le_of_ble_eq_true rfl)) dX0_growCorner_23 ⟨Nat.zero_le _, Nat.zero_le _⟩) hP hD hS hp (fun _ => rfl) (fun r_3 _ H locs hf hP hD hS => ?_)
  have hP : va_P D vwCl (wG k a M N C Gr Pr Pa) H := hP
  have hD : va_D A (wG k a M N C Gr Pr Pa) := hD
  obtain ⟨h_4, hf⟩ := hf
  refine xAald (f := fun i => a (i + 23)) hx hb hG.1 hP 4 3 rfl rfl h_4 dX0_growCorner_26 ?_
  refine lv_astore (lv' := [(4, .ref (a (r_3.toNatClampNeg + 23))), (3, .ref (a (r_1.toNatClampNeg + 23))), (0, .ref (a 0)), (1, .int x1), (2, .int x2)]) hx hb dX0_growCorner_27 hl (by decide) rfl (fun ls hl => ?_)
  refine lv_aload_n hx hb dX0_growCorner_29 rfl (lv_at hl 2 rfl) ?_
  refine va_get (D := D) (ci := 0) (C := RX0) (T := TX0) (N := 6) hx hb hts in_X0_growCorner_X0 hown hG.1 hP 0 rfl rfl 5 (by decide) (hts _ lk_X0_growCorner_31) (fun _ h9 => h9) rfl dX0_growCorner_30 ?_
  refine lv_iload_n hx hb dX0_growCorner_33 rfl (lv_at hl 3 rfl) ?_
  refine lv_iload_n hx hb dX0_growCorner_34 rfl (lv_at hl 4 rfl) ?_
  refine lv_iconst (v := 1) hx hb dX0_growCorner_35 (by decide) ?_
  refine lv_isub hx hb dX0_growCorner_36 ?_
  have hp : xPerm (wG k a M N C Gr Pr Pa) (([]) ++ (wG k a M N C Gr Pr Pa)) := (List.Perm.refl _)
  refine xCallI (w := []) (r := wG k a M N C Gr Pr Pa) (va_runS (As := [.int x1, .int (x2 - 1)]) (rest := [.ref (a 4)]) ⟨hx, hb, hml, hown, hts⟩ (c_X0_cornerNumber x1 (x2 - 1) hf) (va_cwS 2 hts gX0_growCorner_X0_cornerNumber rfl rfl rfl (by decide +kernel) ⟨Nat.le_of_ble_eq_true rfl, Nat.le_of_ble_eq_true rfl⟩) (xPreS hG hP hD hp) rfl rfl hl.1 rfl (lv_room (Nat.le_of_ble_eq_true rfl)) dX0_growCorner_37 ⟨Nat.zero_le _, Nat.zero_le _⟩) hP hD hS hp (fun _ => rfl) (fun r_5 _ H locs hf hP hD hS => ?_)
  have hP : va_P D vwCl (wG k a M N C Gr Pr Pa) H := hP
  have hD : va_D A (wG k a M N C Gr Pr Pa) := hD
  obtain ⟨h_6, hf⟩ := hf
  refine xAald (f := fun i => a (i + 23)) hx hb hG.1 hP 4 3 rfl rfl h_6 dX0_growCorner_40 ?_
  refine lv_astore (lv' := [(5, .ref (a (r_5.toNatClampNeg + 23))), (4, .ref (a (r_3.toNatClampNeg + 23))), (3, .ref (a (r_1.toNatClampNeg + 23))), (0, .ref (a 0)), (1, .int x1), (2, .int x2)]) hx hb dX0_growCorner_41 hl (by decide) rfl (fun ls hl => ?_)
  refine lv_aload_n hx hb dX0_growCorner_43 rfl (lv_at hl 3 rfl) ?_
  refine va_get (D := D) (ci := 0) (C := RX0) (T := TX0) (N := 6) hx hb hts in_X0_growCorner_X0 hown hG.1 hP 0 rfl rfl 5 (by decide) (hts _ lk_X0_growCorner_31) (fun _ h9 => h9) rfl dX0_growCorner_44 ?_
  refine lv_iload_n hx hb dX0_growCorner_47 rfl (lv_at hl 4 rfl) ?_
  refine lv_iload_n hx hb dX0_growCorner_48 rfl (lv_at hl 5 rfl) ?_
  have hp : xPerm (wG k a M N C Gr Pr Pa) (([]) ++ (wG k a M N C Gr Pr Pa)) := (List.Perm.refl _)
  refine xCallI (w := []) (r := wG k a M N C Gr Pr Pa) (va_runS (As := [.int x1, .int x2]) (rest := [.ref (a 4)]) ⟨hx, hb, hml, hown, hts⟩ (c_X0_cornerNumber x1 x2 hf) (va_cwS 2 hts gX0_growCorner_X0_cornerNumber rfl rfl rfl (by decide +kernel) ⟨Nat.le_of_ble_eq_true rfl, Nat.le_of_ble_eq_true rfl⟩) (xPreS hG hP hD hp) rfl rfl hl.1 rfl (lv_room (Nat.le_of_ble_eq_true rfl)) dX0_growCorner_49 ⟨Nat.zero_le _, Nat.zero_le _⟩) hP hD hS hp (fun _ => rfl) (fun r_7 _ H locs hf hP hD hS => ?_)
  have hP : va_P D vwCl (wG k a M N C Gr Pr Pa) H := hP
  have hD : va_D A (wG k a M N C Gr Pr Pa) := hD
  obtain ⟨h_8, hf⟩ := hf
  refine xAald (f := fun i => a (i + 23)) hx hb hG.1 hP 4 3 rfl rfl h_8 dX0_growCorner_52 ?_
  refine lv_astore (lv' := [(6, .ref (a (r_7.toNatClampNeg + 23))), (5, .ref (a (r_5.toNatClampNeg + 23))), (4, .ref (a (r_3.toNatClampNeg + 23))), (3, .ref (a (r_1.toNatClampNeg + 23))), (0, .ref (a 0)), (1, .int x1), (2, .int x2)]) hx hb dX0_growCorner_53 hl (by decide) rfl (fun ls hl => ?_)
  refine lv_aload hx hb dX0_growCorner_55 (lv_at hl 0 rfl) ?_
  refine lv_iconst (v := 0) hx hb dX0_growCorner_57 (by decide) ?_
  refine lv_aload hx hb dX0_growCorner_58 (lv_at hl 2 rfl) ?_
  refine lv_iconst (v := 0) hx hb dX0_growCorner_60 (by decide) ?_
  obtain ⟨h_9, hf⟩ := hf
  refine va_iald hx hb hG.1 hP (r_3.toNatClampNeg + 23) 0 (wG_row4 (vp_lt h_4)) rfl h_9 dX0_growCorner_61 ?_
  refine lv_aload hx hb dX0_growCorner_62 (lv_at hl 1 rfl) ?_
  refine lv_iconst (v := 0) hx hb dX0_growCorner_64 (by decide) ?_
  obtain ⟨h_10, hf⟩ := hf
  refine va_iald hx hb hG.1 hP (r_5.toNatClampNeg + 23) 0 (wG_row4 (vp_lt h_6)) rfl h_10 dX0_growCorner_65 ?_
  refine va_mmax hx hb (hml.trans hl.1.symm) hown (hts _ mb_X0_growCorner_ml50) (hts _ mb_X0_growCorner_ms_max) (hts _ mb_X0_growCorner_mi) (hts _ mb_X0_growCorner_mc_max) (Nat.le_of_ble_eq_true rfl) (Nat.le_of_ble_eq_true rfl) (Nat.zero_le _) (Nat.zero_le _) dX0_growCorner_66 ?_
  refine lv_aload_n hx hb dX0_growCorner_69 rfl (lv_at hl 4 rfl) ?_
  refine va_get (D := D) (ci := 0) (C := RX0) (T := TX0) (N := 6) hx hb hts in_X0_growCorner_X0 hown hG.1 hP 0 rfl rfl 2 (by decide) (hts _ lk_X0_growCorner_20) (fun _ h9 => h9) rfl dX0_growCorner_70 ?_
  refine lv_iload_n hx hb dX0_growCorner_73 rfl (lv_at hl 5 rfl) ?_
  refine lv_iconst (v := 1) hx hb dX0_growCorner_74 (by decide) ?_
  refine lv_isub hx hb dX0_growCorner_75 ?_
  obtain ⟨h_11, hf⟩ := hf
  refine xAald (f := fun i => a (i + 5)) hx hb hG.1 hP 1 3 rfl rfl h_11 dX0_growCorner_76 ?_
  refine lv_iload_n hx hb dX0_growCorner_77 rfl (lv_at hl 6 rfl) ?_
  refine lv_iconst (v := 1) hx hb dX0_growCorner_78 (by decide) ?_
  refine lv_isub hx hb dX0_growCorner_79 ?_
  obtain ⟨h_12, hf⟩ := hf
  refine va_iald hx hb hG.1 hP ((x1 - 1).toNatClampNeg + 5) 0 (wG_row1 (vp_lt h_11)) rfl h_12 dX0_growCorner_80 ?_
  refine lv_iadd hx hb dX0_growCorner_81 ?_
  obtain ⟨h_13, hf⟩ := hf
  refine va_iast hx hb hG.1 hP hD hS (r_7.toNatClampNeg + 23) 0 (wG_row4 (vp_lt h_8)) rfl h_13 dX0_growCorner_82 (fun H locs hP hD hS => ?_)
  have hP : va_P D vwCl (wG k a M N C Gr Pr (up2 Pa (r_7.toNatClampNeg) (upd (Pa (r_7.toNatClampNeg)) ((0 : Int32).toNatClampNeg) ((if (Pa (r_3.toNatClampNeg) (0 : Int32).toNatClampNeg) < (Pa (r_5.toNatClampNeg) (0 : Int32).toNatClampNeg) then (Pa (r_5.toNatClampNeg) (0 : Int32).toNatClampNeg) else (Pa (r_3.toNatClampNeg) (0 : Int32).toNatClampNeg)) + (C ((x1 - 1).toNatClampNeg) (x2 - 1).toNatClampNeg))))) H := by rw [← wG_put4 (vp_lt h_8)]; exact hP
  have hD : va_D A (wG k a M N C Gr Pr (up2 Pa (r_7.toNatClampNeg) (upd (Pa (r_7.toNatClampNeg)) ((0 : Int32).toNatClampNeg) ((if (Pa (r_3.toNatClampNeg) (0 : Int32).toNatClampNeg) < (Pa (r_5.toNatClampNeg) (0 : Int32).toNatClampNeg) then (Pa (r_5.toNatClampNeg) (0 : Int32).toNatClampNeg) else (Pa (r_3.toNatClampNeg) (0 : Int32).toNatClampNeg)) + (C ((x1 - 1).toNatClampNeg) (x2 - 1).toNatClampNeg))))) := by rw [← wG_put4 (vp_lt h_8)]; exact hD
  refine lv_iconst (v := 1) hx hb dX0_growCorner_83 (by decide) ?_
  refine lv_istore (lv' := [(7, .int 1), (6, .ref (a (r_7.toNatClampNeg + 23))), (5, .ref (a (r_5.toNatClampNeg + 23))), (4, .ref (a (r_3.toNatClampNeg + 23))), (3, .ref (a (r_1.toNatClampNeg + 23))), (0, .ref (a 0)), (1, .int x1), (2, .int x2)]) hx hb dX0_growCorner_84 hl (by decide) rfl (fun ls hl => ?_)
  obtain ⟨n_21, hf⟩ := hf
  exact k_X0_growCorner_86 C0 hG n_21 (up2 Pa (r_7.toNatClampNeg) (upd (Pa (r_7.toNatClampNeg)) ((0 : Int32).toNatClampNeg) ((if (Pa (r_3.toNatClampNeg) (0 : Int32).toNatClampNeg) < (Pa (r_5.toNatClampNeg) (0 : Int32).toNatClampNeg) then (Pa (r_5.toNatClampNeg) (0 : Int32).toNatClampNeg) else (Pa (r_3.toNatClampNeg) (0 : Int32).toNatClampNeg)) + (C ((x1 - 1).toNatClampNeg) (x2 - 1).toNatClampNeg)))) (r_1.toNatClampNeg) (r_3.toNatClampNeg) (r_5.toNatClampNeg) (r_7.toNatClampNeg) 1 _ _ _ hf (vp_lt h_2) (vp_lt h_4) (vp_lt h_6) (vp_lt h_8) hP hD hS (lv_sub hl [4, 3, 2, 1, 0] rfl)

def p_X0_growShapes_12 (M : Int32) (N : Int32) (C : Nat → Nat → Int32) (post : (Nat → Nat → Int32) → Prop) (k2 : (Nat → Nat → Int32) → Int32 → Prop) : Nat → (Nat → Nat → Int32) → Int32 → Int32 → Prop
  | 0, _, _, _ => False
  | n + 1, Pa, x1, x2 => ((N < x2 → k2 Pa (x1 + 1)) ∧ (¬ N < x2 → p_X0_growCorner C Pa x1 x2 (fun Pa_3 => p_X0_growShapes_12 M N C post k2 n Pa_3 x1 (x2 + 1))))
def p_X0_growShapes_2 (M : Int32) (N : Int32) (C : Nat → Nat → Int32) (post : (Nat → Nat → Int32) → Prop) : Nat → (Nat → Nat → Int32) → Int32 → Prop
  | 0, _, _ => False
  | n + 1, Pa, x1 => ((M < x1 → post Pa) ∧ (¬ M < x1 → (∃ n_4, p_X0_growShapes_12 M N C post (fun Pa x1 => p_X0_growShapes_2 M N C post n Pa x1) n_4 Pa x1 1)))
def p_X0_growShapes (M : Int32) (N : Int32) (C : Nat → Nat → Int32) (Pa : Nat → Nat → Int32) (post : (Nat → Nat → Int32) → Prop) : Prop := (∃ n_5, p_X0_growShapes_2 M N C post n_5 Pa 1)
theorem in_X0_growShapes_X0 : ∀ w ∈ u_ws RX0 TX0 6, w ∈ wsX0_growShapes := by decide +kernel
theorem lk_X0_growShapes_11 : Cond.fieldLink RX0 11 "GrowingCorners$Grid" "rows" "I" ∈ wsX0_growShapes := by decide +kernel
theorem lk_X0_growShapes_15 : Cond.fieldLink RX0 15 "GrowingCorners$Grid" "columns" "I" ∈ wsX0_growShapes := by decide +kernel
set_option maxHeartbeats 4000000 in
set_option maxRecDepth 100000 in
theorem k_X0_growShapes_12 {p : Program} {l : Launch} {e : Env} {s : State} {m : MethodId} {args : Array Value} {below : List Frame} {meth : Method} {c : Code} {A : Nat → Prop} {D : va_G} {k : Nat → ClassId} {a : Nat → Nat} {M : Int32} {N : Int32} {C : Nat → Nat → Int32} {Gr : Nat → Nat → Int32} {Pr : Nat → Nat → Int64} (C0 : xM p s m args meth c cX0_growShapes 3 RX0 none wsX0_growShapes) (hG : xG D k s) {post : (Nat → Nat → Int32) → Prop} {k2 : (Nat → Nat → Int32) → Int32 → Prop} (hk2 : ∀ (Pa : Nat → Nat → Int32) (x1 : Int32) (H : Heap) (locs : List Loc) (ls : Array Slot), k2 Pa x1 → va_P D vwCl (wG k a M N C Gr Pr Pa) H → va_D A (wG k a M N C Gr Pr Pa) → va_S A s.heap H locs → lv_has ls 3 [(0, .ref (a 0)), (1, .int x1)] → W p l e ({ frames := 2, cells := 0, slots := 0, locals := 51 }) s m args below meth c H locs 0 0 (MQ below (va_Qv (fun (u : (Nat → Nat → Int32)) => post u) (fun u t => va_P D vwCl (wG k a M N C Gr Pr u) t.heap) A) args s 0 0 A) (F0 m 2 ls [])) : ∀ (n : Nat) (Pa : Nat → Nat → Int32) (x1 : Int32) (x2 : Int32) (H : Heap) (locs : List Loc) (ls : Array Slot), p_X0_growShapes_12 M N C post k2 n Pa x1 x2 → va_P D vwCl (wG k a M N C Gr Pr Pa) H → va_D A (wG k a M N C Gr Pr Pa) → va_S A s.heap H locs → lv_has ls 3 [(0, .ref (a 0)), (1, .int x1), (2, .int x2)] → W p l e ({ frames := 2, cells := 0, slots := 0, locals := 51 }) s m args below meth c H locs 0 0 (MQ below (va_Qv (fun (u : (Nat → Nat → Int32)) => post u) (fun u t => va_P D vwCl (wG k a M N C Gr Pr u) t.heap) A) args s 0 0 A) (F0 m 12 ls []) := by
  obtain ⟨hx, hb, hr, hts, hown, hlocks, hml⟩ := id C0
  intro n
  induction n with
  | zero =>
    intro Pa x1 x2 H locs ls hf
    exact False.elim hf
  | succ n ih =>
    intro Pa x1 x2 H locs ls hf hP hD hS hl
    unfold p_X0_growShapes_12 at hf
    refine lv_iload_n hx hb dX0_growShapes_12 rfl (lv_at hl 2 rfl) ?_
    refine lv_aload_n hx hb dX0_growShapes_13 rfl (lv_at hl 0 rfl) ?_
    refine va_get (D := D) (ci := 0) (C := RX0) (T := TX0) (N := 6) hx hb hts in_X0_growShapes_X0 hown hG.1 hP 0 rfl rfl 1 (by decide) (hts _ lk_X0_growShapes_15) (fun _ h9 => h9) rfl dX0_growShapes_14 ?_
    refine lv_icmp_gt (tgt := 32) hx hb dX0_growShapes_17 (by decide) (fun c_2 => ?_) (fun c_2 => ?_)
    · have hf := hf.1 c_2
      refine lv_iinc (v := x1 + 1) (lv' := [(1, .int (x1 + 1)), (0, .ref (a 0)), (2, .int x2)]) hx hb dX0_growShapes_32 hl (k := 1) rfl rfl (by decide) rfl (fun ls hl => ?_)
      refine lv_goto (tgt := 2) hx hb dX0_growShapes_35 (by decide) ?_
      exact hk2 Pa (x1 + 1) _ _ _ hf hP hD hS (lv_sub hl [1, 0] rfl)
    · have hf := hf.2 c_2
      refine lv_aload_n hx hb dX0_growShapes_20 rfl (lv_at hl 0 rfl) ?_
      refine lv_iload_n hx hb dX0_growShapes_21 rfl (lv_at hl 1 rfl) ?_
      refine lv_iload_n hx hb dX0_growShapes_22 rfl (lv_at hl 2 rfl) ?_
      have hp : xPerm (wG k a M N C Gr Pr Pa) ((wG k a M N C Gr Pr Pa) ++ ([])) := xPermNil
      refine xCallV (w := wG k a M N C Gr Pr Pa) (r := []) (va_runV (As := [.int x1, .int x2]) (rest := []) ⟨hx, hb, hml, hown, hts⟩ (c_X0_growCorner a M N C Gr Pr Pa x1 x2 hf) (cwV 2 hts gX0_growShapes_X0_growCorner rfl rfl rfl (by decide +kernel) ⟨Nat.le_of_ble_eq_true rfl, Nat.le_of_ble_eq_true rfl⟩) (xPreV hG hP hD hp (ci := 0) rfl (i := 0) rfl) rfl rfl hl.1 rfl (lv_room (Nat.le_of_ble_eq_true rfl)) dX0_growShapes_23 ⟨Nat.zero_le _, Nat.zero_le _⟩) hP hD hS hp (fun _ => wG_adr) (fun Pa_3 H locs hf hP hD hS => ?_)
      have hP : va_P D vwCl (wG k a M N C Gr Pr Pa_3) H := xNilP hP
      have hD : va_D A (wG k a M N C Gr Pr Pa_3) := xNilD hD
      refine lv_iinc (v := x2 + 1) (lv' := [(2, .int (x2 + 1)), (0, .ref (a 0)), (1, .int x1)]) hx hb dX0_growShapes_26 hl (k := 2) rfl rfl (by decide) rfl (fun ls hl => ?_)
      refine lv_goto (tgt := 12) hx hb dX0_growShapes_29 (by decide) ?_
      exact ih Pa_3 x1 (x2 + 1) _ _ _ hf hP hD hS (lv_sub hl [1, 2, 0] rfl)
set_option maxHeartbeats 4000000 in
set_option maxRecDepth 100000 in
theorem k_X0_growShapes_2 {p : Program} {l : Launch} {e : Env} {s : State} {m : MethodId} {args : Array Value} {below : List Frame} {meth : Method} {c : Code} {A : Nat → Prop} {D : va_G} {k : Nat → ClassId} {a : Nat → Nat} {M : Int32} {N : Int32} {C : Nat → Nat → Int32} {Gr : Nat → Nat → Int32} {Pr : Nat → Nat → Int64} (C0 : xM p s m args meth c cX0_growShapes 3 RX0 none wsX0_growShapes) (hG : xG D k s) {post : (Nat → Nat → Int32) → Prop} : ∀ (n : Nat) (Pa : Nat → Nat → Int32) (x1 : Int32) (H : Heap) (locs : List Loc) (ls : Array Slot), p_X0_growShapes_2 M N C post n Pa x1 → va_P D vwCl (wG k a M N C Gr Pr Pa) H → va_D A (wG k a M N C Gr Pr Pa) → va_S A s.heap H locs → lv_has ls 3 [(0, .ref (a 0)), (1, .int x1)] → W p l e ({ frames := 2, cells := 0, slots := 0, locals := 51 }) s m args below meth c H locs 0 0 (MQ below (va_Qv (fun (u : (Nat → Nat → Int32)) => post u) (fun u t => va_P D vwCl (wG k a M N C Gr Pr u) t.heap) A) args s 0 0 A) (F0 m 2 ls []) := by
  obtain ⟨hx, hb, hr, hts, hown, hlocks, hml⟩ := id C0
  intro n
  induction n with
  | zero =>
    intro Pa x1 H locs ls hf
    exact False.elim hf
  | succ n ih =>
    intro Pa x1 H locs ls hf hP hD hS hl
    unfold p_X0_growShapes_2 at hf
    refine lv_iload_n hx hb dX0_growShapes_2 rfl (lv_at hl 1 rfl) ?_
    refine lv_aload_n hx hb dX0_growShapes_3 rfl (lv_at hl 0 rfl) ?_
    refine va_get (D := D) (ci := 0) (C := RX0) (T := TX0) (N := 6) hx hb hts in_X0_growShapes_X0 hown hG.1 hP 0 rfl rfl 0 (by decide) (hts _ lk_X0_growShapes_11) (fun _ h9 => h9) rfl dX0_growShapes_4 ?_
    refine lv_icmp_gt (tgt := 38) hx hb dX0_growShapes_7 (by decide) (fun c_1 => ?_) (fun c_1 => ?_)
    · have hf := hf.1 c_1
      exact W.vret hx hb hr (fun t ht hW => ⟨⟨Pa, rfl, hf, xHp ht hP⟩, hS.F ht⟩) hS.2.2 dX0_growShapes_38 hlocks
    · have hf := hf.2 c_1
      refine lv_iconst (v := 1) hx hb dX0_growShapes_10 (by decide) ?_
      refine lv_istore_n (lv' := [(2, .int 1), (0, .ref (a 0)), (1, .int x1)]) hx hb dX0_growShapes_11 rfl hl (by decide) rfl (fun ls hl => ?_)
      obtain ⟨n_4, hf⟩ := hf
      exact k_X0_growShapes_12 C0 hG ih n_4 Pa x1 1 _ _ _ hf hP hD hS (lv_sub hl [1, 2, 0] rfl)
set_option maxHeartbeats 4000000 in
set_option maxRecDepth 100000 in
theorem c_X0_growShapes {l : Launch} {D : va_G} {k : Nat → ClassId} (a : Nat → Nat) (M : Int32) (N : Int32) (C : Nat → Nat → Int32) (Gr : Nat → Nat → Int32) (Pr : Nat → Nat → Int64) (Pa : Nat → Nat → Int32) {post : (Nat → Nat → Int32) → Prop} (hf : p_X0_growShapes M N C Pa post) : ctV l yX0_growShapes wsX0_growShapes ({ frames := 2, cells := 0, slots := 0, locals := 51 }) D k [.ref (a 0)] (wG k a M N C Gr Pr Pa) (fun u : (Nat → Nat → Int32) => wG k a M N C Gr Pr u) (fun (u : (Nat → Nat → Int32)) => post u) := by
  refine Met.ofW (cc := cX0_growShapes) (maxL := 3) (ret := none) (by decide) rfl ?_
  intro p e s m args below meth c s₁ B hml hv
  obtain ⟨rfl, hP, hG, hD0⟩ := hv
  have C0 : xM p s m ([.ref (a 0)] : List Value).toArray meth c cX0_growShapes 3 RX0 none wsX0_growShapes := ⟨B.exec, B.bytes, B.returns, atoms_spec (ws := wsX0_growShapes) B.pre, findClass_of_methodNamed B.named, B.notSynchronized, hml⟩
  obtain ⟨hx, hb, hr, hts, hown, hlocks, hml⟩ := id C0
  have hD := xSelf hD0
  have hS : va_S (xIn (wG k a M N C Gr Pr Pa)) s.heap s.heap [] := va_S.rf
  generalize xIn (wG k a M N C Gr Pr Pa) = A at hD hS ⊢
  have hl := lv_entry ([.ref (a 0)]) (n := 3) (Nat.le_of_ble_eq_true rfl)
  rw [lg_entry_eq]
  generalize (lg_sl ([.ref (a 0)]) ++ List.replicate (3 - (lg_sl ([.ref (a 0)])).length) Slot.unset).toArray = ls at hl ⊢
  have hl : lv_has ls 3 [(0, .ref (a 0))] := hl
  unfold p_X0_growShapes at hf
  refine lv_iconst (v := 1) hx hb dX0_growShapes_0 (by decide) ?_
  refine lv_istore_n (lv' := [(1, .int 1), (0, .ref (a 0))]) hx hb dX0_growShapes_1 rfl hl (by decide) rfl (fun ls hl => ?_)
  obtain ⟨n_5, hf⟩ := hf
  exact k_X0_growShapes_2 C0 hG n_5 Pa 1 _ _ _ hf hP hD hS (lv_sub hl [1, 0] rfl)

def p_X0_partAt (Pa : Nat → Nat → Int32) (x1 : Int32) (x2 : Int32) (x3 : Int32) (post : Int32 → Prop) : Prop := p_X0_cornerNumber x1 x2 (fun r_1 => (vp_in r_1 49 ∧ (vp_in x3 6 ∧ post (Pa (r_1.toNatClampNeg) x3.toNatClampNeg))))
theorem in_X0_partAt_X0 : ∀ w ∈ u_ws RX0 TX0 6, w ∈ wsX0_partAt := by decide +kernel
theorem lk_X0_partAt_31 : Cond.fieldLink RX0 31 "GrowingCorners$Grid" "parts" "[[I" ∈ wsX0_partAt := by decide +kernel
set_option maxHeartbeats 4000000 in
set_option maxRecDepth 100000 in
theorem c_X0_partAt {l : Launch} {D : va_G} {k : Nat → ClassId} (a : Nat → Nat) (M : Int32) (N : Int32) (C : Nat → Nat → Int32) (Gr : Nat → Nat → Int32) (Pr : Nat → Nat → Int64) (Pa : Nat → Nat → Int32) (x1 : Int32) (x2 : Int32) (x3 : Int32) {post : Int32 → Prop} (hf : p_X0_partAt Pa x1 x2 x3 post) : ctI l yX0_partAt wsX0_partAt ({ frames := 1, cells := 0, slots := 0, locals := 21 }) D k [.ref (a 0), .int x1, .int x2, .int x3] (wG k a M N C Gr Pr Pa) (fun u : Unit => wG k a M N C Gr Pr Pa) (fun (r : Int32) (u : Unit) => post r) := by
  refine Met.ofW (cc := cX0_partAt) (maxL := 4) (ret := (some .int)) (by decide) rfl ?_
  intro p e s m args below meth c s₁ B hml hv
  obtain ⟨rfl, hP, hG, hD0⟩ := hv
  have C0 : xM p s m ([.ref (a 0), .int x1, .int x2, .int x3] : List Value).toArray meth c cX0_partAt 4 RX0 (some .int) wsX0_partAt := ⟨B.exec, B.bytes, B.returns, atoms_spec (ws := wsX0_partAt) B.pre, findClass_of_methodNamed B.named, B.notSynchronized, hml⟩
  obtain ⟨hx, hb, hr, hts, hown, hlocks, hml⟩ := id C0
  have hD := xSelf hD0
  have hS : va_S (xIn (wG k a M N C Gr Pr Pa)) s.heap s.heap [] := va_S.rf
  generalize xIn (wG k a M N C Gr Pr Pa) = A at hD hS ⊢
  have hl := lv_entry ([.ref (a 0), .int x1, .int x2, .int x3]) (n := 4) (Nat.le_of_ble_eq_true rfl)
  rw [lg_entry_eq]
  generalize (lg_sl ([.ref (a 0), .int x1, .int x2, .int x3]) ++ List.replicate (4 - (lg_sl ([.ref (a 0), .int x1, .int x2, .int x3])).length) Slot.unset).toArray = ls at hl ⊢
  have hl : lv_has ls 4 [(0, .ref (a 0)), (1, .int x1), (2, .int x2), (3, .int x3)] := hl
  unfold p_X0_partAt at hf
  refine lv_aload_n hx hb dX0_partAt_0 rfl (lv_at hl 0 rfl) ?_
  refine va_get (D := D) (ci := 0) (C := RX0) (T := TX0) (N := 6) hx hb hts in_X0_partAt_X0 hown hG.1 hP 0 rfl rfl 5 (by decide) (hts _ lk_X0_partAt_31) (fun _ h9 => h9) rfl dX0_partAt_1 ?_
  refine lv_iload_n hx hb dX0_partAt_4 rfl (lv_at hl 1 rfl) ?_
  refine lv_iload_n hx hb dX0_partAt_5 rfl (lv_at hl 2 rfl) ?_
  have hp : xPerm (wG k a M N C Gr Pr Pa) (([]) ++ (wG k a M N C Gr Pr Pa)) := (List.Perm.refl _)
  refine xCallI (w := []) (r := wG k a M N C Gr Pr Pa) (va_runS (As := [.int x1, .int x2]) (rest := [.ref (a 4)]) ⟨hx, hb, hml, hown, hts⟩ (c_X0_cornerNumber x1 x2 hf) (va_cwS 2 hts gX0_partAt_X0_cornerNumber rfl rfl rfl (by decide +kernel) ⟨Nat.le_of_ble_eq_true rfl, Nat.le_of_ble_eq_true rfl⟩) (xPreS hG hP hD hp) rfl rfl hl.1 rfl (lv_room (Nat.le_of_ble_eq_true rfl)) dX0_partAt_6 ⟨Nat.zero_le _, Nat.zero_le _⟩) hP hD hS hp (fun _ => rfl) (fun r_1 _ H locs hf hP hD hS => ?_)
  have hP : va_P D vwCl (wG k a M N C Gr Pr Pa) H := hP
  have hD : va_D A (wG k a M N C Gr Pr Pa) := hD
  obtain ⟨h_2, hf⟩ := hf
  refine xAald (f := fun i => a (i + 23)) hx hb hG.1 hP 4 3 rfl rfl h_2 dX0_partAt_9 ?_
  refine lv_iload_n hx hb dX0_partAt_10 rfl (lv_at hl 3 rfl) ?_
  obtain ⟨h_3, hf⟩ := hf
  refine va_iald hx hb hG.1 hP (r_1.toNatClampNeg + 23) 0 (wG_row4 (vp_lt h_2)) rfl h_3 dX0_partAt_11 ?_
  exact W.iret (v := (Pa (r_1.toNatClampNeg) x3.toNatClampNeg)) hx hb hr (fun t ht hW => ⟨⟨(Pa (r_1.toNatClampNeg) x3.toNatClampNeg), (), rfl, hf, xHp ht hP⟩, hS.F ht⟩) hS.2.2 dX0_partAt_12 hlocks

def p_X0_firstPartsAtEnd_4 (M : Int32) (N : Int32) (Pa : Nat → Nat → Int32) (x1 : Int32) (post : Int32 → Prop) : Nat → Int32 → Int32 → Prop
  | 0, _, _ => False
  | n + 1, x2, x3 => ((x1 ≤ x3 → post x2) ∧ (¬ x1 ≤ x3 → p_X0_partAt Pa M N x3 (fun r_2 => p_X0_firstPartsAtEnd_4 M N Pa x1 post n (x2 + r_2) (x3 + 1))))
def p_X0_firstPartsAtEnd (M : Int32) (N : Int32) (Pa : Nat → Nat → Int32) (x1 : Int32) (post : Int32 → Prop) : Prop := (∃ n_3, p_X0_firstPartsAtEnd_4 M N Pa x1 post n_3 0 0)
theorem in_X0_firstPartsAtEnd_X0 : ∀ w ∈ u_ws RX0 TX0 6, w ∈ wsX0_firstPartsAtEnd := by decide +kernel
theorem lk_X0_firstPartsAtEnd_11 : Cond.fieldLink RX0 11 "GrowingCorners$Grid" "rows" "I" ∈ wsX0_firstPartsAtEnd := by decide +kernel
theorem lk_X0_firstPartsAtEnd_15 : Cond.fieldLink RX0 15 "GrowingCorners$Grid" "columns" "I" ∈ wsX0_firstPartsAtEnd := by decide +kernel
set_option maxHeartbeats 4000000 in
set_option maxRecDepth 100000 in
theorem k_X0_firstPartsAtEnd_4 {p : Program} {l : Launch} {e : Env} {s : State} {m : MethodId} {args : Array Value} {below : List Frame} {meth : Method} {c : Code} {A : Nat → Prop} {D : va_G} {k : Nat → ClassId} {a : Nat → Nat} {M : Int32} {N : Int32} {C : Nat → Nat → Int32} {Gr : Nat → Nat → Int32} {Pr : Nat → Nat → Int64} {Pa : Nat → Nat → Int32} {x1 : Int32} (C0 : xM p s m args meth c cX0_firstPartsAtEnd 4 RX0 (some .int) wsX0_firstPartsAtEnd) (hG : xG D k s) {post : Int32 → Prop} : ∀ (n : Nat) (x2 : Int32) (x3 : Int32) (H : Heap) (locs : List Loc) (ls : Array Slot), p_X0_firstPartsAtEnd_4 M N Pa x1 post n x2 x3 → va_P D vwCl (wG k a M N C Gr Pr Pa) H → va_D A (wG k a M N C Gr Pr Pa) → va_S A s.heap H locs → lv_has ls 4 [(0, .ref (a 0)), (1, .int x1), (2, .int x2), (3, .int x3)] → W p l e ({ frames := 2, cells := 0, slots := 0, locals := 44 }) s m args below meth c H locs 0 0 (MQ below (va_Qi (fun (r : Int32) (u : Unit) => post r) (fun u t => va_P D vwCl (wG k a M N C Gr Pr Pa) t.heap) A) args s 0 0 A) (F0 m 4 ls []) := by
  obtain ⟨hx, hb, hr, hts, hown, hlocks, hml⟩ := id C0
  intro n
  induction n with
  | zero =>
    intro x2 x3 H locs ls hf
    exact False.elim hf
  | succ n ih =>
    intro x2 x3 H locs ls hf hP hD hS hl
    unfold p_X0_firstPartsAtEnd_4 at hf
    refine lv_iload_n hx hb dX0_firstPartsAtEnd_4 rfl (lv_at hl 3 rfl) ?_
    refine lv_iload_n hx hb dX0_firstPartsAtEnd_5 rfl (lv_at hl 1 rfl) ?_
    refine lv_icmp_ge (tgt := 31) hx hb dX0_firstPartsAtEnd_6 (by decide) (fun c_1 => ?_) (fun c_1 => ?_)
    · have hf := hf.1 c_1
      refine lv_iload_n hx hb dX0_firstPartsAtEnd_31 rfl (lv_at hl 2 rfl) ?_
      exact W.iret (v := x2) hx hb hr (fun t ht hW => ⟨⟨x2, (), rfl, hf, xHp ht hP⟩, hS.F ht⟩) hS.2.2 dX0_firstPartsAtEnd_32 hlocks
    · have hf := hf.2 c_1
      refine lv_iload_n hx hb dX0_firstPartsAtEnd_9 rfl (lv_at hl 2 rfl) ?_
      refine lv_aload_n hx hb dX0_firstPartsAtEnd_10 rfl (lv_at hl 0 rfl) ?_
      refine lv_aload_n hx hb dX0_firstPartsAtEnd_11 rfl (lv_at hl 0 rfl) ?_
      refine va_get (D := D) (ci := 0) (C := RX0) (T := TX0) (N := 6) hx hb hts in_X0_firstPartsAtEnd_X0 hown hG.1 hP 0 rfl rfl 0 (by decide) (hts _ lk_X0_firstPartsAtEnd_11) (fun _ h9 => h9) rfl dX0_firstPartsAtEnd_12 ?_
      refine lv_aload_n hx hb dX0_firstPartsAtEnd_15 rfl (lv_at hl 0 rfl) ?_
      refine va_get (D := D) (ci := 0) (C := RX0) (T := TX0) (N := 6) hx hb hts in_X0_firstPartsAtEnd_X0 hown hG.1 hP 0 rfl rfl 1 (by decide) (hts _ lk_X0_firstPartsAtEnd_15) (fun _ h9 => h9) rfl dX0_firstPartsAtEnd_16 ?_
      refine lv_iload_n hx hb dX0_firstPartsAtEnd_19 rfl (lv_at hl 3 rfl) ?_
      have hp : xPerm (wG k a M N C Gr Pr Pa) ((wG k a M N C Gr Pr Pa) ++ ([])) := xPermNil
      refine xCallI (w := wG k a M N C Gr Pr Pa) (r := []) (va_runV (As := [.int M, .int N, .int x3]) (rest := [.int x2]) ⟨hx, hb, hml, hown, hts⟩ (c_X0_partAt a M N C Gr Pr Pa M N x3 hf) (cwV 3 hts gX0_firstPartsAtEnd_X0_partAt rfl rfl rfl (by decide +kernel) ⟨Nat.le_of_ble_eq_true rfl, Nat.le_of_ble_eq_true rfl⟩) (xPreV hG hP hD hp (ci := 0) rfl (i := 0) rfl) rfl rfl hl.1 rfl (lv_room (Nat.le_of_ble_eq_true rfl)) dX0_firstPartsAtEnd_20 ⟨Nat.zero_le _, Nat.zero_le _⟩) hP hD hS hp (fun _ => wG_adr) (fun r_2 _ H locs hf hP hD hS => ?_)
      have hP : va_P D vwCl (wG k a M N C Gr Pr Pa) H := xNilP hP
      have hD : va_D A (wG k a M N C Gr Pr Pa) := xNilD hD
      refine lv_iadd hx hb dX0_firstPartsAtEnd_23 ?_
      refine lv_istore_n (lv' := [(2, .int (x2 + r_2)), (0, .ref (a 0)), (1, .int x1), (3, .int x3)]) hx hb dX0_firstPartsAtEnd_24 rfl hl (by decide) rfl (fun ls hl => ?_)
      refine lv_iinc (v := x3 + 1) (lv' := [(3, .int (x3 + 1)), (2, .int (x2 + r_2)), (0, .ref (a 0)), (1, .int x1)]) hx hb dX0_firstPartsAtEnd_25 hl (k := 3) rfl rfl (by decide) rfl (fun ls hl => ?_)
      refine lv_goto (tgt := 4) hx hb dX0_firstPartsAtEnd_28 (by decide) ?_
      exact ih (x2 + r_2) (x3 + 1) _ _ _ hf hP hD hS (lv_sub hl [2, 3, 1, 0] rfl)
set_option maxHeartbeats 4000000 in
set_option maxRecDepth 100000 in
theorem c_X0_firstPartsAtEnd {l : Launch} {D : va_G} {k : Nat → ClassId} (a : Nat → Nat) (M : Int32) (N : Int32) (C : Nat → Nat → Int32) (Gr : Nat → Nat → Int32) (Pr : Nat → Nat → Int64) (Pa : Nat → Nat → Int32) (x1 : Int32) {post : Int32 → Prop} (hf : p_X0_firstPartsAtEnd M N Pa x1 post) : ctI l yX0_firstPartsAtEnd wsX0_firstPartsAtEnd ({ frames := 2, cells := 0, slots := 0, locals := 44 }) D k [.ref (a 0), .int x1] (wG k a M N C Gr Pr Pa) (fun u : Unit => wG k a M N C Gr Pr Pa) (fun (r : Int32) (u : Unit) => post r) := by
  refine Met.ofW (cc := cX0_firstPartsAtEnd) (maxL := 4) (ret := (some .int)) (by decide) rfl ?_
  intro p e s m args below meth c s₁ B hml hv
  obtain ⟨rfl, hP, hG, hD0⟩ := hv
  have C0 : xM p s m ([.ref (a 0), .int x1] : List Value).toArray meth c cX0_firstPartsAtEnd 4 RX0 (some .int) wsX0_firstPartsAtEnd := ⟨B.exec, B.bytes, B.returns, atoms_spec (ws := wsX0_firstPartsAtEnd) B.pre, findClass_of_methodNamed B.named, B.notSynchronized, hml⟩
  obtain ⟨hx, hb, hr, hts, hown, hlocks, hml⟩ := id C0
  have hD := xSelf hD0
  have hS : va_S (xIn (wG k a M N C Gr Pr Pa)) s.heap s.heap [] := va_S.rf
  generalize xIn (wG k a M N C Gr Pr Pa) = A at hD hS ⊢
  have hl := lv_entry ([.ref (a 0), .int x1]) (n := 4) (Nat.le_of_ble_eq_true rfl)
  rw [lg_entry_eq]
  generalize (lg_sl ([.ref (a 0), .int x1]) ++ List.replicate (4 - (lg_sl ([.ref (a 0), .int x1])).length) Slot.unset).toArray = ls at hl ⊢
  have hl : lv_has ls 4 [(0, .ref (a 0)), (1, .int x1)] := hl
  unfold p_X0_firstPartsAtEnd at hf
  refine lv_iconst (v := 0) hx hb dX0_firstPartsAtEnd_0 (by decide) ?_
  refine lv_istore_n (lv' := [(2, .int 0), (0, .ref (a 0)), (1, .int x1)]) hx hb dX0_firstPartsAtEnd_1 rfl hl (by decide) rfl (fun ls hl => ?_)
  refine lv_iconst (v := 0) hx hb dX0_firstPartsAtEnd_2 (by decide) ?_
  refine lv_istore_n (lv' := [(3, .int 0), (2, .int 0), (0, .ref (a 0)), (1, .int x1)]) hx hb dX0_firstPartsAtEnd_3 rfl hl (by decide) rfl (fun ls hl => ?_)
  obtain ⟨n_3, hf⟩ := hf
  exact k_X0_firstPartsAtEnd_4 C0 hG n_3 0 0 _ _ _ hf hP hD hS (lv_sub hl [2, 3, 1, 0] rfl)

def p_X0_productsBefore_47 (Pr : Nat → Nat → Int64) (x1 : Int32) (x2 : Int32) (post : Int64 → Prop) (x3 : Int64) (s0 : Int64) : Prop := post (x3 + s0)
def p_X0_productsBefore_28 (Pr : Nat → Nat → Int64) (x1 : Int32) (x2 : Int32) (post : Int64 → Prop) (s0 : Int64) : Prop := ((x2 ≤ 0 → p_X0_productsBefore_47 Pr x1 x2 post s0 0) ∧ (¬ x2 ≤ 0 → (vp_in x1 6 ∧ (vp_in (x2 - 1) 6 ∧ p_X0_productsBefore_47 Pr x1 x2 post s0 (Pr (x1.toNatClampNeg) (x2 - 1).toNatClampNeg)))))
def p_X0_productsBefore_10 (Pr : Nat → Nat → Int64) (x1 : Int32) (x2 : Int32) (post : Int64 → Prop) : Prop := ((x1 ≤ 0 → p_X0_productsBefore_28 Pr x1 x2 post 0) ∧ (¬ x1 ≤ 0 → (vp_in (x1 - 1) 6 ∧ (vp_in x2 6 ∧ p_X0_productsBefore_28 Pr x1 x2 post (Pr ((x1 - 1).toNatClampNeg) x2.toNatClampNeg)))))
def p_X0_productsBefore (Pr : Nat → Nat → Int64) (x1 : Int32) (x2 : Int32) (post : Int64 → Prop) : Prop := ((x1 = 0 → ((x2 = 0 → post 1) ∧ (¬ x2 = 0 → p_X0_productsBefore_10 Pr x1 x2 post ))) ∧ (¬ x1 = 0 → p_X0_productsBefore_10 Pr x1 x2 post ))
theorem in_X0_productsBefore_X0 : ∀ w ∈ u_ws RX0 TX0 6, w ∈ wsX0_productsBefore := by decide +kernel
theorem lk_X0_productsBefore_28 : Cond.fieldLink RX0 28 "GrowingCorners$Grid" "products" "[[J" ∈ wsX0_productsBefore := by decide +kernel
set_option maxHeartbeats 4000000 in
set_option maxRecDepth 100000 in
theorem k_X0_productsBefore_47 {p : Program} {l : Launch} {e : Env} {s : State} {m : MethodId} {args : Array Value} {below : List Frame} {meth : Method} {c : Code} {A : Nat → Prop} {D : va_G} {k : Nat → ClassId} {a : Nat → Nat} {M : Int32} {N : Int32} {C : Nat → Nat → Int32} {Gr : Nat → Nat → Int32} {Pr : Nat → Nat → Int64} {Pa : Nat → Nat → Int32} {x1 : Int32} {x2 : Int32} (C0 : xM p s m args meth c cX0_productsBefore 7 RX0 (some .long) wsX0_productsBefore) (hG : xG D k s) {post : Int64 → Prop} : ∀ (x3 : Int64) (s0 : Int64) (H : Heap) (locs : List Loc) (ls : Array Slot), p_X0_productsBefore_47 Pr x1 x2 post x3 s0 → va_P D vwCl (wG k a M N C Gr Pr Pa) H → va_D A (wG k a M N C Gr Pr Pa) → va_S A s.heap H locs → lv_has ls 7 [(3, .long x3)] → W p l e ({ frames := 0, cells := 0, slots := 0, locals := 0 }) s m args below meth c H locs 0 0 (MQ below (va_Ql (fun (r : Int64) (u : Unit) => post r) (fun u t => va_P D vwCl (wG k a M N C Gr Pr Pa) t.heap) A) args s 0 0 A) (F0 m 47 ls [.long s0]) := by
  obtain ⟨hx, hb, hr, hts, hown, hlocks, hml⟩ := id C0
  intro x3 s0 H locs ls hf hP hD hS hl
  unfold p_X0_productsBefore_47 at hf
  refine lv_lstore (lv' := [(5, .long s0), (3, .long x3)]) hx hb dX0_productsBefore_47 hl (by decide) rfl (fun ls hl => ?_)
  refine lv_lload_n hx hb dX0_productsBefore_49 rfl (lv_at hl 1 rfl) ?_
  refine lv_lload hx hb dX0_productsBefore_50 (lv_at hl 0 rfl) ?_
  refine lv_ladd hx hb dX0_productsBefore_52 ?_
  exact W.lret (v := (x3 + s0)) hx hb hr (fun t ht hW => ⟨⟨(x3 + s0), (), rfl, hf, xHp ht hP⟩, hS.F ht⟩) hS.2.2 dX0_productsBefore_53 hlocks
set_option maxHeartbeats 4000000 in
set_option maxRecDepth 100000 in
theorem k_X0_productsBefore_28 {p : Program} {l : Launch} {e : Env} {s : State} {m : MethodId} {args : Array Value} {below : List Frame} {meth : Method} {c : Code} {A : Nat → Prop} {D : va_G} {k : Nat → ClassId} {a : Nat → Nat} {M : Int32} {N : Int32} {C : Nat → Nat → Int32} {Gr : Nat → Nat → Int32} {Pr : Nat → Nat → Int64} {Pa : Nat → Nat → Int32} {x1 : Int32} {x2 : Int32} (C0 : xM p s m args meth c cX0_productsBefore 7 RX0 (some .long) wsX0_productsBefore) (hG : xG D k s) {post : Int64 → Prop} : ∀ (s0 : Int64) (H : Heap) (locs : List Loc) (ls : Array Slot), p_X0_productsBefore_28 Pr x1 x2 post s0 → va_P D vwCl (wG k a M N C Gr Pr Pa) H → va_D A (wG k a M N C Gr Pr Pa) → va_S A s.heap H locs → lv_has ls 7 [(0, .ref (a 0)), (1, .int x1), (2, .int x2)] → W p l e ({ frames := 0, cells := 0, slots := 0, locals := 0 }) s m args below meth c H locs 0 0 (MQ below (va_Ql (fun (r : Int64) (u : Unit) => post r) (fun u t => va_P D vwCl (wG k a M N C Gr Pr Pa) t.heap) A) args s 0 0 A) (F0 m 28 ls [.long s0]) := by
  obtain ⟨hx, hb, hr, hts, hown, hlocks, hml⟩ := id C0
  intro s0 H locs ls hf hP hD hS hl
  unfold p_X0_productsBefore_28 at hf
  refine lv_lstore_n (lv' := [(3, .long s0), (0, .ref (a 0)), (1, .int x1), (2, .int x2)]) hx hb dX0_productsBefore_28 rfl hl (by decide) rfl (fun ls hl => ?_)
  refine lv_iload_n hx hb dX0_productsBefore_29 rfl (lv_at hl 3 rfl) ?_
  refine lv_if_le (tgt := 46) hx hb dX0_productsBefore_30 (by decide) (fun c_3 => ?_) (fun c_3 => ?_)
  · have hf := hf.1 c_3
    refine lv_lconst (v := 0) hx hb dX0_productsBefore_46 (by decide) ?_
    exact k_X0_productsBefore_47 C0 hG s0 0 _ _ _ hf hP hD hS (lv_sub hl [0] rfl)
  · have hf := hf.2 c_3
    refine lv_aload_n hx hb dX0_productsBefore_33 rfl (lv_at hl 1 rfl) ?_
    refine va_get (D := D) (ci := 0) (C := RX0) (T := TX0) (N := 6) hx hb hts in_X0_productsBefore_X0 hown hG.1 hP 0 rfl rfl 4 (by decide) (hts _ lk_X0_productsBefore_28) (fun _ h9 => h9) rfl dX0_productsBefore_34 ?_
    refine lv_iload_n hx hb dX0_productsBefore_37 rfl (lv_at hl 2 rfl) ?_
    obtain ⟨h_4, hf⟩ := hf
    refine xAald (f := fun i => a (i + 17)) hx hb hG.1 hP 3 4 rfl rfl h_4 dX0_productsBefore_38 ?_
    refine lv_iload_n hx hb dX0_productsBefore_39 rfl (lv_at hl 3 rfl) ?_
    refine lv_iconst (v := 1) hx hb dX0_productsBefore_40 (by decide) ?_
    refine lv_isub hx hb dX0_productsBefore_41 ?_
    obtain ⟨h_5, hf⟩ := hf
    refine va_lald hx hb hG.1 hP (x1.toNatClampNeg + 17) 1 (wG_row3 (vp_lt h_4)) rfl h_5 dX0_productsBefore_42 ?_
    refine lv_goto (tgt := 47) hx hb dX0_productsBefore_43 (by decide) ?_
    exact k_X0_productsBefore_47 C0 hG s0 (Pr (x1.toNatClampNeg) (x2 - 1).toNatClampNeg) _ _ _ hf hP hD hS (lv_sub hl [0] rfl)
set_option maxHeartbeats 4000000 in
set_option maxRecDepth 100000 in
theorem k_X0_productsBefore_10 {p : Program} {l : Launch} {e : Env} {s : State} {m : MethodId} {args : Array Value} {below : List Frame} {meth : Method} {c : Code} {A : Nat → Prop} {D : va_G} {k : Nat → ClassId} {a : Nat → Nat} {M : Int32} {N : Int32} {C : Nat → Nat → Int32} {Gr : Nat → Nat → Int32} {Pr : Nat → Nat → Int64} {Pa : Nat → Nat → Int32} {x1 : Int32} {x2 : Int32} (C0 : xM p s m args meth c cX0_productsBefore 7 RX0 (some .long) wsX0_productsBefore) (hG : xG D k s) {post : Int64 → Prop} : ∀ (H : Heap) (locs : List Loc) (ls : Array Slot), p_X0_productsBefore_10 Pr x1 x2 post → va_P D vwCl (wG k a M N C Gr Pr Pa) H → va_D A (wG k a M N C Gr Pr Pa) → va_S A s.heap H locs → lv_has ls 7 [(0, .ref (a 0)), (1, .int x1), (2, .int x2)] → W p l e ({ frames := 0, cells := 0, slots := 0, locals := 0 }) s m args below meth c H locs 0 0 (MQ below (va_Ql (fun (r : Int64) (u : Unit) => post r) (fun u t => va_P D vwCl (wG k a M N C Gr Pr Pa) t.heap) A) args s 0 0 A) (F0 m 10 ls []) := by
  obtain ⟨hx, hb, hr, hts, hown, hlocks, hml⟩ := id C0
  intro H locs ls hf hP hD hS hl
  unfold p_X0_productsBefore_10 at hf
  refine lv_iload_n hx hb dX0_productsBefore_10 rfl (lv_at hl 1 rfl) ?_
  refine lv_if_le (tgt := 27) hx hb dX0_productsBefore_11 (by decide) (fun c_2 => ?_) (fun c_2 => ?_)
  · have hf := hf.1 c_2
    refine lv_lconst (v := 0) hx hb dX0_productsBefore_27 (by decide) ?_
    exact k_X0_productsBefore_28 C0 hG 0 _ _ _ hf hP hD hS (lv_sub hl [0, 1, 2] rfl)
  · have hf := hf.2 c_2
    refine lv_aload_n hx hb dX0_productsBefore_14 rfl (lv_at hl 0 rfl) ?_
    refine va_get (D := D) (ci := 0) (C := RX0) (T := TX0) (N := 6) hx hb hts in_X0_productsBefore_X0 hown hG.1 hP 0 rfl rfl 4 (by decide) (hts _ lk_X0_productsBefore_28) (fun _ h9 => h9) rfl dX0_productsBefore_15 ?_
    refine lv_iload_n hx hb dX0_productsBefore_18 rfl (lv_at hl 1 rfl) ?_
    refine lv_iconst (v := 1) hx hb dX0_productsBefore_19 (by decide) ?_
    refine lv_isub hx hb dX0_productsBefore_20 ?_
    obtain ⟨h_6, hf⟩ := hf
    refine xAald (f := fun i => a (i + 17)) hx hb hG.1 hP 3 4 rfl rfl h_6 dX0_productsBefore_21 ?_
    refine lv_iload_n hx hb dX0_productsBefore_22 rfl (lv_at hl 2 rfl) ?_
    obtain ⟨h_7, hf⟩ := hf
    refine va_lald hx hb hG.1 hP ((x1 - 1).toNatClampNeg + 17) 1 (wG_row3 (vp_lt h_6)) rfl h_7 dX0_productsBefore_23 ?_
    refine lv_goto (tgt := 28) hx hb dX0_productsBefore_24 (by decide) ?_
    exact k_X0_productsBefore_28 C0 hG (Pr ((x1 - 1).toNatClampNeg) x2.toNatClampNeg) _ _ _ hf hP hD hS (lv_sub hl [0, 1, 2] rfl)
set_option maxHeartbeats 4000000 in
set_option maxRecDepth 100000 in
theorem c_X0_productsBefore {l : Launch} {D : va_G} {k : Nat → ClassId} (a : Nat → Nat) (M : Int32) (N : Int32) (C : Nat → Nat → Int32) (Gr : Nat → Nat → Int32) (Pr : Nat → Nat → Int64) (Pa : Nat → Nat → Int32) (x1 : Int32) (x2 : Int32) {post : Int64 → Prop} (hf : p_X0_productsBefore Pr x1 x2 post) : ctL l yX0_productsBefore wsX0_productsBefore ({ frames := 0, cells := 0, slots := 0, locals := 0 }) D k [.ref (a 0), .int x1, .int x2] (wG k a M N C Gr Pr Pa) (fun u : Unit => wG k a M N C Gr Pr Pa) (fun (r : Int64) (u : Unit) => post r) := by
  refine Met.ofW (cc := cX0_productsBefore) (maxL := 7) (ret := (some .long)) (by decide) rfl ?_
  intro p e s m args below meth c s₁ B hml hv
  obtain ⟨rfl, hP, hG, hD0⟩ := hv
  have C0 : xM p s m ([.ref (a 0), .int x1, .int x2] : List Value).toArray meth c cX0_productsBefore 7 RX0 (some .long) wsX0_productsBefore := ⟨B.exec, B.bytes, B.returns, atoms_spec (ws := wsX0_productsBefore) B.pre, findClass_of_methodNamed B.named, B.notSynchronized, hml⟩
  obtain ⟨hx, hb, hr, hts, hown, hlocks, hml⟩ := id C0
  have hD := xSelf hD0
  have hS : va_S (xIn (wG k a M N C Gr Pr Pa)) s.heap s.heap [] := va_S.rf
  generalize xIn (wG k a M N C Gr Pr Pa) = A at hD hS ⊢
  have hl := lv_entry ([.ref (a 0), .int x1, .int x2]) (n := 7) (Nat.le_of_ble_eq_true rfl)
  rw [lg_entry_eq]
  generalize (lg_sl ([.ref (a 0), .int x1, .int x2]) ++ List.replicate (7 - (lg_sl ([.ref (a 0), .int x1, .int x2])).length) Slot.unset).toArray = ls at hl ⊢
  have hl : lv_has ls 7 [(0, .ref (a 0)), (1, .int x1), (2, .int x2)] := hl
  unfold p_X0_productsBefore at hf
  refine lv_iload_n hx hb dX0_productsBefore_0 rfl (lv_at hl 1 rfl) ?_
  refine lv_if_ne (tgt := 10) hx hb dX0_productsBefore_1 (by decide) (fun c_1 => ?_) (fun c_1 => ?_)
  · have hf := hf.2 c_1
    exact k_X0_productsBefore_10 C0 hG _ _ _ hf hP hD hS (lv_sub hl [0, 1, 2] rfl)
  · have hf := hf.1 c_1
    refine lv_iload_n hx hb dX0_productsBefore_4 rfl (lv_at hl 2 rfl) ?_
    refine lv_if_ne (tgt := 10) hx hb dX0_productsBefore_5 (by decide) (fun c_8 => ?_) (fun c_8 => ?_)
    · have hf := hf.2 c_8
      exact k_X0_productsBefore_10 C0 hG _ _ _ hf hP hD hS (lv_sub hl [0, 1, 2] rfl)
    · have hf := hf.1 c_8
      refine lv_lconst (v := 1) hx hb dX0_productsBefore_8 (by decide) ?_
      exact W.lret (v := 1) hx hb hr (fun t ht hW => ⟨⟨(1 : Int64), (), rfl, hf, xHp ht hP⟩, hS.F ht⟩) hS.2.2 dX0_productsBefore_9 hlocks

def p_X0_productSum_10 (C : Nat → Nat → Int32) (x1 : Int32) (x2 : Int32) (post : Int64 → (Nat → Nat → Int64) → Prop) (k2 : (Nat → Nat → Int64) → Int32 → Prop) : Nat → (Nat → Nat → Int64) → Int32 → Int32 → Prop
  | 0, _, _, _ => False
  | n + 1, Pr, x3, x4 => ((x2 < x4 → k2 Pr (x3 + 1)) ∧ (¬ x2 < x4 → (vp_in x3 6 ∧ (vp_in x3 6 ∧ (vp_in x4 6 ∧ p_X0_productsBefore Pr x3 x4 (fun r_8 => (vp_in x4 6 ∧ p_X0_productSum_10 C x1 x2 post k2 n (up2 Pr (x3.toNatClampNeg) (vp_updL (Pr (x3.toNatClampNeg)) (x4.toNatClampNeg) (((C (x3.toNatClampNeg) x4.toNatClampNeg).toInt64) * r_8))) x3 (x4 + 1))))))))
def p_X0_productSum_2 (C : Nat → Nat → Int32) (x1 : Int32) (x2 : Int32) (post : Int64 → (Nat → Nat → Int64) → Prop) : Nat → (Nat → Nat → Int64) → Int32 → Prop
  | 0, _, _ => False
  | n + 1, Pr, x3 => ((x1 < x3 → (vp_in x1 6 ∧ (vp_in x2 6 ∧ post (Pr (x1.toNatClampNeg) x2.toNatClampNeg) Pr))) ∧ (¬ x1 < x3 → (∃ n_10, p_X0_productSum_10 C x1 x2 post (fun Pr x3 => p_X0_productSum_2 C x1 x2 post n Pr x3) n_10 Pr x3 0)))
def p_X0_productSum (C : Nat → Nat → Int32) (Pr : Nat → Nat → Int64) (x1 : Int32) (x2 : Int32) (post : Int64 → (Nat → Nat → Int64) → Prop) : Prop := (∃ n_11, p_X0_productSum_2 C x1 x2 post n_11 Pr 0)
theorem in_X0_productSum_X0 : ∀ w ∈ u_ws RX0 TX0 6, w ∈ wsX0_productSum := by decide +kernel
theorem lk_X0_productSum_20 : Cond.fieldLink RX0 20 "GrowingCorners$Grid" "cells" "[[I" ∈ wsX0_productSum := by decide +kernel
theorem lk_X0_productSum_28 : Cond.fieldLink RX0 28 "GrowingCorners$Grid" "products" "[[J" ∈ wsX0_productSum := by decide +kernel
set_option maxHeartbeats 4000000 in
set_option maxRecDepth 100000 in
theorem k_X0_productSum_10 {p : Program} {l : Launch} {e : Env} {s : State} {m : MethodId} {args : Array Value} {below : List Frame} {meth : Method} {c : Code} {A : Nat → Prop} {D : va_G} {k : Nat → ClassId} {a : Nat → Nat} {M : Int32} {N : Int32} {C : Nat → Nat → Int32} {Gr : Nat → Nat → Int32} {Pa : Nat → Nat → Int32} {x1 : Int32} {x2 : Int32} (C0 : xM p s m args meth c cX0_productSum 5 RX0 (some .long) wsX0_productSum) (hG : xG D k s) {post : Int64 → (Nat → Nat → Int64) → Prop} {k2 : (Nat → Nat → Int64) → Int32 → Prop} (hk2 : ∀ (Pr : Nat → Nat → Int64) (x3 : Int32) (H : Heap) (locs : List Loc) (ls : Array Slot), k2 Pr x3 → va_P D vwCl (wG k a M N C Gr Pr Pa) H → va_D A (wG k a M N C Gr Pr Pa) → va_S A s.heap H locs → lv_has ls 5 [(0, .ref (a 0)), (1, .int x1), (2, .int x2), (3, .int x3)] → W p l e ({ frames := 1, cells := 0, slots := 0, locals := 26 }) s m args below meth c H locs 0 0 (MQ below (va_Ql (fun (r : Int64) (u : (Nat → Nat → Int64)) => post r u) (fun u t => va_P D vwCl (wG k a M N C Gr u Pa) t.heap) A) args s 0 0 A) (F0 m 2 ls [])) : ∀ (n : Nat) (Pr : Nat → Nat → Int64) (x3 : Int32) (x4 : Int32) (H : Heap) (locs : List Loc) (ls : Array Slot), p_X0_productSum_10 C x1 x2 post k2 n Pr x3 x4 → va_P D vwCl (wG k a M N C Gr Pr Pa) H → va_D A (wG k a M N C Gr Pr Pa) → va_S A s.heap H locs → lv_has ls 5 [(0, .ref (a 0)), (1, .int x1), (2, .int x2), (3, .int x3), (4, .int x4)] → W p l e ({ frames := 1, cells := 0, slots := 0, locals := 26 }) s m args below meth c H locs 0 0 (MQ below (va_Ql (fun (r : Int64) (u : (Nat → Nat → Int64)) => post r u) (fun u t => va_P D vwCl (wG k a M N C Gr u Pa) t.heap) A) args s 0 0 A) (F0 m 10 ls []) := by
  obtain ⟨hx, hb, hr, hts, hown, hlocks, hml⟩ := id C0
  intro n
  induction n with
  | zero =>
    intro Pr x3 x4 H locs ls hf
    exact False.elim hf
  | succ n ih =>
    intro Pr x3 x4 H locs ls hf hP hD hS hl
    unfold p_X0_productSum_10 at hf
    refine lv_iload hx hb dX0_productSum_10 (lv_at hl 4 rfl) ?_
    refine lv_iload_n hx hb dX0_productSum_12 rfl (lv_at hl 2 rfl) ?_
    refine lv_icmp_gt (tgt := 49) hx hb dX0_productSum_13 (by decide) (fun c_4 => ?_) (fun c_4 => ?_)
    · have hf := hf.1 c_4
      refine lv_iinc (v := x3 + 1) (lv' := [(3, .int (x3 + 1)), (0, .ref (a 0)), (1, .int x1), (2, .int x2), (4, .int x4)]) hx hb dX0_productSum_49 hl (k := 3) rfl rfl (by decide) rfl (fun ls hl => ?_)
      refine lv_goto (tgt := 2) hx hb dX0_productSum_52 (by decide) ?_
      exact hk2 Pr (x3 + 1) _ _ _ hf hP hD hS (lv_sub hl [1, 2, 3, 0] rfl)
    · have hf := hf.2 c_4
      refine lv_aload_n hx hb dX0_productSum_16 rfl (lv_at hl 0 rfl) ?_
      refine va_get (D := D) (ci := 0) (C := RX0) (T := TX0) (N := 6) hx hb hts in_X0_productSum_X0 hown hG.1 hP 0 rfl rfl 4 (by decide) (hts _ lk_X0_productSum_28) (fun _ h9 => h9) rfl dX0_productSum_17 ?_
      refine lv_iload_n hx hb dX0_productSum_20 rfl (lv_at hl 3 rfl) ?_
      obtain ⟨h_5, hf⟩ := hf
      refine xAald (f := fun i => a (i + 17)) hx hb hG.1 hP 3 4 rfl rfl h_5 dX0_productSum_21 ?_
      refine lv_iload hx hb dX0_productSum_22 (lv_at hl 4 rfl) ?_
      refine lv_aload_n hx hb dX0_productSum_24 rfl (lv_at hl 0 rfl) ?_
      refine va_get (D := D) (ci := 0) (C := RX0) (T := TX0) (N := 6) hx hb hts in_X0_productSum_X0 hown hG.1 hP 0 rfl rfl 2 (by decide) (hts _ lk_X0_productSum_20) (fun _ h9 => h9) rfl dX0_productSum_25 ?_
      refine lv_iload_n hx hb dX0_productSum_28 rfl (lv_at hl 3 rfl) ?_
      obtain ⟨h_6, hf⟩ := hf
      refine xAald (f := fun i => a (i + 5)) hx hb hG.1 hP 1 3 rfl rfl h_6 dX0_productSum_29 ?_
      refine lv_iload hx hb dX0_productSum_30 (lv_at hl 4 rfl) ?_
      obtain ⟨h_7, hf⟩ := hf
      refine va_iald hx hb hG.1 hP (x3.toNatClampNeg + 5) 0 (wG_row1 (vp_lt h_6)) rfl h_7 dX0_productSum_32 ?_
      refine lv_i2l (v := (C (x3.toNatClampNeg) x4.toNatClampNeg).toInt64) hx hb dX0_productSum_33 rfl ?_
      refine lv_aload_n hx hb dX0_productSum_34 rfl (lv_at hl 0 rfl) ?_
      refine lv_iload_n hx hb dX0_productSum_35 rfl (lv_at hl 3 rfl) ?_
      refine lv_iload hx hb dX0_productSum_36 (lv_at hl 4 rfl) ?_
      have hp : xPerm (wG k a M N C Gr Pr Pa) ((wG k a M N C Gr Pr Pa) ++ ([])) := xPermNil
      refine xCallL (w := wG k a M N C Gr Pr Pa) (r := []) (va_runV (As := [.int x3, .int x4]) (rest := [.long ((C (x3.toNatClampNeg) x4.toNatClampNeg).toInt64), .int x4, .ref (a (x3.toNatClampNeg + 17))]) ⟨hx, hb, hml, hown, hts⟩ (c_X0_productsBefore a M N C Gr Pr Pa x3 x4 hf) (cwV 2 hts gX0_productSum_X0_productsBefore rfl rfl rfl (by decide +kernel) ⟨Nat.le_of_ble_eq_true rfl, Nat.le_of_ble_eq_true rfl⟩) (xPreV hG hP hD hp (ci := 0) rfl (i := 0) rfl) rfl rfl hl.1 rfl (lv_room (Nat.le_of_ble_eq_true rfl)) dX0_productSum_38 ⟨Nat.zero_le _, Nat.zero_le _⟩) hP hD hS hp (fun _ => wG_adr) (fun r_8 _ H locs hf hP hD hS => ?_)
      have hP : va_P D vwCl (wG k a M N C Gr Pr Pa) H := xNilP hP
      have hD : va_D A (wG k a M N C Gr Pr Pa) := xNilD hD
      refine lv_lmul hx hb dX0_productSum_41 ?_
      obtain ⟨h_9, hf⟩ := hf
      refine va_last hx hb hG.1 hP hD hS (x3.toNatClampNeg + 17) 1 (wG_row3 (vp_lt h_5)) rfl h_9 dX0_productSum_42 (fun H locs hP hD hS => ?_)
      have hP : va_P D vwCl (wG k a M N C Gr (up2 Pr (x3.toNatClampNeg) (vp_updL (Pr (x3.toNatClampNeg)) (x4.toNatClampNeg) (((C (x3.toNatClampNeg) x4.toNatClampNeg).toInt64) * r_8))) Pa) H := by rw [← wG_put3 (vp_lt h_5)]; exact hP
      have hD : va_D A (wG k a M N C Gr (up2 Pr (x3.toNatClampNeg) (vp_updL (Pr (x3.toNatClampNeg)) (x4.toNatClampNeg) (((C (x3.toNatClampNeg) x4.toNatClampNeg).toInt64) * r_8))) Pa) := by rw [← wG_put3 (vp_lt h_5)]; exact hD
      refine lv_iinc (v := x4 + 1) (lv' := [(4, .int (x4 + 1)), (0, .ref (a 0)), (1, .int x1), (2, .int x2), (3, .int x3)]) hx hb dX0_productSum_43 hl (k := 4) rfl rfl (by decide) rfl (fun ls hl => ?_)
      refine lv_goto (tgt := 10) hx hb dX0_productSum_46 (by decide) ?_
      exact ih (up2 Pr (x3.toNatClampNeg) (vp_updL (Pr (x3.toNatClampNeg)) (x4.toNatClampNeg) (((C (x3.toNatClampNeg) x4.toNatClampNeg).toInt64) * r_8))) x3 (x4 + 1) _ _ _ hf hP hD hS (lv_sub hl [1, 2, 3, 4, 0] rfl)
set_option maxHeartbeats 4000000 in
set_option maxRecDepth 100000 in
theorem k_X0_productSum_2 {p : Program} {l : Launch} {e : Env} {s : State} {m : MethodId} {args : Array Value} {below : List Frame} {meth : Method} {c : Code} {A : Nat → Prop} {D : va_G} {k : Nat → ClassId} {a : Nat → Nat} {M : Int32} {N : Int32} {C : Nat → Nat → Int32} {Gr : Nat → Nat → Int32} {Pa : Nat → Nat → Int32} {x1 : Int32} {x2 : Int32} (C0 : xM p s m args meth c cX0_productSum 5 RX0 (some .long) wsX0_productSum) (hG : xG D k s) {post : Int64 → (Nat → Nat → Int64) → Prop} : ∀ (n : Nat) (Pr : Nat → Nat → Int64) (x3 : Int32) (H : Heap) (locs : List Loc) (ls : Array Slot), p_X0_productSum_2 C x1 x2 post n Pr x3 → va_P D vwCl (wG k a M N C Gr Pr Pa) H → va_D A (wG k a M N C Gr Pr Pa) → va_S A s.heap H locs → lv_has ls 5 [(0, .ref (a 0)), (1, .int x1), (2, .int x2), (3, .int x3)] → W p l e ({ frames := 1, cells := 0, slots := 0, locals := 26 }) s m args below meth c H locs 0 0 (MQ below (va_Ql (fun (r : Int64) (u : (Nat → Nat → Int64)) => post r u) (fun u t => va_P D vwCl (wG k a M N C Gr u Pa) t.heap) A) args s 0 0 A) (F0 m 2 ls []) := by
  obtain ⟨hx, hb, hr, hts, hown, hlocks, hml⟩ := id C0
  intro n
  induction n with
  | zero =>
    intro Pr x3 H locs ls hf
    exact False.elim hf
  | succ n ih =>
    intro Pr x3 H locs ls hf hP hD hS hl
    unfold p_X0_productSum_2 at hf
    refine lv_iload_n hx hb dX0_productSum_2 rfl (lv_at hl 3 rfl) ?_
    refine lv_iload_n hx hb dX0_productSum_3 rfl (lv_at hl 1 rfl) ?_
    refine lv_icmp_gt (tgt := 55) hx hb dX0_productSum_4 (by decide) (fun c_1 => ?_) (fun c_1 => ?_)
    · have hf := hf.1 c_1
      refine lv_aload_n hx hb dX0_productSum_55 rfl (lv_at hl 0 rfl) ?_
      refine va_get (D := D) (ci := 0) (C := RX0) (T := TX0) (N := 6) hx hb hts in_X0_productSum_X0 hown hG.1 hP 0 rfl rfl 4 (by decide) (hts _ lk_X0_productSum_28) (fun _ h9 => h9) rfl dX0_productSum_56 ?_
      refine lv_iload_n hx hb dX0_productSum_59 rfl (lv_at hl 1 rfl) ?_
      obtain ⟨h_2, hf⟩ := hf
      refine xAald (f := fun i => a (i + 17)) hx hb hG.1 hP 3 4 rfl rfl h_2 dX0_productSum_60 ?_
      refine lv_iload_n hx hb dX0_productSum_61 rfl (lv_at hl 2 rfl) ?_
      obtain ⟨h_3, hf⟩ := hf
      refine va_lald hx hb hG.1 hP (x1.toNatClampNeg + 17) 1 (wG_row3 (vp_lt h_2)) rfl h_3 dX0_productSum_62 ?_
      exact W.lret (v := (Pr (x1.toNatClampNeg) x2.toNatClampNeg)) hx hb hr (fun t ht hW => ⟨⟨(Pr (x1.toNatClampNeg) x2.toNatClampNeg), Pr, rfl, hf, xHp ht hP⟩, hS.F ht⟩) hS.2.2 dX0_productSum_63 hlocks
    · have hf := hf.2 c_1
      refine lv_iconst (v := 0) hx hb dX0_productSum_7 (by decide) ?_
      refine lv_istore (lv' := [(4, .int 0), (0, .ref (a 0)), (1, .int x1), (2, .int x2), (3, .int x3)]) hx hb dX0_productSum_8 hl (by decide) rfl (fun ls hl => ?_)
      obtain ⟨n_10, hf⟩ := hf
      exact k_X0_productSum_10 C0 hG ih n_10 Pr x3 0 _ _ _ hf hP hD hS (lv_sub hl [1, 2, 3, 4, 0] rfl)
set_option maxHeartbeats 4000000 in
set_option maxRecDepth 100000 in
theorem c_X0_productSum {l : Launch} {D : va_G} {k : Nat → ClassId} (a : Nat → Nat) (M : Int32) (N : Int32) (C : Nat → Nat → Int32) (Gr : Nat → Nat → Int32) (Pr : Nat → Nat → Int64) (Pa : Nat → Nat → Int32) (x1 : Int32) (x2 : Int32) {post : Int64 → (Nat → Nat → Int64) → Prop} (hf : p_X0_productSum C Pr x1 x2 post) : ctL l yX0_productSum wsX0_productSum ({ frames := 1, cells := 0, slots := 0, locals := 26 }) D k [.ref (a 0), .int x1, .int x2] (wG k a M N C Gr Pr Pa) (fun u : (Nat → Nat → Int64) => wG k a M N C Gr u Pa) (fun (r : Int64) (u : (Nat → Nat → Int64)) => post r u) := by
  refine Met.ofW (cc := cX0_productSum) (maxL := 5) (ret := (some .long)) (by decide) rfl ?_
  intro p e s m args below meth c s₁ B hml hv
  obtain ⟨rfl, hP, hG, hD0⟩ := hv
  have C0 : xM p s m ([.ref (a 0), .int x1, .int x2] : List Value).toArray meth c cX0_productSum 5 RX0 (some .long) wsX0_productSum := ⟨B.exec, B.bytes, B.returns, atoms_spec (ws := wsX0_productSum) B.pre, findClass_of_methodNamed B.named, B.notSynchronized, hml⟩
  obtain ⟨hx, hb, hr, hts, hown, hlocks, hml⟩ := id C0
  have hD := xSelf hD0
  have hS : va_S (xIn (wG k a M N C Gr Pr Pa)) s.heap s.heap [] := va_S.rf
  generalize xIn (wG k a M N C Gr Pr Pa) = A at hD hS ⊢
  have hl := lv_entry ([.ref (a 0), .int x1, .int x2]) (n := 5) (Nat.le_of_ble_eq_true rfl)
  rw [lg_entry_eq]
  generalize (lg_sl ([.ref (a 0), .int x1, .int x2]) ++ List.replicate (5 - (lg_sl ([.ref (a 0), .int x1, .int x2])).length) Slot.unset).toArray = ls at hl ⊢
  have hl : lv_has ls 5 [(0, .ref (a 0)), (1, .int x1), (2, .int x2)] := hl
  unfold p_X0_productSum at hf
  refine lv_iconst (v := 0) hx hb dX0_productSum_0 (by decide) ?_
  refine lv_istore_n (lv' := [(3, .int 0), (0, .ref (a 0)), (1, .int x1), (2, .int x2)]) hx hb dX0_productSum_1 rfl hl (by decide) rfl (fun ls hl => ?_)
  obtain ⟨n_11, hf⟩ := hf
  exact k_X0_productSum_2 C0 hG n_11 Pr 0 _ _ _ hf hP hD hS (lv_sub hl [1, 2, 3, 0] rfl)

def p_X0_countServed_44 (N : Int32) (C : Nat → Nat → Int32) (x1 : Int32) (x2 : Int32) (post : Int32 → (Nat → Nat → Int32) → Prop) (k19 : (Nat → Nat → Int32) → Int32 → Int32 → Prop) (Gr : Nat → Nat → Int32) (x3 : Int32) (x4 : Int32) : Prop := k19 Gr x3 (x4 + 1)
def p_X0_countServed_19 (N : Int32) (C : Nat → Nat → Int32) (x1 : Int32) (x2 : Int32) (post : Int32 → (Nat → Nat → Int32) → Prop) : Nat → (Nat → Nat → Int32) → Int32 → Int32 → Prop
  | 0, _, _, _ => False
  | n + 1, Gr, x3, x4 => ((N ≤ x4 → post x3 Gr) ∧ (¬ N ≤ x4 → (vp_in x1 6 ∧ (vp_in x4 6 ∧ ((x2 < (Gr (x1.toNatClampNeg) x4.toNatClampNeg) → p_X0_countServed_44 N C x1 x2 post (fun Gr x3 x4 => p_X0_countServed_19 N C x1 x2 post n Gr x3 x4) Gr x3 x4) ∧ (¬ x2 < (Gr (x1.toNatClampNeg) x4.toNatClampNeg) → p_X0_countServed_44 N C x1 x2 post (fun Gr x3 x4 => p_X0_countServed_19 N C x1 x2 post n Gr x3 x4) Gr (x3 + 1) x4))))))
def p_X0_countServed (N : Int32) (C : Nat → Nat → Int32) (Gr : Nat → Nat → Int32) (x1 : Int32) (x2 : Int32) (post : Int32 → (Nat → Nat → Int32) → Prop) : Prop := p_X0_heaviest C Gr 0 0 x1 (N - 1) (fun r_2 Gr_1 => (∃ n_7, p_X0_countServed_19 N C x1 x2 post n_7 Gr_1 0 0))
theorem in_X0_countServed_X0 : ∀ w ∈ u_ws RX0 TX0 6, w ∈ wsX0_countServed := by decide +kernel
theorem lk_X0_countServed_15 : Cond.fieldLink RX0 15 "GrowingCorners$Grid" "columns" "I" ∈ wsX0_countServed := by decide +kernel
theorem lk_X0_countServed_23 : Cond.fieldLink RX0 23 "GrowingCorners$Grid" "greatest" "[[I" ∈ wsX0_countServed := by decide +kernel
set_option maxHeartbeats 4000000 in
set_option maxRecDepth 100000 in
theorem k_X0_countServed_44 {p : Program} {l : Launch} {e : Env} {s : State} {m : MethodId} {args : Array Value} {below : List Frame} {meth : Method} {c : Code} {A : Nat → Prop} {D : va_G} {k : Nat → ClassId} {a : Nat → Nat} {M : Int32} {N : Int32} {C : Nat → Nat → Int32} {Pr : Nat → Nat → Int64} {Pa : Nat → Nat → Int32} {x1 : Int32} {x2 : Int32} (C0 : xM p s m args meth c cX0_countServed 5 RX0 (some .int) wsX0_countServed) (hG : xG D k s) {post : Int32 → (Nat → Nat → Int32) → Prop} {k19 : (Nat → Nat → Int32) → Int32 → Int32 → Prop} (hk19 : ∀ (Gr : Nat → Nat → Int32) (x3 : Int32) (x4 : Int32) (H : Heap) (locs : List Loc) (ls : Array Slot), k19 Gr x3 x4 → va_P D vwCl (wG k a M N C Gr Pr Pa) H → va_D A (wG k a M N C Gr Pr Pa) → va_S A s.heap H locs → lv_has ls 5 [(0, .ref (a 0)), (1, .int x1), (2, .int x2), (3, .int x3), (4, .int x4)] → W p l e ({ frames := 2, cells := 0, slots := 0, locals := 52 }) s m args below meth c H locs 0 0 (MQ below (va_Qi (fun (r : Int32) (u : (Nat → Nat → Int32)) => post r u) (fun u t => va_P D vwCl (wG k a M N C u Pr Pa) t.heap) A) args s 0 0 A) (F0 m 19 ls [])) : ∀ (Gr : Nat → Nat → Int32) (x3 : Int32) (x4 : Int32) (H : Heap) (locs : List Loc) (ls : Array Slot), p_X0_countServed_44 N C x1 x2 post k19 Gr x3 x4 → va_P D vwCl (wG k a M N C Gr Pr Pa) H → va_D A (wG k a M N C Gr Pr Pa) → va_S A s.heap H locs → lv_has ls 5 [(0, .ref (a 0)), (1, .int x1), (2, .int x2), (3, .int x3), (4, .int x4)] → W p l e ({ frames := 2, cells := 0, slots := 0, locals := 52 }) s m args below meth c H locs 0 0 (MQ below (va_Qi (fun (r : Int32) (u : (Nat → Nat → Int32)) => post r u) (fun u t => va_P D vwCl (wG k a M N C u Pr Pa) t.heap) A) args s 0 0 A) (F0 m 44 ls []) := by
  obtain ⟨hx, hb, hr, hts, hown, hlocks, hml⟩ := id C0
  intro Gr x3 x4 H locs ls hf hP hD hS hl
  unfold p_X0_countServed_44 at hf
  refine lv_iinc (v := x4 + 1) (lv' := [(4, .int (x4 + 1)), (0, .ref (a 0)), (1, .int x1), (2, .int x2), (3, .int x3)]) hx hb dX0_countServed_44 hl (k := 4) rfl rfl (by decide) rfl (fun ls hl => ?_)
  refine lv_goto (tgt := 19) hx hb dX0_countServed_47 (by decide) ?_
  exact hk19 Gr x3 (x4 + 1) _ _ _ hf hP hD hS (lv_sub hl [1, 2, 3, 4, 0] rfl)
set_option maxHeartbeats 4000000 in
set_option maxRecDepth 100000 in
theorem k_X0_countServed_19 {p : Program} {l : Launch} {e : Env} {s : State} {m : MethodId} {args : Array Value} {below : List Frame} {meth : Method} {c : Code} {A : Nat → Prop} {D : va_G} {k : Nat → ClassId} {a : Nat → Nat} {M : Int32} {N : Int32} {C : Nat → Nat → Int32} {Pr : Nat → Nat → Int64} {Pa : Nat → Nat → Int32} {x1 : Int32} {x2 : Int32} (C0 : xM p s m args meth c cX0_countServed 5 RX0 (some .int) wsX0_countServed) (hG : xG D k s) {post : Int32 → (Nat → Nat → Int32) → Prop} : ∀ (n : Nat) (Gr : Nat → Nat → Int32) (x3 : Int32) (x4 : Int32) (H : Heap) (locs : List Loc) (ls : Array Slot), p_X0_countServed_19 N C x1 x2 post n Gr x3 x4 → va_P D vwCl (wG k a M N C Gr Pr Pa) H → va_D A (wG k a M N C Gr Pr Pa) → va_S A s.heap H locs → lv_has ls 5 [(0, .ref (a 0)), (1, .int x1), (2, .int x2), (3, .int x3), (4, .int x4)] → W p l e ({ frames := 2, cells := 0, slots := 0, locals := 52 }) s m args below meth c H locs 0 0 (MQ below (va_Qi (fun (r : Int32) (u : (Nat → Nat → Int32)) => post r u) (fun u t => va_P D vwCl (wG k a M N C u Pr Pa) t.heap) A) args s 0 0 A) (F0 m 19 ls []) := by
  obtain ⟨hx, hb, hr, hts, hown, hlocks, hml⟩ := id C0
  intro n
  induction n with
  | zero =>
    intro Gr x3 x4 H locs ls hf
    exact False.elim hf
  | succ n ih =>
    intro Gr x3 x4 H locs ls hf hP hD hS hl
    unfold p_X0_countServed_19 at hf
    refine lv_iload hx hb dX0_countServed_19 (lv_at hl 4 rfl) ?_
    refine lv_aload_n hx hb dX0_countServed_21 rfl (lv_at hl 0 rfl) ?_
    refine va_get (D := D) (ci := 0) (C := RX0) (T := TX0) (N := 6) hx hb hts in_X0_countServed_X0 hown hG.1 hP 0 rfl rfl 1 (by decide) (hts _ lk_X0_countServed_15) (fun _ h9 => h9) rfl dX0_countServed_22 ?_
    refine lv_icmp_ge (tgt := 50) hx hb dX0_countServed_25 (by decide) (fun c_3 => ?_) (fun c_3 => ?_)
    · have hf := hf.1 c_3
      refine lv_iload_n hx hb dX0_countServed_50 rfl (lv_at hl 3 rfl) ?_
      exact W.iret (v := x3) hx hb hr (fun t ht hW => ⟨⟨x3, Gr, rfl, hf, xHp ht hP⟩, hS.F ht⟩) hS.2.2 dX0_countServed_51 hlocks
    · have hf := hf.2 c_3
      refine lv_aload_n hx hb dX0_countServed_28 rfl (lv_at hl 0 rfl) ?_
      refine va_get (D := D) (ci := 0) (C := RX0) (T := TX0) (N := 6) hx hb hts in_X0_countServed_X0 hown hG.1 hP 0 rfl rfl 3 (by decide) (hts _ lk_X0_countServed_23) (fun _ h9 => h9) rfl dX0_countServed_29 ?_
      refine lv_iload_n hx hb dX0_countServed_32 rfl (lv_at hl 1 rfl) ?_
      obtain ⟨h_4, hf⟩ := hf
      refine xAald (f := fun i => a (i + 11)) hx hb hG.1 hP 2 3 rfl rfl h_4 dX0_countServed_33 ?_
      refine lv_iload hx hb dX0_countServed_34 (lv_at hl 4 rfl) ?_
      obtain ⟨h_5, hf⟩ := hf
      refine va_iald hx hb hG.1 hP (x1.toNatClampNeg + 11) 0 (wG_row2 (vp_lt h_4)) rfl h_5 dX0_countServed_36 ?_
      refine lv_iload_n hx hb dX0_countServed_37 rfl (lv_at hl 2 rfl) ?_
      refine lv_icmp_gt (tgt := 44) hx hb dX0_countServed_38 (by decide) (fun c_6 => ?_) (fun c_6 => ?_)
      · have hf := hf.1 c_6
        exact k_X0_countServed_44 C0 hG ih Gr x3 x4 _ _ _ hf hP hD hS (lv_sub hl [0, 1, 2, 3, 4] rfl)
      · have hf := hf.2 c_6
        refine lv_iinc (v := x3 + 1) (lv' := [(3, .int (x3 + 1)), (0, .ref (a 0)), (1, .int x1), (2, .int x2), (4, .int x4)]) hx hb dX0_countServed_41 hl (k := 3) rfl rfl (by decide) rfl (fun ls hl => ?_)
        exact k_X0_countServed_44 C0 hG ih Gr (x3 + 1) x4 _ _ _ hf hP hD hS (lv_sub hl [1, 2, 3, 0, 4] rfl)
set_option maxHeartbeats 4000000 in
set_option maxRecDepth 100000 in
theorem c_X0_countServed {l : Launch} {D : va_G} {k : Nat → ClassId} (a : Nat → Nat) (M : Int32) (N : Int32) (C : Nat → Nat → Int32) (Gr : Nat → Nat → Int32) (Pr : Nat → Nat → Int64) (Pa : Nat → Nat → Int32) (x1 : Int32) (x2 : Int32) {post : Int32 → (Nat → Nat → Int32) → Prop} (hf : p_X0_countServed N C Gr x1 x2 post) : ctI l yX0_countServed wsX0_countServed ({ frames := 2, cells := 0, slots := 0, locals := 52 }) D k [.ref (a 0), .int x1, .int x2] (wG k a M N C Gr Pr Pa) (fun u : (Nat → Nat → Int32) => wG k a M N C u Pr Pa) (fun (r : Int32) (u : (Nat → Nat → Int32)) => post r u) := by
  refine Met.ofW (cc := cX0_countServed) (maxL := 5) (ret := (some .int)) (by decide) rfl ?_
  intro p e s m args below meth c s₁ B hml hv
  obtain ⟨rfl, hP, hG, hD0⟩ := hv
  have C0 : xM p s m ([.ref (a 0), .int x1, .int x2] : List Value).toArray meth c cX0_countServed 5 RX0 (some .int) wsX0_countServed := ⟨B.exec, B.bytes, B.returns, atoms_spec (ws := wsX0_countServed) B.pre, findClass_of_methodNamed B.named, B.notSynchronized, hml⟩
  obtain ⟨hx, hb, hr, hts, hown, hlocks, hml⟩ := id C0
  have hD := xSelf hD0
  have hS : va_S (xIn (wG k a M N C Gr Pr Pa)) s.heap s.heap [] := va_S.rf
  generalize xIn (wG k a M N C Gr Pr Pa) = A at hD hS ⊢
  have hl := lv_entry ([.ref (a 0), .int x1, .int x2]) (n := 5) (Nat.le_of_ble_eq_true rfl)
  rw [lg_entry_eq]
  generalize (lg_sl ([.ref (a 0), .int x1, .int x2]) ++ List.replicate (5 - (lg_sl ([.ref (a 0), .int x1, .int x2])).length) Slot.unset).toArray = ls at hl ⊢
  have hl : lv_has ls 5 [(0, .ref (a 0)), (1, .int x1), (2, .int x2)] := hl
  unfold p_X0_countServed at hf
  refine lv_aload_n hx hb dX0_countServed_0 rfl (lv_at hl 0 rfl) ?_
  refine lv_iconst (v := 0) hx hb dX0_countServed_1 (by decide) ?_
  refine lv_iconst (v := 0) hx hb dX0_countServed_2 (by decide) ?_
  refine lv_iload_n hx hb dX0_countServed_3 rfl (lv_at hl 1 rfl) ?_
  refine lv_aload_n hx hb dX0_countServed_4 rfl (lv_at hl 0 rfl) ?_
  refine va_get (D := D) (ci := 0) (C := RX0) (T := TX0) (N := 6) hx hb hts in_X0_countServed_X0 hown hG.1 hP 0 rfl rfl 1 (by decide) (hts _ lk_X0_countServed_15) (fun _ h9 => h9) rfl dX0_countServed_5 ?_
  refine lv_iconst (v := 1) hx hb dX0_countServed_8 (by decide) ?_
  refine lv_isub hx hb dX0_countServed_9 ?_
  have hp : xPerm (wG k a M N C Gr Pr Pa) ((wG k a M N C Gr Pr Pa) ++ ([])) := xPermNil
  refine xCallI (w := wG k a M N C Gr Pr Pa) (r := []) (va_runV (As := [.int 0, .int 0, .int x1, .int (N - 1)]) (rest := []) ⟨hx, hb, hml, hown, hts⟩ (c_X0_heaviest a M N C Gr Pr Pa 0 0 x1 (N - 1) hf) (cwV 4 hts gX0_countServed_X0_heaviest rfl rfl rfl (by decide +kernel) ⟨Nat.le_of_ble_eq_true rfl, Nat.le_of_ble_eq_true rfl⟩) (xPreV hG hP hD hp (ci := 0) rfl (i := 0) rfl) rfl rfl hl.1 rfl (lv_room (Nat.le_of_ble_eq_true rfl)) dX0_countServed_10 ⟨Nat.zero_le _, Nat.zero_le _⟩) hP hD hS hp (fun _ => wG_adr) (fun r_2 Gr_1 H locs hf hP hD hS => ?_)
  have hP : va_P D vwCl (wG k a M N C Gr_1 Pr Pa) H := xNilP hP
  have hD : va_D A (wG k a M N C Gr_1 Pr Pa) := xNilD hD
  refine lv_pop hx hb dX0_countServed_13 rfl ?_
  refine lv_iconst (v := 0) hx hb dX0_countServed_14 (by decide) ?_
  refine lv_istore_n (lv' := [(3, .int 0), (0, .ref (a 0)), (1, .int x1), (2, .int x2)]) hx hb dX0_countServed_15 rfl hl (by decide) rfl (fun ls hl => ?_)
  refine lv_iconst (v := 0) hx hb dX0_countServed_16 (by decide) ?_
  refine lv_istore (lv' := [(4, .int 0), (3, .int 0), (0, .ref (a 0)), (1, .int x1), (2, .int x2)]) hx hb dX0_countServed_17 hl (by decide) rfl (fun ls hl => ?_)
  obtain ⟨n_7, hf⟩ := hf
  exact k_X0_countServed_19 C0 hG n_7 Gr_1 0 0 _ _ _ hf hP hD hS (lv_sub hl [2, 3, 4, 1, 0] rfl)

def p_X0_lineGoesDown (M : Int32) (N : Int32) (Gr : Nat → Nat → Int32) (x1 : Int32) (x2 : Int32) (post : Int32 → Prop) : Prop := p_X0_hasPlace M N (x1 + 1) x2 (fun r_1 => ((r_1 = 0 → post 0) ∧ (¬ r_1 = 0 → p_X0_hasPlace M N x1 (x2 + 1) (fun r_3 => ((r_3 = 0 → post 1) ∧ (¬ r_3 = 0 → (vp_in (x1 + 1) 6 ∧ (vp_in x2 6 ∧ (vp_in x1 6 ∧ (vp_in (x2 + 1) 6 ∧ (((Gr (x1.toNatClampNeg) (x2 + 1).toNatClampNeg) ≤ (Gr ((x1 + 1).toNatClampNeg) x2.toNatClampNeg) → post 0) ∧ (¬ (Gr (x1.toNatClampNeg) (x2 + 1).toNatClampNeg) ≤ (Gr ((x1 + 1).toNatClampNeg) x2.toNatClampNeg) → post 1))))))))))))
theorem in_X0_lineGoesDown_X0 : ∀ w ∈ u_ws RX0 TX0 6, w ∈ wsX0_lineGoesDown := by decide +kernel
theorem lk_X0_lineGoesDown_23 : Cond.fieldLink RX0 23 "GrowingCorners$Grid" "greatest" "[[I" ∈ wsX0_lineGoesDown := by decide +kernel
set_option maxHeartbeats 4000000 in
set_option maxRecDepth 100000 in
theorem c_X0_lineGoesDown {l : Launch} {D : va_G} {k : Nat → ClassId} (a : Nat → Nat) (M : Int32) (N : Int32) (C : Nat → Nat → Int32) (Gr : Nat → Nat → Int32) (Pr : Nat → Nat → Int64) (Pa : Nat → Nat → Int32) (x1 : Int32) (x2 : Int32) {post : Int32 → Prop} (hf : p_X0_lineGoesDown M N Gr x1 x2 post) : ctI l yX0_lineGoesDown wsX0_lineGoesDown ({ frames := 2, cells := 0, slots := 0, locals := 44 }) D k [.ref (a 0), .int x1, .int x2] (wG k a M N C Gr Pr Pa) (fun u : Unit => wG k a M N C Gr Pr Pa) (fun (r : Int32) (u : Unit) => post r) := by
  refine Met.ofW (cc := cX0_lineGoesDown) (maxL := 3) (ret := (some .boolean)) (by decide) rfl ?_
  intro p e s m args below meth c s₁ B hml hv
  obtain ⟨rfl, hP, hG, hD0⟩ := hv
  have C0 : xM p s m ([.ref (a 0), .int x1, .int x2] : List Value).toArray meth c cX0_lineGoesDown 3 RX0 (some .boolean) wsX0_lineGoesDown := ⟨B.exec, B.bytes, B.returns, atoms_spec (ws := wsX0_lineGoesDown) B.pre, findClass_of_methodNamed B.named, B.notSynchronized, hml⟩
  obtain ⟨hx, hb, hr, hts, hown, hlocks, hml⟩ := id C0
  have hD := xSelf hD0
  have hS : va_S (xIn (wG k a M N C Gr Pr Pa)) s.heap s.heap [] := va_S.rf
  generalize xIn (wG k a M N C Gr Pr Pa) = A at hD hS ⊢
  have hl := lv_entry ([.ref (a 0), .int x1, .int x2]) (n := 3) (Nat.le_of_ble_eq_true rfl)
  rw [lg_entry_eq]
  generalize (lg_sl ([.ref (a 0), .int x1, .int x2]) ++ List.replicate (3 - (lg_sl ([.ref (a 0), .int x1, .int x2])).length) Slot.unset).toArray = ls at hl ⊢
  have hl : lv_has ls 3 [(0, .ref (a 0)), (1, .int x1), (2, .int x2)] := hl
  unfold p_X0_lineGoesDown at hf
  refine lv_aload_n hx hb dX0_lineGoesDown_0 rfl (lv_at hl 0 rfl) ?_
  refine lv_iload_n hx hb dX0_lineGoesDown_1 rfl (lv_at hl 1 rfl) ?_
  refine lv_iconst (v := 1) hx hb dX0_lineGoesDown_2 (by decide) ?_
  refine lv_iadd hx hb dX0_lineGoesDown_3 ?_
  refine lv_iload_n hx hb dX0_lineGoesDown_4 rfl (lv_at hl 2 rfl) ?_
  have hp : xPerm (wG k a M N C Gr Pr Pa) ((wG k a M N C Gr Pr Pa) ++ ([])) := xPermNil
  refine xCallI (w := wG k a M N C Gr Pr Pa) (r := []) (va_runV (As := [.int (x1 + 1), .int x2]) (rest := []) ⟨hx, hb, hml, hown, hts⟩ (c_X0_hasPlace a M N C Gr Pr Pa (x1 + 1) x2 hf) (cwV 2 hts gX0_lineGoesDown_X0_hasPlace rfl rfl rfl (by decide +kernel) ⟨Nat.le_of_ble_eq_true rfl, Nat.le_of_ble_eq_true rfl⟩) (xPreV hG hP hD hp (ci := 0) rfl (i := 0) rfl) rfl rfl hl.1 rfl (lv_room (Nat.le_of_ble_eq_true rfl)) dX0_lineGoesDown_5 ⟨Nat.zero_le _, Nat.zero_le _⟩) hP hD hS hp (fun _ => wG_adr) (fun r_1 _ H locs hf hP hD hS => ?_)
  have hP : va_P D vwCl (wG k a M N C Gr Pr Pa) H := xNilP hP
  have hD : va_D A (wG k a M N C Gr Pr Pa) := xNilD hD
  refine lv_if_ne (tgt := 13) hx hb dX0_lineGoesDown_8 (by decide) (fun c_2 => ?_) (fun c_2 => ?_)
  · have hf := hf.2 c_2
    refine lv_aload_n hx hb dX0_lineGoesDown_13 rfl (lv_at hl 0 rfl) ?_
    refine lv_iload_n hx hb dX0_lineGoesDown_14 rfl (lv_at hl 1 rfl) ?_
    refine lv_iload_n hx hb dX0_lineGoesDown_15 rfl (lv_at hl 2 rfl) ?_
    refine lv_iconst (v := 1) hx hb dX0_lineGoesDown_16 (by decide) ?_
    refine lv_iadd hx hb dX0_lineGoesDown_17 ?_
    have hp : xPerm (wG k a M N C Gr Pr Pa) ((wG k a M N C Gr Pr Pa) ++ ([])) := xPermNil
    refine xCallI (w := wG k a M N C Gr Pr Pa) (r := []) (va_runV (As := [.int x1, .int (x2 + 1)]) (rest := []) ⟨hx, hb, hml, hown, hts⟩ (c_X0_hasPlace a M N C Gr Pr Pa x1 (x2 + 1) hf) (cwV 2 hts gX0_lineGoesDown_X0_hasPlace rfl rfl rfl (by decide +kernel) ⟨Nat.le_of_ble_eq_true rfl, Nat.le_of_ble_eq_true rfl⟩) (xPreV hG hP hD hp (ci := 0) rfl (i := 0) rfl) rfl rfl hl.1 rfl (lv_room (Nat.le_of_ble_eq_true rfl)) dX0_lineGoesDown_18 ⟨Nat.zero_le _, Nat.zero_le _⟩) hP hD hS hp (fun _ => wG_adr) (fun r_3 _ H locs hf hP hD hS => ?_)
    have hP : va_P D vwCl (wG k a M N C Gr Pr Pa) H := xNilP hP
    have hD : va_D A (wG k a M N C Gr Pr Pa) := xNilD hD
    refine lv_if_ne (tgt := 26) hx hb dX0_lineGoesDown_21 (by decide) (fun c_4 => ?_) (fun c_4 => ?_)
    · have hf := hf.2 c_4
      refine lv_aload_n hx hb dX0_lineGoesDown_26 rfl (lv_at hl 0 rfl) ?_
      refine va_get (D := D) (ci := 0) (C := RX0) (T := TX0) (N := 6) hx hb hts in_X0_lineGoesDown_X0 hown hG.1 hP 0 rfl rfl 3 (by decide) (hts _ lk_X0_lineGoesDown_23) (fun _ h9 => h9) rfl dX0_lineGoesDown_27 ?_
      refine lv_iload_n hx hb dX0_lineGoesDown_30 rfl (lv_at hl 1 rfl) ?_
      refine lv_iconst (v := 1) hx hb dX0_lineGoesDown_31 (by decide) ?_
      refine lv_iadd hx hb dX0_lineGoesDown_32 ?_
      obtain ⟨h_5, hf⟩ := hf
      refine xAald (f := fun i => a (i + 11)) hx hb hG.1 hP 2 3 rfl rfl h_5 dX0_lineGoesDown_33 ?_
      refine lv_iload_n hx hb dX0_lineGoesDown_34 rfl (lv_at hl 2 rfl) ?_
      obtain ⟨h_6, hf⟩ := hf
      refine va_iald hx hb hG.1 hP ((x1 + 1).toNatClampNeg + 11) 0 (wG_row2 (vp_lt h_5)) rfl h_6 dX0_lineGoesDown_35 ?_
      refine lv_aload_n hx hb dX0_lineGoesDown_36 rfl (lv_at hl 0 rfl) ?_
      refine va_get (D := D) (ci := 0) (C := RX0) (T := TX0) (N := 6) hx hb hts in_X0_lineGoesDown_X0 hown hG.1 hP 0 rfl rfl 3 (by decide) (hts _ lk_X0_lineGoesDown_23) (fun _ h9 => h9) rfl dX0_lineGoesDown_37 ?_
      refine lv_iload_n hx hb dX0_lineGoesDown_40 rfl (lv_at hl 1 rfl) ?_
      obtain ⟨h_7, hf⟩ := hf
      refine xAald (f := fun i => a (i + 11)) hx hb hG.1 hP 2 3 rfl rfl h_7 dX0_lineGoesDown_41 ?_
      refine lv_iload_n hx hb dX0_lineGoesDown_42 rfl (lv_at hl 2 rfl) ?_
      refine lv_iconst (v := 1) hx hb dX0_lineGoesDown_43 (by decide) ?_
      refine lv_iadd hx hb dX0_lineGoesDown_44 ?_
      obtain ⟨h_8, hf⟩ := hf
      refine va_iald hx hb hG.1 hP (x1.toNatClampNeg + 11) 0 (wG_row2 (vp_lt h_7)) rfl h_8 dX0_lineGoesDown_45 ?_
      refine lv_icmp_ge (tgt := 53) hx hb dX0_lineGoesDown_46 (by decide) (fun c_9 => ?_) (fun c_9 => ?_)
      · have hf := hf.1 c_9
        refine lv_iconst (v := 0) hx hb dX0_lineGoesDown_53 (by decide) ?_
        exact W.zret (v := 0) hx hb hr rfl (fun t ht hW => ⟨⟨(0 : Int32), (), rfl, hf, xHp ht hP⟩, hS.F ht⟩) hS.2.2 dX0_lineGoesDown_54 hlocks
      · have hf := hf.2 c_9
        refine lv_iconst (v := 1) hx hb dX0_lineGoesDown_49 (by decide) ?_
        refine lv_goto (tgt := 54) hx hb dX0_lineGoesDown_50 (by decide) ?_
        exact W.zret (v := 1) hx hb hr rfl (fun t ht hW => ⟨⟨(1 : Int32), (), rfl, hf, xHp ht hP⟩, hS.F ht⟩) hS.2.2 dX0_lineGoesDown_54 hlocks
    · have hf := hf.1 c_4
      refine lv_iconst (v := 1) hx hb dX0_lineGoesDown_24 (by decide) ?_
      exact W.zret (v := 1) hx hb hr rfl (fun t ht hW => ⟨⟨(1 : Int32), (), rfl, hf, xHp ht hP⟩, hS.F ht⟩) hS.2.2 dX0_lineGoesDown_25 hlocks
  · have hf := hf.1 c_2
    refine lv_iconst (v := 0) hx hb dX0_lineGoesDown_11 (by decide) ?_
    exact W.zret (v := 0) hx hb hr rfl (fun t ht hW => ⟨⟨(0 : Int32), (), rfl, hf, xHp ht hP⟩, hS.F ht⟩) hS.2.2 dX0_lineGoesDown_12 hlocks

def p_X0_placeOnLine_50 (M : Int32) (N : Int32) (C : Nat → Nat → Int32) (x1 : Int32) (post : Int32 → (Nat → Nat → Int32) → Prop) (k26 : (Nat → Nat → Int32) → Int32 → Int32 → Int32 → Prop) (Gr : Nat → Nat → Int32) (x2 : Int32) (x3 : Int32) (x4 : Int32) : Prop := k26 Gr x2 x3 (x4 + 1)
def p_X0_placeOnLine_26 (M : Int32) (N : Int32) (C : Nat → Nat → Int32) (x1 : Int32) (post : Int32 → (Nat → Nat → Int32) → Prop) : Nat → (Nat → Nat → Int32) → Int32 → Int32 → Int32 → Prop
  | 0, _, _, _, _ => False
  | n + 1, Gr, x2, x3, x4 => ((x1 ≤ x4 → post ((10 * x2) + x3) Gr) ∧ (¬ x1 ≤ x4 → p_X0_lineGoesDown M N Gr x2 x3 (fun r_4 => ((r_4 = 0 → p_X0_placeOnLine_50 M N C x1 post (fun Gr x2 x3 x4 => p_X0_placeOnLine_26 M N C x1 post n Gr x2 x3 x4) Gr x2 (x3 + 1) x4) ∧ (¬ r_4 = 0 → p_X0_placeOnLine_50 M N C x1 post (fun Gr x2 x3 x4 => p_X0_placeOnLine_26 M N C x1 post n Gr x2 x3 x4) Gr (x2 + 1) x3 x4)))))
def p_X0_placeOnLine (M : Int32) (N : Int32) (C : Nat → Nat → Int32) (Gr : Nat → Nat → Int32) (x1 : Int32) (post : Int32 → (Nat → Nat → Int32) → Prop) : Prop := p_X0_heaviest C Gr 0 0 (M - 1) (N - 1) (fun r_2 Gr_1 => (∃ n_6, p_X0_placeOnLine_26 M N C x1 post n_6 Gr_1 0 0 0))
theorem in_X0_placeOnLine_X0 : ∀ w ∈ u_ws RX0 TX0 6, w ∈ wsX0_placeOnLine := by decide +kernel
theorem lk_X0_placeOnLine_11 : Cond.fieldLink RX0 11 "GrowingCorners$Grid" "rows" "I" ∈ wsX0_placeOnLine := by decide +kernel
theorem lk_X0_placeOnLine_15 : Cond.fieldLink RX0 15 "GrowingCorners$Grid" "columns" "I" ∈ wsX0_placeOnLine := by decide +kernel
set_option maxHeartbeats 4000000 in
set_option maxRecDepth 100000 in
theorem k_X0_placeOnLine_50 {p : Program} {l : Launch} {e : Env} {s : State} {m : MethodId} {args : Array Value} {below : List Frame} {meth : Method} {c : Code} {A : Nat → Prop} {D : va_G} {k : Nat → ClassId} {a : Nat → Nat} {M : Int32} {N : Int32} {C : Nat → Nat → Int32} {Pr : Nat → Nat → Int64} {Pa : Nat → Nat → Int32} {x1 : Int32} (C0 : xM p s m args meth c cX0_placeOnLine 5 RX0 (some .int) wsX0_placeOnLine) (hG : xG D k s) {post : Int32 → (Nat → Nat → Int32) → Prop} {k26 : (Nat → Nat → Int32) → Int32 → Int32 → Int32 → Prop} (hk26 : ∀ (Gr : Nat → Nat → Int32) (x2 : Int32) (x3 : Int32) (x4 : Int32) (H : Heap) (locs : List Loc) (ls : Array Slot), k26 Gr x2 x3 x4 → va_P D vwCl (wG k a M N C Gr Pr Pa) H → va_D A (wG k a M N C Gr Pr Pa) → va_S A s.heap H locs → lv_has ls 5 [(0, .ref (a 0)), (1, .int x1), (2, .int x2), (3, .int x3), (4, .int x4)] → W p l e ({ frames := 3, cells := 0, slots := 0, locals := 66 }) s m args below meth c H locs 0 0 (MQ below (va_Qi (fun (r : Int32) (u : (Nat → Nat → Int32)) => post r u) (fun u t => va_P D vwCl (wG k a M N C u Pr Pa) t.heap) A) args s 0 0 A) (F0 m 26 ls [])) : ∀ (Gr : Nat → Nat → Int32) (x2 : Int32) (x3 : Int32) (x4 : Int32) (H : Heap) (locs : List Loc) (ls : Array Slot), p_X0_placeOnLine_50 M N C x1 post k26 Gr x2 x3 x4 → va_P D vwCl (wG k a M N C Gr Pr Pa) H → va_D A (wG k a M N C Gr Pr Pa) → va_S A s.heap H locs → lv_has ls 5 [(0, .ref (a 0)), (1, .int x1), (2, .int x2), (3, .int x3), (4, .int x4)] → W p l e ({ frames := 3, cells := 0, slots := 0, locals := 66 }) s m args below meth c H locs 0 0 (MQ below (va_Qi (fun (r : Int32) (u : (Nat → Nat → Int32)) => post r u) (fun u t => va_P D vwCl (wG k a M N C u Pr Pa) t.heap) A) args s 0 0 A) (F0 m 50 ls []) := by
  obtain ⟨hx, hb, hr, hts, hown, hlocks, hml⟩ := id C0
  intro Gr x2 x3 x4 H locs ls hf hP hD hS hl
  unfold p_X0_placeOnLine_50 at hf
  refine lv_iinc (v := x4 + 1) (lv' := [(4, .int (x4 + 1)), (0, .ref (a 0)), (1, .int x1), (2, .int x2), (3, .int x3)]) hx hb dX0_placeOnLine_50 hl (k := 4) rfl rfl (by decide) rfl (fun ls hl => ?_)
  refine lv_goto (tgt := 26) hx hb dX0_placeOnLine_53 (by decide) ?_
  exact hk26 Gr x2 x3 (x4 + 1) _ _ _ hf hP hD hS (lv_sub hl [1, 2, 3, 4, 0] rfl)
set_option maxHeartbeats 4000000 in
set_option maxRecDepth 100000 in
theorem k_X0_placeOnLine_26 {p : Program} {l : Launch} {e : Env} {s : State} {m : MethodId} {args : Array Value} {below : List Frame} {meth : Method} {c : Code} {A : Nat → Prop} {D : va_G} {k : Nat → ClassId} {a : Nat → Nat} {M : Int32} {N : Int32} {C : Nat → Nat → Int32} {Pr : Nat → Nat → Int64} {Pa : Nat → Nat → Int32} {x1 : Int32} (C0 : xM p s m args meth c cX0_placeOnLine 5 RX0 (some .int) wsX0_placeOnLine) (hG : xG D k s) {post : Int32 → (Nat → Nat → Int32) → Prop} : ∀ (n : Nat) (Gr : Nat → Nat → Int32) (x2 : Int32) (x3 : Int32) (x4 : Int32) (H : Heap) (locs : List Loc) (ls : Array Slot), p_X0_placeOnLine_26 M N C x1 post n Gr x2 x3 x4 → va_P D vwCl (wG k a M N C Gr Pr Pa) H → va_D A (wG k a M N C Gr Pr Pa) → va_S A s.heap H locs → lv_has ls 5 [(0, .ref (a 0)), (1, .int x1), (2, .int x2), (3, .int x3), (4, .int x4)] → W p l e ({ frames := 3, cells := 0, slots := 0, locals := 66 }) s m args below meth c H locs 0 0 (MQ below (va_Qi (fun (r : Int32) (u : (Nat → Nat → Int32)) => post r u) (fun u t => va_P D vwCl (wG k a M N C u Pr Pa) t.heap) A) args s 0 0 A) (F0 m 26 ls []) := by
  obtain ⟨hx, hb, hr, hts, hown, hlocks, hml⟩ := id C0
  intro n
  induction n with
  | zero =>
    intro Gr x2 x3 x4 H locs ls hf
    exact False.elim hf
  | succ n ih =>
    intro Gr x2 x3 x4 H locs ls hf hP hD hS hl
    unfold p_X0_placeOnLine_26 at hf
    refine lv_iload hx hb dX0_placeOnLine_26 (lv_at hl 4 rfl) ?_
    refine lv_iload_n hx hb dX0_placeOnLine_28 rfl (lv_at hl 1 rfl) ?_
    refine lv_icmp_ge (tgt := 56) hx hb dX0_placeOnLine_29 (by decide) (fun c_3 => ?_) (fun c_3 => ?_)
    · have hf := hf.1 c_3
      refine lv_bipush (v := 10) hx hb dX0_placeOnLine_56 (by decide) ?_
      refine lv_iload_n hx hb dX0_placeOnLine_58 rfl (lv_at hl 2 rfl) ?_
      refine lv_imul hx hb dX0_placeOnLine_59 ?_
      refine lv_iload_n hx hb dX0_placeOnLine_60 rfl (lv_at hl 3 rfl) ?_
      refine lv_iadd hx hb dX0_placeOnLine_61 ?_
      exact W.iret (v := ((10 * x2) + x3)) hx hb hr (fun t ht hW => ⟨⟨((10 * x2) + x3), Gr, rfl, hf, xHp ht hP⟩, hS.F ht⟩) hS.2.2 dX0_placeOnLine_62 hlocks
    · have hf := hf.2 c_3
      refine lv_aload_n hx hb dX0_placeOnLine_32 rfl (lv_at hl 0 rfl) ?_
      refine lv_iload_n hx hb dX0_placeOnLine_33 rfl (lv_at hl 2 rfl) ?_
      refine lv_iload_n hx hb dX0_placeOnLine_34 rfl (lv_at hl 3 rfl) ?_
      have hp : xPerm (wG k a M N C Gr Pr Pa) ((wG k a M N C Gr Pr Pa) ++ ([])) := xPermNil
      refine xCallI (w := wG k a M N C Gr Pr Pa) (r := []) (va_runV (As := [.int x2, .int x3]) (rest := []) ⟨hx, hb, hml, hown, hts⟩ (c_X0_lineGoesDown a M N C Gr Pr Pa x2 x3 hf) (cwV 2 hts gX0_placeOnLine_X0_lineGoesDown rfl rfl rfl (by decide +kernel) ⟨Nat.le_of_ble_eq_true rfl, Nat.le_of_ble_eq_true rfl⟩) (xPreV hG hP hD hp (ci := 0) rfl (i := 0) rfl) rfl rfl hl.1 rfl (lv_room (Nat.le_of_ble_eq_true rfl)) dX0_placeOnLine_35 ⟨Nat.zero_le _, Nat.zero_le _⟩) hP hD hS hp (fun _ => wG_adr) (fun r_4 _ H locs hf hP hD hS => ?_)
      have hP : va_P D vwCl (wG k a M N C Gr Pr Pa) H := xNilP hP
      have hD : va_D A (wG k a M N C Gr Pr Pa) := xNilD hD
      refine lv_if_eq (tgt := 47) hx hb dX0_placeOnLine_38 (by decide) (fun c_5 => ?_) (fun c_5 => ?_)
      · have hf := hf.1 c_5
        refine lv_iinc (v := x3 + 1) (lv' := [(3, .int (x3 + 1)), (0, .ref (a 0)), (1, .int x1), (2, .int x2), (4, .int x4)]) hx hb dX0_placeOnLine_47 hl (k := 3) rfl rfl (by decide) rfl (fun ls hl => ?_)
        exact k_X0_placeOnLine_50 C0 hG ih Gr x2 (x3 + 1) x4 _ _ _ hf hP hD hS (lv_sub hl [1, 2, 3, 0, 4] rfl)
      · have hf := hf.2 c_5
        refine lv_iinc (v := x2 + 1) (lv' := [(2, .int (x2 + 1)), (0, .ref (a 0)), (1, .int x1), (3, .int x3), (4, .int x4)]) hx hb dX0_placeOnLine_41 hl (k := 2) rfl rfl (by decide) rfl (fun ls hl => ?_)
        refine lv_goto (tgt := 50) hx hb dX0_placeOnLine_44 (by decide) ?_
        exact k_X0_placeOnLine_50 C0 hG ih Gr (x2 + 1) x3 x4 _ _ _ hf hP hD hS (lv_sub hl [1, 2, 0, 3, 4] rfl)
set_option maxHeartbeats 4000000 in
set_option maxRecDepth 100000 in
theorem c_X0_placeOnLine {l : Launch} {D : va_G} {k : Nat → ClassId} (a : Nat → Nat) (M : Int32) (N : Int32) (C : Nat → Nat → Int32) (Gr : Nat → Nat → Int32) (Pr : Nat → Nat → Int64) (Pa : Nat → Nat → Int32) (x1 : Int32) {post : Int32 → (Nat → Nat → Int32) → Prop} (hf : p_X0_placeOnLine M N C Gr x1 post) : ctI l yX0_placeOnLine wsX0_placeOnLine ({ frames := 3, cells := 0, slots := 0, locals := 66 }) D k [.ref (a 0), .int x1] (wG k a M N C Gr Pr Pa) (fun u : (Nat → Nat → Int32) => wG k a M N C u Pr Pa) (fun (r : Int32) (u : (Nat → Nat → Int32)) => post r u) := by
  refine Met.ofW (cc := cX0_placeOnLine) (maxL := 5) (ret := (some .int)) (by decide) rfl ?_
  intro p e s m args below meth c s₁ B hml hv
  obtain ⟨rfl, hP, hG, hD0⟩ := hv
  have C0 : xM p s m ([.ref (a 0), .int x1] : List Value).toArray meth c cX0_placeOnLine 5 RX0 (some .int) wsX0_placeOnLine := ⟨B.exec, B.bytes, B.returns, atoms_spec (ws := wsX0_placeOnLine) B.pre, findClass_of_methodNamed B.named, B.notSynchronized, hml⟩
  obtain ⟨hx, hb, hr, hts, hown, hlocks, hml⟩ := id C0
  have hD := xSelf hD0
  have hS : va_S (xIn (wG k a M N C Gr Pr Pa)) s.heap s.heap [] := va_S.rf
  generalize xIn (wG k a M N C Gr Pr Pa) = A at hD hS ⊢
  have hl := lv_entry ([.ref (a 0), .int x1]) (n := 5) (Nat.le_of_ble_eq_true rfl)
  rw [lg_entry_eq]
  generalize (lg_sl ([.ref (a 0), .int x1]) ++ List.replicate (5 - (lg_sl ([.ref (a 0), .int x1])).length) Slot.unset).toArray = ls at hl ⊢
  have hl : lv_has ls 5 [(0, .ref (a 0)), (1, .int x1)] := hl
  unfold p_X0_placeOnLine at hf
  refine lv_aload_n hx hb dX0_placeOnLine_0 rfl (lv_at hl 0 rfl) ?_
  refine lv_iconst (v := 0) hx hb dX0_placeOnLine_1 (by decide) ?_
  refine lv_iconst (v := 0) hx hb dX0_placeOnLine_2 (by decide) ?_
  refine lv_aload_n hx hb dX0_placeOnLine_3 rfl (lv_at hl 0 rfl) ?_
  refine va_get (D := D) (ci := 0) (C := RX0) (T := TX0) (N := 6) hx hb hts in_X0_placeOnLine_X0 hown hG.1 hP 0 rfl rfl 0 (by decide) (hts _ lk_X0_placeOnLine_11) (fun _ h9 => h9) rfl dX0_placeOnLine_4 ?_
  refine lv_iconst (v := 1) hx hb dX0_placeOnLine_7 (by decide) ?_
  refine lv_isub hx hb dX0_placeOnLine_8 ?_
  refine lv_aload_n hx hb dX0_placeOnLine_9 rfl (lv_at hl 0 rfl) ?_
  refine va_get (D := D) (ci := 0) (C := RX0) (T := TX0) (N := 6) hx hb hts in_X0_placeOnLine_X0 hown hG.1 hP 0 rfl rfl 1 (by decide) (hts _ lk_X0_placeOnLine_15) (fun _ h9 => h9) rfl dX0_placeOnLine_10 ?_
  refine lv_iconst (v := 1) hx hb dX0_placeOnLine_13 (by decide) ?_
  refine lv_isub hx hb dX0_placeOnLine_14 ?_
  have hp : xPerm (wG k a M N C Gr Pr Pa) ((wG k a M N C Gr Pr Pa) ++ ([])) := xPermNil
  refine xCallI (w := wG k a M N C Gr Pr Pa) (r := []) (va_runV (As := [.int 0, .int 0, .int (M - 1), .int (N - 1)]) (rest := []) ⟨hx, hb, hml, hown, hts⟩ (c_X0_heaviest a M N C Gr Pr Pa 0 0 (M - 1) (N - 1) hf) (cwV 4 hts gX0_placeOnLine_X0_heaviest rfl rfl rfl (by decide +kernel) ⟨Nat.le_of_ble_eq_true rfl, Nat.le_of_ble_eq_true rfl⟩) (xPreV hG hP hD hp (ci := 0) rfl (i := 0) rfl) rfl rfl hl.1 rfl (lv_room (Nat.le_of_ble_eq_true rfl)) dX0_placeOnLine_15 ⟨Nat.zero_le _, Nat.zero_le _⟩) hP hD hS hp (fun _ => wG_adr) (fun r_2 Gr_1 H locs hf hP hD hS => ?_)
  have hP : va_P D vwCl (wG k a M N C Gr_1 Pr Pa) H := xNilP hP
  have hD : va_D A (wG k a M N C Gr_1 Pr Pa) := xNilD hD
  refine lv_pop hx hb dX0_placeOnLine_18 rfl ?_
  refine lv_iconst (v := 0) hx hb dX0_placeOnLine_19 (by decide) ?_
  refine lv_istore_n (lv' := [(2, .int 0), (0, .ref (a 0)), (1, .int x1)]) hx hb dX0_placeOnLine_20 rfl hl (by decide) rfl (fun ls hl => ?_)
  refine lv_iconst (v := 0) hx hb dX0_placeOnLine_21 (by decide) ?_
  refine lv_istore_n (lv' := [(3, .int 0), (2, .int 0), (0, .ref (a 0)), (1, .int x1)]) hx hb dX0_placeOnLine_22 rfl hl (by decide) rfl (fun ls hl => ?_)
  refine lv_iconst (v := 0) hx hb dX0_placeOnLine_23 (by decide) ?_
  refine lv_istore (lv' := [(4, .int 0), (3, .int 0), (2, .int 0), (0, .ref (a 0)), (1, .int x1)]) hx hb dX0_placeOnLine_24 hl (by decide) rfl (fun ls hl => ?_)
  obtain ⟨n_6, hf⟩ := hf
  exact k_X0_placeOnLine_26 C0 hG n_6 Gr_1 0 0 0 _ _ _ hf hP hD hS (lv_sub hl [3, 4, 2, 1, 0] rfl)

def p_X0_spell_63 (M : Int32) (N : Int32) (C : Nat → Nat → Int32) (post : (Nat → Int32) → Prop) (k4 : (Nat → Int32) → Int32 → Int32 → Prop) (k15 : (Nat → Int32) → Int32 → Int32 → Int32 → Prop) (f : Nat → Int32) (x2 : Int32) (x3 : Int32) (x4 : Int32) : Prop := k15 f x2 x3 (x4 + 1)
def p_X0_spell_27 (M : Int32) (N : Int32) (C : Nat → Nat → Int32) (post : (Nat → Int32) → Prop) (k4 : (Nat → Int32) → Int32 → Int32 → Prop) (k15 : (Nat → Int32) → Int32 → Int32 → Int32 → Prop) : Nat → (Nat → Int32) → Int32 → Int32 → Int32 → Int32 → Prop
  | 0, _, _, _, _, _ => False
  | n + 1, f, x2, x3, x4, x5 => (vp_in x3 6 ∧ (vp_in x4 6 ∧ (((C (x3.toNatClampNeg) x4.toNatClampNeg) ≤ x5 → p_X0_spell_63 M N C post k4 k15 f x2 x3 x4) ∧ (¬ (C (x3.toNatClampNeg) x4.toNatClampNeg) ≤ x5 → (((nI 40) ≤ x2 → p_X0_spell_63 M N C post k4 k15 f x2 x3 x4) ∧ (¬ (nI 40) ≤ x2 → (vp_in x2 40 ∧ p_X0_spell_27 M N C post k4 k15 n (upd f (x2.toNatClampNeg) (x4 + 1)) (x2 + 1) x3 x4 (x5 + 1))))))))
def p_X0_spell_15 (M : Int32) (N : Int32) (C : Nat → Nat → Int32) (post : (Nat → Int32) → Prop) (k4 : (Nat → Int32) → Int32 → Int32 → Prop) : Nat → (Nat → Int32) → Int32 → Int32 → Int32 → Prop
  | 0, _, _, _, _ => False
  | n + 1, f, x2, x3, x4 => ((N ≤ x4 → k4 f x2 (x3 + 1)) ∧ (¬ N ≤ x4 → (∃ n_8, p_X0_spell_27 M N C post k4 (fun f x2 x3 x4 => p_X0_spell_15 M N C post k4 n f x2 x3 x4) n_8 f x2 x3 x4 0)))
def p_X0_spell_4 (M : Int32) (N : Int32) (C : Nat → Nat → Int32) (post : (Nat → Int32) → Prop) : Nat → (Nat → Int32) → Int32 → Int32 → Prop
  | 0, _, _, _ => False
  | n + 1, f, x2, x3 => ((M ≤ x3 → post f) ∧ (¬ M ≤ x3 → (∃ n_9, p_X0_spell_15 M N C post (fun f x2 x3 => p_X0_spell_4 M N C post n f x2 x3) n_9 f x2 x3 0)))
def p_X0_spell (f : Nat → Int32) (M : Int32) (N : Int32) (C : Nat → Nat → Int32) (post : (Nat → Int32) → Prop) : Prop := (∃ n_10, p_X0_spell_4 M N C post n_10 f 0 0)
theorem in_X0_spell_X0 : ∀ w ∈ u_ws RX0 TX0 6, w ∈ wsX0_spell := by decide +kernel
theorem lk_X0_spell_11 : Cond.fieldLink RX0 11 "GrowingCorners$Grid" "rows" "I" ∈ wsX0_spell := by decide +kernel
theorem lk_X0_spell_15 : Cond.fieldLink RX0 15 "GrowingCorners$Grid" "columns" "I" ∈ wsX0_spell := by decide +kernel
theorem lk_X0_spell_20 : Cond.fieldLink RX0 20 "GrowingCorners$Grid" "cells" "[[I" ∈ wsX0_spell := by decide +kernel
set_option maxHeartbeats 4000000 in
set_option maxRecDepth 100000 in
theorem k_X0_spell_63 {p : Program} {l : Launch} {e : Env} {s : State} {m : MethodId} {args : Array Value} {below : List Frame} {meth : Method} {c : Code} {A : Nat → Prop} {D : va_G} {k : Nat → ClassId} {d : Nat} {a : Nat → Nat} {M : Int32} {N : Int32} {C : Nat → Nat → Int32} {Gr : Nat → Nat → Int32} {Pr : Nat → Nat → Int64} {Pa : Nat → Nat → Int32} (C0 : xM p s m args meth c cX0_spell 6 RX0 none wsX0_spell) (hG : xG D k s) {post : (Nat → Int32) → Prop} {k4 : (Nat → Int32) → Int32 → Int32 → Prop} (hk4 : ∀ (f : Nat → Int32) (x2 : Int32) (x3 : Int32) (H : Heap) (locs : List Loc) (ls : Array Slot), k4 f x2 x3 → va_P D vwCl ([((d, .inl (k 0, 40, .inl f)) : Nat × va_E)] ++ wG k a M N C Gr Pr Pa) H → va_D A ([((d, .inl (k 0, 40, .inl f)) : Nat × va_E)] ++ wG k a M N C Gr Pr Pa) → va_S A s.heap H locs → lv_has ls 6 [(0, .ref (a 0)), (1, .ref d), (2, .int x2), (3, .int x3)] → W p l e ({ frames := 0, cells := 0, slots := 0, locals := 0 }) s m args below meth c H locs 0 0 (MQ below (va_Qv (fun (u : (Nat → Int32)) => post u) (fun u t => va_P D vwCl ([((d, .inl (k 0, 40, .inl u)) : Nat × va_E)] ++ wG k a M N C Gr Pr Pa) t.heap) A) args s 0 0 A) (F0 m 4 ls [])) {k15 : (Nat → Int32) → Int32 → Int32 → Int32 → Prop} (hk15 : ∀ (f : Nat → Int32) (x2 : Int32) (x3 : Int32) (x4 : Int32) (H : Heap) (locs : List Loc) (ls : Array Slot), k15 f x2 x3 x4 → va_P D vwCl ([((d, .inl (k 0, 40, .inl f)) : Nat × va_E)] ++ wG k a M N C Gr Pr Pa) H → va_D A ([((d, .inl (k 0, 40, .inl f)) : Nat × va_E)] ++ wG k a M N C Gr Pr Pa) → va_S A s.heap H locs → lv_has ls 6 [(0, .ref (a 0)), (1, .ref d), (2, .int x2), (3, .int x3), (4, .int x4)] → W p l e ({ frames := 0, cells := 0, slots := 0, locals := 0 }) s m args below meth c H locs 0 0 (MQ below (va_Qv (fun (u : (Nat → Int32)) => post u) (fun u t => va_P D vwCl ([((d, .inl (k 0, 40, .inl u)) : Nat × va_E)] ++ wG k a M N C Gr Pr Pa) t.heap) A) args s 0 0 A) (F0 m 15 ls [])) : ∀ (f : Nat → Int32) (x2 : Int32) (x3 : Int32) (x4 : Int32) (H : Heap) (locs : List Loc) (ls : Array Slot), p_X0_spell_63 M N C post k4 k15 f x2 x3 x4 → va_P D vwCl ([((d, .inl (k 0, 40, .inl f)) : Nat × va_E)] ++ wG k a M N C Gr Pr Pa) H → va_D A ([((d, .inl (k 0, 40, .inl f)) : Nat × va_E)] ++ wG k a M N C Gr Pr Pa) → va_S A s.heap H locs → lv_has ls 6 [(0, .ref (a 0)), (1, .ref d), (2, .int x2), (3, .int x3), (4, .int x4)] → W p l e ({ frames := 0, cells := 0, slots := 0, locals := 0 }) s m args below meth c H locs 0 0 (MQ below (va_Qv (fun (u : (Nat → Int32)) => post u) (fun u t => va_P D vwCl ([((d, .inl (k 0, 40, .inl u)) : Nat × va_E)] ++ wG k a M N C Gr Pr Pa) t.heap) A) args s 0 0 A) (F0 m 63 ls []) := by
  obtain ⟨hx, hb, hr, hts, hown, hlocks, hml⟩ := id C0
  intro f x2 x3 x4 H locs ls hf hP hD hS hl
  unfold p_X0_spell_63 at hf
  refine lv_iinc (v := x4 + 1) (lv' := [(4, .int (x4 + 1)), (0, .ref (a 0)), (1, .ref d), (2, .int x2), (3, .int x3)]) hx hb dX0_spell_63 hl (k := 4) rfl rfl (by decide) rfl (fun ls hl => ?_)
  refine lv_goto (tgt := 15) hx hb dX0_spell_66 (by decide) ?_
  exact hk15 f x2 x3 (x4 + 1) _ _ _ hf hP hD hS (lv_sub hl [1, 2, 3, 4, 0] rfl)
set_option maxHeartbeats 4000000 in
set_option maxRecDepth 100000 in
theorem k_X0_spell_27 {p : Program} {l : Launch} {e : Env} {s : State} {m : MethodId} {args : Array Value} {below : List Frame} {meth : Method} {c : Code} {A : Nat → Prop} {D : va_G} {k : Nat → ClassId} {d : Nat} {a : Nat → Nat} {M : Int32} {N : Int32} {C : Nat → Nat → Int32} {Gr : Nat → Nat → Int32} {Pr : Nat → Nat → Int64} {Pa : Nat → Nat → Int32} (C0 : xM p s m args meth c cX0_spell 6 RX0 none wsX0_spell) (hG : xG D k s) {post : (Nat → Int32) → Prop} {k4 : (Nat → Int32) → Int32 → Int32 → Prop} (hk4 : ∀ (f : Nat → Int32) (x2 : Int32) (x3 : Int32) (H : Heap) (locs : List Loc) (ls : Array Slot), k4 f x2 x3 → va_P D vwCl ([((d, .inl (k 0, 40, .inl f)) : Nat × va_E)] ++ wG k a M N C Gr Pr Pa) H → va_D A ([((d, .inl (k 0, 40, .inl f)) : Nat × va_E)] ++ wG k a M N C Gr Pr Pa) → va_S A s.heap H locs → lv_has ls 6 [(0, .ref (a 0)), (1, .ref d), (2, .int x2), (3, .int x3)] → W p l e ({ frames := 0, cells := 0, slots := 0, locals := 0 }) s m args below meth c H locs 0 0 (MQ below (va_Qv (fun (u : (Nat → Int32)) => post u) (fun u t => va_P D vwCl ([((d, .inl (k 0, 40, .inl u)) : Nat × va_E)] ++ wG k a M N C Gr Pr Pa) t.heap) A) args s 0 0 A) (F0 m 4 ls [])) {k15 : (Nat → Int32) → Int32 → Int32 → Int32 → Prop} (hk15 : ∀ (f : Nat → Int32) (x2 : Int32) (x3 : Int32) (x4 : Int32) (H : Heap) (locs : List Loc) (ls : Array Slot), k15 f x2 x3 x4 → va_P D vwCl ([((d, .inl (k 0, 40, .inl f)) : Nat × va_E)] ++ wG k a M N C Gr Pr Pa) H → va_D A ([((d, .inl (k 0, 40, .inl f)) : Nat × va_E)] ++ wG k a M N C Gr Pr Pa) → va_S A s.heap H locs → lv_has ls 6 [(0, .ref (a 0)), (1, .ref d), (2, .int x2), (3, .int x3), (4, .int x4)] → W p l e ({ frames := 0, cells := 0, slots := 0, locals := 0 }) s m args below meth c H locs 0 0 (MQ below (va_Qv (fun (u : (Nat → Int32)) => post u) (fun u t => va_P D vwCl ([((d, .inl (k 0, 40, .inl u)) : Nat × va_E)] ++ wG k a M N C Gr Pr Pa) t.heap) A) args s 0 0 A) (F0 m 15 ls [])) : ∀ (n : Nat) (f : Nat → Int32) (x2 : Int32) (x3 : Int32) (x4 : Int32) (x5 : Int32) (H : Heap) (locs : List Loc) (ls : Array Slot), p_X0_spell_27 M N C post k4 k15 n f x2 x3 x4 x5 → va_P D vwCl ([((d, .inl (k 0, 40, .inl f)) : Nat × va_E)] ++ wG k a M N C Gr Pr Pa) H → va_D A ([((d, .inl (k 0, 40, .inl f)) : Nat × va_E)] ++ wG k a M N C Gr Pr Pa) → va_S A s.heap H locs → lv_has ls 6 [(0, .ref (a 0)), (1, .ref d), (2, .int x2), (3, .int x3), (4, .int x4), (5, .int x5)] → W p l e ({ frames := 0, cells := 0, slots := 0, locals := 0 }) s m args below meth c H locs 0 0 (MQ below (va_Qv (fun (u : (Nat → Int32)) => post u) (fun u t => va_P D vwCl ([((d, .inl (k 0, 40, .inl u)) : Nat × va_E)] ++ wG k a M N C Gr Pr Pa) t.heap) A) args s 0 0 A) (F0 m 27 ls []) := by
  obtain ⟨hx, hb, hr, hts, hown, hlocks, hml⟩ := id C0
  intro n
  induction n with
  | zero =>
    intro f x2 x3 x4 x5 H locs ls hf
    exact False.elim hf
  | succ n ih =>
    intro f x2 x3 x4 x5 H locs ls hf hP hD hS hl
    unfold p_X0_spell_27 at hf
    refine lv_iload hx hb dX0_spell_27 (lv_at hl 5 rfl) ?_
    refine lv_aload_n hx hb dX0_spell_29 rfl (lv_at hl 0 rfl) ?_
    refine va_get (D := D) (ci := 0) (C := RX0) (T := TX0) (N := 6) hx hb hts in_X0_spell_X0 hown hG.1 hP 1 rfl rfl 2 (by decide) (hts _ lk_X0_spell_20) (fun _ h9 => h9) rfl dX0_spell_30 ?_
    refine lv_iload_n hx hb dX0_spell_33 rfl (lv_at hl 3 rfl) ?_
    obtain ⟨h_3, hf⟩ := hf
    refine xAald (f := fun i => a (i + 5)) hx hb hG.1 hP 2 3 rfl rfl h_3 dX0_spell_34 ?_
    refine lv_iload hx hb dX0_spell_35 (lv_at hl 4 rfl) ?_
    obtain ⟨h_4, hf⟩ := hf
    refine va_iald hx hb hG.1 hP (x3.toNatClampNeg + 5 + 1) 0 (wG_row1 (M := M) (N := N) (vp_lt h_3)) rfl h_4 dX0_spell_37 ?_
    refine lv_icmp_ge (tgt := 63) hx hb dX0_spell_38 (by decide) (fun c_5 => ?_) (fun c_5 => ?_)
    · have hf := hf.1 c_5
      exact k_X0_spell_63 C0 hG hk4 hk15 f x2 x3 x4 _ _ _ hf hP hD hS (lv_sub hl [0, 1, 2, 3, 4] rfl)
    · have hf := hf.2 c_5
      refine lv_iload_n hx hb dX0_spell_41 rfl (lv_at hl 2 rfl) ?_
      refine lv_aload_n hx hb dX0_spell_42 rfl (lv_at hl 1 rfl) ?_
      refine va_alen (v := nI 40) hx hb hG.1 hP 0 0 rfl rfl rfl dX0_spell_43 ?_
      refine lv_icmp_ge (tgt := 63) hx hb dX0_spell_44 (by decide) (fun c_6 => ?_) (fun c_6 => ?_)
      · have hf := hf.1 c_6
        exact k_X0_spell_63 C0 hG hk4 hk15 f x2 x3 x4 _ _ _ hf hP hD hS (lv_sub hl [0, 1, 2, 3, 4] rfl)
      · have hf := hf.2 c_6
        refine lv_aload_n hx hb dX0_spell_47 rfl (lv_at hl 1 rfl) ?_
        refine lv_iload_n hx hb dX0_spell_48 rfl (lv_at hl 2 rfl) ?_
        refine lv_iload hx hb dX0_spell_49 (lv_at hl 4 rfl) ?_
        refine lv_iconst (v := 1) hx hb dX0_spell_51 (by decide) ?_
        refine lv_iadd hx hb dX0_spell_52 ?_
        obtain ⟨h_7, hf⟩ := hf
        refine va_iast hx hb hG.1 hP hD hS 0 0 rfl rfl h_7 dX0_spell_53 (fun H locs hP hD hS => ?_)
        have hP : va_P D vwCl ([((d, .inl (k 0, 40, .inl (upd f (x2.toNatClampNeg) (x4 + 1)))) : Nat × va_E)] ++ wG k a M N C Gr Pr Pa) H := hP
        have hD : va_D A ([((d, .inl (k 0, 40, .inl (upd f (x2.toNatClampNeg) (x4 + 1)))) : Nat × va_E)] ++ wG k a M N C Gr Pr Pa) := hD
        refine lv_iinc (v := x2 + 1) (lv' := [(2, .int (x2 + 1)), (0, .ref (a 0)), (1, .ref d), (3, .int x3), (4, .int x4), (5, .int x5)]) hx hb dX0_spell_54 hl (k := 2) rfl rfl (by decide) rfl (fun ls hl => ?_)
        refine lv_iinc (v := x5 + 1) (lv' := [(5, .int (x5 + 1)), (2, .int (x2 + 1)), (0, .ref (a 0)), (1, .ref d), (3, .int x3), (4, .int x4)]) hx hb dX0_spell_57 hl (k := 5) rfl rfl (by decide) rfl (fun ls hl => ?_)
        refine lv_goto (tgt := 27) hx hb dX0_spell_60 (by decide) ?_
        exact ih (upd f (x2.toNatClampNeg) (x4 + 1)) (x2 + 1) x3 x4 (x5 + 1) _ _ _ hf hP hD hS (lv_sub hl [2, 3, 1, 4, 5, 0] rfl)
set_option maxHeartbeats 4000000 in
set_option maxRecDepth 100000 in
theorem k_X0_spell_15 {p : Program} {l : Launch} {e : Env} {s : State} {m : MethodId} {args : Array Value} {below : List Frame} {meth : Method} {c : Code} {A : Nat → Prop} {D : va_G} {k : Nat → ClassId} {d : Nat} {a : Nat → Nat} {M : Int32} {N : Int32} {C : Nat → Nat → Int32} {Gr : Nat → Nat → Int32} {Pr : Nat → Nat → Int64} {Pa : Nat → Nat → Int32} (C0 : xM p s m args meth c cX0_spell 6 RX0 none wsX0_spell) (hG : xG D k s) {post : (Nat → Int32) → Prop} {k4 : (Nat → Int32) → Int32 → Int32 → Prop} (hk4 : ∀ (f : Nat → Int32) (x2 : Int32) (x3 : Int32) (H : Heap) (locs : List Loc) (ls : Array Slot), k4 f x2 x3 → va_P D vwCl ([((d, .inl (k 0, 40, .inl f)) : Nat × va_E)] ++ wG k a M N C Gr Pr Pa) H → va_D A ([((d, .inl (k 0, 40, .inl f)) : Nat × va_E)] ++ wG k a M N C Gr Pr Pa) → va_S A s.heap H locs → lv_has ls 6 [(0, .ref (a 0)), (1, .ref d), (2, .int x2), (3, .int x3)] → W p l e ({ frames := 0, cells := 0, slots := 0, locals := 0 }) s m args below meth c H locs 0 0 (MQ below (va_Qv (fun (u : (Nat → Int32)) => post u) (fun u t => va_P D vwCl ([((d, .inl (k 0, 40, .inl u)) : Nat × va_E)] ++ wG k a M N C Gr Pr Pa) t.heap) A) args s 0 0 A) (F0 m 4 ls [])) : ∀ (n : Nat) (f : Nat → Int32) (x2 : Int32) (x3 : Int32) (x4 : Int32) (H : Heap) (locs : List Loc) (ls : Array Slot), p_X0_spell_15 M N C post k4 n f x2 x3 x4 → va_P D vwCl ([((d, .inl (k 0, 40, .inl f)) : Nat × va_E)] ++ wG k a M N C Gr Pr Pa) H → va_D A ([((d, .inl (k 0, 40, .inl f)) : Nat × va_E)] ++ wG k a M N C Gr Pr Pa) → va_S A s.heap H locs → lv_has ls 6 [(0, .ref (a 0)), (1, .ref d), (2, .int x2), (3, .int x3), (4, .int x4)] → W p l e ({ frames := 0, cells := 0, slots := 0, locals := 0 }) s m args below meth c H locs 0 0 (MQ below (va_Qv (fun (u : (Nat → Int32)) => post u) (fun u t => va_P D vwCl ([((d, .inl (k 0, 40, .inl u)) : Nat × va_E)] ++ wG k a M N C Gr Pr Pa) t.heap) A) args s 0 0 A) (F0 m 15 ls []) := by
  obtain ⟨hx, hb, hr, hts, hown, hlocks, hml⟩ := id C0
  intro n
  induction n with
  | zero =>
    intro f x2 x3 x4 H locs ls hf
    exact False.elim hf
  | succ n ih =>
    intro f x2 x3 x4 H locs ls hf hP hD hS hl
    unfold p_X0_spell_15 at hf
    refine lv_iload hx hb dX0_spell_15 (lv_at hl 4 rfl) ?_
    refine lv_aload_n hx hb dX0_spell_17 rfl (lv_at hl 0 rfl) ?_
    refine va_get (D := D) (ci := 0) (C := RX0) (T := TX0) (N := 6) hx hb hts in_X0_spell_X0 hown hG.1 hP 1 rfl rfl 1 (by decide) (hts _ lk_X0_spell_15) (fun _ h9 => h9) rfl dX0_spell_18 ?_
    refine lv_icmp_ge (tgt := 69) hx hb dX0_spell_21 (by decide) (fun c_2 => ?_) (fun c_2 => ?_)
    · have hf := hf.1 c_2
      refine lv_iinc (v := x3 + 1) (lv' := [(3, .int (x3 + 1)), (0, .ref (a 0)), (1, .ref d), (2, .int x2), (4, .int x4)]) hx hb dX0_spell_69 hl (k := 3) rfl rfl (by decide) rfl (fun ls hl => ?_)
      refine lv_goto (tgt := 4) hx hb dX0_spell_72 (by decide) ?_
      exact hk4 f x2 (x3 + 1) _ _ _ hf hP hD hS (lv_sub hl [1, 2, 3, 0] rfl)
    · have hf := hf.2 c_2
      refine lv_iconst (v := 0) hx hb dX0_spell_24 (by decide) ?_
      refine lv_istore (lv' := [(5, .int 0), (0, .ref (a 0)), (1, .ref d), (2, .int x2), (3, .int x3), (4, .int x4)]) hx hb dX0_spell_25 hl (by decide) rfl (fun ls hl => ?_)
      obtain ⟨n_8, hf⟩ := hf
      exact k_X0_spell_27 C0 hG hk4 ih n_8 f x2 x3 x4 0 _ _ _ hf hP hD hS (lv_sub hl [1, 2, 3, 4, 5, 0] rfl)
set_option maxHeartbeats 4000000 in
set_option maxRecDepth 100000 in
theorem k_X0_spell_4 {p : Program} {l : Launch} {e : Env} {s : State} {m : MethodId} {args : Array Value} {below : List Frame} {meth : Method} {c : Code} {A : Nat → Prop} {D : va_G} {k : Nat → ClassId} {d : Nat} {a : Nat → Nat} {M : Int32} {N : Int32} {C : Nat → Nat → Int32} {Gr : Nat → Nat → Int32} {Pr : Nat → Nat → Int64} {Pa : Nat → Nat → Int32} (C0 : xM p s m args meth c cX0_spell 6 RX0 none wsX0_spell) (hG : xG D k s) {post : (Nat → Int32) → Prop} : ∀ (n : Nat) (f : Nat → Int32) (x2 : Int32) (x3 : Int32) (H : Heap) (locs : List Loc) (ls : Array Slot), p_X0_spell_4 M N C post n f x2 x3 → va_P D vwCl ([((d, .inl (k 0, 40, .inl f)) : Nat × va_E)] ++ wG k a M N C Gr Pr Pa) H → va_D A ([((d, .inl (k 0, 40, .inl f)) : Nat × va_E)] ++ wG k a M N C Gr Pr Pa) → va_S A s.heap H locs → lv_has ls 6 [(0, .ref (a 0)), (1, .ref d), (2, .int x2), (3, .int x3)] → W p l e ({ frames := 0, cells := 0, slots := 0, locals := 0 }) s m args below meth c H locs 0 0 (MQ below (va_Qv (fun (u : (Nat → Int32)) => post u) (fun u t => va_P D vwCl ([((d, .inl (k 0, 40, .inl u)) : Nat × va_E)] ++ wG k a M N C Gr Pr Pa) t.heap) A) args s 0 0 A) (F0 m 4 ls []) := by
  obtain ⟨hx, hb, hr, hts, hown, hlocks, hml⟩ := id C0
  intro n
  induction n with
  | zero =>
    intro f x2 x3 H locs ls hf
    exact False.elim hf
  | succ n ih =>
    intro f x2 x3 H locs ls hf hP hD hS hl
    unfold p_X0_spell_4 at hf
    refine lv_iload_n hx hb dX0_spell_4 rfl (lv_at hl 3 rfl) ?_
    refine lv_aload_n hx hb dX0_spell_5 rfl (lv_at hl 0 rfl) ?_
    refine va_get (D := D) (ci := 0) (C := RX0) (T := TX0) (N := 6) hx hb hts in_X0_spell_X0 hown hG.1 hP 1 rfl rfl 0 (by decide) (hts _ lk_X0_spell_11) (fun _ h9 => h9) rfl dX0_spell_6 ?_
    refine lv_icmp_ge (tgt := 75) hx hb dX0_spell_9 (by decide) (fun c_1 => ?_) (fun c_1 => ?_)
    · have hf := hf.1 c_1
      exact W.vret hx hb hr (fun t ht hW => ⟨⟨f, rfl, hf, xHp ht hP⟩, hS.F ht⟩) hS.2.2 dX0_spell_75 hlocks
    · have hf := hf.2 c_1
      refine lv_iconst (v := 0) hx hb dX0_spell_12 (by decide) ?_
      refine lv_istore (lv' := [(4, .int 0), (0, .ref (a 0)), (1, .ref d), (2, .int x2), (3, .int x3)]) hx hb dX0_spell_13 hl (by decide) rfl (fun ls hl => ?_)
      obtain ⟨n_9, hf⟩ := hf
      exact k_X0_spell_15 C0 hG ih n_9 f x2 x3 0 _ _ _ hf hP hD hS (lv_sub hl [1, 2, 3, 4, 0] rfl)
set_option maxHeartbeats 4000000 in
set_option maxRecDepth 100000 in
theorem c_X0_spell {l : Launch} {D : va_G} {k : Nat → ClassId} (d : Nat) (a : Nat → Nat) (f : Nat → Int32) (M : Int32) (N : Int32) (C : Nat → Nat → Int32) (Gr : Nat → Nat → Int32) (Pr : Nat → Nat → Int64) (Pa : Nat → Nat → Int32) {post : (Nat → Int32) → Prop} (hf : p_X0_spell f M N C post) : ctV l yX0_spell wsX0_spell ({ frames := 0, cells := 0, slots := 0, locals := 0 }) D k [.ref (a 0), .ref d] ([((d, .inl (k 0, 40, .inl f)) : Nat × va_E)] ++ wG k a M N C Gr Pr Pa) (fun u : (Nat → Int32) => [((d, .inl (k 0, 40, .inl u)) : Nat × va_E)] ++ wG k a M N C Gr Pr Pa) (fun (u : (Nat → Int32)) => post u) := by
  refine Met.ofW (cc := cX0_spell) (maxL := 6) (ret := none) (by decide) rfl ?_
  intro p e s m args below meth c s₁ B hml hv
  obtain ⟨rfl, hP, hG, hD0⟩ := hv
  have C0 : xM p s m ([.ref (a 0), .ref d] : List Value).toArray meth c cX0_spell 6 RX0 none wsX0_spell := ⟨B.exec, B.bytes, B.returns, atoms_spec (ws := wsX0_spell) B.pre, findClass_of_methodNamed B.named, B.notSynchronized, hml⟩
  obtain ⟨hx, hb, hr, hts, hown, hlocks, hml⟩ := id C0
  have hD := xSelf hD0
  have hS : va_S (xIn ([((d, .inl (k 0, 40, .inl f)) : Nat × va_E)] ++ wG k a M N C Gr Pr Pa)) s.heap s.heap [] := va_S.rf
  generalize xIn ([((d, .inl (k 0, 40, .inl f)) : Nat × va_E)] ++ wG k a M N C Gr Pr Pa) = A at hD hS ⊢
  have hl := lv_entry ([.ref (a 0), .ref d]) (n := 6) (Nat.le_of_ble_eq_true rfl)
  rw [lg_entry_eq]
  generalize (lg_sl ([.ref (a 0), .ref d]) ++ List.replicate (6 - (lg_sl ([.ref (a 0), .ref d])).length) Slot.unset).toArray = ls at hl ⊢
  have hl : lv_has ls 6 [(0, .ref (a 0)), (1, .ref d)] := hl
  unfold p_X0_spell at hf
  refine lv_iconst (v := 0) hx hb dX0_spell_0 (by decide) ?_
  refine lv_istore_n (lv' := [(2, .int 0), (0, .ref (a 0)), (1, .ref d)]) hx hb dX0_spell_1 rfl hl (by decide) rfl (fun ls hl => ?_)
  refine lv_iconst (v := 0) hx hb dX0_spell_2 (by decide) ?_
  refine lv_istore_n (lv' := [(3, .int 0), (2, .int 0), (0, .ref (a 0)), (1, .ref d)]) hx hb dX0_spell_3 rfl hl (by decide) rfl (fun ls hl => ?_)
  obtain ⟨n_10, hf⟩ := hf
  exact k_X0_spell_4 C0 hG n_10 f 0 0 _ _ _ hf hP hD hS (lv_sub hl [2, 3, 1, 0] rfl)
