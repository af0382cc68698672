def p_X1_isMissing (Ln : Int32) (post : Int32 → Prop) : Prop := ((Ln = (-1) → post 1) ∧ (¬ Ln = (-1) → post 0))
theorem in_X1_isMissing_X1 : ∀ w ∈ u_ws RX1 TX1 3, w ∈ wsX1_isMissing := by decide +kernel
theorem lk_X1_isMissing_15 : Cond.fieldLink RX1 15 "GrowingCorners$Sheet" "lane" "I" ∈ wsX1_isMissing := by decide +kernel
set_option maxHeartbeats 4000000 in
set_option maxRecDepth 100000 in
theorem c_X1_isMissing {l : Launch} {D : va_G} {k : Nat → ClassId} (a : Nat → Nat) (I : Nat → Int64) (Ln : Int32) (Sz : Int32) {post : Int32 → Prop} (hf : p_X1_isMissing Ln post) : ctI l yX1_isMissing wsX1_isMissing ({ frames := 0, cells := 0, slots := 0, locals := 0 }) D k [.ref (a 0)] (wS k a I Ln Sz) (fun u : Unit => wS k a I Ln Sz) (fun (r : Int32) (u : Unit) => post r) := by
  refine Met.ofW (cc := cX1_isMissing) (maxL := 1) (ret := (some .boolean)) (by decide) rfl ?_
  intro p e s m args below meth c s₁ B hml hv
  obtain ⟨rfl, hP, hG, hD0⟩ := hv
  have C0 : xM p s m ([.ref (a 0)] : List Value).toArray meth c cX1_isMissing 1 RX1 (some .boolean) wsX1_isMissing := ⟨B.exec, B.bytes, B.returns, atoms_spec (ws := wsX1_isMissing) B.pre, findClass_of_methodNamed B.named, B.notSynchronized, hml⟩
  obtain ⟨hx, hb, hr, hts, hown, hlocks, hml⟩ := id C0
  have hD := xSelf hD0
  have hS : va_S (xIn (wS k a I Ln Sz)) s.heap s.heap [] := va_S.rf
  generalize xIn (wS k a I Ln Sz) = A at hD hS ⊢
  have hl := lv_entry ([.ref (a 0)]) (n := 1) (Nat.le_of_ble_eq_true rfl)
  rw [lg_entry_eq]
  generalize (lg_sl ([.ref (a 0)]) ++ List.replicate (1 - (lg_sl ([.ref (a 0)])).length) Slot.unset).toArray = ls at hl ⊢
  have hl : lv_has ls 1 [(0, .ref (a 0))] := hl
  unfold p_X1_isMissing at hf
  refine lv_aload_n hx hb dX1_isMissing_0 rfl (lv_at hl 0 rfl) ?_
  refine va_get (D := D) (ci := 1) (C := RX1) (T := TX1) (N := 3) hx hb hts in_X1_isMissing_X1 hown hG.1 hP 0 rfl rfl 1 (by decide) (hts _ lk_X1_isMissing_15) (fun _ h9 => h9) rfl dX1_isMissing_1 ?_
  refine lv_iconst (v := (-1)) hx hb dX1_isMissing_4 (by decide) ?_
  refine lv_icmp_ne (tgt := 12) hx hb dX1_isMissing_5 (by decide) (fun c_1 => ?_) (fun c_1 => ?_)
  · have hf := hf.2 c_1
    refine lv_iconst (v := 0) hx hb dX1_isMissing_12 (by decide) ?_
    exact W.zret (v := 0) hx hb hr rfl (fun t ht hW => ⟨⟨(0 : Int32), (), rfl, hf, xHp ht hP⟩, hS.F ht⟩) hS.2.2 dX1_isMissing_13 hlocks
  · have hf := hf.1 c_1
    refine lv_iconst (v := 1) hx hb dX1_isMissing_8 (by decide) ?_
    refine lv_goto (tgt := 13) hx hb dX1_isMissing_9 (by decide) ?_
    exact W.zret (v := 1) hx hb hr rfl (fun t ht hW => ⟨⟨(1 : Int32), (), rfl, hf, xHp ht hP⟩, hS.F ht⟩) hS.2.2 dX1_isMissing_13 hlocks

def p_X1_isOf (Ln : Int32) (x1 : Int32) (post : Int32 → Prop) : Prop := ((Ln = x1 → post 1) ∧ (¬ Ln = x1 → post 0))
theorem in_X1_isOf_X1 : ∀ w ∈ u_ws RX1 TX1 3, w ∈ wsX1_isOf := by decide +kernel
theorem lk_X1_isOf_15 : Cond.fieldLink RX1 15 "GrowingCorners$Sheet" "lane" "I" ∈ wsX1_isOf := by decide +kernel
set_option maxHeartbeats 4000000 in
set_option maxRecDepth 100000 in
theorem c_X1_isOf {l : Launch} {D : va_G} {k : Nat → ClassId} (a : Nat → Nat) (I : Nat → Int64) (Ln : Int32) (Sz : Int32) (x1 : Int32) {post : Int32 → Prop} (hf : p_X1_isOf Ln x1 post) : ctI l yX1_isOf wsX1_isOf ({ frames := 0, cells := 0, slots := 0, locals := 0 }) D k [.ref (a 0), .int x1] (wS k a I Ln Sz) (fun u : Unit => wS k a I Ln Sz) (fun (r : Int32) (u : Unit) => post r) := by
  refine Met.ofW (cc := cX1_isOf) (maxL := 2) (ret := (some .boolean)) (by decide) rfl ?_
  intro p e s m args below meth c s₁ B hml hv
  obtain ⟨rfl, hP, hG, hD0⟩ := hv
  have C0 : xM p s m ([.ref (a 0), .int x1] : List Value).toArray meth c cX1_isOf 2 RX1 (some .boolean) wsX1_isOf := ⟨B.exec, B.bytes, B.returns, atoms_spec (ws := wsX1_isOf) B.pre, findClass_of_methodNamed B.named, B.notSynchronized, hml⟩
  obtain ⟨hx, hb, hr, hts, hown, hlocks, hml⟩ := id C0
  have hD := xSelf hD0
  have hS : va_S (xIn (wS k a I Ln Sz)) s.heap s.heap [] := va_S.rf
  generalize xIn (wS k a I Ln Sz) = A at hD hS ⊢
  have hl := lv_entry ([.ref (a 0), .int x1]) (n := 2) (Nat.le_of_ble_eq_true rfl)
  rw [lg_entry_eq]
  generalize (lg_sl ([.ref (a 0), .int x1]) ++ List.replicate (2 - (lg_sl ([.ref (a 0), .int x1])).length) Slot.unset).toArray = ls at hl ⊢
  have hl : lv_has ls 2 [(0, .ref (a 0)), (1, .int x1)] := hl
  unfold p_X1_isOf at hf
  refine lv_aload_n hx hb dX1_isOf_0 rfl (lv_at hl 0 rfl) ?_
  refine va_get (D := D) (ci := 1) (C := RX1) (T := TX1) (N := 3) hx hb hts in_X1_isOf_X1 hown hG.1 hP 0 rfl rfl 1 (by decide) (hts _ lk_X1_isOf_15) (fun _ h9 => h9) rfl dX1_isOf_1 ?_
  refine lv_iload_n hx hb dX1_isOf_4 rfl (lv_at hl 1 rfl) ?_
  refine lv_icmp_ne (tgt := 12) hx hb dX1_isOf_5 (by decide) (fun c_1 => ?_) (fun c_1 => ?_)
  · have hf := hf.2 c_1
    refine lv_iconst (v := 0) hx hb dX1_isOf_12 (by decide) ?_
    exact W.zret (v := 0) hx hb hr rfl (fun t ht hW => ⟨⟨(0 : Int32), (), rfl, hf, xHp ht hP⟩, hS.F ht⟩) hS.2.2 dX1_isOf_13 hlocks
  · have hf := hf.1 c_1
    refine lv_iconst (v := 1) hx hb dX1_isOf_8 (by decide) ?_
    refine lv_goto (tgt := 13) hx hb dX1_isOf_9 (by decide) ?_
    exact W.zret (v := 1) hx hb hr rfl (fun t ht hW => ⟨⟨(1 : Int32), (), rfl, hf, xHp ht hP⟩, hS.F ht⟩) hS.2.2 dX1_isOf_13 hlocks

def p_X1_reaches (Sz : Int32) (x1 : Int32) (x2 : Int32) (post : Int32 → Prop) : Prop := ((x1 < 0 → post 0) ∧ (¬ x1 < 0 → (((Sz - x2) < x1 → post 0) ∧ (¬ (Sz - x2) < x1 → post 1))))
theorem in_X1_reaches_X1 : ∀ w ∈ u_ws RX1 TX1 3, w ∈ wsX1_reaches := by decide +kernel
theorem lk_X1_reaches_19 : Cond.fieldLink RX1 19 "GrowingCorners$Sheet" "size" "I" ∈ wsX1_reaches := by decide +kernel
set_option maxHeartbeats 4000000 in
set_option maxRecDepth 100000 in
theorem c_X1_reaches {l : Launch} {D : va_G} {k : Nat → ClassId} (a : Nat → Nat) (I : Nat → Int64) (Ln : Int32) (Sz : Int32) (x1 : Int32) (x2 : Int32) {post : Int32 → Prop} (hf : p_X1_reaches Sz x1 x2 post) : ctI l yX1_reaches wsX1_reaches ({ frames := 0, cells := 0, slots := 0, locals := 0 }) D k [.ref (a 0), .int x1, .int x2] (wS k a I Ln Sz) (fun u : Unit => wS k a I Ln Sz) (fun (r : Int32) (u : Unit) => post r) := by
  refine Met.ofW (cc := cX1_reaches) (maxL := 3) (ret := (some .boolean)) (by decide) rfl ?_
  intro p e s m args below meth c s₁ B hml hv
  obtain ⟨rfl, hP, hG, hD0⟩ := hv
  have C0 : xM p s m ([.ref (a 0), .int x1, .int x2] : List Value).toArray meth c cX1_reaches 3 RX1 (some .boolean) wsX1_reaches := ⟨B.exec, B.bytes, B.returns, atoms_spec (ws := wsX1_reaches) B.pre, findClass_of_methodNamed B.named, B.notSynchronized, hml⟩
  obtain ⟨hx, hb, hr, hts, hown, hlocks, hml⟩ := id C0
  have hD := xSelf hD0
  have hS : va_S (xIn (wS k a I Ln Sz)) s.heap s.heap [] := va_S.rf
  generalize xIn (wS k a I Ln Sz) = A at hD hS ⊢
  have hl := lv_entry ([.ref (a 0), .int x1, .int x2]) (n := 3) (Nat.le_of_ble_eq_true rfl)
  rw [lg_entry_eq]
  generalize (lg_sl ([.ref (a 0), .int x1, .int x2]) ++ List.replicate (3 - (lg_sl ([.ref (a 0), .int x1, .int x2])).length) Slot.unset).toArray = ls at hl ⊢
  have hl : lv_has ls 3 [(0, .ref (a 0)), (1, .int x1), (2, .int x2)] := hl
  unfold p_X1_reaches at hf
  refine lv_iload_n hx hb dX1_reaches_0 rfl (lv_at hl 1 rfl) ?_
  refine lv_if_lt (tgt := 18) hx hb dX1_reaches_1 (by decide) (fun c_1 => ?_) (fun c_1 => ?_)
  · have hf := hf.1 c_1
    refine lv_iconst (v := 0) hx hb dX1_reaches_18 (by decide) ?_
    exact W.zret (v := 0) hx hb hr rfl (fun t ht hW => ⟨⟨(0 : Int32), (), rfl, hf, xHp ht hP⟩, hS.F ht⟩) hS.2.2 dX1_reaches_19 hlocks
  · have hf := hf.2 c_1
    refine lv_iload_n hx hb dX1_reaches_4 rfl (lv_at hl 1 rfl) ?_
    refine lv_aload_n hx hb dX1_reaches_5 rfl (lv_at hl 0 rfl) ?_
    refine va_get (D := D) (ci := 1) (C := RX1) (T := TX1) (N := 3) hx hb hts in_X1_reaches_X1 hown hG.1 hP 0 rfl rfl 2 (by decide) (hts _ lk_X1_reaches_19) (fun _ h9 => h9) rfl dX1_reaches_6 ?_
    refine lv_iload_n hx hb dX1_reaches_9 rfl (lv_at hl 2 rfl) ?_
    refine lv_isub hx hb dX1_reaches_10 ?_
    refine lv_icmp_gt (tgt := 18) hx hb dX1_reaches_11 (by decide) (fun c_2 => ?_) (fun c_2 => ?_)
    · have hf := hf.1 c_2
      refine lv_iconst (v := 0) hx hb dX1_reaches_18 (by decide) ?_
      exact W.zret (v := 0) hx hb hr rfl (fun t ht hW => ⟨⟨(0 : Int32), (), rfl, hf, xHp ht hP⟩, hS.F ht⟩) hS.2.2 dX1_reaches_19 hlocks
    · have hf := hf.2 c_2
      refine lv_iconst (v := 1) hx hb dX1_reaches_14 (by decide) ?_
      refine lv_goto (tgt := 19) hx hb dX1_reaches_15 (by decide) ?_
      exact W.zret (v := 1) hx hb hr rfl (fun t ht hW => ⟨⟨(1 : Int32), (), rfl, hf, xHp ht hP⟩, hS.F ht⟩) hS.2.2 dX1_reaches_19 hlocks

def p_X1_renew (I : Nat → Int64) (Ln : Int32) (Sz : Int32) (x1 : Int32) (x2 : Int32) (post : (Nat → Int64) → Int32 → Int32 → Prop) : Prop := p_J7_fill_d0a16 36 I 0 (fun f_1 => post f_1 x1 x2)
theorem in_X1_renew_X1 : ∀ w ∈ u_ws RX1 TX1 3, w ∈ wsX1_renew := by decide +kernel
theorem lk_X1_renew_15 : Cond.fieldLink RX1 15 "GrowingCorners$Sheet" "lane" "I" ∈ wsX1_renew := by decide +kernel
theorem lk_X1_renew_19 : Cond.fieldLink RX1 19 "GrowingCorners$Sheet" "size" "I" ∈ wsX1_renew := by decide +kernel
theorem lk_X1_renew_9 : Cond.fieldLink RX1 9 "GrowingCorners$Sheet" "items" "[J" ∈ wsX1_renew := by decide +kernel
set_option maxHeartbeats 4000000 in
set_option maxRecDepth 100000 in
theorem c_X1_renew {l : Launch} {D : va_G} {k : Nat → ClassId} (a : Nat → Nat) (I : Nat → Int64) (Ln : Int32) (Sz : Int32) (x1 : Int32) (x2 : Int32) {post : (Nat → Int64) → Int32 → Int32 → Prop} (hf : p_X1_renew I Ln Sz x1 x2 post) : ctV l yX1_renew wsX1_renew ({ frames := 1, cells := 0, slots := 0, locals := 24 }) D k [.ref (a 0), .int x1, .int x2] (wS k a I Ln Sz) (fun u : (Nat → Int64) × Int32 × Int32 => wS k a (u.1) (u.2.1) (u.2.2)) (fun (u : (Nat → Int64) × Int32 × Int32) => post u.1 u.2.1 u.2.2) := by
  refine Met.ofW (cc := cX1_renew) (maxL := 3) (ret := none) (by decide) rfl ?_
  intro p e s m args below meth c s₁ B hml hv
  obtain ⟨rfl, hP, hG, hD0⟩ := hv
  have C0 : xM p s m ([.ref (a 0), .int x1, .int x2] : List Value).toArray meth c cX1_renew 3 RX1 none wsX1_renew := ⟨B.exec, B.bytes, B.returns, atoms_spec (ws := wsX1_renew) B.pre, findClass_of_methodNamed B.named, B.notSynchronized, hml⟩
  obtain ⟨hx, hb, hr, hts, hown, hlocks, hml⟩ := id C0
  have hD := xSelf hD0
  have hS : va_S (xIn (wS k a I Ln Sz)) s.heap s.heap [] := va_S.rf
  generalize xIn (wS k a I Ln Sz) = A at hD hS ⊢
  have hl := lv_entry ([.ref (a 0), .int x1, .int x2]) (n := 3) (Nat.le_of_ble_eq_true rfl)
  rw [lg_entry_eq]
  generalize (lg_sl ([.ref (a 0), .int x1, .int x2]) ++ List.replicate (3 - (lg_sl ([.ref (a 0), .int x1, .int x2])).length) Slot.unset).toArray = ls at hl ⊢
  have hl : lv_has ls 3 [(0, .ref (a 0)), (1, .int x1), (2, .int x2)] := hl
  unfold p_X1_renew at hf
  refine lv_aload_n hx hb dX1_renew_0 rfl (lv_at hl 0 rfl) ?_
  refine va_get (D := D) (ci := 1) (C := RX1) (T := TX1) (N := 3) hx hb hts in_X1_renew_X1 hown hG.1 hP 0 rfl rfl 0 (by decide) (hts _ lk_X1_renew_9) (fun _ h9 => h9) rfl dX1_renew_1 ?_
  refine lv_lconst (v := 0) hx hb dX1_renew_4 (by decide) ?_
  have hp : xPerm (wS k a I Ln Sz) (([((a 1, .inl (k 1, 36, .inr (.inl I))) : Nat × va_E)]) ++ ((wS k a I Ln Sz).eraseIdx 1)) := (xCut1 (i := 1) (rfl : (wS k a I Ln Sz)[1]? = some ((a 1, .inl (k 1, 36, .inr (.inl I))) : Nat × va_E)))
  refine xCallV (w := [((a 1, .inl (k 1, 36, .inr (.inl I))) : Nat × va_E)]) (r := (wS k a I Ln Sz).eraseIdx 1) (va_runS (As := [.ref (a 1), .long 0]) (rest := []) ⟨hx, hb, hml, hown, hts⟩ (c_J7_fill_d0a16 (a 1) 36 I 0 hf) (va_cwS 2 hts gX1_renew_J7_fill_d0a16 rfl rfl rfl (by decide +kernel) ⟨Nat.le_of_ble_eq_true rfl, Nat.le_of_ble_eq_true rfl⟩) (xPreS hG hP hD hp) rfl rfl hl.1 rfl (lv_room (Nat.le_of_ble_eq_true rfl)) dX1_renew_5 ⟨Nat.zero_le _, Nat.zero_le _⟩) hP hD hS hp (fun _ => rfl) (fun f_1 H locs hf hP hD hS => ?_)
  have hP : va_P D vwCl (wS k a f_1 Ln Sz) H := xP_perm (xJoin1 (i := 1) (rfl : (wS k a I Ln Sz)[1]? = some ((a 1, .inl (k 1, 36, .inr (.inl I))) : Nat × va_E))) hP
  have hD : va_D A (wS k a f_1 Ln Sz) := xD_perm (xJoin1 (i := 1) (rfl : (wS k a I Ln Sz)[1]? = some ((a 1, .inl (k 1, 36, .inr (.inl I))) : Nat × va_E))) hD
  refine lv_aload_n hx hb dX1_renew_8 rfl (lv_at hl 0 rfl) ?_
  refine lv_iload_n hx hb dX1_renew_9 rfl (lv_at hl 1 rfl) ?_
  refine va_put (D := D) (ci := 1) (v := .int x1) (ty := .int) (C := RX1) (T := TX1) (N := 3) hx hb hts in_X1_renew_X1 tyX1 tyX1_ok nmX1 hown hG.1 hP hD hS 0 rfl rfl 1 (by decide) (hts _ lk_X1_renew_15) (fun _ h9 => h9) rfl (by decide +kernel) rfl rfl (Nat.le_of_ble_eq_true rfl) dX1_renew_10 (fun H locs hP hD hS => ?_)
  have hP : va_P D vwCl (wS k a f_1 x1 Sz) H := hP
  have hD : va_D A (wS k a f_1 x1 Sz) := hD
  refine lv_aload_n hx hb dX1_renew_13 rfl (lv_at hl 0 rfl) ?_
  refine lv_iload_n hx hb dX1_renew_14 rfl (lv_at hl 2 rfl) ?_
  refine va_put (D := D) (ci := 1) (v := .int x2) (ty := .int) (C := RX1) (T := TX1) (N := 3) hx hb hts in_X1_renew_X1 tyX1 tyX1_ok nmX1 hown hG.1 hP hD hS 0 rfl rfl 2 (by decide) (hts _ lk_X1_renew_19) (fun _ h9 => h9) rfl (by decide +kernel) rfl rfl (Nat.le_of_ble_eq_true rfl) dX1_renew_15 (fun H locs hP hD hS => ?_)
  have hP : va_P D vwCl (wS k a f_1 x1 x2) H := hP
  have hD : va_D A (wS k a f_1 x1 x2) := hD
  exact W.vret hx hb hr (fun t ht hW => ⟨⟨(f_1, x1, x2), rfl, hf, xHp ht hP⟩, hS.F ht⟩) hS.2.2 dX1_renew_18 hlocks

def p_X1_vanish (Ln : Int32) (Sz : Int32) (post : Int32 → Int32 → Int32 → Prop) : Prop := post Sz (-1) 0
theorem in_X1_vanish_X1 : ∀ w ∈ u_ws RX1 TX1 3, w ∈ wsX1_vanish := by decide +kernel
theorem lk_X1_vanish_15 : Cond.fieldLink RX1 15 "GrowingCorners$Sheet" "lane" "I" ∈ wsX1_vanish := by decide +kernel
theorem lk_X1_vanish_19 : Cond.fieldLink RX1 19 "GrowingCorners$Sheet" "size" "I" ∈ wsX1_vanish := by decide +kernel
set_option maxHeartbeats 4000000 in
set_option maxRecDepth 100000 in
theorem c_X1_vanish {l : Launch} {D : va_G} {k : Nat → ClassId} (a : Nat → Nat) (I : Nat → Int64) (Ln : Int32) (Sz : Int32) {post : Int32 → Int32 → Int32 → Prop} (hf : p_X1_vanish Ln Sz post) : ctI l yX1_vanish wsX1_vanish ({ frames := 0, cells := 0, slots := 0, locals := 0 }) D k [.ref (a 0)] (wS k a I Ln Sz) (fun u : Int32 × Int32 => wS k a I (u.1) (u.2)) (fun (r : Int32) (u : Int32 × Int32) => post r u.1 u.2) := by
  refine Met.ofW (cc := cX1_vanish) (maxL := 2) (ret := (some .int)) (by decide) rfl ?_
  intro p e s m args below meth c s₁ B hml hv
  obtain ⟨rfl, hP, hG, hD0⟩ := hv
  have C0 : xM p s m ([.ref (a 0)] : List Value).toArray meth c cX1_vanish 2 RX1 (some .int) wsX1_vanish := ⟨B.exec, B.bytes, B.returns, atoms_spec (ws := wsX1_vanish) B.pre, findClass_of_methodNamed B.named, B.notSynchronized, hml⟩
  obtain ⟨hx, hb, hr, hts, hown, hlocks, hml⟩ := id C0
  have hD := xSelf hD0
  have hS : va_S (xIn (wS k a I Ln Sz)) s.heap s.heap [] := va_S.rf
  generalize xIn (wS k a I Ln Sz) = A at hD hS ⊢
  have hl := lv_entry ([.ref (a 0)]) (n := 2) (Nat.le_of_ble_eq_true rfl)
  rw [lg_entry_eq]
  generalize (lg_sl ([.ref (a 0)]) ++ List.replicate (2 - (lg_sl ([.ref (a 0)])).length) Slot.unset).toArray = ls at hl ⊢
  have hl : lv_has ls 2 [(0, .ref (a 0))] := hl
  unfold p_X1_vanish at hf
  refine lv_aload_n hx hb dX1_vanish_0 rfl (lv_at hl 0 rfl) ?_
  refine va_get (D := D) (ci := 1) (C := RX1) (T := TX1) (N := 3) hx hb hts in_X1_vanish_X1 hown hG.1 hP 0 rfl rfl 2 (by decide) (hts _ lk_X1_vanish_19) (fun _ h9 => h9) rfl dX1_vanish_1 ?_
  refine lv_istore_n (lv' := [(1, .int Sz), (0, .ref (a 0))]) hx hb dX1_vanish_4 rfl hl (by decide) rfl (fun ls hl => ?_)
  refine lv_aload_n hx hb dX1_vanish_5 rfl (lv_at hl 1 rfl) ?_
  refine lv_iconst (v := (-1)) hx hb dX1_vanish_6 (by decide) ?_
  refine va_put (D := D) (ci := 1) (v := .int (-1)) (ty := .int) (C := RX1) (T := TX1) (N := 3) hx hb hts in_X1_vanish_X1 tyX1 tyX1_ok nmX1 hown hG.1 hP hD hS 0 rfl rfl 1 (by decide) (hts _ lk_X1_vanish_15) (fun _ h9 => h9) rfl (by decide +kernel) rfl rfl (Nat.le_of_ble_eq_true rfl) dX1_vanish_7 (fun H locs hP hD hS => ?_)
  have hP : va_P D vwCl (wS k a I (-1) Sz) H := hP
  have hD : va_D A (wS k a I (-1) Sz) := hD
  refine lv_aload_n hx hb dX1_vanish_10 rfl (lv_at hl 1 rfl) ?_
  refine lv_iconst (v := 0) hx hb dX1_vanish_11 (by decide) ?_
  refine va_put (D := D) (ci := 1) (v := .int 0) (ty := .int) (C := RX1) (T := TX1) (N := 3) hx hb hts in_X1_vanish_X1 tyX1 tyX1_ok nmX1 hown hG.1 hP hD hS 0 rfl rfl 2 (by decide) (hts _ lk_X1_vanish_19) (fun _ h9 => h9) rfl (by decide +kernel) rfl rfl (Nat.le_of_ble_eq_true rfl) dX1_vanish_12 (fun H locs hP hD hS => ?_)
  have hP : va_P D vwCl (wS k a I (-1) 0) H := hP
  have hD : va_D A (wS k a I (-1) 0) := hD
  refine lv_iload_n hx hb dX1_vanish_15 rfl (lv_at hl 0 rfl) ?_
  exact W.iret (v := Sz) hx hb hr (fun t ht hW => ⟨⟨Sz, ((-1), 0), rfl, hf, xHp ht hP⟩, hS.F ht⟩) hS.2.2 dX1_vanish_16 hlocks

def p_X1_setItem (I : Nat → Int64) (x1 : Int32) (x2 : Int32) (post : (Nat → Int64) → Prop) : Prop := (vp_in x1 36 ∧ post (vp_updL I (x1.toNatClampNeg) (x2.toInt64)))
theorem in_X1_setItem_X1 : ∀ w ∈ u_ws RX1 TX1 3, w ∈ wsX1_setItem := by decide +kernel
theorem lk_X1_setItem_9 : Cond.fieldLink RX1 9 "GrowingCorners$Sheet" "items" "[J" ∈ wsX1_setItem := by decide +kernel
set_option maxHeartbeats 4000000 in
set_option maxRecDepth 100000 in
theorem c_X1_setItem {l : Launch} {D : va_G} {k : Nat → ClassId} (a : Nat → Nat) (I : Nat → Int64) (Ln : Int32) (Sz : Int32) (x1 : Int32) (x2 : Int32) {post : (Nat → Int64) → Prop} (hf : p_X1_setItem I x1 x2 post) : ctV l yX1_setItem wsX1_setItem ({ frames := 0, cells := 0, slots := 0, locals := 0 }) D k [.ref (a 0), .int x1, .int x2] (wS k a I Ln Sz) (fun u : (Nat → Int64) => wS k a u Ln Sz) (fun (u : (Nat → Int64)) => post u) := by
  refine Met.ofW (cc := cX1_setItem) (maxL := 3) (ret := none) (by decide) rfl ?_
  intro p e s m args below meth c s₁ B hml hv
  obtain ⟨rfl, hP, hG, hD0⟩ := hv
  have C0 : xM p s m ([.ref (a 0), .int x1, .int x2] : List Value).toArray meth c cX1_setItem 3 RX1 none wsX1_setItem := ⟨B.exec, B.bytes, B.returns, atoms_spec (ws := wsX1_setItem) B.pre, findClass_of_methodNamed B.named, B.notSynchronized, hml⟩
  obtain ⟨hx, hb, hr, hts, hown, hlocks, hml⟩ := id C0
  have hD := xSelf hD0
  have hS : va_S (xIn (wS k a I Ln Sz)) s.heap s.heap [] := va_S.rf
  generalize xIn (wS k a I Ln Sz) = A at hD hS ⊢
  have hl := lv_entry ([.ref (a 0), .int x1, .int x2]) (n := 3) (Nat.le_of_ble_eq_true rfl)
  rw [lg_entry_eq]
  generalize (lg_sl ([.ref (a 0), .int x1, .int x2]) ++ List.replicate (3 - (lg_sl ([.ref (a 0), .int x1, .int x2])).length) Slot.unset).toArray = ls at hl ⊢
  have hl : lv_has ls 3 [(0, .ref (a 0)), (1, .int x1), (2, .int x2)] := hl
  unfold p_X1_setItem at hf
  refine lv_aload_n hx hb dX1_setItem_0 rfl (lv_at hl 0 rfl) ?_
  refine va_get (D := D) (ci := 1) (C := RX1) (T := TX1) (N := 3) hx hb hts in_X1_setItem_X1 hown hG.1 hP 0 rfl rfl 0 (by decide) (hts _ lk_X1_setItem_9) (fun _ h9 => h9) rfl dX1_setItem_1 ?_
  refine lv_iload_n hx hb dX1_setItem_4 rfl (lv_at hl 1 rfl) ?_
  refine lv_iload_n hx hb dX1_setItem_5 rfl (lv_at hl 2 rfl) ?_
  refine lv_i2l (v := x2.toInt64) hx hb dX1_setItem_6 rfl ?_
  obtain ⟨h_1, hf⟩ := hf
  refine va_last hx hb hG.1 hP hD hS 1 1 rfl rfl h_1 dX1_setItem_7 (fun H locs hP hD hS => ?_)
  have hP : va_P D vwCl (wS k a (vp_updL I (x1.toNatClampNeg) (x2.toInt64)) Ln Sz) H := hP
  have hD : va_D A (wS k a (vp_updL I (x1.toNatClampNeg) (x2.toInt64)) Ln Sz) := hD
  exact W.vret hx hb hr (fun t ht hW => ⟨⟨(vp_updL I (x1.toNatClampNeg) (x2.toInt64)), rfl, hf, xHp ht hP⟩, hS.F ht⟩) hS.2.2 dX1_setItem_8 hlocks

def p_X1_itemAt (I : Nat → Int64) (x1 : Int32) (post : Int64 → Prop) : Prop := (vp_in x1 36 ∧ post (I x1.toNatClampNeg))
theorem in_X1_itemAt_X1 : ∀ w ∈ u_ws RX1 TX1 3, w ∈ wsX1_itemAt := by decide +kernel
theorem lk_X1_itemAt_9 : Cond.fieldLink RX1 9 "GrowingCorners$Sheet" "items" "[J" ∈ wsX1_itemAt := by decide +kernel
set_option maxHeartbeats 4000000 in
set_option maxRecDepth 100000 in
theorem c_X1_itemAt {l : Launch} {D : va_G} {k : Nat → ClassId} (a : Nat → Nat) (I : Nat → Int64) (Ln : Int32) (Sz : Int32) (x1 : Int32) {post : Int64 → Prop} (hf : p_X1_itemAt I x1 post) : ctL l yX1_itemAt wsX1_itemAt ({ frames := 0, cells := 0, slots := 0, locals := 0 }) D k [.ref (a 0), .int x1] (wS k a I Ln Sz) (fun u : Unit => wS k a I Ln Sz) (fun (r : Int64) (u : Unit) => post r) := by
  refine Met.ofW (cc := cX1_itemAt) (maxL := 2) (ret := (some .long)) (by decide) rfl ?_
  intro p e s m args below meth c s₁ B hml hv
  obtain ⟨rfl, hP, hG, hD0⟩ := hv
  have C0 : xM p s m ([.ref (a 0), .int x1] : List Value).toArray meth c cX1_itemAt 2 RX1 (some .long) wsX1_itemAt := ⟨B.exec, B.bytes, B.returns, atoms_spec (ws := wsX1_itemAt) B.pre, findClass_of_methodNamed B.named, B.notSynchronized, hml⟩
  obtain ⟨hx, hb, hr, hts, hown, hlocks, hml⟩ := id C0
  have hD := xSelf hD0
  have hS : va_S (xIn (wS k a I Ln Sz)) s.heap s.heap [] := va_S.rf
  generalize xIn (wS k a I Ln Sz) = A at hD hS ⊢
  have hl := lv_entry ([.ref (a 0), .int x1]) (n := 2) (Nat.le_of_ble_eq_true rfl)
  rw [lg_entry_eq]
  generalize (lg_sl ([.ref (a 0), .int x1]) ++ List.replicate (2 - (lg_sl ([.ref (a 0), .int x1])).length) Slot.unset).toArray = ls at hl ⊢
  have hl : lv_has ls 2 [(0, .ref (a 0)), (1, .int x1)] := hl
  unfold p_X1_itemAt at hf
  refine lv_aload_n hx hb dX1_itemAt_0 rfl (lv_at hl 0 rfl) ?_
  refine va_get (D := D) (ci := 1) (C := RX1) (T := TX1) (N := 3) hx hb hts in_X1_itemAt_X1 hown hG.1 hP 0 rfl rfl 0 (by decide) (hts _ lk_X1_itemAt_9) (fun _ h9 => h9) rfl dX1_itemAt_1 ?_
  refine lv_iload_n hx hb dX1_itemAt_4 rfl (lv_at hl 1 rfl) ?_
  obtain ⟨h_1, hf⟩ := hf
  refine va_lald hx hb hG.1 hP 1 1 rfl rfl h_1 dX1_itemAt_5 ?_
  exact W.lret (v := (I x1.toNatClampNeg)) hx hb hr (fun t ht hW => ⟨⟨(I x1.toNatClampNeg), (), rfl, hf, xHp ht hP⟩, hS.F ht⟩) hS.2.2 dX1_itemAt_6 hlocks

def p_X1_areWeights_2 (I : Nat → Int64) (x1 : Int32) (x2 : Int32) (post : Int32 → Prop) : Nat → Int32 → Prop
  | 0, _ => False
  | n + 1, x3 => (((x1 + x2) ≤ x3 → post 1) ∧ (¬ (x1 + x2) ≤ x3 → (vp_in x3 36 ∧ p_X4_isWeight (I x3.toNatClampNeg) (fun r_3 => ((r_3 = 0 → post 0) ∧ (¬ r_3 = 0 → p_X1_areWeights_2 I x1 x2 post n (x3 + 1)))))))
def p_X1_areWeights (I : Nat → Int64) (x1 : Int32) (x2 : Int32) (post : Int32 → Prop) : Prop := (∃ n_5, p_X1_areWeights_2 I x1 x2 post n_5 x1)
theorem in_X1_areWeights_X1 : ∀ w ∈ u_ws RX1 TX1 3, w ∈ wsX1_areWeights := by decide +kernel
theorem lk_X1_areWeights_9 : Cond.fieldLink RX1 9 "GrowingCorners$Sheet" "items" "[J" ∈ wsX1_areWeights := by decide +kernel
theorem mb_X1_areWeights_ni : Cond.initialized RX4 ∈ wsX1_areWeights := by decide +kernel
theorem mb_X1_areWeights_ns_X4_isWeight : Cond.static yX4_isWeight ∈ wsX1_areWeights := by decide +kernel
set_option maxHeartbeats 4000000 in
set_option maxRecDepth 100000 in
theorem k_X1_areWeights_2 {p : Program} {l : Launch} {e : Env} {s : State} {m : MethodId} {args : Array Value} {below : List Frame} {meth : Method} {c : Code} {A : Nat → Prop} {D : va_G} {k : Nat → ClassId} {a : Nat → Nat} {I : Nat → Int64} {Ln : Int32} {Sz : Int32} {x1 : Int32} {x2 : Int32} (C0 : xM p s m args meth c cX1_areWeights 4 RX1 (some .boolean) wsX1_areWeights) (hG : xG D k s) {post : Int32 → Prop} : ∀ (n : Nat) (x3 : Int32) (H : Heap) (locs : List Loc) (ls : Array Slot), p_X1_areWeights_2 I x1 x2 post n x3 → va_P D vwCl (wS k a I Ln Sz) H → va_D A (wS k a I Ln Sz) → va_S A s.heap H locs → lv_has ls 4 [(0, .ref (a 0)), (1, .int x1), (2, .int x2), (3, .int x3)] → W p l e ({ frames := 1, cells := 0, slots := 0, locals := 21 }) s m args below meth c H locs 0 0 (MQ below (va_Qi (fun (r : Int32) (u : Unit) => post r) (fun u t => va_P D vwCl (wS k a I Ln Sz) t.heap) A) args s 0 0 A) (F0 m 2 ls []) := by
  obtain ⟨hx, hb, hr, hts, hown, hlocks, hml⟩ := id C0
  intro n
  induction n with
  | zero =>
    intro x3 H locs ls hf
    exact False.elim hf
  | succ n ih =>
    intro x3 H locs ls hf hP hD hS hl
    unfold p_X1_areWeights_2 at hf
    refine lv_iload_n hx hb dX1_areWeights_2 rfl (lv_at hl 3 rfl) ?_
    refine lv_iload_n hx hb dX1_areWeights_3 rfl (lv_at hl 1 rfl) ?_
    refine lv_iload_n hx hb dX1_areWeights_4 rfl (lv_at hl 2 rfl) ?_
    refine lv_iadd hx hb dX1_areWeights_5 ?_
    refine lv_icmp_ge (tgt := 29) hx hb dX1_areWeights_6 (by decide) (fun c_1 => ?_) (fun c_1 => ?_)
    · have hf := hf.1 c_1
      refine lv_iconst (v := 1) hx hb dX1_areWeights_29 (by decide) ?_
      exact W.zret (v := 1) hx hb hr rfl (fun t ht hW => ⟨⟨(1 : Int32), (), rfl, hf, xHp ht hP⟩, hS.F ht⟩) hS.2.2 dX1_areWeights_30 hlocks
    · have hf := hf.2 c_1
      refine lv_aload_n hx hb dX1_areWeights_9 rfl (lv_at hl 0 rfl) ?_
      refine va_get (D := D) (ci := 1) (C := RX1) (T := TX1) (N := 3) hx hb hts in_X1_areWeights_X1 hown hG.1 hP 0 rfl rfl 0 (by decide) (hts _ lk_X1_areWeights_9) (fun _ h9 => h9) rfl dX1_areWeights_10 ?_
      refine lv_iload_n hx hb dX1_areWeights_13 rfl (lv_at hl 3 rfl) ?_
      obtain ⟨h_2, hf⟩ := hf
      refine va_lald hx hb hG.1 hP 1 1 rfl rfl h_2 dX1_areWeights_14 ?_
      have hp : xPerm (wS k a I Ln Sz) (([]) ++ (wS k a I Ln Sz)) := (List.Perm.refl _)
      refine xCallI (w := []) (r := wS k a I Ln Sz) (va_runSN (As := [.long (I x3.toNatClampNeg)]) (rest := []) ⟨hx, hb, hml, hown, hts⟩ (c_X4_isWeight (I x3.toNatClampNeg) hf) ⟨va_cnB 1 hts gX1_areWeights_X4_isWeight_n28 rfl rfl rfl hG.2.2.1 (hts _ mb_X1_areWeights_ni) (by decide +kernel) ⟨Nat.le_of_ble_eq_true rfl, Nat.le_of_ble_eq_true rfl⟩, hts _ mb_X1_areWeights_ns_X4_isWeight, trivial⟩ (xPreS hG hP hD hp) rfl rfl hl.1 rfl (lv_room (Nat.le_of_ble_eq_true rfl)) dX1_areWeights_15 ⟨Nat.zero_le _, Nat.zero_le _⟩) hP hD hS hp (fun _ => rfl) (fun r_3 _ H locs hf hP hD hS => ?_)
      have hP : va_P D vwCl (wS k a I Ln Sz) H := hP
      have hD : va_D A (wS k a I Ln Sz) := hD
      refine lv_if_ne (tgt := 23) hx hb dX1_areWeights_18 (by decide) (fun c_4 => ?_) (fun c_4 => ?_)
      · have hf := hf.2 c_4
        refine lv_iinc (v := x3 + 1) (lv' := [(3, .int (x3 + 1)), (0, .ref (a 0)), (1, .int x1), (2, .int x2)]) hx hb dX1_areWeights_23 hl (k := 3) rfl rfl (by decide) rfl (fun ls hl => ?_)
        refine lv_goto (tgt := 2) hx hb dX1_areWeights_26 (by decide) ?_
        exact ih (x3 + 1) _ _ _ hf hP hD hS (lv_sub hl [1, 2, 3, 0] rfl)
      · have hf := hf.1 c_4
        refine lv_iconst (v := 0) hx hb dX1_areWeights_21 (by decide) ?_
        exact W.zret (v := 0) hx hb hr rfl (fun t ht hW => ⟨⟨(0 : Int32), (), rfl, hf, xHp ht hP⟩, hS.F ht⟩) hS.2.2 dX1_areWeights_22 hlocks
set_option maxHeartbeats 4000000 in
set_option maxRecDepth 100000 in
theorem c_X1_areWeights {l : Launch} {D : va_G} {k : Nat → ClassId} (a : Nat → Nat) (I : Nat → Int64) (Ln : Int32) (Sz : Int32) (x1 : Int32) (x2 : Int32) {post : Int32 → Prop} (hf : p_X1_areWeights I x1 x2 post) : ctI l yX1_areWeights wsX1_areWeights ({ frames := 1, cells := 0, slots := 0, locals := 21 }) D k [.ref (a 0), .int x1, .int x2] (wS k a I Ln Sz) (fun u : Unit => wS k a I Ln Sz) (fun (r : Int32) (u : Unit) => post r) := by
  refine Met.ofW (cc := cX1_areWeights) (maxL := 4) (ret := (some .boolean)) (by decide) rfl ?_
  intro p e s m args below meth c s₁ B hml hv
  obtain ⟨rfl, hP, hG, hD0⟩ := hv
  have C0 : xM p s m ([.ref (a 0), .int x1, .int x2] : List Value).toArray meth c cX1_areWeights 4 RX1 (some .boolean) wsX1_areWeights := ⟨B.exec, B.bytes, B.returns, atoms_spec (ws := wsX1_areWeights) B.pre, findClass_of_methodNamed B.named, B.notSynchronized, hml⟩
  obtain ⟨hx, hb, hr, hts, hown, hlocks, hml⟩ := id C0
  have hD := xSelf hD0
  have hS : va_S (xIn (wS k a I Ln Sz)) s.heap s.heap [] := va_S.rf
  generalize xIn (wS k a I Ln Sz) = A at hD hS ⊢
  have hl := lv_entry ([.ref (a 0), .int x1, .int x2]) (n := 4) (Nat.le_of_ble_eq_true rfl)
  rw [lg_entry_eq]
  generalize (lg_sl ([.ref (a 0), .int x1, .int x2]) ++ List.replicate (4 - (lg_sl ([.ref (a 0), .int x1, .int x2])).length) Slot.unset).toArray = ls at hl ⊢
  have hl : lv_has ls 4 [(0, .ref (a 0)), (1, .int x1), (2, .int x2)] := hl
  unfold p_X1_areWeights at hf
  refine lv_iload_n hx hb dX1_areWeights_0 rfl (lv_at hl 1 rfl) ?_
  refine lv_istore_n (lv' := [(3, .int x1), (0, .ref (a 0)), (1, .int x1), (2, .int x2)]) hx hb dX1_areWeights_1 rfl hl (by decide) rfl (fun ls hl => ?_)
  obtain ⟨n_5, hf⟩ := hf
  exact k_X1_areWeights_2 C0 hG n_5 x1 _ _ _ hf hP hD hS (lv_sub hl [1, 2, 3, 0] rfl)
