/-! turn -/
def JT (C : Nat → Nat → Int32) (i j : Nat) (F : Nat → Nat → Int32) : Prop := ∀ a b, a < 6 → b < 6 → F a b = if (a < b ∧ (b < i ∨ (b = i ∧ a < j))) ∨ (b < a ∧ (a < i ∨ (a = i ∧ b < j))) then C b a else C a b
theorem JT_0 {C : Nat → Nat → Int32} : JT C 0 0 C := fun a b _ _ => by rw [if_neg (by omega)]
theorem JT_next {C F : Nat → Nat → Int32} {i : Nat} (h : JT C i i F) : JT C (i + 1) 0 F := fun a b ha hb => by
  rw [h a b ha hb]
  by_cases c : (a < b ∧ (b < i ∨ (b = i ∧ a < i))) ∨ (b < a ∧ (a < i ∨ (a = i ∧ b < i)))
  · rw [if_pos c, if_pos (by omega)]
  · rw [if_neg c, if_neg (by omega)]
theorem JT_step {C F G : Nat → Nat → Int32} {i j : Nat} (hi : i < 6) (hj : j < i) (h : JT C i j F) (hG : ∀ a b, a < 6 → b < 6 → G a b = if a = j ∧ b = i then F i j else if a = i ∧ b = j then F j i else F a b) : JT C i (j + 1) G := fun a b ha hb => by
  rw [hG a b ha hb]
  by_cases c1 : a = j ∧ b = i
  · obtain ⟨rfl, rfl⟩ := c1
    rw [if_pos ⟨rfl, rfl⟩, if_pos (by omega), h b a hb ha, if_neg (by omega)]
  · rw [if_neg c1]
    by_cases c2 : a = i ∧ b = j
    · obtain ⟨rfl, rfl⟩ := c2
      rw [if_pos ⟨rfl, rfl⟩, if_pos (by omega), h b a hb ha, if_neg (by omega)]
    · rw [if_neg c2, h a b ha hb]
      by_cases c : (a < b ∧ (b < i ∨ (b = i ∧ a < j))) ∨ (b < a ∧ (a < i ∨ (a = i ∧ b < j)))
      · rw [if_pos c, if_pos (by omega)]
      · rw [if_neg c, if_neg (by omega)]
theorem JT_end {C F : Nat → Nat → Int32} (h : JT C 6 0 F) {a b : Nat} (ha : a < 6) (hb : b < 6) : F a b = C b a := by
  rw [h a b ha hb]
  by_cases c : (a < b ∧ (b < 6 ∨ (b = 6 ∧ a < 0))) ∨ (b < a ∧ (a < 6 ∨ (a = 6 ∧ b < 0)))
  · rw [if_pos c]
  · rw [if_neg c]
    have e : a = b := by omega
    rw [e]
theorem x_turn {M N : Int32} {C : Nat → Nat → Int32} {post : Int32 → Int32 → (Nat → Nat → Int32) → Prop} (h : ∀ C', (∀ a b, a < 6 → b < 6 → C' a b = C b a) → post N M C') : p_X0_transpose M N C post := by
  unfold p_X0_transpose
  have inner : ∀ (k2 : Int32 → Int32 → (Nat → Nat → Int32) → Int32 → Prop) (i : Nat), i < 6 → (∀ F, JT C i i F → k2 M N F (nI (i + 1))) → ∀ d j F, j + d = i → JT C i j F → p_X0_transpose_10 post k2 (d + 1) M N F (nI i) (nI j) := by
    intro k2 i hi hk d
    induction d with
    | zero =>
      intro j F hj hF
      unfold p_X0_transpose_10
      refine pk_le i j (fun _ => ?_) (fun c => by omega)
      rw [nI_1]
      have e : j = i := by omega
      subst e
      exact hk F hF
    | succ d ih =>
      intro j F hj hF
      unfold p_X0_transpose_10
      have hi6 : vp_in (nI i) 6 := pk_in i 6 (by omega)
      have hj6 : vp_in (nI j) 6 := pk_in j 6 (by omega)
      refine pk_le i j (fun c => by omega) (fun c => ⟨hi6, hj6, hi6, hj6, hi6, hj6, hj6, hi6, ?_⟩)
      rw [nI_1, nI_clamp (show i < 2 ^ 31 by omega), nI_clamp (show j < 2 ^ 31 by omega)]
      refine ih (j + 1) _ (by omega) (JT_step hi (by omega) hF (fun a b _ _ => ?_))
      rw [up2_at, up2_at]
  have outer : ∀ d i F, i + d = 6 → JT C i 0 F → p_X0_transpose_2 post (d + 1) M N F (nI i) := by
    intro d
    induction d with
    | zero =>
      intro i F hi hF
      have e : i = 6 := by omega
      subst e
      unfold p_X0_transpose_2
      exact pk_le 6 6 (fun _ => h F (fun a b ha hb => JT_end hF ha hb)) (fun c => by omega)
    | succ d ih =>
      intro i F hi hF
      unfold p_X0_transpose_2
      refine pk_le 6 i (fun c => by omega) (fun c => ⟨i + 1, ?_⟩)
      rw [← nI_0]
      exact inner _ i (by omega) (fun F hF => ih (i + 1) F (by omega) (JT_next hF)) i 0 F (by omega) hF
  refine ⟨7, ?_⟩
  rw [← nI_0]
  exact outer 6 0 C (by omega) JT_0
theorem m_turn {mm nn : Int32} {we : Nat → Int32} {post : Int32 → Int32 → Int32 → (Nat → Int32) → Prop} (h : ∀ we', (∀ a b, a < 6 → b < 6 → we' (6 * a + b) = we (6 * b + a)) → post 1 nn mm we') : p_X5_turn mm nn we post := by
  unfold p_X5_turn
  have inner : ∀ (k2 : Int32 → Int32 → (Nat → Int32) → Int32 → Prop) (i : Nat), i < 6 → (∀ F : Nat → Int32, JT (fun a b => we (6 * a + b)) i i (fun a b => F (6 * a + b)) → k2 mm nn F (nI (i + 1))) → ∀ d j (F : Nat → Int32), j + d = i → JT (fun a b => we (6 * a + b)) i j (fun a b => F (6 * a + b)) → p_X5_turn_10 post k2 (d + 1) mm nn F (nI i) (nI j) := by
    intro k2 i hi hk d
    induction d with
    | zero =>
      intro j F hj hF
      unfold p_X5_turn_10
      refine pk_le i j (fun _ => ?_) (fun c => by omega)
      rw [nI_1]
      have e : j = i := by omega
      subst e
      exact hk F hF
    | succ d ih =>
      intro j F hj hF
      unfold p_X5_turn_10
      simp only [n6, nI_clamp (show 6 * i + j < 2 ^ 31 by omega), nI_clamp (show 6 * j + i < 2 ^ 31 by omega), nI_1]
      have hi6 : vp_in (nI (6 * i + j)) 36 := pk_in (6 * i + j) 36 (by omega)
      have hj6 : vp_in (nI (6 * j + i)) 36 := pk_in (6 * j + i) 36 (by omega)
      refine pk_le i j (fun c => by omega) (fun c => ⟨hi6, hj6, hi6, hj6, ?_⟩)
      refine ih (j + 1) _ (by omega) (JT_step hi (by omega) hF (fun a b ha hb => ?_))
      show upd _ _ _ _ = _
      rw [upd_at, upd_at]
      by_cases c1 : a = j ∧ b = i
      · rw [if_pos c1, if_pos (by omega)]
      · rw [if_neg c1, if_neg (by omega)]
        by_cases c2 : a = i ∧ b = j
        · rw [if_pos c2, if_pos (by omega)]
        · rw [if_neg c2, if_neg (by omega)]
  have outer : ∀ d i (F : Nat → Int32), i + d = 6 → JT (fun a b => we (6 * a + b)) i 0 (fun a b => F (6 * a + b)) → p_X5_turn_2 post (d + 1) mm nn F (nI i) := by
    intro d
    induction d with
    | zero =>
      intro i F hi hF
      have e : i = 6 := by omega
      subst e
      unfold p_X5_turn_2
      exact pk_le 6 6 (fun _ => h F (fun a b ha hb => JT_end hF ha hb)) (fun c => by omega)
    | succ d ih =>
      intro i F hi hF
      unfold p_X5_turn_2
      refine pk_le 6 i (fun c => by omega) (fun c => ⟨i + 1, ?_⟩)
      rw [← nI_0]
      exact inner _ i (by omega) (fun F hF => ih (i + 1) F (by omega) (JT_next hF)) i 0 F (by omega) hF
  refine ⟨7, ?_⟩
  rw [← nI_0]
  exact outer 6 0 we (by omega) JT_0
theorem st_turn {M N : Int32} {C Pa : Nat → Nat → Int32} {mm nn : Int32} {we : Nat → Int32} (h : IG M N C Pa mm nn we) {K : Int32 → Int32 → (Nat → Nat → Int32) → Int32 → Int32 → (Nat → Int32) → Prop} (hK : ∀ M' N' C' mm' nn' we', IG M' N' C' Pa mm' nn' we' → K M' N' C' mm' nn' we') :
    p_X4_turn M N C (fun r M' N' C' => p_X5_turn mm nn we (fun r' mm' nn' we' => (r = r' → K M' N' C' mm' nn' we') ∧ (¬ r = r' → False))) := by
  obtain ⟨m, n, hm, hn, rfl, rfl, rfl, rfl, hw, hb, hPa⟩ := h
  unfold p_X4_turn
  refine x_turn (fun C' hC => m_turn (fun we' hw' => fin_eq rfl (hK _ _ _ _ _ _ ⟨n, m, hn, hm, rfl, rfl, rfl, rfl, fun a b ha hb => ?_, fun a b ha hb2 => ?_, hPa⟩)))
  · rw [hw' a b ha hb, hC a b ha hb, hw b a hb ha]
  · rw [hC a b ha hb2]; exact hb b a hb2 ha
