/-! chance: the class counts shapes -/
def tO (x a b c : Nat) : Int64 := if x = 1 then 1 else if x = 2 then ((nI a - nI b) + 1).toInt64 else (((((nI a - nI b) + 1).toInt64) * (((nI b - nI c) + 1).toInt64)) * (((nI a - nI c) + 2).toInt64)) / 2
def cC (m n k p a b : Nat) (x : Int64) : Nat → Int64
  | 0 => x
  | c + 1 => cC m n k p a b x c + ((tO m a b c * tO n a b c) <<< (((((nI k * nI p) - nI a) - nI b) - nI c).toInt64 &&& 63))
def cB (m n k p a : Nat) (x : Int64) : Nat → Int64
  | 0 => x
  | b + 1 => cC m n k p a b (cB m n k p a x b) ((if p ≤ 2 then 0 else b) + 1)
def cA (m n k p : Nat) : Nat → Int64
  | 0 => 0
  | a + 1 => cB m n k p a (cA m n k p a) ((if p ≤ 1 then 0 else a) + 1)
theorem x_tO {x a b c : Nat} (hx : x < 2 ^ 31) {post : Int64 → Prop} (h : post (tO x a b c)) : p_X4_tableauxOf (nI x) (nI a) (nI b) (nI c) post := by
  unfold p_X4_tableauxOf
  unfold tO at h
  refine pk_eq x 1 (fun q => ?_) (fun q => pk_eq x 2 (fun q2 => ?_) (fun q2 => ⟨by decide, ?_⟩))
  · rw [if_pos q] at h; exact h
  · rw [if_neg q, if_pos q2] at h; exact h
  · rw [if_neg q, if_neg q2] at h; exact h
theorem x_count {m n k : Nat} (hm : m ≤ 3) (hn : n ≤ 3) (hk : k ≤ 8) {post : Int64 → Prop} (h : post (cA m n k (min m n) (k + 1))) : p_X4_countByShapes (nI m) (nI n) (nI k) post := by
  unfold p_X4_countByShapes
  have ep : (if nI n < nI m then nI n else nI m) = nI (min m n) := by
    by_cases q : n < m
    · rw [if_pos (nI_lt q (by omega)), Nat.min_eq_right (by omega)]
    · rw [if_neg (nI_nlt (by omega) (by omega)), Nat.min_eq_left (by omega)]
  rw [ep]
  have hp : min m n ≤ 3 := by omega
  generalize min m n = p at h hp ⊢
  refine pk_loop (fun u a x => p_X4_countByShapes_12 (nI m) (nI n) (nI k) post u (nI p) x (nI a)) (fun a x => x = cA m n k p a) (k + 1) 0 0 (by omega) rfl (fun u x hx => ?_) (fun u a x ha hx ih => ?_)
  · show p_X4_countByShapes_12 _ _ _ _ _ _ _ _
    unfold p_X4_countByShapes_12
    exact pk_lt k (k + 1) (fun _ => by rw [hx]; exact h) (fun q => by omega)
  · show p_X4_countByShapes_12 _ _ _ _ _ _ _ _
    unfold p_X4_countByShapes_12
    have bl : ∀ B, B = (if p ≤ 1 then 0 else a) → p_X4_countByShapes_29 (nI m) (nI n) (nI k) post (fun x3 x4 x6 => p_X4_countByShapes_12 (nI m) (nI n) (nI k) post u x3 x4 x6) (nI p) x (nI a) (nI B) := by
      intro B hB
      have hBa : B ≤ 8 := by
        subst hB
        split <;> omega
      unfold p_X4_countByShapes_29
      refine pk_loop (fun v b y => p_X4_countByShapes_34 (nI m) (nI n) (nI k) post _ v (nI p) y (nI a) (nI B) (nI b)) (fun b y => y = cB m n k p a x b) (B + 1) 0 x (by omega) rfl (fun v y hy => ?_) (fun v b y hb hy ih2 => ?_)
      · show p_X4_countByShapes_34 _ _ _ _ _ _ _ _ _ _ _
        unfold p_X4_countByShapes_34
        refine pk_lt B (B + 1) (fun _ => ?_) (fun q => by omega)
        rw [nI_1]
        refine ih y ?_
        rw [hy, hB]
        show _ = cB m n k p a (cA m n k p a) _
        rw [hx]
      · show p_X4_countByShapes_34 _ _ _ _ _ _ _ _ _ _ _
        unfold p_X4_countByShapes_34
        have cl : ∀ D, D = (if p ≤ 2 then 0 else b) → p_X4_countByShapes_52 (nI m) (nI n) (nI k) post (fun x3 x4 x6 => p_X4_countByShapes_12 (nI m) (nI n) (nI k) post u x3 x4 x6) (fun x3 x4 x6 x7 x8 => p_X4_countByShapes_34 (nI m) (nI n) (nI k) post (fun x3 x4 x6 => p_X4_countByShapes_12 (nI m) (nI n) (nI k) post u x3 x4 x6) v x3 x4 x6 x7 x8) (nI p) y (nI a) (nI B) (nI b) (nI D) := by
          intro D hD
          have hDb : D ≤ 8 := by
            subst hD
            split <;> omega
          unfold p_X4_countByShapes_52
          refine pk_loop (fun w c z => p_X4_countByShapes_57 (nI m) (nI n) (nI k) post _ _ w (nI p) z (nI a) (nI B) (nI b) (nI D) (nI c)) (fun c z => z = cC m n k p a b y c) (D + 1) 0 y (by omega) rfl (fun w z hz => ?_) (fun w c z hc hz ih3 => ?_)
          · show p_X4_countByShapes_57 _ _ _ _ _ _ _ _ _ _ _ _ _ _
            unfold p_X4_countByShapes_57
            refine pk_lt D (D + 1) (fun _ => ?_) (fun q => by omega)
            rw [nI_1]
            refine ih2 z ?_
            rw [hz, hD]
            show _ = cC m n k p a b (cB m n k p a x b) _
            rw [hy]
          · show p_X4_countByShapes_57 _ _ _ _ _ _ _ _ _ _ _ _ _ _
            unfold p_X4_countByShapes_57
            refine pk_lt D c (fun q => by omega) (fun _ => x_tO (by omega) (x_tO (by omega) ?_))
            rw [nI_1]
            refine ih3 _ ?_
            rw [hz]; rfl
        refine pk_lt B b (fun q => by omega) (fun _ => pk_le p 2 (fun q => cl 0 (by rw [if_pos q])) (fun q => cl b (by rw [if_neg (by omega)])))
    exact pk_lt k a (fun q => by omega) (fun _ => pk_le p 1 (fun q => bl 0 (by rw [if_pos q])) (fun q => bl a (by rw [if_neg (by omega)])))
