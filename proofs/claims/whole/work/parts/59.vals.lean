/-! chance: all of them reckoned out -/
theorem val_11 : ∀ k, k < 9 → cA 1 1 k (min 1 1) (k + 1) = lN (mV 1 1 k) := by decide +kernel
theorem val_12 : ∀ k, k < 9 → cA 1 2 k (min 1 2) (k + 1) = lN (mV 1 2 k) := by decide +kernel
theorem val_13 : ∀ k, k < 9 → cA 1 3 k (min 1 3) (k + 1) = lN (mV 1 3 k) := by decide +kernel
theorem val_21 : ∀ k, k < 9 → cA 2 1 k (min 2 1) (k + 1) = lN (mV 2 1 k) := by decide +kernel
theorem val_22 : ∀ k, k < 9 → cA 2 2 k (min 2 2) (k + 1) = lN (mV 2 2 k) := by decide +kernel
theorem val_23 : ∀ k, k < 9 → cA 2 3 k (min 2 3) (k + 1) = lN (mV 2 3 k) := by decide +kernel
theorem val_31 : ∀ k, k < 9 → cA 3 1 k (min 3 1) (k + 1) = lN (mV 3 1 k) := by decide +kernel
theorem val_32 : ∀ k, k < 9 → cA 3 2 k (min 3 2) (k + 1) = lN (mV 3 2 k) := by decide +kernel
theorem val_33 : ∀ k, k < 9 → cA 3 3 k (min 3 3) (k + 1) = lN (mV 3 3 k) := by decide +kernel
theorem val_all {m n k : Nat} (hm : 1 ≤ m ∧ m ≤ 3) (hn : 1 ≤ n ∧ n ≤ 3) (hk : k ≤ 8) : cA m n k (min m n) (k + 1) = lN (mV m n k) := by
  rcases (by omega : m = 1 ∨ m = 2 ∨ m = 3) with rfl | rfl | rfl <;> rcases (by omega : n = 1 ∨ n = 2 ∨ n = 3) with rfl | rfl | rfl
  · exact val_11 k (by omega)
  · exact val_12 k (by omega)
  · exact val_13 k (by omega)
  · exact val_21 k (by omega)
  · exact val_22 k (by omega)
  · exact val_23 k (by omega)
  · exact val_31 k (by omega)
  · exact val_32 k (by omega)
  · exact val_33 k (by omega)
theorem st_chance (no ne : Nat → Int64) (x1 x2 x3 : Int32) {K : (Nat → Int64) → (Nat → Int64) → Prop} (hK : ∀ no' ne', K no' ne') :
    p_X4_chance x1 x2 x3 (fun r => p_X5_chance no ne x1 x2 x3 (fun r' no' ne' => (lg_cmp r r' = 0 → K no' ne') ∧ (¬ lg_cmp r r' = 0 → False))) := by
  unfold p_X4_chance p_X5_chance
  refine x_within (fun c1 => z1 ?_) (fun c1 => z0 (m_inF (a := 1) c1 (z0 (fin_cmp rfl (hK _ _)))))
  refine x_within (fun c2 => z1 ?_) (fun c2 => z0 (m_inT (a := 1) c1 (z1 (m_inF (a := 1) c2 (z0 (fin_cmp rfl (hK _ _)))))))
  refine x_within (fun c3 => z1 ?_) (fun c3 => z0 (m_inT (a := 1) c1 (z1 (m_inT (a := 1) c2 (z1 (m_inF (a := 0) c3 (z0 (fin_cmp rfl (hK _ _)))))))))
  obtain ⟨m, hm, rfl⟩ := n_of_le (show (3 : Int32) = nI 3 from rfl) (by omega) (Int32.le_trans (by decide) c1.1) c1.2
  obtain ⟨n, hn, rfl⟩ := n_of_le (show (3 : Int32) = nI 3 from rfl) (by omega) (Int32.le_trans (by decide) c2.1) c2.2
  obtain ⟨k, hk, rfl⟩ := n_of_le (show (8 : Int32) = nI 8 from rfl) (by omega) c3.1 c3.2
  have hm1 : 1 ≤ m := (nI_leI (a := 1) (by decide) (by omega)).mp c1.1
  have hn1 : 1 ≤ n := (nI_leI (a := 1) (by decide) (by omega)).mp c2.1
  refine x_count hm hn hk (m_inT (a := 1) c1 (z1 (m_inT (a := 1) c2 (z1 (m_inT (a := 0) c3 (z1 (m_chance ⟨hm1, hm⟩ ⟨hn1, hn⟩ hk (fun no' ne' => fin_cmp ?_ (hK _ _)))))))))
  rw [mV_eq hm hn hk]
  exact val_all ⟨hm1, hm⟩ ⟨hn1, hn⟩ hk
