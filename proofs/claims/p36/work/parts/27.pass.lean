section MA
variable {σ : zSt} {A : zAb} {n m : Nat}
theorem aSd_s {B : zAb} {hd : Nat → Bool} {k : Nat} (h : hd k = false) : aSd B hd (k + 1) = aSd B hd k := by
  funext f i j
  simp only [aSd]
  have c : fb_ct hd (k + 1) = fb_ct hd k := by rw [fb_ct_succ, if_neg (by simp [h]), Nat.add_zero]
  rw [c]
  by_cases q : i = k
  · subst q; simp [h]
  · have e : (i < k + 1) = (i < k) := by simp; omega
    simp only [e]
theorem aSd_t {B : zAb} {hd : Nat → Bool} {k : Nat} (h : hd k = true) : aup (aup (aSd B hd k) 1 k 3 (B 1 k 3 - B 0 1 0)) 13 23 0 ((B 13 23 0 + B 0 1 0 * nI (fb_ct hd k)) + B 0 1 0) = aSd B hd (k + 1) := by
  have c : nI (fb_ct hd (k + 1)) = nI (fb_ct hd k) + 1 := by rw [fb_ct_succ, if_pos h, nI_1]
  have c2 : B 13 23 0 + B 0 1 0 * nI (fb_ct hd (k + 1)) = (B 13 23 0 + B 0 1 0 * nI (fb_ct hd k)) + B 0 1 0 := by
    rw [c, Int32.mul_add, Int32.mul_one, Int32.add_assoc]
  funext f i j
  simp only [aup, aSd]
  rw [c2]
  by_cases q : f = 13 ∧ i = 23 ∧ j = 0
  · obtain ⟨rfl, rfl, rfl⟩ := q; simp
  · rw [if_neg q, if_neg q, if_neg q]
    by_cases q2 : f = 1 ∧ i = k ∧ j = 3
    · obtain ⟨rfl, rfl, rfl⟩ := q2; simp [h]
    · rw [if_neg q2]
      by_cases q3 : f = 1 ∧ i < k ∧ j = 3 ∧ hd i = true
      · rw [if_pos q3, if_pos ⟨q3.1, by omega, q3.2.2⟩]
      · rw [if_neg q3, if_neg (fun z => q3 ⟨z.1, by omega, z.2.2⟩)]
theorem aBegin_at {A : zAb} {n f i j : Nat} (h : f ≠ 1 ∨ (j ≠ 3 ∧ j ≠ 7)) : aBegin A n f i j = A f i j := by
  unfold aBegin
  split
  · rw [aDay, if_neg (by omega), if_neg (by omega)]
  · rfl
end MA

