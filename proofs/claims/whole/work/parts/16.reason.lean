/-! PURE: the facts that are kept, gone through from the last to the first -/
noncomputable def mx_kp (P : (Nat → Bool) → Prop) (c : Nat) : Nat → (Nat → Bool)
  | 0 => fun _ => false
  | i + 1 => @ite _ (P (fun g => mx_kp P c i g || decide (g < c - 1 - i))) (Classical.propDecidable _) (mx_kp P c i) (fun g => mx_kp P c i g || decide (g = c - 1 - i))
def mx_mono (P : (Nat → Bool) → Prop) : Prop := ∀ a b : Nat → Bool, (∀ g, a g = true → b g = true) → P a → P b
theorem mx_kp_out {P : (Nat → Bool) → Prop} {c a : Nat} (ha : a < c) (h : P (fun g => mx_kp P c (c - (a + 1)) g || decide (g < a))) : mx_kp P c (c - a) = mx_kp P c (c - (a + 1)) := by
  have e1 : c - a = (c - (a + 1)) + 1 := by omega
  have e2 : c - 1 - (c - (a + 1)) = a := by omega
  rw [e1]
  show @ite _ (P (fun g => mx_kp P c (c - (a + 1)) g || decide (g < c - 1 - (c - (a + 1))))) (Classical.propDecidable _) _ _ = _
  rw [e2]
  exact if_pos h
theorem mx_kp_in {P : (Nat → Bool) → Prop} {c a : Nat} (ha : a < c) (h : ¬ P (fun g => mx_kp P c (c - (a + 1)) g || decide (g < a))) : mx_kp P c (c - a) = fun g => mx_kp P c (c - (a + 1)) g || decide (g = a) := by
  have e1 : c - a = (c - (a + 1)) + 1 := by omega
  have e2 : c - 1 - (c - (a + 1)) = a := by omega
  rw [e1]
  show @ite _ (P (fun g => mx_kp P c (c - (a + 1)) g || decide (g < c - 1 - (c - (a + 1))))) (Classical.propDecidable _) _ (fun g => mx_kp P c (c - (a + 1)) g || decide (g = c - 1 - (c - (a + 1)))) = _
  rw [e2]
  exact if_neg h
/-- from a down to e nothing is kept, where the first e are enough -/
theorem mx_kp_skip {P : (Nat → Bool) → Prop} (hm : mx_mono P) {c e : Nat} {K : Nat → Bool} (hP : P (fun g => K g || decide (g < e))) : ∀ d a, a = e + d → a ≤ c → mx_kp P c (c - a) = K → mx_kp P c (c - e) = K
  | 0, a, h, _, hK => by
    rw [show e = a by omega]
    exact hK
  | d + 1, a, h, ha, hK => by
    refine mx_kp_skip hm hP d (e + d) rfl (by omega) ?_
    have e1 : a = (e + d) + 1 := by omega
    rw [e1] at hK
    rw [mx_kp_out (by omega) (by
      rw [hK]
      refine hm _ _ (fun g hg => ?_) hP
      rw [Bool.or_eq_true] at hg ⊢
      rcases hg with q | q
      · exact Or.inl q
      · exact Or.inr (by simp only [decide_eq_true_eq] at q ⊢; omega))]
    exact hK
