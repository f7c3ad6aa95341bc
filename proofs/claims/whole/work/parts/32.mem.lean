/-! ===== the memory's own laws ===== -/
section SkMem
variable (h : sk_H) (a i : Nat)
theorem hK_wI (v : Int32) : hK (wI h a i v) = hK h := rfl
theorem hN_wI (v : Int32) : hN (wI h a i v) = hN h := rfl
theorem hn_wI (v : Int32) : hn (wI h a i v) = hn h := rfl
theorem hs_wI (v : Int32) : hs (wI h a i v) = hs h := rfl
theorem hJ_wI (v : Int32) : hJ (wI h a i v) = hJ h := rfl
theorem hR_wI (v : Int32) : hR (wI h a i v) = hR h := rfl
theorem hK_wJ (v : Int64) : hK (wJ h a i v) = hK h := rfl
theorem hN_wJ (v : Int64) : hN (wJ h a i v) = hN h := rfl
theorem hn_wJ (v : Int64) : hn (wJ h a i v) = hn h := rfl
theorem hs_wJ (v : Int64) : hs (wJ h a i v) = hs h := rfl
theorem hI_wJ (v : Int64) : hI (wJ h a i v) = hI h := rfl
theorem hR_wJ (v : Int64) : hR (wJ h a i v) = hR h := rfl
theorem hK_wR (v : Option Nat) : hK (wR h a i v) = hK h := rfl
theorem hN_wR (v : Option Nat) : hN (wR h a i v) = hN h := rfl
theorem hn_wR (v : Option Nat) : hn (wR h a i v) = hn h := rfl
theorem hs_wR (v : Option Nat) : hs (wR h a i v) = hs h := rfl
theorem hI_wR (v : Option Nat) : hI (wR h a i v) = hI h := rfl
theorem hJ_wR (v : Option Nat) : hJ (wR h a i v) = hJ h := rfl
theorem hI_wI (v : Int32) (b j : Nat) : hI (wI h a i v) b j = if b = a ∧ j = i then v else hI h b j := by
  by_cases hb : b = a
  · subst hb
    rw [hI_wI_s]
    by_cases hj : j = i <;> simp [va_up, hj]
  · rw [hI_wI_n h i v hb, if_neg (fun q => hb q.1)]
theorem hJ_wJ (v : Int64) (b j : Nat) : hJ (wJ h a i v) b j = if b = a ∧ j = i then v else hJ h b j := by
  by_cases hb : b = a
  · subst hb
    rw [hJ_wJ_s]
    by_cases hj : j = i <;> simp [va_up, hj]
  · rw [hJ_wJ_n h i v hb, if_neg (fun q => hb q.1)]
theorem hR_wR (v : Option Nat) (b j : Nat) : hR (wR h a i v) b j = if b = a ∧ j = i then v else hR h b j := by
  by_cases hb : b = a
  · subst hb
    rw [hR_wR_s]
    by_cases hj : j = i <;> simp [va_up, hj]
  · rw [hR_wR_n h i v hb, if_neg (fun q => hb q.1)]
variable (k n : Nat)
theorem hn_new : hn (hnew h k n) = hn h + 1 := rfl
theorem hs_new : hs (hnew h k n) = hs h + n := rfl
theorem hK_new : hK (hnew h k n) a = if a = hn h then k else hK h a := rfl
theorem hN_new : hN (hnew h k n) a = if a = hn h then n else hN h a := rfl
theorem hI_new : hI (hnew h k n) a i = if a = hn h then 0 else hI h a i := by
  by_cases hq : a = hn h
  · rw [if_pos hq]; subst hq; simp [hI, hnew, va_up, hn]
  · rw [if_neg hq]
    have : a ≠ h.1.2.2.1 := hq
    simp [hI, hnew, va_up, this]
theorem hJ_new : hJ (hnew h k n) a i = if a = hn h then 0 else hJ h a i := by
  by_cases hq : a = hn h
  · rw [if_pos hq]; subst hq; simp [hJ, hnew, va_up, hn]
  · rw [if_neg hq]
    have : a ≠ h.1.2.2.1 := hq
    simp [hJ, hnew, va_up, this]
theorem hR_new : hR (hnew h k n) a i = if a = hn h then none else hR h a i := by
  by_cases hq : a = hn h
  · rw [if_pos hq]; subst hq; simp [hR, hnew, va_up, hn]
  · rw [if_neg hq]
    have : a ≠ h.1.2.2.1 := hq
    simp [hR, hnew, va_up, this]
end SkMem
