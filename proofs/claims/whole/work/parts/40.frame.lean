/-! ===== what a call may write: frames ===== -/
def sI (h : sk_H) (a : Nat) (f : Nat → Int32) : sk_H := (h.1, va_up h.2.1 a f, h.2.2)
def sJ (h : sk_H) (a : Nat) (f : Nat → Int64) : sk_H := (h.1, h.2.1, va_up h.2.2.1 a f, h.2.2.2)
/-- the class's own scratch: tables and their flags, the bout -/
def pC (a i : Nat) : Bool := (Nat.ble 43 a && Nat.ble a 49) || (a == 32 && Nat.ble 9 i && Nat.ble i 13)
/-- the reference's scratch -/
def pM (a i : Nat) : Bool := a == 63 || (Nat.ble 65 a && Nat.ble a 69) || (a == 52 && (i == 18 || i == 23 || (Nat.ble 31 i && Nat.ble i 36)))
def Cq (h h' : sk_H) : Prop := h'.1 = h.1 ∧ (∀ a, a ≠ 49 → hR h' a = hR h a) ∧ hR h' 49 0 = hR h 49 0 ∧ (∀ a i, pC a i = false → hI h' a i = hI h a i) ∧ ∀ a, a ≠ 49 → hK h a ≠ 102 → hJ h' a = hJ h a
def Mq (h h' : sk_H) : Prop := h'.1 = h.1 ∧ hR h' = hR h ∧ (∀ a i, pM a i = false → hI h' a i = hI h a i) ∧ ∀ a, a ≠ 52 → a ≠ 60 → a ≠ 61 → hJ h' a = hJ h a
section SkFrame
variable {h h1 h2 h3 : sk_H}
theorem Cq.refl (h : sk_H) : Cq h h := ⟨rfl, fun _ _ => rfl, rfl, fun _ _ _ => rfl, fun _ _ _ => rfl⟩
theorem Mq.refl (h : sk_H) : Mq h h := ⟨rfl, rfl, fun _ _ _ => rfl, fun _ _ _ _ => rfl⟩
theorem Cq.eK (Q : Cq h h1) : hK h1 = hK h := congrArg (fun x => x.1) Q.1
theorem Cq.eN (Q : Cq h h1) : hN h1 = hN h := congrArg (fun x => x.2.1) Q.1
theorem Cq.en (Q : Cq h h1) : hn h1 = hn h := congrArg (fun x => x.2.2.1) Q.1
theorem Cq.es (Q : Cq h h1) : hs h1 = hs h := congrArg (fun x => x.2.2.2) Q.1
theorem Mq.eK (Q : Mq h h1) : hK h1 = hK h := congrArg (fun x => x.1) Q.1
theorem Mq.eN (Q : Mq h h1) : hN h1 = hN h := congrArg (fun x => x.2.1) Q.1
theorem Mq.en (Q : Mq h h1) : hn h1 = hn h := congrArg (fun x => x.2.2.1) Q.1
theorem Mq.es (Q : Mq h h1) : hs h1 = hs h := congrArg (fun x => x.2.2.2) Q.1
theorem Mq.eR (Q : Mq h h1) : hR h1 = hR h := Q.2.1
theorem Cq.trans (Q : Cq h1 h2) (P : Cq h2 h3) : Cq h1 h3 := ⟨P.1.trans Q.1, fun a ha => (P.2.1 a ha).trans (Q.2.1 a ha), P.2.2.1.trans Q.2.2.1, fun a i ha => (P.2.2.2.1 a i ha).trans (Q.2.2.2.1 a i ha), fun a ha hk => (P.2.2.2.2 a ha (by rw [Q.eK]; exact hk)).trans (Q.2.2.2.2 a ha hk)⟩
theorem Mq.trans (Q : Mq h1 h2) (P : Mq h2 h3) : Mq h1 h3 := ⟨P.1.trans Q.1, P.2.1.trans Q.2.1, fun a i ha => (P.2.2.1 a i ha).trans (Q.2.2.1 a i ha), fun a h1 h2 h3 => (P.2.2.2 a h1 h2 h3).trans (Q.2.2.2 a h1 h2 h3)⟩
theorem Cq.I (Q : Cq h h1) {a i : Nat} (ha : pC a i = false) : hI h1 a i = hI h a i := Q.2.2.2.1 a i ha
theorem Mq.I (Q : Mq h h1) {a i : Nat} (ha : pM a i = false) : hI h1 a i = hI h a i := Q.2.2.1 a i ha
theorem Cq.vI (h : sk_H) {a i : Nat} (v : Int32) (ha : pC a i = true) : Cq h (wI h a i v) := ⟨rfl, fun _ _ => rfl, rfl, fun b j hb => by
  rw [hI_wI, if_neg (fun q => by rw [q.1, q.2, ha] at hb; cases hb)], fun _ _ _ => rfl⟩
theorem Mq.vI (h : sk_H) {a i : Nat} (v : Int32) (ha : pM a i = true) : Mq h (wI h a i v) := ⟨rfl, rfl, fun b j hb => by
  rw [hI_wI, if_neg (fun q => by rw [q.1, q.2, ha] at hb; cases hb)], fun _ _ _ _ => rfl⟩
theorem Cq.vJ (h : sk_H) {a : Nat} (i : Nat) (v : Int64) (ha : a = 49 ∨ hK h a = 102) : Cq h (wJ h a i v) := ⟨rfl, fun _ _ => rfl, rfl, fun _ _ _ => rfl, fun b hb hk => by
  funext j
  rw [hJ_wJ, if_neg (fun q => by rcases ha with r | r <;> rw [q.1] at hb hk; exact hb r; exact hk r)]⟩
theorem Mq.vJ (h : sk_H) {a : Nat} (i : Nat) (v : Int64) (ha : a = 52 ∨ a = 60 ∨ a = 61) : Mq h (wJ h a i v) := ⟨rfl, rfl, fun _ _ _ => rfl, fun b h1 h2 h3 => by
  funext j
  rw [hJ_wJ, if_neg (fun q => by have := q.1; omega)]⟩
theorem Cq.vR (h : sk_H) {i : Nat} (v : Option Nat) (hi : i ≠ 0) : Cq h (wR h 49 i v) := ⟨rfl, fun b hb => by
  funext j
  rw [hR_wR, if_neg (fun q => hb q.1)], by rw [hR_wR, if_neg (fun q => hi q.2.symm)], fun _ _ _ => rfl, fun _ _ _ => rfl⟩
theorem CS.cq (C : CS h) (Q : Cq h h1) : CS h1 := C.cg (fun a _ => by rw [Q.eK, Q.eN]; exact ⟨rfl, rfl⟩) (fun q hq => by
  by_cases h4 : q.1 = 49
  · have : q.2.1 = 0 := by
      simp only [cR, List.mem_cons, List.not_mem_nil, or_false] at hq
      rcases hq with rfl | rfl | rfl | rfl | rfl | rfl | rfl | rfl | rfl | rfl | rfl | rfl | rfl | rfl | rfl | rfl | rfl | rfl | rfl | rfl | rfl <;> first | rfl | exact absurd h4 (by decide)
    rw [h4, this]; exact Q.2.2.1
  · rw [Q.2.1 _ h4])
theorem CS.mq (C : CS h) (Q : Mq h h1) : CS h1 := C.cg (fun a _ => by rw [Q.eK, Q.eN]; exact ⟨rfl, rfl⟩) (fun q hq => by rw [Q.eR])
theorem MS.mq (M : MS 52 h) (Q : Mq h h1) : MS 52 h1 := by
  unfold MS at M ⊢
  rw [Q.eK, Q.eN, Q.eR]
  exact M
theorem MS.cq (M : MS 52 h) (Q : Cq h h1) : MS 52 h1 := by
  unfold MS at M ⊢
  rw [Q.eK, Q.eN]
  refine ⟨M.1, fun k hk => ?_, M.2.2⟩
  rw [Q.2.1 52 (by decide)]
  exact M.2.1 k hk
/-- the reference's ints but its scratch stay in a query of the class -/
theorem Cq.I52 (Q : Cq h h1) {a : Nat} (ha : 52 ≤ a) : hI h1 a = hI h a := by
  funext i
  refine Q.I ?_
  have h1 : Nat.ble a 49 = false := by
    cases hq : Nat.ble a 49
    · rfl
    · exact absurd (Nat.le_of_ble_eq_true hq) (by omega)
  have h2 : (a == 32) = false := by rw [beq_eq_false_iff_ne]; omega
  unfold pC
  rw [h1, h2]
  simp
theorem Mq.I73 (Q : Mq h h1) {a : Nat} (ha : 73 ≤ a) : hI h1 a = hI h a := by
  funext i
  refine Q.I ?_
  have h1 : Nat.ble a 69 = false := by
    cases hq : Nat.ble a 69
    · rfl
    · exact absurd (Nat.le_of_ble_eq_true hq) (by omega)
  have h2 : (a == 52) = false := by rw [beq_eq_false_iff_ne]; omega
  have h3 : (a == 63) = false := by rw [beq_eq_false_iff_ne]; omega
  unfold pM
  rw [h1, h2, h3]
  simp
theorem Mq.I51 (Q : Mq h h1) {a : Nat} (ha : a ≤ 51) : hI h1 a = hI h a := by
  funext i
  refine Q.I ?_
  have h1 : Nat.ble 65 a = false := by
    cases hq : Nat.ble 65 a
    · rfl
    · exact absurd (Nat.le_of_ble_eq_true hq) (by omega)
  have h2 : (a == 52) = false := by rw [beq_eq_false_iff_ne]; omega
  have h3 : (a == 63) = false := by rw [beq_eq_false_iff_ne]; omega
  unfold pM
  rw [h1, h2, h3]
  simp
theorem Mq.Iw (Q : Mq h h1) {a : Nat} (ha : 53 ≤ a) (hb : a ≤ 62) : hI h1 a = hI h a := by
  funext i
  refine Q.I ?_
  have h1 : Nat.ble 65 a = false := by
    cases hq : Nat.ble 65 a
    · rfl
    · exact absurd (Nat.le_of_ble_eq_true hq) (by omega)
  have h2 : (a == 52) = false := by rw [beq_eq_false_iff_ne]; omega
  have h3 : (a == 63) = false := by rw [beq_eq_false_iff_ne]; omega
  unfold pM
  rw [h1, h2, h3]
  simp
end SkFrame
