/-! ===== the class's worths of plain rows (printed by gen99.py) ===== -/
def tbC : List Nat := [0, 0, 27613727019735432745624185603796528696693277020766694339385298384060480, 27613727019735432745624185603796528696693277020766694339385298384060480, 5301410758033129492582892009090408235926261963710223325712532905794998272, 28038346205052331028019675887672335703745187309345728204013385715814400, 1850537912145071691066794765321489907051478608290190819343309502212218944, 1767716526375132713398681643663369706546067820240717224509027140245659712, 5384663074883134969888200133180167222079431107627046108351215322462945280, 1794454051837163885297776391576642211097959517698873300064576837538545664, 27613727019735432745624185603796528696693277020766694339385298384060480, 27613727019735432745624185603796528696693277020766694339385298384060480, 1822944296428204002071926478264051239245085554868229846639440984440836096, 55652069959495737273499685083092831568439465975343808117282006483865600, 10630435243291280654985779596068211722911590989293637026620899074933268544, 83690419429840094801663537379141200104183651639458150747412069815689280, 3589784833515337245096515474177764291127499340596090959967522542084685824, 28045189832795221240118603890615852391566942046262570297490237974118400, 2016220364841007572159959312770413794049423862466464622112625443643588672, 55645435285114439148711190320769509598465482373633807019896097621672000, 12563807480853962736886915927746660202433564435645108439167974378553217024, 3561732477433444468273193316394749905571626548158285215181686177238618112, 1823389239164807491540701411700761641944240830070329392845174038434947136, 1767716526375132713398681643663369706546067820240717224509027140245659712, 1796206877977794607316116588368080211107746486685586534382417826749349888, 1794885409364051122078565419723797400918525255862031172942500153438502912, 10800897114905034213151853204206854762138541432511506269416947001434832960, 5356186629621083451099896451336292351929731051858138899341074980954964032, 12563807480853962736886939311774251293621317358021892366201305278603071488, 3561732477433444468273193316394749905571626548158285215181686177238618112, 5413167123739269248500439885987290985241126907700337812603530988663611456, 111735604378359385932054339074735664898520373477764989186787324212289600]
def tbU (C j : Nat) : Nat := C / 64 ^ j % 64
def msk (l : List Nat) : Nat := l.foldl (fun m v => m ||| 1 <<< v) 0
def tbK (H : Nat) (E : Bool) (C : Nat) : Bool := (List.range 41).all fun n => Nat.beq (msk (pV H E n (tbU C)) % 2 ^ (tbU C n + 1)) (2 ^ tbU C n - 1)
theorem tb_ok : (List.range 16).all (fun H => tbK H false (tbC.getD (2 * H) 0) && tbK H true (tbC.getD (2 * H + 1) 0)) = true := by decide +kernel
theorem msk_in (v : Nat) : ∀ (l : List Nat) (m : Nat), (l.foldl (fun m v => m ||| 1 <<< v) m).testBit v = (m.testBit v || decide (v ∈ l))
  | [], m => by simp
  | x :: l, m => by
    rw [List.foldl_cons, msk_in v l, Nat.testBit_or, Nat.one_shiftLeft, Nat.testBit_two_pow, Bool.or_assoc]
    congr 1
    by_cases z : x = v
    · subst z; simp
    · have z2 : ¬ v = x := fun e => z e.symm
      simp [z, z2]
theorem tb_is {H : Nat} {E : Bool} {C n : Nat} (hk : tbK H E C = true) (hn : n ≤ 40) : IsM (fun v => v ∈ pV H E n (tbU C)) (tbU C n) := by
  unfold tbK at hk
  have e := List.all_eq_true.mp hk n (List.mem_range.mpr (by omega))
  have e : msk (pV H E n (tbU C)) % 2 ^ (tbU C n + 1) = 2 ^ tbU C n - 1 := Nat.eq_of_beq_eq_true e
  have key : ∀ v, (decide (v < tbU C n + 1) && decide (v ∈ pV H E n (tbU C))) = decide (v < tbU C n) := by
    intro v
    have e2 := congrArg (fun x => x.testBit v) e
    simp only [Nat.testBit_mod_two_pow, Nat.testBit_two_pow_sub_one] at e2
    rw [← e2]
    unfold msk
    rw [msk_in, Nat.zero_testBit, Bool.false_or]
  refine ⟨fun z => ?_, fun j hj => ?_⟩
  · have := key (tbU C n)
    rw [decide_eq_true (show tbU C n < tbU C n + 1 by omega), decide_eq_true z, decide_eq_false (Nat.lt_irrefl _)] at this
    cases this
  · have := key j
    rw [decide_eq_true (show j < tbU C n + 1 by omega), decide_eq_true hj, Bool.true_and] at this
    exact of_decide_eq_true this
theorem tb_pW {H : Nat} {E : Bool} {C : Nat} (hk : tbK H E C = true) : ∀ n, n ≤ 40 → pW H E n = tbU C n := by
  intro n
  induction n using Nat.strongRecOn with
  | ind n ih =>
    intro hn
    have t := tb_is hk hn
    refine IsM_one (pW_is H E n) ⟨fun z => t.1 ?_, fun j hj => ?_⟩
    · exact (pV_mem H E n (tbU C) _).mpr ((pS_cg (fun j hj => ih j hj (by omega)) 5 0 _).mp z)
    · exact (pS_cg (fun j hj => ih j hj (by omega)) 5 0 _).mpr ((pV_mem H E n (tbU C) _).mp (t.2 j hj))
/-- no plain row of 40 or less is worth 64 -/
theorem pW_64t {H : Nat} (E : Bool) (hH : H < 16) {n : Nat} (hn : n ≤ 40) : pW H E n < 64 := by
  have e := List.all_eq_true.mp tb_ok H (List.mem_range.mpr hH)
  rw [Bool.and_eq_true] at e
  cases E
  · rw [tb_pW e.1 n hn]; exact Nat.mod_lt _ (by decide)
  · rw [tb_pW e.2 n hn]; exact Nat.mod_lt _ (by decide)
/-- a set of numbers below 64 as bits -/
def Bs (x : Int64) (S : Nat → Prop) : Prop := ∀ v, v < 64 → (b64 x v = true ↔ S v)
/-- what the class asks of its alley there -/
def PlI (h : sk_H) (a tt H : Nat) (E : Bool) (n : Nat) : Prop := hK h a = 2 ∧ hI h a 4 = nI H ∧ hI h a 5 = bi E ∧ hR h a 16 = some tt ∧ hK h tt = 101 ∧ hN h tt = 41 ∧ ∀ i, i < n → hI h tt i = nI (pW H E i)
section SkPlains
variable {h h' : sk_H} {a tt H n k d : Nat} {E : Bool}
theorem Al_pl_64 (hH : H < 16) (hn : n ≤ 40) (h1 : 1 ≤ k) (hk : k ≤ n) (I : PlI h a tt H E n) {b : Nat} (hb : b ≤ n - k) {x : Int64} : k_Al_plainLeavings_64 d (some a) (nI n) x (nI k) (nI (n - k)) (nI b) h = k_Al_plainLeavings_26 d (some a) (nI n) (x ||| ((1 : Int64) <<< ((nI (pW H E b ^^^ pW H E (n - k - b))).toInt64 &&& 63))) (nI k) (nI (n - k)) (nI (b + 1)) h := by
  obtain ⟨i1, i2, i3, i4, i5, i6, i7⟩ := I
  have t1 : hI h tt (nI b).toNatClampNeg = nI (pW H E b) := by rw [q_cl (by omega)]; exact i7 b (by omega)
  have es : nI (n - k) - nI b = nI (n - k - b) := q_sub hb
  have t2 : hI h tt (nI (n - k) - nI b).toNatClampNeg = nI (pW H E (n - k - b)) := by rw [es, q_cl (by omega)]; exact i7 _ (by omega)
  refine (e_Al_plainLeavings_64 _ _ _ _ _ _ _ _).trans ?_
  refine (if_pos i1).trans ?_
  refine (bnd i4 _).trans ?_
  refine (if_pos ⟨Or.inl i5, by rw [i6]; exact vp_in_nI (by omega) (by omega)⟩).trans ?_
  refine (if_pos i1).trans ?_
  refine (bnd i4 _).trans ?_
  refine (if_pos ⟨Or.inl i5, by rw [es, i6]; exact vp_in_nI (by omega) (by omega)⟩).trans ?_
  rw [t1, t2, nI_xor, nI_1]
theorem Al_pl_b (hH : H < 16) (hn : n ≤ 40) (h1 : 1 ≤ k) (h4 : k ≤ 4) (hk : k ≤ n) (I : PlI h a tt H E n) (hit : H.testBit (k - 1) = true) : ∀ (c b : Nat) (x : Int64), b + c = n - k + 1 → Bs x (pS H E n (pW H E) k b) → ∃ x', k_Al_plainLeavings_26 d (some a) (nI n) x (nI k) (nI (n - k)) (nI b) h = k_Al_plainLeavings_5 d (some a) (nI n) x' (nI (k + 1)) h ∧ Bs x' (pS H E n (pW H E) (k + 1) 0)
  | 0, b, x, hb, s => by
    refine ⟨x, ?_, fun v hv => (s v hv).trans ?_⟩
    · refine (e_Al_plainLeavings_26 _ _ _ _ _ _ _ _).trans ?_
      refine (if_pos (nI_lt (by omega) (by omega))).trans ?_
      rw [nI_1]
    · constructor
      · rintro ⟨k', b', a1, a2, a3, a4, a5, a6, a7, a8⟩
        exact ⟨k', b', a1, a2, a3, a4, a5, a6, Or.inl (by omega), a8⟩
      · rintro ⟨k', b', a1, a2, a3, a4, a5, a6, a7, a8⟩
        refine ⟨k', b', a1, a2, a3, a4, a5, a6, ?_, a8⟩
        by_cases q : k' = k
        · subst q; exact Or.inr ⟨rfl, by omega⟩
        · exact Or.inl (by omega)
  | c + 1, b, x, hb, s => by
    obtain ⟨i1, i2, i3, i4, i5, i6, i7⟩ := id I
    have u1 := pW_64t E hH (n := b) (by omega)
    have u2 := pW_64t E hH (n := n - k - b) (by omega)
    have ux : pW H E b ^^^ pW H E (n - k - b) < 64 := Nat.xor_lt_two_pow (n := 6) u1 u2
    have hh := hasH_ok (d := d) (h := h) hH h1 h4
    rw [hit, ← i2] at hh
    have mark : (E = true → b = 0 ∨ b = n - k) → Bs (x ||| ((1 : Int64) <<< ((nI (pW H E b ^^^ pW H E (n - k - b))).toInt64 &&& 63))) (pS H E n (pW H E) k (b + 1)) := by
      intro hE v hv
      rw [b64_or, b64_shl ux hv, Bool.or_eq_true, decide_eq_true_eq, s v hv]
      constructor
      · rintro (⟨k', b', a1, a2, a3, a4, a5, a6, a7, a8⟩ | q)
        · exact ⟨k', b', a1, a2, a3, a4, a5, a6, by omega, a8⟩
        · exact ⟨k, b, h1, h4, hk, hit, by omega, hE, Or.inr ⟨rfl, by omega⟩, q.symm⟩
      · rintro ⟨k', b', a1, a2, a3, a4, a5, a6, a7, a8⟩
        by_cases q : k' = k ∧ b' = b
        · rw [q.1, q.2] at a8; exact Or.inr a8.symm
        · exact Or.inl ⟨k', b', a1, a2, a3, a4, a5, a6, by omega, a8⟩
    have skip : (E = true ∧ b ≠ 0 ∧ b ≠ n - k) → Bs x (pS H E n (pW H E) k (b + 1)) := fun ⟨e1, e2, e3⟩ v hv => (s v hv).trans (by
      constructor
      · rintro ⟨k', b', a1, a2, a3, a4, a5, a6, a7, a8⟩
        exact ⟨k', b', a1, a2, a3, a4, a5, a6, by omega, a8⟩
      · rintro ⟨k', b', a1, a2, a3, a4, a5, a6, a7, a8⟩
        refine ⟨k', b', a1, a2, a3, a4, a5, a6, ?_, a8⟩
        have := a6 e1
        by_cases q : k' = k
        · subst q; refine Or.inr ⟨rfl, ?_⟩; omega
        · omega)
    have go : (E = true → b = 0 ∨ b = n - k) → ∃ x', k_Al_plainLeavings_64 d (some a) (nI n) x (nI k) (nI (n - k)) (nI b) h = k_Al_plainLeavings_5 d (some a) (nI n) x' (nI (k + 1)) h ∧ Bs x' (pS H E n (pW H E) (k + 1) 0) := fun hE => by
      obtain ⟨x', e1, e2⟩ := Al_pl_b hH hn h1 h4 hk I hit c (b + 1) _ (by omega) (mark hE)
      exact ⟨x', (Al_pl_64 hH hn h1 hk I (by omega)).trans e1, e2⟩
    have pre : ∀ o, (if hI h a 5 = 0 then k_Al_plainLeavings_64 d (some a) (nI n) x (nI k) (nI (n - k)) (nI b) h else if nI b = 0 then k_Al_plainLeavings_64 d (some a) (nI n) x (nI k) (nI (n - k)) (nI b) h else if ¬ nI b = nI (n - k) then k_Al_plainLeavings_26 d (some a) (nI n) x (nI k) (nI (n - k)) (nI b + 1) h else k_Al_plainLeavings_64 d (some a) (nI n) x (nI k) (nI (n - k)) (nI b) h) = o → k_Al_plainLeavings_26 d (some a) (nI n) x (nI k) (nI (n - k)) (nI b) h = o := by
      intro o ho
      rw [← ho]
      refine (e_Al_plainLeavings_26 _ _ _ _ _ _ _ _).trans ?_
      refine (if_neg (nI_nlt (by omega) (by omega))).trans ?_
      refine (if_pos i1).trans ?_
      refine (bnd hh _).trans ?_
      refine (if_neg nb1).trans ?_
      exact (if_pos i1).trans rfl
    by_cases hE : E = true
    · have g5 : ¬ hI h a 5 = 0 := by rw [i3, hE]; decide
      by_cases b0 : b = 0
      · obtain ⟨x', e1, e2⟩ := go (fun _ => Or.inl b0)
        refine ⟨x', pre _ ?_, e2⟩
        refine (if_neg g5).trans ?_
        exact (if_pos (show nI b = nI 0 by rw [b0])).trans e1
      · have n0 : ¬ nI b = nI 0 := by rw [q_eq_f b0 (by omega) (by omega)]; exact not_false
        by_cases b1 : b = n - k
        · obtain ⟨x', e1, e2⟩ := go (fun _ => Or.inr b1)
          refine ⟨x', pre _ ?_, e2⟩
          refine (if_neg g5).trans ?_
          refine (if_neg n0).trans ?_
          exact (if_neg (fun y => y (by rw [← b1]))).trans e1
        · obtain ⟨x', e1, e2⟩ := Al_pl_b hH hn h1 h4 hk I hit c (b + 1) x (by omega) (skip ⟨hE, b0, b1⟩)
          refine ⟨x', pre _ ?_, e2⟩
          refine (if_neg g5).trans ?_
          refine (if_neg n0).trans ?_
          refine (if_pos (show ¬ nI b = nI (n - k) by rw [q_eq_f b1 (by omega) (by omega)]; exact not_false)).trans ?_
          rw [nI_1]
          exact e1
    · obtain ⟨x', e1, e2⟩ := go (fun y => absurd y hE)
      refine ⟨x', pre _ ?_, e2⟩
      exact (if_pos (show hI h a 5 = 0 by rw [i3, show E = false by simpa using hE]; rfl)).trans e1
theorem Al_pl_k (hH : H < 16) (hn : n ≤ 40) (I : PlI h a tt H E n) : ∀ (c k : Nat) (x : Int64), k + c = 5 → 1 ≤ k → Bs x (pS H E n (pW H E) k 0) → ∃ x', k_Al_plainLeavings_5 d (some a) (nI n) x (nI k) h = some (h, x') ∧ Bs x' (pS H E n (pW H E) 5 0)
  | 0, k, x, hk, h1, s => by
    rw [show k = 5 by omega] at s ⊢
    refine ⟨x, ?_, s⟩
    refine (e_Al_plainLeavings_5 _ _ _ _ _ _).trans ?_
    exact if_pos (by decide)
  | c + 1, k, x, hk, h1, s => by
    obtain ⟨i1, i2, i3, i4, i5, i6, i7⟩ := id I
    by_cases hkn : n < k
    · refine ⟨x, ?_, fun v hv => (s v hv).trans ?_⟩
      · refine (e_Al_plainLeavings_5 _ _ _ _ _ _).trans ?_
        refine (if_neg (show ¬ nI 4 < nI k from nI_nlt (by omega) (by omega))).trans ?_
        exact if_pos (nI_lt hkn (by omega))
      · constructor
        · rintro ⟨k', b', a1, a2, a3, a4, a5, a6, a7, a8⟩
          exact ⟨k', b', a1, a2, a3, a4, a5, a6, Or.inl (by omega), a8⟩
        · rintro ⟨k', b', a1, a2, a3, a4, a5, a6, a7, a8⟩
          exact ⟨k', b', a1, a2, a3, a4, a5, a6, Or.inl (by omega), a8⟩
    · have pre : k_Al_plainLeavings_5 d (some a) (nI n) x (nI k) h = k_Al_plainLeavings_26 d (some a) (nI n) x (nI k) (nI (n - k)) (nI 0) h := by
        refine (e_Al_plainLeavings_5 _ _ _ _ _ _).trans ?_
        refine (if_neg (show ¬ nI 4 < nI k from nI_nlt (by omega) (by omega))).trans ?_
        refine (if_neg (nI_nlt (by omega) (by omega))).trans ?_
        rw [q_sub (by omega)]
        rfl
      by_cases hit : H.testBit (k - 1) = true
      · obtain ⟨x1, e1, e2⟩ := Al_pl_b (d := d) hH hn h1 (by omega) (by omega) I hit (n - k + 1) 0 x (by omega) s
        obtain ⟨x', f1, f2⟩ := Al_pl_k hH hn I c (k + 1) x1 (by omega) (by omega) e2
        exact ⟨x', pre.trans (e1.trans f1), f2⟩
      · have hit' : H.testBit (k - 1) = false := by simpa using hit
        have hh := hasH_ok (d := d) (h := h) hH h1 (show k ≤ 4 by omega)
        rw [hit', ← i2] at hh
        obtain ⟨x', f1, f2⟩ := Al_pl_k hH hn I c (k + 1) x (by omega) (by omega) (fun v hv => (s v hv).trans (by
          constructor
          · rintro ⟨k', b', a1, a2, a3, a4, a5, a6, a7, a8⟩
            exact ⟨k', b', a1, a2, a3, a4, a5, a6, Or.inl (by omega), a8⟩
          · rintro ⟨k', b', a1, a2, a3, a4, a5, a6, a7, a8⟩
            refine ⟨k', b', a1, a2, a3, a4, a5, a6, Or.inl ?_, a8⟩
            have : k' ≠ k := fun q => by rw [q, hit'] at a4; cases a4
            omega))
        refine ⟨x', pre.trans (Eq.trans ?_ f1), f2⟩
        refine (e_Al_plainLeavings_26 _ _ _ _ _ _ _ _).trans ?_
        refine (if_neg (nI_nlt (Nat.zero_le _) (by omega))).trans ?_
        refine (if_pos i1).trans ?_
        refine (bnd hh _).trans ?_
        refine (if_pos rfl).trans ?_
        rw [nI_1]
theorem Al_plain1 (hH : H < 16) (hn : n ≤ 40) (I : PlI h a tt H E n) : ∃ x, c_Al_plainLeavings d (some a) (nI n) h = some (h, x) ∧ c_Al_leastLeftOut d x h = some (h, nI (pW H E n)) := by
  obtain ⟨x, e1, e2⟩ := Al_pl_k (d := d) hH hn I 4 1 0 rfl (Nat.le_refl _) (fun v hv => by
    rw [b64_0]
    refine ⟨fun y => (by cases y), fun ⟨k', b', a1, a2, a3, a4, a5, a6, a7, a8⟩ => by omega⟩)
  refine ⟨x, (e_Al_plainLeavings _ _ _ _).trans e1, ?_⟩
  have is := pW_is H E n
  have w64 := pW_64t E hH hn
  refine (e_Al_leastLeftOut _ _ _).trans ?_
  refine (bnd (JL_ntz_ok d (x ^^^ (-1)) (pW H E n) w64 ?_ (fun i hi => ?_) h) _).trans rfl
  · rw [b64_not x w64]
    cases hb : b64 x (pW H E n)
    · rfl
    · exact absurd ((e2 _ w64).mp hb) is.1
  · rw [b64_not x (by omega), (e2 i (by omega)).mpr (is.2 i hi)]
    rfl
def P1a (t a _i : Nat) : Bool := a == t
theorem Al_plains (hH : H < 16) (hat : a ≠ tt) : ∀ (x n : Nat) (h : sk_H), n + x = 41 → PlI h a tt H E n → ∃ h', k_Al_settle_129 d (some a) (nI n) h = some h' ∧ PlI h' a tt H E 41 ∧ Iq (P1a tt) h h'
  | 0, n, h, hx, I => by
    rw [show n = 41 by omega] at I ⊢
    refine ⟨h, ?_, I, Iq.refl h⟩
    refine (e_Al_settle_129 _ _ _ _).trans ?_
    exact if_pos (by decide)
  | x + 1, n, h, hx, I => by
    obtain ⟨i1, i2, i3, i4, i5, i6, i7⟩ := id I
    obtain ⟨v, e1, e2⟩ := Al_plain1 (d := d) hH (show n ≤ 40 by omega) I
    have I1 : PlI (wI h tt n (nI (pW H E n))) a tt H E (n + 1) := by
      refine ⟨i1, by rw [hI_na hat]; exact i2, by rw [hI_na hat]; exact i3, i4, i5, i6, fun i hi => ?_⟩
      by_cases z : i = n
      · rw [z, hI_se]
      · rw [hI_ni z]; exact i7 i (by omega)
    obtain ⟨h', g1, g2, g3⟩ := Al_plains hH hat x (n + 1) _ (by omega) I1
    refine ⟨h', ?_, g2, (Iq.w h _ (by unfold P1a; exact beq_self_eq_true _)).trans g3⟩
    refine Eq.trans ?_ g1
    refine (e_Al_settle_129 _ _ _ _).trans ?_
    refine (if_neg (show ¬ nI 40 < nI n from nI_nlt (by omega) (by omega))).trans ?_
    refine (if_pos i1).trans ?_
    refine (if_pos i1).trans ?_
    refine (bnd e1 _).trans ?_
    refine (bnd e2 _).trans ?_
    refine (bnd i4 _).trans ?_
    refine (if_pos ⟨i5, by rw [i6]; exact vp_in_nI (by omega) (by omega)⟩).trans ?_
    rw [q_cl (show n < 2 ^ 31 by omega), nI_1]
end SkPlains
