/-! The class's text: its methods. -/
def aOrd (S : St) (k : Int32) (g : Nat → Int32) : Int32 × St := if k = 110 then aWriter S (g 0) else if k = 97 then aAdd S (g 0) (g 1) else if k = 116 then aTake S (g 0) (g 1) else if k = 114 then aRetire S (g 0) (g 1) else if k = 112 then aPost S (g 0) (g 1) (g 2) else aTick S (g 0)
theorem le60 {w : Nat} (hw : w < 60) : ¬ (60 : Int32) ≤ nI w := nI_ge (a := w) (b := 60) hw (by decide)
theorem lt_nI {a b : Nat} (ha : a < 2147483648) (hb : b < 2147483648) : (nI a < nI b) = (a < b) := by
  rw [i_lt, nI_toInt ha, nI_toInt hb]
  exact propext Int.ofNat_lt
theorem le_nI {a b : Nat} (ha : a < 2147483648) (hb : b < 2147483648) : (nI a ≤ nI b) = (a ≤ b) := by
  rw [i_le, nI_toInt ha, nI_toInt hb]
  exact propext Int.ofNat_le
section CT
variable {h h' : AHp} {F f g : Nat → Int32} {n p : Nat}
theorem c_noteFault (hC : HC h F f g) (a b c : Int32) : Call 19 [.ref 144, .int a, .int b, .int c] h (fun rv h' => rv = none ∧ HC h' (upd (upd (upd F 3 a) 4 b) 5 c) f g ∧ Fr 144 147 h h') := by
  obtain ⟨h1, e1, k1, r1⟩ := hC.sF (k := 3) (by decide) a
  obtain ⟨h2, e2, k2, r2⟩ := k1.sF (k := 4) (by decide) b
  obtain ⟨h3, e3, k3, r3⟩ := k2.sF (k := 5) (by decide) c
  simp only [s19_e, s19_0, s19_1, s19_2, s19_5, s19_6, s19_7, s19_10, s19_11, s19_12, s19_15, e1, e2, e3, oB_some]
  exact ⟨trivial, k3, (r1.tr r2).tr r3⟩
theorem c_append (hC : HC h F f g) (hn : F 1 = nI n) (hb : n ≤ 60) (x : Int32) : Call 17 [.ref 144, .int x] h (fun rv h' => rv = some (.int (if n < 60 then nI (n + 1) else eL)) ∧ HC h' (if n < 60 then upd F 1 (nI (n + 1)) else F) (if n < 60 then upd f n x else f) g ∧ Fr 144 147 h h') := by
  simp only [s17_0, s17_1, s17_4, s17_6, s17_e, hC.fd, oB_some, hn, (show (60 : Int32) = nI 60 from rfl), lt_nI (show n < 2147483648 by omega) (show 60 < 2147483648 by decide)]
  by_cases c : n < 60
  · simp only [if_pos c]
    obtain ⟨h1, e1, k1, r1⟩ := hC.sc c x
    obtain ⟨h2, e2, k2, r2⟩ := k1.sF (k := 1) (by decide) (nI (n + 1))
    have q2 : fldv h2 144 2 1 = some (.int (nI (n + 1))) := k2.fd.2.1
    simp only [s17_12, s17_13, s17_16, s17_17, s17_20, s17_21, s17_22, s17_23, s17_24, s17_27, s17_28, s17_29, s17_32, s17_33, s17_36, hC.fd, k1.fd, q2, oB_some, hn, e1, nI_s, e2]
    exact ⟨trivial, k2, r1.tr r2⟩
  · simp only [if_neg c, s17_9, s17_11]
    exact ⟨rfl, hC, Fr.rf⟩
theorem c_readSign (hC : HC h F f g) (hn : F 1 = nI n) (hb : n ≤ 60) (hp : F 8 = nI p) (hpn : p ≤ n) (x : Int32) : Call 23 [.ref 144, .int x] h (fun rv h' => rv = some (.int (if p < n ∧ f p = x then 1 else 0)) ∧ HC h' (if p < n ∧ f p = x then upd F 8 (nI (p + 1)) else F) f g ∧ Fr 144 147 h h') := by
  simp only [s23_0, s23_1, s23_4, s23_5, s23_8, s23_e, hC.fd, oB_some, hn, hp, le_nI (show n < 2147483648 by omega) (show p < 2147483648 by omega)]
  by_cases c : n ≤ p
  · simp only [if_pos c, if_neg (show ¬ (p < n ∧ f p = x) from fun q => by omega), s23_24, s23_25]
    exact ⟨Or.inl trivial, trivial, hC, Fr.rf⟩
  · rw [if_neg c]
    simp only [s23_11, s23_12, s23_15, s23_16, s23_19, s23_20, s23_21, hC.fd, oB_some, hp, hC.lc (show p < 60 by omega)]
    by_cases c2 : f p = x
    · have c3 : p < n ∧ f p = x := ⟨by omega, c2⟩
      obtain ⟨h2, e2, k2, r2⟩ := hC.sF (k := 8) (by decide) (nI (p + 1))
      simp only [if_pos c2, if_pos c3, s23_26, s23_27, s23_28, s23_31, s23_32, s23_33, s23_36, s23_37, hC.fd, hp, oB_some, nI_s, e2]
      exact ⟨Or.inr trivial, trivial, k2, r2⟩
    · simp only [if_neg c2, if_neg (show ¬ (p < n ∧ f p = x) from fun q => c2 q.2), s23_24, s23_25]
      exact ⟨Or.inl trivial, trivial, hC, Fr.rf⟩
theorem c_readNumber (hC : HC h F f g) (hn : F 1 = nI n) (hb : n ≤ 60) (hp : F 8 = nI p) (hpn : p ≤ n) {k : Nat} (hk : k < 3) : Call 22 [.ref 144, .int (nI k)] h (fun rv h' => rv = some (.int (if (rdN f n 3 p 0).1 = p then 0 else 1)) ∧ (∃ F', HC h' F' f (upd g k (rdN f n 3 p 0).2) ∧ F' 8 = nI (rdN f n 3 p 0).1 ∧ ∀ j, j ≠ 8 → F' j = F j) ∧ Fr 144 147 h h') := by
  simp only [s22_0, s22_1, s22_2, s22_3, s22_e]
  obtain ⟨R, hR⟩ : ∃ R, rdN f n 3 p 0 = R := ⟨_, rfl⟩
  rw [hR]
  have fin : ∀ (a : Nat) (x : Int32) (hh : AHp) (F' : Nat → Int32), HC hh F' f g → F' 8 = nI (p + a) → (∀ j, j ≠ 8 → F' j = F j) → R = (p + a, x) → a ≤ 3 → Fr 144 147 h hh → Ev none 22 73 [.ref 144, .int (nI k), .int (nI a), .int x] [] hh (fun rv h' => rv = some (.int (if R.1 = p then 0 else 1)) ∧ (∃ F', HC h' F' f (upd g k R.2) ∧ F' 8 = nI R.1 ∧ ∀ j, j ≠ 8 → F' j = F j) ∧ Fr 144 147 h h') := by
    intro a x hh F' h1 h2 h3 h4 h5 h6
    subst h4
    obtain ⟨h7, e7, k7, r7⟩ := h1.sn hk x
    simp only [s22_73, s22_74, s22_77, s22_78, s22_79, s22_80, s22_81, h1.fd, oB_some, e7]
    by_cases ca : a = 0
    · subst ca
      rw [if_pos (by decide)]
      simp only [s22_88, s22_89]
      exact ⟨Or.inl trivial, by simp, ⟨F', k7, h2, h3⟩, h6.tr r7⟩
    · rw [if_neg (by rw [show (0 : Int32) = nI 0 from rfl, le_nI (by omega) (by decide)]; omega)]
      simp only [s22_84, s22_85, s22_88, s22_89]
      refine ⟨Or.inr trivial, ?_, ⟨F', k7, h2, h3⟩, h6.tr r7⟩
      rw [if_neg (show ¬ p + a = p by omega)]
  have loop : ∀ d a (x : Int32) (hh : AHp) (F' : Nat → Int32), a + d = 3 → p + a ≤ n → HC hh F' f g → F' 8 = nI (p + a) → (∀ j, j ≠ 8 → F' j = F j) → rdN f n d (p + a) x = R → Fr 144 147 h hh → Ev none 22 4 [.ref 144, .int (nI k), .int (nI a), .int x] [] hh (fun rv h' => rv = some (.int (if R.1 = p then 0 else 1)) ∧ (∃ F', HC h' F' f (upd g k R.2) ∧ F' 8 = nI R.1 ∧ ∀ j, j ≠ 8 → F' j = F j) ∧ Fr 144 147 h h') := by
    intro d
    induction d with
    | zero =>
      intro a x hh F' ha hpa h1 h2 h3 h4 h6
      obtain rfl : a = 3 := by omega
      simp only [s22_4, s22_5, s22_6, if_pos (show (3 : Int32) ≤ nI 3 by decide)]
      exact fin 3 x hh F' h1 h2 h3 h4.symm (by omega) h6
    | succ d ih =>
      intro a x hh F' ha hpa h1 h2 h3 h4 h6
      have hn' : F' 1 = nI n := (h3 1 (by decide)).trans hn
      unfold rdN at h4
      simp only [s22_4, s22_5, s22_6, s22_9, s22_10, s22_13, s22_14, s22_17, if_neg (show ¬ (3 : Int32) ≤ nI a from nI_ge (b := 3) (by omega) (by decide)), h1.fd, oB_some, h2, hn', le_nI (show n < 2147483648 by omega) (show p + a < 2147483648 by omega)]
      by_cases c1 : n ≤ p + a
      · rw [if_pos c1]
        rw [if_neg (fun q => by omega)] at h4
        exact fin a x hh F' h1 h2 h3 h4.symm (by omega) h6
      · rw [if_neg c1]
        have hlc := h1.lc (show p + a < 60 by omega)
        simp only [s22_20, s22_21, s22_24, s22_25, s22_28, s22_29, s22_31, s22_33, h1.fd, oB_some, h2, hlc, c_isWithin, Option.toList_some, List.cons_append, List.nil_append, s22_36]
        by_cases c2 : 48 ≤ f (p + a) ∧ f (p + a) ≤ 57
        · rw [if_pos ⟨by omega, c2⟩] at h4
          rw [if_pos c2]
          obtain ⟨h7, e7, k7, r7⟩ := h1.sF (k := 8) (by decide) (nI (p + a + 1))
          simp only [s22_39, s22_40, s22_42, s22_43, s22_44, s22_47, s22_48, s22_51, s22_52, s22_53, s22_55, s22_56, s22_57, s22_60, s22_61, s22_62, s22_65, s22_66, s22_67, s22_70, if_neg (show ¬ (1 : Int32) = 0 by decide), h1.fd, oB_some, h2, hlc, nI_s, e7]
          exact ih (a + 1) _ h7 _ (by omega) (by omega) k7 rfl (fun j hj => by unfold upd; rw [if_neg hj]; exact h3 j hj) h4 (h6.tr r7)
        · rw [if_neg (fun q => c2 q.2)] at h4
          rw [if_neg c2, if_pos rfl]
          exact fin a x hh F' h1 h2 h3 h4.symm (by omega) h6
  exact loop 3 0 0 h F rfl hpn hC hp (fun _ _ => rfl) hR Fr.rf
theorem c_doOrder {t : Nat} {S : St} (hC : HC h F f g) (hS : HS h t S) : Call 24 [.ref 144, .ref t] h (fun rv h' => rv = some (.int (aOrd S (F 6) g).1) ∧ HS h' t (aOrd S (F 6) g).2 ∧ Fr t (t + 69) h h') := by
  have g0 : ldi h 146 0 = some (g 0) := hC.ln (k := 0) (by decide)
  have g1 : ldi h 146 1 = some (g 1) := hC.ln (k := 1) (by decide)
  have g2 : ldi h 146 2 = some (g 2) := hC.ln (k := 2) (by decide)
  have key : ∀ x, F 6 = x → Ev none 24 4 [.ref 144, .ref t] [.int x] h (fun rv h' => rv = some (.int (aOrd S x g).1) ∧ HS h' t (aOrd S x g).2 ∧ Fr t (t + 69) h h') := by
    intro x hx
    unfold aOrd
    by_cases c1 : x = 110
    · subst c1
      simp only [if_pos, s24_4_110, s24_56, s24_57, s24_58, s24_61, s24_62, s24_63, hC.fd, hS.f, oB_some, g0]
      refine Call.mono (c_bringWriter hS (g 0)) ?_
      rintro rv h' ⟨rfl, a, b⟩
      simp only [s24_66, Option.toList_some, List.cons_append, List.nil_append]
      exact ⟨trivial, a, b⟩
    rw [if_neg c1]
    by_cases c2 : x = 97
    · subst c2
      simp only [if_pos, s24_4_97, s24_67, s24_68, s24_69, s24_72, s24_73, s24_74, s24_75, s24_78, s24_79, s24_80, hC.fd, hS.f, oB_some, g0, g1]
      refine Call.mono (c_addAmount hS (g 0) (g 1)) ?_
      rintro rv h' ⟨rfl, a, b⟩
      simp only [s24_83, Option.toList_some, List.cons_append, List.nil_append]
      exact ⟨trivial, a, b⟩
    rw [if_neg c2]
    by_cases c3 : x = 116
    · subst c3
      simp only [if_pos, s24_4_116, s24_84, s24_85, s24_86, s24_89, s24_90, s24_91, s24_92, s24_95, s24_96, s24_97, hC.fd, hS.f, oB_some, g0, g1]
      refine Call.mono (c_takeAmount hS (g 0) (g 1)) ?_
      rintro rv h' ⟨rfl, a, b⟩
      simp only [s24_100, Option.toList_some, List.cons_append, List.nil_append]
      exact ⟨trivial, a, b⟩
    rw [if_neg c3]
    by_cases c4 : x = 114
    · subst c4
      simp only [if_pos, s24_4_114, s24_101, s24_102, s24_103, s24_106, s24_107, s24_108, s24_109, s24_112, s24_113, s24_114, hC.fd, hS.f, oB_some, g0, g1]
      refine Call.mono (c_retireWriter hS (g 0) (g 1)) ?_
      rintro rv h' ⟨rfl, a, b⟩
      simp only [s24_117, Option.toList_some, List.cons_append, List.nil_append]
      exact ⟨trivial, a, b⟩
    rw [if_neg c4]
    by_cases c5 : x = 112
    · subst c5
      simp only [if_pos, s24_4_112, s24_118, s24_119, s24_120, s24_123, s24_124, s24_125, s24_126, s24_129, s24_130, s24_131, s24_132, s24_135, s24_136, s24_137, hC.fd, hS.f, oB_some, g0, g1, g2]
      refine Call.mono (c_postLetter hS (g 0) (g 1) (g 2)) ?_
      rintro rv h' ⟨rfl, a, b⟩
      simp only [s24_140, Option.toList_some, List.cons_append, List.nil_append]
      exact ⟨trivial, a, b⟩
    rw [if_neg c5]
    simp only [s24_4_d c2 c1 c5 c4 c3, s24_141, s24_142, s24_143, s24_146, s24_147, s24_148, hC.fd, hS.f, oB_some, g0]
    refine Call.mono (c_passTicks hS (g 0)) ?_
    rintro rv h' ⟨rfl, a, b⟩
    simp only [s24_151, Option.toList_some, List.cons_append, List.nil_append]
    exact ⟨trivial, a, b⟩
  simp only [s24_0, s24_1, s24_e, hC.fd, oB_some]
  exact key (F 6) rfl
end CT
