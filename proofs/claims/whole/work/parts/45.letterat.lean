/-! The model: the letter at a place of their order. -/
def lat (l : List Lt) (x : Int32) : Nat → Nat → Int32
  | 0, _ => eF
  | d + 1, k => if nI (rk l k) = x then nI k else lat l x d (k + 1)
section LA
variable {h h' : AHp} {F s : Nat → Int32} {A : Ar} {S : St} {n : Nat} {td : Nat → Nat} {came posted : Nat} {P : List Pt}
theorem MX.post (hX : MX s S td came posted P) {i k : Nat} {p q : Pt} (hp : P[i]? = some p) (hq : P[k]? = some q) : (p.2.1 < q.2.1 ↔ i < k) := by
  have hw := hX.2.2.2.2.2.2.2.2.2.1
  obtain ⟨hi, rfl⟩ := List.getElem?_eq_some_iff.mp hp
  obtain ⟨hk, rfl⟩ := List.getElem?_eq_some_iff.mp hq
  rw [List.pairwise_iff_getElem] at hw
  constructor
  · intro z
    apply Classical.byContradiction
    intro c
    by_cases e : i = k
    · subst e; omega
    · have := hw k i hk hi (by omega)
      omega
  · intro z; exact hw i k hi hk z
theorem m_letterAt (hM : HM h F s A) (hX : MX s S td came posted P) (ht : S.ct 1 < 1000000) (x : Int32) : ∀ post, Call 129 [.ref 423, .int x] h post = post (some (.int (lat (P.map (fun q => q.2.2)) x P.length 0))) h := by
  refine call_eq ?_
  have h8 := hX.2.2.2.2.2.2.1
  have hn : s 1 = nI P.length := hX.1.2.1
  have l1 : ldi h 424 1 = some (nI P.length) := by rw [← hn]; exact hM.ls (i := 1) (by decide)
  obtain ⟨l, hl⟩ : ∃ l, P.map (fun q => q.2.2) = l := ⟨_, rfl⟩
  have hlen : l.length = P.length := by rw [← hl, List.length_map]
  rw [hl]
  obtain ⟨R, hR⟩ : ∃ R, lat l x P.length 0 = R := ⟨_, rfl⟩
  rw [hR]
  have har : ∀ (i : Nat) (q : Pt), P[i]? = some q → ar l i = q.2.2.2.2.1 := by
    intro i q hq
    unfold ar
    rw [← hl, List.getElem?_map, hq]
    rfl
  have loop : ∀ d k (v3 v4 v5 : Value), k + d = P.length → lat l x d k = R → Ev none 129 2 [.ref 423, .int x, .int (nI k), v3, v4, v5] [] h (fun r g => r = some (.int R) ∧ g = h) := by
    intro d
    induction d with
    | zero =>
      intro k v3 v4 v5 hk he
      obtain rfl : k = P.length := by omega
      have he' : eF = R := he
      subst he'
      simp only [s129_2, s129_3, s129_4, s129_7, s129_8, s129_9, s129_115, s129_117, hM.f, oB_some, l1, if_pos (Int32.le_refl _)]
      first | exact ⟨rfl, trivial⟩ | exact ⟨trivial, trivial⟩
    | succ d ih =>
      intro k v3 v4 v5 hk he
      have hkn : k < P.length := by omega
      have hqk := List.getElem?_eq_getElem hkn
      have mk := m_let hM hX hqk
      have bk := har k _ hqk
      have bnd : ∀ (i : Nat) (q : Pt), P[i]? = some q → q.2.2.2.2.1 < 2147483648 ∧ q.2.1 < 2147483648 := by
        intro i q hq
        have z1 := hX.2.2.2.2.2.2.2.2.1 q (List.mem_of_getElem? hq)
        have z2 := hX.2.2.2.2.1
        omega
      have inner : ∀ e i (w5 : Value), i + e = P.length → Ev none 129 17 [.ref 423, .int x, .int (nI k), .int (cntI (bf l k) i), .int (nI i), w5] [] h (fun r g => r = some (.int R) ∧ g = h) := by
        intro e
        induction e with
        | zero =>
          intro i w5 hi
          obtain rfl : i = P.length := by omega
          have er : cntI (bf l k) P.length = nI (rk l k) := by rw [cntI_cn]; unfold rk; rw [hlen]
          simp only [s129_17, s129_19, s129_20, s129_23, s129_24, s129_25, hM.f, oB_some, l1, if_pos (Int32.le_refl _)]
          simp only [s129_102, s129_103, s129_104, er]
          unfold lat at he
          by_cases c : nI (rk l k) = x
          · rw [if_pos c] at he
            subst he
            rw [if_neg (fun q => q c)]
            simp only [s129_107, s129_108]
            first | exact ⟨rfl, trivial⟩ | exact ⟨trivial, trivial⟩
          · rw [if_neg c] at he
            rw [if_pos c]
            simp only [s129_109, s129_112, nI_1]
            exact ih (k + 1) _ _ _ (by omega) he
        | succ e ihe =>
          intro i w5 hi
          have hin : i < P.length := by omega
          have hqi := List.getElem?_eq_getElem hin
          have mi := m_let hM hX hqi
          have bi := har i _ hqi
          have hpo := hX.post hqi hqk
          have b1 := bnd i _ hqi
          have b2 := bnd k _ hqk
          have yes : bf l k i = true → Ev none 129 76 [.ref 423, .int x, .int (nI k), .int (cntI (bf l k) i), .int (nI i), w5] [] h (fun r g => r = some (.int R) ∧ g = h) := by
            intro c
            have z := ihe (i + 1) (.int 1) (by omega)
            rw [show cntI (bf l k) (i + 1) = cntI (bf l k) i + 1 from if_pos c] at z
            simp only [s129_76, s129_77, s129_81, s129_83, s129_84, s129_86, if_neg (show ¬ (1 : Int32) = 0 by decide)]
            simp only [s129_89, s129_90, s129_93, s129_94, s129_95, s129_96, s129_99, nI_1]
            exact z
          have no : ¬ bf l k i = true → Ev none 129 80 [.ref 423, .int x, .int (nI k), .int (cntI (bf l k) i), .int (nI i), w5] [] h (fun r g => r = some (.int R) ∧ g = h) := by
            intro c
            have z := ihe (i + 1) (.int 0) (by omega)
            rw [show cntI (bf l k) (i + 1) = cntI (bf l k) i from if_neg c] at z
            simp only [s129_80, s129_81, s129_83, s129_84, s129_86]
            rw [if_pos trivial]
            simp only [s129_93, s129_94, s129_95, s129_96, s129_99, nI_1, Int32.add_zero]
            exact z
          simp only [s129_17, s129_19, s129_20, s129_23, s129_24, s129_25, hM.f, oB_some, l1, if_neg (show ¬ nI P.length ≤ nI i from nI_ge hin (by omega))]
          simp only [s129_28, s129_29, s129_31, s129_32, s129_35, s129_36, s129_37, s129_38, s129_41, hM.f, mi.2.2.2.1, mk.2.2.2.1, Option.toList_some, List.cons_append, List.nil_append, lt_nI b1.1 b2.1]
          by_cases c1 : P[i].2.2.2.2.1 < P[k].2.2.2.2.1
          · rw [if_pos c1]
            exact yes (by unfold bf; rw [bi, bk]; exact decide_eq_true (Or.inl c1))
          · rw [if_neg c1]
            simp only [s129_44, s129_45, s129_47, s129_48, s129_51, s129_52, s129_53, s129_54, s129_57, hM.f, mi.2.2.2.1, mk.2.2.2.1, Option.toList_some, List.cons_append, List.nil_append, nI_eq b1.1 b2.1]
            by_cases c2 : P[i].2.2.2.2.1 = P[k].2.2.2.2.1
            · rw [if_neg (fun q => q c2)]
              simp only [s129_60, s129_61, s129_63, s129_64, s129_67, s129_68, s129_69, s129_70, s129_73, hM.f, mi.2.2.2.2, mk.2.2.2.2, Option.toList_some, List.cons_append, List.nil_append, le_nI b2.2 b1.2]
              by_cases c3 : i < k
              · rw [if_neg (by have := hpo.mpr c3; omega)]
                exact yes (by unfold bf; rw [bi, bk]; exact decide_eq_true (Or.inr ⟨c2, c3⟩))
              · rw [if_pos (by have := fun q => c3 (hpo.mp q); omega)]
                exact no (by unfold bf; rw [bi, bk]; simp [c2, c3])
            · rw [if_pos c2]
              exact no (by unfold bf; rw [bi, bk]; simp [c1, c2])
      simp only [s129_2, s129_3, s129_4, s129_7, s129_8, s129_9, hM.f, oB_some, l1, if_neg (show ¬ nI P.length ≤ nI k from nI_ge hkn (by omega))]
      simp only [s129_12, s129_13, s129_14, s129_15]
      exact inner P.length 0 _ (Nat.zero_add _)
  simp only [s129_0, s129_1, s129_e]
  exact loop P.length 0 _ _ _ (Nat.zero_add _) hR
end LA
