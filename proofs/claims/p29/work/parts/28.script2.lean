/-! The class's text: its methods. -/
def aOrd (S : St) (k : Int32) (g : Nat → Int32) : Int32 × St := if k = 110 then aWriter S (g 0) else if k = 97 then aAdd S (g 0) (g 1) else if k = 116 then aTake S (g 0) (g 1) else if k = 114 then aRetire S (g 0) (g 1) else if k = 112 then aPost S (g 0) (g 1) (g 2) else aTick S (g 0)
theorem le60 {w : Nat} (hw : w < 60) : ¬ (60 : Int32) ≤ nI w := nI_ge (a := w) (b := 60) hw (by decide)
theorem lt_nI {a b : Nat} (ha : a < 2147483648) (hb : b < 2147483648) : (nI a < nI b) = (a < b) := by
  rw [i_lt, nI_toInt ha, nI_toInt hb]
  exact propext Int.ofNat_lt
theorem le_nI {a b : Nat} (ha : a < 2147483648) (hb : b < 2147483648) : (nI a ≤ nI b) = (a ≤ b) := by
  rw [i_le, nI_toInt ha, nI_toInt hb]
  exact propext Int.ofNat_le
section CT
variable {h h' : AHp} {F f g : Nat → Int32} {n p : Nat}
end CT
