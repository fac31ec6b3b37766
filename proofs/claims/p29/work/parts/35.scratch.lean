/-! The class's outer object: the answers that need the scratch. -/
def aLacks (S : St) (x z y : Int32) : Int32 := match ix x 6, ix z 6 with
  | some v, some u => if ¬ S.th v = true ∨ ¬ S.th u = true ∨ v = u then eI else if y = 0 then kCt (S.vk v) (S.vk u) else if y = 1 then kSum (kTk (S.vk v) (S.vk u)) - kSum (S.vk v) else if y = 2 then bI (kEq (kTk (S.vk v) (S.vk u)) (S.vk u)) else eI
  | _, _ => eI
def lackA (S : St) (v : Nat) : Nat → Int32
  | 0 => 0
  | n + 1 => if n = v ∨ ¬ S.th n = true then lackA S v n else lackA S v n + kCt (S.vk v) (S.vk n)
def late (S : St) : Nat → Int32 × Int32
  | 0 => (-1, -1)
  | n + 1 => if (if S.th n = true then lackA S n 6 else -1) ≤ (late S n).2 then late S n else (nI n, if S.th n = true then lackA S n 6 else -1)
def aLatest (S : St) (y : Int32) : Int32 := if ¬ (0 ≤ y ∧ y ≤ 1) then eI else if y = 0 then (late S 6).1 else (late S 6).2
def wl (S : St) (v : Nat) (y : Int32) (K : Kn) (M : Lt) : Kn := if M.2.1 = v ∧ ¬ M.2.2.2.1 = true ∧ nI M.2.2.1 ≤ nI (S.ct 1) + y then kTk K M.2.2.2.2 else K
def aWould (S : St) (x y : Int32) : Int32 := match ix x 6 with
  | none => eI
  | some v => if ¬ S.th v = true ∨ ¬ (0 ≤ y ∧ y ≤ 99) then eI else kSum (S.lt.foldl (wl S v y) (S.vk v))
def wh (S : St) : Nat → Kn
  | 0 => kNil
  | n + 1 => if S.th n = true then kTk (wh S n) (S.vk n) else wh S n
section SC
variable {h h' : AHp} {S T : St} {H : List St} {tn : Nat} {tc : Nat → Int32}
end SC
